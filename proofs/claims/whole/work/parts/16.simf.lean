/-! CALLS: what a step leaves alone, and how a callee's run is used -/
set_option maxHeartbeats 4000000 in
theorem m_st1_len {X : mX} {ins : Instr} {len a b c pc pc' : Nat} {lo lo' : List (Option Value)} {st st' : List Value} {h h1 : mH} (hst : m_st1 X ins len a b c pc lo st h = some (pc', lo', st', h1)) : lo'.length = lo.length := by
  cases ins <;> simp only [m_st1, m_ifc, m_icmp, m_br] at hst <;> (repeat' split at hst) <;> first | (cases hst; done) | (cases hst; rfl) | (cases hst; simp [m_put_len]; done)
set_option maxHeartbeats 4000000 in
theorem m_st1_mono {X : mX} {ins : Instr} {len a b c pc pc' : Nat} {lo lo' : List (Option Value)} {st st' : List Value} {h h1 : mH} (hst : m_st1 X ins len a b c pc lo st h = some (pc', lo', st', h1)) : m_cs h ≤ m_cs h1 ∧ m_ss h ≤ m_ss h1 := by
  cases ins <;> simp only [m_st1, m_ifc, m_icmp, m_br] at hst <;> (repeat' split at hst) <;> first
    | (cases hst; done)
    | (cases hst; exact ⟨Nat.le_refl _, Nat.le_refl _⟩)
    | (cases hst; refine ⟨?_, ?_⟩ <;> simp [m_cs, m_ss, m_sz]; done)
    | (cases hst; rename_i hk _; refine ⟨by simp [m_cs], Nat.le_of_eq ?_⟩; exact (m_ss_set (M2 := h.2.1) (L2 := h.2.2) hk (by simp [m_sz])).symm)
    | (cases hst; rename_i hk _ _; refine ⟨by simp [m_cs], Nat.le_of_eq ?_⟩; exact (m_ss_set (M2 := h.2.1) (L2 := h.2.2) hk (by simp [m_sz])).symm)
theorem m_cpy_same {ks kd : Nat} {sp dp k : Int32} {h h1 : mH} (hc : m_cpy ks kd sp dp k h = some h1) : h1.1 = h.1 := by
  unfold m_cpy at hc
  repeat' split at hc
  · cases hc
  · cases hc; rfl
  · cases hc
theorem m_same_sz {h h1 : mH} (e : h1.1 = h.1) : m_cs h1 = m_cs h ∧ m_ss h1 = m_ss h := by
  unfold m_cs m_ss
  rw [e]
  exact ⟨rfl, rfl⟩
set_option maxHeartbeats 4000000 in
theorem m_ev_mono {X : mX} : ∀ (n d mi pc : Nat) (lo : List (Option Value)) (st : List Value) (h : mH) (r : Option Value) (h' : mH), m_ev X n d mi pc lo st h = some (r, h') → m_cs h ≤ m_cs h' ∧ m_ss h ≤ m_ss h' := by
  intro n
  induction n with
  | zero => intro d mi pc lo st h r h' hev; cases hev
  | succ n ih =>
    intro d mi pc lo st h r h' hev
    simp only [m_ev] at hev
    split at hev
    · split at hev
      · cases hw : m_wordAt lo h with
        | none => rw [hw] at hev; cases hev
        | some v => rw [hw] at hev; cases hev; exact ⟨Nat.le_refl _, Nat.le_refl _⟩
      · cases hev
    · split at hev
      · cases hev
      · split at hev
        · split at hev
          · rename_i hst
            have i1 := m_st1_mono hst
            have i2 := ih _ _ _ _ _ _ _ _ hev
            exact ⟨Nat.le_trans i1.1 i2.1, Nat.le_trans i1.2 i2.2⟩
          · cases hev
        · split at hev
          · split at hev
            · cases hev; exact ⟨Nat.le_refl _, Nat.le_refl _⟩
            · cases hev
          · cases hev
        · split at hev
          · cases hev; exact ⟨Nat.le_refl _, Nat.le_refl _⟩
          · cases hev
        · split at hev
          · cases hev; exact ⟨Nat.le_refl _, Nat.le_refl _⟩
          · cases hev
        · split at hev
          · cases hev
          · split at hev
            · split at hev
              · rename_i hc
                have i1 := ih _ _ _ _ _ _ _ _ hc
                have i2 := ih _ _ _ _ _ _ _ _ hev
                exact ⟨Nat.le_trans i1.1 i2.1, Nat.le_trans i1.2 i2.2⟩
              · cases hev
            · cases hev
        · split at hev
          · cases hev
          · split at hev
            · split at hev
              · split at hev
                · rename_i hc
                  have i1 := ih _ _ _ _ _ _ _ _ hc
                  have i2 := ih _ _ _ _ _ _ _ _ hev
                  exact ⟨Nat.le_trans i1.1 i2.1, Nat.le_trans i1.2 i2.2⟩
                · cases hev
              · cases hev
            · cases hev
        · split at hev
          · cases hev
          · split at hev
            · split at hev
              · split at hev
                · rename_i hc
                  have i1 := ih _ _ _ _ _ _ _ _ hc
                  have i2 := ih _ _ _ _ _ _ _ _ hev
                  exact ⟨Nat.le_trans i1.1 i2.1, Nat.le_trans i1.2 i2.2⟩
                · cases hev
              · cases hev
            · cases hev
        · split at hev
          · split at hev
            · exact ih _ _ _ _ _ _ _ _ hev
            · cases hev
          · cases hev
        · split at hev
          · split at hev
            · split at hev
              · rename_i hc
                have e := m_same_sz (m_cpy_same hc)
                have i2 := ih _ _ _ _ _ _ _ _ hev
                rw [e.1, e.2] at i2
                exact i2
              · cases hev
            · cases hev
          · cases hev
        · cases hev
