/-! RUNS: what the written functions' proofs go by -/
abbrev mM : Type := (Nat → Nat → Int32) × (Nat → Int64)
def m_R (X : mX) (d mi pc : Nat) (lo : List (Option Value)) (st : List Value) (h : mH) (res : Option Value × mH) : Prop := ∃ n, m_ev X n d mi pc lo st h = some res
set_option maxHeartbeats 8000000 in
theorem m_ev_up {X : mX} : ∀ (n d mi pc : Nat) (lo : List (Option Value)) (st : List Value) (h : mH) (res : Option Value × mH) (n' d' : Nat), m_ev X n d mi pc lo st h = some res → n ≤ n' → d ≤ d' → m_ev X n' d' mi pc lo st h = some res := by
  intro n
  induction n with
  | zero => intro d mi pc lo st h res n' d' hev; cases hev
  | succ n ih =>
    intro d mi pc lo st h res n' d' hev hn hd
    obtain ⟨n', rfl⟩ : ∃ k, n' = k + 1 := ⟨n' - 1, by omega⟩
    have hn' : n ≤ n' := by omega
    simp only [m_ev] at hev ⊢
    split at hev
    · rename_i h126
      rw [if_pos h126]
      split at hev
      · rename_i hc
        rw [if_pos ⟨by omega, hc.2⟩]
        exact hev
      · cases hev
    · rename_i h126
      rw [if_neg h126]
      split at hev
      · cases hev
      · rename_i ins len tag a b c q hop
        split at hev
        · split at hev
          · rename_i hst
            try rw [hst]
            exact ih _ _ _ _ _ _ _ _ _ hev hn' hd
          · cases hev
        · exact hev
        · exact hev
        · exact hev
        · split at hev
          · cases hev
          · rename_i d0
            obtain ⟨d', rfl⟩ : ∃ k, d' = k + 1 := ⟨d' - 1, by omega⟩
            try simp only
            split at hev
            · rename_i hc
              rw [if_pos hc]
              split at hev
              · rename_i v h1 hc1
                rw [ih _ _ _ _ _ _ _ _ _ hc1 hn' (by omega)]
                exact ih _ _ _ _ _ _ _ _ _ hev hn' hd
              · cases hev
            · cases hev
        · split at hev
          · cases hev
          · rename_i d0
            obtain ⟨d', rfl⟩ : ∃ k, d' = k + 1 := ⟨d' - 1, by omega⟩
            try simp only
            split at hev
            · rename_i k r' hdr
              try rw [hdr]
              try simp only
              split at hev
              · rename_i hc
                rw [if_pos hc]
                split at hev
                · rename_i v h1 hc1
                  rw [ih _ _ _ _ _ _ _ _ _ hc1 hn' (by omega)]
                  exact ih _ _ _ _ _ _ _ _ _ hev hn' hd
                · cases hev
              · cases hev
            · cases hev
        · split at hev
          · cases hev
          · rename_i d0
            obtain ⟨d', rfl⟩ : ∃ k, d' = k + 1 := ⟨d' - 1, by omega⟩
            try simp only
            split at hev
            · rename_i k r' hdr
              try rw [hdr]
              try simp only
              split at hev
              · rename_i hc
                rw [if_pos hc]
                split at hev
                · rename_i v h1 hc1
                  rw [ih _ _ _ _ _ _ _ _ _ hc1 hn' (by omega)]
                  exact ih _ _ _ _ _ _ _ _ _ hev hn' hd
                · cases hev
              · cases hev
            · cases hev
        · split at hev
          · split at hev
            · rename_i hc
              rw [if_pos ⟨by omega, hc.2⟩]
              exact ih _ _ _ _ _ _ _ _ _ hev hn' hd
            · cases hev
          · cases hev
        · split at hev
          · split at hev
            · rename_i hc
              rw [if_pos ⟨by omega, hc.2⟩]
              split at hev
              · rename_i hcp
                try rw [hcp]
                exact ih _ _ _ _ _ _ _ _ _ hev hn' hd
              · cases hev
            · cases hev
          · cases hev
        · cases hev
section MWP
variable {X : mX} {d mi pc : Nat} {lo : List (Option Value)} {st : List Value} {h : mH} {res : Option Value × mH}
theorem m_R_1 {ins : Instr} {len a b c q pc' : Nat} {lo' : List (Option Value)} {st' : List Value} {h' : mH} (h126 : mi ≠ 126) (hop : m_op mi pc = some (ins, len, 0, a, b, c, q)) (hst : m_st1 X ins len a b c pc lo st h = some (pc', lo', st', h')) (k : m_R X d mi pc' lo' st' h' res) : m_R X d mi pc lo st h res := by
  obtain ⟨n, hn⟩ := k
  refine ⟨n + 1, ?_⟩
  simp only [m_ev, if_neg h126, hop, hst]
  exact hn
/-- several plain entries in a row -/
def m_sgl (X : mX) : List mOp → Nat → List (Option Value) → List Value → mH → Option mSt
  | [], pc, lo, st, h => some (pc, lo, st, h)
  | (ins, len, _, a, b, c, _) :: l, pc, lo, st, h => match m_st1 X ins len a b c pc lo st h with
    | some (pc', lo', st', h') => m_sgl X l pc' lo' st' h'
    | none => none
def m_opb (o : Option mOp) (ins : Instr) (len tag a b c q : Nat) : Bool := match o with
  | some (i', l', t', a', b', c', q') => decide (i' = ins) && decide (l' = len) && decide (t' = tag) && decide (a' = a) && decide (b' = b) && decide (c' = c) && decide (q' = q)
  | none => false
theorem m_opb_of {o : Option mOp} {ins : Instr} {len tag a b c q : Nat} (h : m_opb o ins len tag a b c q = true) : o = some (ins, len, tag, a, b, c, q) := by
  unfold m_opb at h
  split at h
  · simp only [Bool.and_eq_true, decide_eq_true_eq] at h
    obtain ⟨⟨⟨⟨⟨⟨rfl, rfl⟩, rfl⟩, rfl⟩, rfl⟩, rfl⟩, rfl⟩ := h
    rfl
  · cases h
/-- they are the method's, from pc on, each with its length, but for the last -/
noncomputable def m_seq (mi : Nat) : List mOp → Nat → Bool
  | [], _ => true
  | (ins, len, tag, a, b, c, q) :: l, pc => decide (tag = 0) && m_opb (m_op mi pc) ins len tag a b c q && (match ins with
    | .goto _ => l.isEmpty
    | .ifCond _ _ => l.isEmpty
    | .if_icmp _ _ => l.isEmpty
    | .tableswitch .. => l.isEmpty
    | _ => m_seq mi l (pc + len))
set_option maxHeartbeats 4000000 in
theorem m_st1_pc {ins : Instr} {len a b c pc pc' : Nat} {lo lo' : List (Option Value)} {st st' : List Value} {h h1 : mH} (hst : m_st1 X ins len a b c pc lo st h = some (pc', lo', st', h1)) : (match ins with
    | .goto _ => True
    | .ifCond _ _ => True
    | .if_icmp _ _ => True
    | .tableswitch .. => True
    | _ => pc' = pc + len) := by
  cases ins <;> first | trivial | (simp only [m_st1] at hst; (repeat' split at hst) <;> first | (cases hst; done) | (cases hst; rfl))
theorem m_R_sg (h126 : mi ≠ 126) : ∀ (ops : List mOp) {pc : Nat} {lo : List (Option Value)} {st : List Value} {h : mH} {pc' : Nat} {lo' : List (Option Value)} {st' : List Value} {h' : mH}, m_seq mi ops pc = true → m_sgl X ops pc lo st h = some (pc', lo', st', h') → m_R X d mi pc' lo' st' h' res → m_R X d mi pc lo st h res
  | [], _, _, _, _, _, _, _, _, _, he, k => by cases he; exact k
  | (ins, len, tag, a, b, c, q) :: l, pc, lo, st, h, pc', lo', st', h', hs, he, k => by
    simp only [m_seq, Bool.and_eq_true, decide_eq_true_eq] at hs
    obtain ⟨⟨rfl, hop⟩, hs⟩ := hs
    have hop := m_opb_of hop
    simp only [m_sgl] at he
    split at he
    · rename_i pc1 lo1 st1 h1 hst
      refine m_R_1 h126 hop hst ?_
      have hp := m_st1_pc hst
      have fin : l = [] → m_R X d mi pc1 lo1 st1 h1 res := by
        intro e
        subst e
        cases he
        exact k
      cases ins <;> first | exact fin (List.isEmpty_iff.mp hs) | (have hp : pc1 = pc + len := hp; subst hp; exact m_R_sg h126 l hs he k)
    · cases he
theorem m_R_iret {v : Int32} {a b c q len : Nat} {ins : Instr} (h126 : mi ≠ 126) (hop : m_op mi pc = some (ins, len, 1, a, b, c, q)) (hv : a = 0 ∨ v = 0 ∨ v = 1) : m_R X d mi pc lo [.int v] h (some (.int v), h) := ⟨1, by simp only [m_ev, if_neg h126, hop, if_pos hv]⟩
theorem m_R_lret {v : Int64} {a b c q len : Nat} {ins : Instr} (h126 : mi ≠ 126) (hop : m_op mi pc = some (ins, len, 2, a, b, c, q)) : m_R X d mi pc lo [.long v] h (some (.long v), h) := ⟨1, by simp only [m_ev, if_neg h126, hop]⟩
theorem m_R_vret {a b c q len : Nat} {ins : Instr} (h126 : mi ≠ 126) (hop : m_op mi pc = some (ins, len, 3, a, b, c, q)) : m_R X d mi pc lo [] h (none, h) := ⟨1, by simp only [m_ev, if_neg h126, hop]⟩
theorem m_ent_of {a ml : Nat} {args : List Value} {lo' : List (Option Value)} (hml : m_ml a = ml ∧ (mMT[a]?).isSome = true) (h : m_slo args ++ List.replicate (ml - (m_slo args).length) none = lo') : m_ent a args = lo' := by
  obtain ⟨h1, h2⟩ := hml
  unfold m_ml at h1
  unfold m_ent
  cases hm : mMT[a]? with
  | none => rw [hm] at h2; cases h2
  | some me =>
    rw [hm] at h1
    simp only at h1 ⊢
    rw [h1]
    exact h
/-- the length of a method's locals, as a check -/
noncomputable def m_mlc (a ml : Nat) : Bool := decide (m_ml a = ml) && (mMT[a]?).isSome
theorem m_mlc_of {a ml : Nat} (h : m_mlc a ml = true) : m_ml a = ml ∧ (mMT[a]?).isSome = true := by
  simp only [m_mlc, Bool.and_eq_true, decide_eq_true_eq] at h
  exact h
theorem m_R_cS {a nb c q len ml : Nat} {ins : Instr} {rest : List Value} {lo' : List (Option Value)} {v : Option Value} {h1 : mH} (h126 : mi ≠ 126) (hop : m_op mi pc = some (ins, len, 4, a, nb, c, q)) (hml : m_mlc a ml = true) (hb : nb ≤ st.length) (hr : st.drop nb = rest) (hcat : m_cat rest ≤ 8)
    (he : m_slo (st.take nb).reverse ++ List.replicate (ml - (m_slo (st.take nb).reverse).length) none = lo') (hl : lo'.length = ml) (hc : m_R X d a 0 lo' [] h (v, h1)) (k : m_R X (d + 1) mi (pc + 3) lo (v.toList ++ rest) h1 res) : m_R X (d + 1) mi pc lo st h res := by
  obtain ⟨n1, hn1⟩ := hc
  obtain ⟨n2, hn2⟩ := k
  have hm := m_mlc_of hml
  have hent := m_ent_of hm he
  refine ⟨max n1 n2 + 1, ?_⟩
  subst hr
  simp only [m_ev, if_neg h126, hop]
  rw [hent, if_pos ⟨hb, hcat, by rw [hl]; exact hm.1.symm⟩, m_ev_up _ _ _ _ _ _ _ _ _ _ hn1 (Nat.le_max_left n1 n2) (Nat.le_refl _)]
  exact m_ev_up _ _ _ _ _ _ _ _ _ _ hn2 (Nat.le_max_right n1 n2) (Nat.le_refl _)
theorem m_R_cV {a nb c q len ml k0 tag : Nat} {ins : Instr} {rest : List Value} {lo' : List (Option Value)} {v : Option Value} {h1 : mH} (h126 : mi ≠ 126) (ht : tag = 5 ∨ tag = 6) (hop : m_op mi pc = some (ins, len, tag, a, nb, c, q)) (hml : m_mlc a ml = true) (hr : st.drop nb = .ref k0 :: rest) (hO : m_isO a k0 h = true) (hcat : m_cat rest ≤ 8)
    (he : m_slo (.ref k0 :: (st.take nb).reverse) ++ List.replicate (ml - (m_slo (.ref k0 :: (st.take nb).reverse)).length) none = lo') (hl : lo'.length = ml) (hc : m_R X d a 0 lo' [] h (v, h1)) (k : m_R X (d + 1) mi (pc + 3) lo (v.toList ++ rest) h1 res) : m_R X (d + 1) mi pc lo st h res := by
  obtain ⟨n1, hn1⟩ := hc
  obtain ⟨n2, hn2⟩ := k
  have hm := m_mlc_of hml
  have hent := m_ent_of hm he
  refine ⟨max n1 n2 + 1, ?_⟩
  rcases ht with rfl | rfl
  · simp only [m_ev, if_neg h126, hop, hr]
    rw [hent, if_pos ⟨hO, hcat, by rw [hl]; exact hm.1.symm⟩, m_ev_up _ _ _ _ _ _ _ _ _ _ hn1 (Nat.le_max_left n1 n2) (Nat.le_refl _)]
    exact m_ev_up _ _ _ _ _ _ _ _ _ _ hn2 (Nat.le_max_right n1 n2) (Nat.le_refl _)
  · simp only [m_ev, if_neg h126, hop, hr]
    rw [hent, if_pos ⟨hO, hcat, by rw [hl]; exact hm.1.symm⟩, m_ev_up _ _ _ _ _ _ _ _ _ _ hn1 (Nat.le_max_left n1 n2) (Nat.le_refl _)]
    exact m_ev_up _ _ _ _ _ _ _ _ _ _ hn2 (Nat.le_max_right n1 n2) (Nat.le_refl _)
theorem m_R_cpy {a b c q len : Nat} {ins : Instr} {kd ks : Nat} {k0 dp sp : Int32} {rest : List Value} {h1 : mH} (h126 : mi ≠ 126) (hop : m_op mi pc = some (ins, len, 8, a, b, c, q)) (hcat : m_cat rest ≤ 8) (hcp : m_cpy ks kd sp dp k0 h = some h1) (k : m_R X (d + 1) mi (pc + 3) lo rest h1 res) : m_R X (d + 1) mi pc lo (.int k0 :: .int dp :: .ref kd :: .int sp :: .ref ks :: rest) h res := by
  obtain ⟨n, hn⟩ := k
  refine ⟨n + 1, ?_⟩
  simp only [m_ev, if_neg h126, hop]
  rw [if_pos ⟨Nat.succ_pos _, hcat⟩, hcp]
  exact hn
theorem m_R_wa {v : Value} {h : mH} {lo : List (Option Value)} (hw : m_wordAt lo h = some v) : m_R X (d + 4) 126 0 lo [] h (some v, h) := ⟨1, by simp only [m_ev, if_pos]; rw [if_pos ⟨Nat.le_add_left _ _, trivial, trivial⟩, hw]; rfl⟩
end MWP
/-- steps that look at an index -/
theorem m_s_iald {X : mX} {sh : List mS} {m : mM} {len a b c pc k n : Nat} {i : Int32} {lo : List (Option Value)} {r : List Value} (hk : sh[k]? = some (.inl (0, n))) (hne : k ≠ m_scr) (hc : ¬ (i < 0 ∨ n ≤ i.toNatClampNeg)) : m_st1 X .iaload len a b c pc lo (.int i :: .ref k :: r) (sh, m) = some (pc + len, lo, .int (m.1 k i.toNatClampNeg) :: r, (sh, m)) := by
  simp only [m_st1, if_neg hne, hk, m_ld, if_neg hc]
theorem m_s_bald {X : mX} {sh : List mS} {m : mM} {len a b c pc k n : Nat} {i : Int32} {lo : List (Option Value)} {r : List Value} (hk : sh[k]? = some (.inl (1, n))) (hc : ¬ (i < 0 ∨ n ≤ i.toNatClampNeg)) : m_st1 X .baload len a b c pc lo (.int i :: .ref k :: r) (sh, m) = some (pc + len, lo, .int (m.1 k i.toNatClampNeg) :: r, (sh, m)) := by
  simp only [m_st1, hk, m_ld, if_neg hc]
theorem m_s_iast {X : mX} {sh : List mS} {m : mM} {len a b c pc k n : Nat} {i v : Int32} {lo : List (Option Value)} {r : List Value} (hk : sh[k]? = some (.inl (0, n))) (hc : ¬ (i < 0 ∨ n ≤ i.toNatClampNeg)) : m_st1 X .iastore len a b c pc lo (.int v :: .int i :: .ref k :: r) (sh, m) = some (pc + len, lo, r, (sh, m_up m.1 k i.toNatClampNeg v, m.2)) := by
  simp only [m_st1, hk, if_neg hc]
theorem m_s_bast {X : mX} {sh : List mS} {m : mM} {len a b c pc k n : Nat} {i v : Int32} {lo : List (Option Value)} {r : List Value} (hk : sh[k]? = some (.inl (1, n))) (hc : ¬ (i < 0 ∨ n ≤ i.toNatClampNeg)) (hv : v = 0 ∨ v = 1) : m_st1 X .bastore len a b c pc lo (.int v :: .int i :: .ref k :: r) (sh, m) = some (pc + len, lo, r, (sh, m_up m.1 k i.toNatClampNeg v, m.2)) := by
  simp only [m_st1, hk]
  rw [if_neg (fun z => z.elim hc (fun y => y hv))]
theorem m_s_putz {X : mX} {sh : List mS} {m : mM} {len a b c pc k i : Nat} {v : Int32} {rs : List (Option Nat)} {lo : List (Option Value)} {r : List Value} (hk : sh[k]? = some (.inr (a, rs))) (hb : b < rs.length) (hc : c = 0 ∨ (c = 1 ∧ (v = 0 ∨ v = 1))) : m_st1 X (.putfield i) len a b c pc lo (.int v :: .ref k :: r) (sh, m) = some (pc + len, lo, r, (sh, m_up m.1 k b v, m.2)) := by
  simp only [m_st1, hk]
  rw [if_pos ⟨trivial, hb, hc⟩]
theorem m_s_idiv {X : mX} {h : mH} {len a b c pc : Nat} {x y : Int32} {lo : List (Option Value)} {r : List Value} (hc : ¬ y = 0) : m_st1 X .idiv len a b c pc lo (.int y :: .int x :: r) h = some (pc + len, lo, .int (x / y) :: r, h) := by
  simp only [m_st1, if_neg hc]
theorem m_s_irem {X : mX} {h : mH} {len a b c pc : Nat} {x y : Int32} {lo : List (Option Value)} {r : List Value} (hc : ¬ y = 0) : m_st1 X .irem len a b c pc lo (.int y :: .int x :: r) h = some (pc + len, lo, .int (x - x / y * y) :: r, h) := by
  simp only [m_st1, if_neg hc]
theorem m_s_ldiv {X : mX} {h : mH} {len a b c pc : Nat} {x y : Int64} {lo : List (Option Value)} {r : List Value} (hc : ¬ y = 0) : m_st1 X .ldiv len a b c pc lo (.long y :: .long x :: r) h = some (pc + len, lo, .long (x / y) :: r, h) := by
  simp only [m_st1, if_neg hc]
theorem m_s_sw {X : mX} {h : mH} {len a b c pc t : Nat} {x : Int32} {dflt lw hi off : Int} {offs : Array Int} {lo : List (Option Value)} {r : List Value} (h1 : ¬ (x.toInt < lw ∨ hi < x.toInt)) (h2 : offs[(x.toInt - lw).toNat]? = some off) (h3 : 0 ≤ (pc : Int) + off) (h4 : ((pc : Int) + off).toNat = t) : m_st1 X (.tableswitch dflt lw hi offs) len a b c pc lo (.int x :: r) h = some (t, lo, r, h) := by
  simp only [m_st1, if_neg h1, h2, if_pos h3, h4]
theorem m_s_swd {X : mX} {h : mH} {len a b c pc t : Nat} {x : Int32} {dflt lw hi : Int} {offs : Array Int} {lo : List (Option Value)} {r : List Value} (h1 : x.toInt < lw ∨ hi < x.toInt) (h3 : 0 ≤ (pc : Int) + dflt) (h4 : ((pc : Int) + dflt).toNat = t) : m_st1 X (.tableswitch dflt lw hi offs) len a b c pc lo (.int x :: r) h = some (t, lo, r, h) := by
  simp only [m_st1, if_pos h1, if_pos h3, h4]
theorem m_s_aald {X : mX} {sh : List mS} {m : mM} {len a b c pc k v : Nat} {i : Int32} {rs : List (Option Nat)} {lo : List (Option Value)} {r : List Value} (hk : sh[k]? = some (.inr (100, rs))) (hc : ¬ (i < 0 ∨ rs.length ≤ i.toNatClampNeg)) (hv : rs[i.toNatClampNeg]? = some (some v)) : m_st1 X .aaload len a b c pc lo (.int i :: .ref k :: r) (sh, m) = some (pc + len, lo, .ref v :: r, (sh, m)) := by
  simp only [m_st1, hk]
  rw [if_pos ⟨trivial, hc⟩, hv]
