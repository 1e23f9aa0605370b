/-! THE INDUCTION -/
theorem m_bnd {p : Program} {l : Launch} {e : Env} {R : Room} {s : State} {m : MethodId} {args : Array Value} {below : List Frame} {meth : Method} {c : Code} {H : Heap} {locs : List Loc} {cells slots : Nat} {Q : State → Prop} {g : JFrame} {b0 : Nat} {h0 h : mH} (h1 : cells + m_cs h0 = m_cs h) (h2 : s.heap.size ≤ b0 + m_cs h0)
    (k : H.size ≤ b0 + m_cs h → W p l e R s m args below meth c H locs cells slots Q g) : W p l e R s m args below meth c H locs cells slots Q g := m_bound fun hz => k (by omega)
set_option maxHeartbeats 8000000 in
theorem m_sim (l : Launch) (HC : m_HC) (HA : Cond.arrayOver (.object "NoteHouse$World") ∈ lw_tbl) (HO : m_HO) (HM : m_HM) (HW : m_HW) (HD : m_HD l) (D : va_G) (cT : Nat → ClassId) (aS : (Nat → Nat) × (Nat → Nat)) (b0 b L : Nat) (xs : Nat → Int32) :
    ∀ (n d mi pc : Nat) (lo : List (Option Value)) (st : List Value) (h : mH) (r : Option Value) (h' : mH), m_ev (L, xs) n d mi pc lo st h = some (r, h') → m_SimAt l D cT aS b0 b L xs mi d pc lo st h r h' := by
  intro n
  induction n with
  | zero => intro d mi pc lo st h r h' hev; cases hev
  | succ n ih =>
    intro d mi pc lo st h r h' hev
    by_cases h126 : mi = 126
    · simp only [m_ev, if_pos h126] at hev
      split at hev
      · rename_i hc
        cases hw : m_wordAt lo h with
        | none => rw [hw] at hev; cases hev
        | some v =>
          rw [hw] at hev
          cases hev
          obtain ⟨h3, rfl, rfl⟩ := hc
          subst h126
          exact HD D cT aS b0 b L xs d lo h v hw h3
      · cases hev
    · simp only [m_ev, if_neg h126] at hev
      intro p e R s m args below meth c me H locs cells slots Q h0 ls C hfr hlo hlen Z hroom hend
      split at hev
      · cases hev
      · rename_i ins len tag a bb cc q hop
        have hchk := m_chk_of (HO mi me pc _ C.2.1 hop)
        obtain ⟨hd, k0, k1, k2, k3, k4, k5, k6, k7, k8⟩ := hchk
        have hS := Z.2.1
        have hl := Z.2.2.1
        split at hev
        · -- a plain instruction
          obtain ⟨ht, hln⟩ := k0 rfl
          split at hev
          · rename_i pc' lo' st' h1 hst
            have mono := m_ev_mono _ _ _ _ _ _ _ _ _ hev
            have hroom1 : m_cs h1 ≤ R.cells + m_cs h0 ∧ m_ss h1 ≤ R.slots + m_ss h0 := ⟨Nat.le_trans mono.1 hroom.1, Nat.le_trans mono.2 hroom.2⟩
            exact m_s1 C hd ht hln hst Z hroom1 (fun hh kk' => m_s2 HC HA C hd ht hln hst Z hroom1 hh kk')
              (fun H1 locs1 ls1 c1 s1 Z1 => ih _ _ _ _ _ _ _ _ hev p e R s m args below meth c me H1 locs1 c1 s1 Q h0 ls1 C hfr hlo ((m_st1_len hst).trans hlen) Z1 hroom hend)
          · cases hev
        · obtain ⟨rfl, rfl, hr⟩ := k1 rfl
          split at hev
          · rename_i v
            split at hev
            · rename_i hv
              cases hev
              refine hend pc H locs ls cells slots (Or.inl ⟨v, rfl, hd, ?_⟩) Z.1 hS Z.2.2.2.1 Z.2.2.2.2.1
              rcases hr with ⟨hr, -⟩ | ⟨hr, ha⟩
              · exact Or.inl hr
              · refine Or.inr ⟨hr, ?_⟩
                rcases hv with hv | hv
                · omega
                · exact hv
            · cases hev
          · cases hev
        · obtain ⟨rfl, rfl, hr⟩ := k2 rfl
          split at hev
          · rename_i v
            cases hev
            exact hend pc H locs ls cells slots (Or.inr (Or.inl ⟨v, rfl, hd, hr⟩)) Z.1 hS Z.2.2.2.1 Z.2.2.2.2.1
          · cases hev
        · obtain ⟨rfl, rfl, hr⟩ := k3 rfl
          split at hev
          · cases hev
            exact hend pc H locs ls cells slots (Or.inr (Or.inr ⟨rfl, hd, hr⟩)) Z.1 hS Z.2.2.2.1 Z.2.2.2.2.1
          · cases hev
        · -- a static call
          obtain ⟨rfl, i, rfl, hcl⟩ := k4 rfl
          split at hev
          · cases hev
          · rename_i d'
            split at hev
            · rename_i hc
              split at hev
              · rename_i v h1 hc1
                have mono1 := m_ev_mono _ _ _ _ _ _ _ _ _ hc1
                have mono := m_ev_mono _ _ _ _ _ _ _ _ _ hev
                obtain ⟨me', hme⟩ : ∃ me', mMT[a]? = some me' := by
                  unfold mc_call at hcl
                  split at hcl
                  · rename_i hq; exact ⟨_, hq⟩
                  · cases hcl
                have hch := HM a me' hme (mc_call_of hme hcl).2.2.2.2.2
                have hM := m_met (l := l) (L := L) (xs := xs) hme hch hc.2.2 mono1 (ih _ _ _ _ _ _ _ _ hc1)
                refine m_bnd Z.2.2.2.1 Z.2.2.2.2.2 fun hz => ?_
                have z4 := Z.2.2.2.1
                have z5 := Z.2.2.2.2.1
                refine m_callS C hme hch hd hcl hc.1 hc.2.1 hfr hlo hlen hl hM Z.1 hS hz ⟨by omega, by omega⟩ (fun H1 locs1 hW1 hS1 => ?_)
                have key := ih _ _ _ _ _ _ _ _ hev p e R s m args below meth c me H1 locs1 (cells + (m_cs h1 - m_cs h)) (slots + (m_ss h1 - m_ss h)) Q h0 ls C hfr hlo hlen ⟨hW1, hS1, hl, by omega, by omega, Z.2.2.2.2.2⟩ hroom hend
                cases v with
                | none => exact key
                | some v => exact key
              · cases hev
            · cases hev
        · -- a call of an object's method
          obtain ⟨rfl, rfl, i, rfl, hcl⟩ := k5 rfl
          split at hev
          · cases hev
          · rename_i d'
            split at hev
            · rename_i k r' hdr
              split at hev
              · rename_i hc
                split at hev
                · rename_i v h1 hc1
                  have mono1 := m_ev_mono _ _ _ _ _ _ _ _ _ hc1
                  have mono := m_ev_mono _ _ _ _ _ _ _ _ _ hev
                  obtain ⟨me', hme⟩ : ∃ me', mMT[a]? = some me' := by
                    unfold mc_call at hcl
                    split at hcl
                    · rename_i hq; exact ⟨_, hq⟩
                    · cases hcl
                  have hch := HM a me' hme (mc_call_of hme hcl).2.2.2.2.2
                  have hM := m_met (l := l) (L := L) (xs := xs) hme hch hc.2.2 mono1 (ih _ _ _ _ _ _ _ _ hc1)
                  refine m_bnd Z.2.2.2.1 Z.2.2.2.2.2 fun hz => ?_
                  have z4 := Z.2.2.2.1
                  have z5 := Z.2.2.2.2.1
                  refine m_callV C hme hch hd hcl hdr hc.1 hc.2.1 hfr hlo hlen hl hM Z.1 hS hz ⟨by omega, by omega⟩ (fun H1 locs1 hW1 hS1 => ?_)
                  have key := ih _ _ _ _ _ _ _ _ hev p e R s m args below meth c me H1 locs1 (cells + (m_cs h1 - m_cs h)) (slots + (m_ss h1 - m_ss h)) Q h0 ls C hfr hlo hlen ⟨hW1, hS1, hl, by omega, by omega, Z.2.2.2.2.2⟩ hroom hend
                  cases v with
                  | none => exact key
                  | some v => exact key
                · cases hev
              · cases hev
            · cases hev
        · -- a constructor
          obtain ⟨rfl, i, rfl, hcl⟩ := k6 rfl
          split at hev
          · cases hev
          · rename_i d'
            split at hev
            · rename_i k r' hdr
              split at hev
              · rename_i hc
                split at hev
                · rename_i v h1 hc1
                  have mono1 := m_ev_mono _ _ _ _ _ _ _ _ _ hc1
                  have mono := m_ev_mono _ _ _ _ _ _ _ _ _ hev
                  obtain ⟨me', hme⟩ : ∃ me', mMT[a]? = some me' := by
                    unfold mc_call at hcl
                    split at hcl
                    · rename_i hq; exact ⟨_, hq⟩
                    · cases hcl
                  have hco := mc_call_of hme hcl
                  have hch := HM a me' hme hco.2.2.2.2.2
                  have hM := m_met (l := l) (L := L) (xs := xs) hme hch hc.2.2 mono1 (ih _ _ _ _ _ _ _ _ hc1)
                  refine m_bnd Z.2.2.2.1 Z.2.2.2.2.2 fun hz => ?_
                  have z4 := Z.2.2.2.1
                  have z5 := Z.2.2.2.2.1
                  refine m_callI C hme hch (m_chm_ret hch (hco.2.2.2.1 rfl)) hd hcl hdr hc.2.1 hfr hlo hlen hl hM Z.1 hS hz ⟨by omega, by omega⟩ (fun H1 locs1 hW1 hS1 => ?_)
                  have key := ih _ _ _ _ _ _ _ _ hev p e R s m args below meth c me H1 locs1 (cells + (m_cs h1 - m_cs h)) (slots + (m_ss h1 - m_ss h)) Q h0 ls C hfr hlo hlen ⟨hW1, hS1, hl, by omega, by omega, Z.2.2.2.2.2⟩ hroom hend
                  cases v with
                  | none => exact key
                  | some v => exact key
                · cases hev
              · cases hev
            · cases hev
        · -- the maker of Object
          obtain ⟨rfl, i, rfl, hq⟩ := k7 rfl
          split at hev
          · rename_i k r'
            split at hev
            · rename_i hc
              have w1 := HW (.instanceMethod objectInit) (by simp [m_hw])
              have w2 := HW (.code objectInit ⟨#[0xb1]⟩ 1 none) (by simp [m_hw])
              have hw := C.2.2.2.2.2.2.2.2.1
              have hcat : ((r'.map (m_em (m_ad b0 b))).map fun v => v.category).sum ≤ 8 := by rw [m_cat_em]; exact hc.2
              have hmr := lv_room (m := m) (pc := pc) (ls := ls) (rest := (Value.ref k :: r').map (m_em (m_ad b0 b))) hcat
              refine W.objInit C.1 C.2.2.1 C.2.2.2.2.1 (C.word hq) (hw _ w1.1 w1.2) (hw _ w2.1 w2.2) rfl (by rw [C.2.2.2.1]; exact hl.1.trans hlen) rfl hd (by omega) (by omega) ?_
              exact ih _ _ _ _ _ _ _ _ hev p e R s m args below meth c me H locs cells slots Q h0 ls C hfr hlo hlen Z hroom hend
            · cases hev
          · cases hev
        · -- System.arraycopy
          obtain ⟨rfl, i, rfl, hq⟩ := k8 rfl
          split at hev
          · rename_i k dp kd sp ks r'
            split at hev
            · rename_i hc
              split at hev
              · rename_i h1 hcp
                have hsm := m_same_sz (m_cpy_same hcp)
                have hsh := m_cpy_same hcp
                unfold m_cpy at hcp
                split at hcp
                · rename_i n0 n1 e0 e1
                  split at hcp
                  · cases hcp
                  · rename_i hn
                    cases hcp
                    have hw := C.2.2.2.2.2.2.2.2.1
                    have w3 := HW (.native arraycopyName) (by simp [m_hw])
                    have w4 := HW (.static arraycopyName) (by simp [m_hw])
                    have w5 := HW (.initialized "java/lang/System") (by simp [m_hw])
                    have hcat : ((r'.map (m_em (m_ad b0 b))).map fun v => v.category).sum ≤ 8 := by rw [m_cat_em]; exact hc.2
                    have hnf : nativeFrameWords "java/lang/System" "arraycopy" 5 + 11 ≤ 64 := by decide
                    refine va_copyi C.1 C.2.2.1 (by rw [C.2.2.2.1]; exact (hl.1.trans hlen).symm) C.2.2.2.2.1 (C.word hq) (hw _ w3.1 w3.2) (hw _ w4.1 w4.2) (hw _ w5.1 w5.2) C.2.2.2.2.2.2.2.2.2.2.1 Z.1.1 (m_DD Z.1.2) hS ks kd 0 0 (m_arr e0) (m_arr e1) (ty := .int) rfl rfl rfl
                      (fun z => hn (Or.inl z)) (fun z => hn (Or.inr (Or.inl z))) (fun z => hn (Or.inr (Or.inr (Or.inl z)))) (Nat.not_lt.mp fun z => hn (Or.inr (Or.inr (Or.inr (Or.inl z))))) (Nat.not_lt.mp fun z => hn (Or.inr (Or.inr (Or.inr (Or.inr z))))) (fun _ _ => rfl) (by omega) (by omega) hd (fun H1 locs1 g1 _ g2 => ?_)
                    have ew := m_ws_set (ad := m_ad b0 b) (cT := cT) (h := h) (h1 := (h.1, m_row h.2.1 kd (va_cpy (h.2.1 ks) (h.2.1 kd) sp.toNatClampNeg dp.toNatClampNeg k.toNatClampNeg), h.2.2)) (k := kd) (s := .inl (0, n1)) rfl e1 (fun j hj => ⟨rfl, m_row_ne hj, rfl⟩)
                    rw [show m_e (m_ad b0 b) cT (.inl (0, n1)) (m_row h.2.1 kd (va_cpy (h.2.1 ks) (h.2.1 kd) sp.toNatClampNeg dp.toNatClampNeg k.toNatClampNeg) kd) (h.2.2 kd) = .inl (cT 0, n1, .inl (va_cpy (h.2.1 ks) (h.2.1 kd) sp.toNatClampNeg dp.toNatClampNeg k.toNatClampNeg)) by rw [m_row_eq]; rfl] at ew
                    rw [ew] at g1
                    exact ih _ _ _ _ _ _ _ _ hev p e R s m args below meth c me H1 locs1 cells slots Q h0 ls C hfr hlo hlen ⟨⟨g1, Z.1.2⟩, g2, hl, Z.2.2.2.1, Z.2.2.2.2.1, Z.2.2.2.2.2⟩ hroom hend
                · cases hcp
              · cases hev
            · cases hev
          · cases hev
        · cases hev
