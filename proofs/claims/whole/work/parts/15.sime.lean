/-! ONE STEP, OF WHAT READS AND WRITES THE HEAP -/
theorem m_nar01 {v : Int32} (h : v = 0 ∨ v = 1) : narrow .boolean (.int v) = .int v := by rcases h with rfl | rfl <;> rfl
theorem m_fit01 {v : Int32} (h : v = 0 ∨ v = 1) : fits .boolean (.int v) = true := by rcases h with rfl | rfl <;> rfl
theorem m_vnar01 {v : Int32} (h : v = 0 ∨ v = 1) : vp_nar .boolean v = v := by rcases h with rfl | rfl <;> rfl
section MS2
variable {p : Program} {l : Launch} {e : Env} {R : Room} {s : State} {m : MethodId} {args : Array Value} {below : List Frame} {meth : Method} {c : Code} {H : Heap} {locs : List Loc} {cells slots : Nat} {Q : State → Prop}
variable {D : va_G} {cT : Nat → ClassId} {aS : (Nat → Nat) × (Nat → Nat)} {b0 b L : Nat} {xs : Nat → Int32} {mi : Nat} {me : mMe}
theorem m_x1 (C : m_C p s m args meth c D cT aS b0 b L xs mi me) : ¬ m_A b0 b := fun z => by have := C.2.2.2.2.2.2.2.2.2.2.2.2.1; have z : b0 ≤ b := z; omega
theorem m_x2 (C : m_C p s m args meth c D cT aS b0 b L xs mi me) : b < s.heap.size := Nat.lt_of_lt_of_le C.2.2.2.2.2.2.2.2.2.2.2.2.1 C.2.2.2.2.2.2.2.2.2.2.2.2.2.1
theorem m_adscr : m_ad b0 b m_scr = b := if_pos rfl
set_option maxHeartbeats 4000000 in
theorem m_s2 (HC : m_HC) (HA : Cond.arrayOver (.object "NoteHouse$World") ∈ lw_tbl) (C : m_C p s m args meth c D cT aS b0 b L xs mi me) {ins : Instr} {len a bb cc q pc pc' : Nat} {lo lo' : List (Option Value)} {st st' : List Value} {h0 h h1 : mH} {ls : Array Slot}
    (hd : decode me.2.1 pc = .ok (ins, len)) (ht : mc_tag0 me.1.cls me.1.name pc ins a bb cc q = true) (hlen : len = m_len ins len)
    (hst : m_st1 (L, xs) ins len a bb cc pc lo st h = some (pc', lo', st', h1)) (Z : m_St D cT b0 b s h0 h H locs ls lo cells slots)
    (hroom : m_cs h1 ≤ R.cells + m_cs h0 ∧ m_ss h1 ≤ R.slots + m_ss h0) (hh : m_hp ins = true)
    (kk : ∀ (H1 : Heap) (locs1 : List Loc) (ls1 : Array Slot) (cells1 slots1 : Nat), m_St D cT b0 b s h0 h1 H1 locs1 ls1 lo' cells1 slots1 → W p l e R s m args below meth c H1 locs1 cells1 slots1 Q (F0 m pc' ls1 (st'.map (m_em (m_ad b0 b))))) :
    W p l e R s m args below meth c H locs cells slots Q (F0 m pc ls (st.map (m_em (m_ad b0 b)))) := by
  have hx := C.1
  have hb := C.2.2.1
  have hK := C.2.2.2.2.2.2.2.2.2.2.1
  cases ins with
  | getfield i =>
    simp only [m_st1] at hst
    split at hst
    · rename_i k r
      split at hst
      · rename_i ci rs hk
        split at hst
        · rename_i hc
          split at hst
          · rename_i v hv
            cases hst
            obtain rfl : len = 3 := hlen
            obtain ⟨rfl, hbb⟩ := hc
            exact m_getf HC C hd ht hk hbb hv Z.1 (kk _ _ _ _ _ Z)
          · cases hst
        · cases hst
      · cases hst
    · cases hst
  | putfield i =>
    simp only [m_st1] at hst
    obtain rfl : len = 3 := hlen
    simp only [mc_tag0, Bool.and_eq_true] at ht
    obtain ⟨Cn, fl, dc, nm, ds, fin, e1, e2, -, e4⟩ := mc_fld_of ht.1
    have hfk := m_fk_of e1 e2
    have hone := (HC a Cn fl e1).2.2.2.2.2
    split at hst
    · rename_i v k r
      split at hst
      · rename_i ci rs hk
        split at hst
        · rename_i hc
          cases hst
          obtain ⟨rfl, hbb, hcc⟩ := hc
          have hcc2 : cc = 0 ∨ cc = 1 := by rcases hcc with z | z; exact Or.inl z; exact Or.inr z.1
          refine m_putf HC C (h1 := (h.1, m_up h.2.1 k bb v, h.2.2)) (v := .int v) hd ht.1 ht.2 hk hbb rfl hk (fun j hj => ⟨rfl, m_up_ne hj, rfl⟩) (m_fset (h1 := (h.1, m_up h.2.1 k bb v, h.2.2)) hbb ?_ ?_) ?_ Z.1 Z.2.1 (fun H1 locs1 g1 g2 => kk _ _ _ _ _ ⟨g1, g2, Z.2.2.1, Z.2.2.2.1, Z.2.2.2.2.1, Z.2.2.2.2.2⟩)
          · show m_val _ ci bb _ (m_up h.2.1 k bb v k) _ = .int v
            rw [m_up_eq]
            unfold m_val
            rw [hfk, show m_fki (dc, nm, ds, fin).2.2.1 = cc from e4.symm]
            rcases hcc2 with rfl | rfl <;> exact congrArg Value.int (if_pos rfl)
          · intro j hj
            show m_val _ ci j _ (m_up h.2.1 k bb v k) _ = _
            rw [m_up_eq]
            unfold m_val
            rw [show upd (h.2.1 k) bb v j = h.2.1 k j from if_neg hj]
          · intro ty hty
            rcases hcc with rfl | ⟨rfl, hv⟩
            · rcases hty with ⟨-, rfl⟩ | ⟨z, -⟩ | ⟨z, -⟩ | ⟨z, -⟩
              · exact ⟨rfl, rfl⟩
              · cases z
              · cases z
              · cases z
            · rcases hty with ⟨z, -⟩ | ⟨-, rfl⟩ | ⟨z, -⟩ | ⟨z, -⟩
              · cases z
              · exact ⟨m_nar01 hv, m_fit01 hv⟩
              · cases z
              · cases z
        · cases hst
      · cases hst
    · rename_i v k r
      split at hst
      · rename_i ci rs hk
        split at hst
        · rename_i hc
          cases hst
          obtain ⟨rfl, hbb, rfl⟩ := hc
          refine m_putf HC C (h1 := (h.1, h.2.1, m_upl h.2.2 k v)) (v := .long v) hd ht.1 ht.2 hk hbb rfl hk (fun j hj => ⟨rfl, rfl, m_upl_ne hj⟩) (m_fset (h1 := (h.1, h.2.1, m_upl h.2.2 k v)) hbb ?_ ?_) ?_ Z.1 Z.2.1 (fun H1 locs1 g1 g2 => kk _ _ _ _ _ ⟨g1, g2, Z.2.2.1, Z.2.2.2.1, Z.2.2.2.2.1, Z.2.2.2.2.2⟩)
          · show m_val _ ci bb _ _ (m_upl h.2.2 k v k) = .long v
            rw [m_upl_eq]
            unfold m_val
            rw [hfk, show m_fki (dc, nm, ds, fin).2.2.1 = 2 from e4.symm]
            rfl
          · intro j hj
            show m_val _ ci j _ _ (m_upl h.2.2 k v k) = _
            unfold m_val
            split
            · rfl
            · rfl
            · rename_i hj2
              exfalso
              cases hfj : fl[j]? with
              | none => simp [m_fk, e1, hfj] at hj2
              | some x =>
                rw [m_fk_of e1 hfj] at hj2
                refine hj (hone j bb (m_T_of hfj).2 (m_T_of e2).2 ?_ ?_)
                · rw [(m_T_of hfj).1]; exact hj2
                · rw [(m_T_of e2).1]; exact e4.symm
            · rfl
          · intro ty hty
            rcases hty with ⟨z, -⟩ | ⟨z, -⟩ | ⟨-, rfl⟩ | ⟨z, -⟩
            · cases z
            · cases z
            · exact ⟨rfl, rfl⟩
            · cases z
        · cases hst
      · cases hst
    · rename_i v k r
      split at hst
      · rename_i ci rs hk
        split at hst
        · rename_i hc
          cases hst
          obtain ⟨rfl, hbb, rfl⟩ := hc
          have hkl := (List.getElem?_eq_some_iff.mp hk).1
          refine m_putf HC C (h1 := (h.1.set k (.inr (ci, rs.set bb (some v))), h.2.1, h.2.2)) (rs1 := rs.set bb (some v)) (v := .ref v) hd ht.1 ht.2 hk hbb (by simp) (List.getElem?_set_self hkl) (fun j hj => ⟨List.getElem?_set_ne (Ne.symm hj), rfl, rfl⟩) ?_ ?_ Z.1 Z.2.1 (fun H1 locs1 g1 g2 => kk _ _ _ _ _ ⟨g1, g2, Z.2.2.1, ?_, ?_, Z.2.2.2.2.2⟩)
          · rw [List.length_set]
            refine List.ext_getElem? fun j => ?_
            by_cases ej : j = bb
            · subst ej
              rw [List.getElem?_set_self (by simpa using hbb), List.getElem?_map, List.getElem?_range hbb]
              refine congrArg some ?_
              show m_em _ (.ref v) = m_val _ ci j ((rs.set j (some v)).getD j none) _ _
              unfold m_val
              rw [hfk, show m_fki (dc, nm, ds, fin).2.2.1 = 3 from e4.symm, List.getD_eq_getElem?_getD, List.getElem?_set_self hbb]
              rfl
            · rw [List.getElem?_set_ne (Ne.symm ej), List.getElem?_map, List.getElem?_map]
              cases hj : (List.range rs.length)[j]? with
              | none => rfl
              | some j' =>
                have : j' = j := by
                  have h2 := (List.getElem?_eq_some_iff.mp hj).2
                  simpa using h2.symm
                subst this
                refine congrArg some ?_
                show m_val _ ci j' (rs.getD j' none) _ _ = m_val _ ci j' ((rs.set bb (some v)).getD j' none) _ _
                rw [List.getD_eq_getElem?_getD, List.getD_eq_getElem?_getD, List.getElem?_set_ne (Ne.symm ej)]
          · intro ty hty
            rcases hty with ⟨z, -⟩ | ⟨z, -⟩ | ⟨z, -⟩ | ⟨-, hr⟩
            · cases z
            · cases z
            · cases z
            · cases ty <;> first | exact ⟨rfl, rfl⟩ | cases hr
          · show _ + m_cs h0 = (h.1.set k _).length
            rw [List.length_set]
            exact Z.2.2.2.1
          · rw [m_ss_set (M2 := h.2.1) (L2 := h.2.2) hk (by simp [m_sz])]
            exact Z.2.2.2.2.1
        · cases hst
      · cases hst
    · cases hst
  | iaload =>
    simp only [m_st1] at hst
    obtain rfl : len = 1 := hlen
    split at hst
    · rename_i i k r
      split at hst
      · rename_i hc
        subst hc
        split at hst
        · rename_i v hv
          cases hst
          obtain ⟨h2, rfl⟩ := m_ld_of hv
          refine W.eq (g2 := F0 m pc ls (.int i :: .ref b :: r.map (m_em (m_ad b0 b)))) (by show F0 m pc ls (.int i :: .ref (m_ad b0 b m_scr) :: _) = _; rw [m_adscr]) ?_
          exact va_sld hx hb C.2.2.2.2.2.2.2.2.2.2.2.1 (m_x2 C) (m_x1 C) Z.2.1 h2 hd (kk _ _ _ _ _ Z)
        · cases hst
      · split at hst
        · rename_i n hk
          split at hst
          · rename_i v hv
            cases hst
            obtain ⟨h2, rfl⟩ := m_ld_of hv
            exact va_iald hx hb hK Z.1.1 k 0 (m_arr hk) rfl h2 hd (kk _ _ _ _ _ Z)
          · cases hst
        · cases hst
    · cases hst
  | baload =>
    simp only [m_st1] at hst
    obtain rfl : len = 1 := hlen
    split at hst
    · rename_i i k r
      split at hst
      · rename_i n hk
        split at hst
        · rename_i v hv
          cases hst
          obtain ⟨h2, rfl⟩ := m_ld_of hv
          exact va_zald hx hb hK Z.1.1 k 1 (m_arr hk) rfl h2 hd (kk _ _ _ _ _ Z)
        · cases hst
      · cases hst
    · cases hst
  | iastore =>
    simp only [m_st1] at hst
    obtain rfl : len = 1 := hlen
    split at hst
    · rename_i v i k r
      split at hst
      · rename_i n hk
        split at hst
        · cases hst
        · rename_i hc
          cases hst
          exact va_iast hx hb hK Z.1.1 (m_DD Z.1.2) Z.2.1 k 0 (m_arr hk) rfl hc hd (fun H1 locs1 g1 _ g2 => kk _ _ _ _ _ ⟨m_ast hk Z.1 g1, g2, Z.2.2.1, Z.2.2.2.1, Z.2.2.2.2.1, Z.2.2.2.2.2⟩)
      · cases hst
    · cases hst
  | bastore =>
    simp only [m_st1] at hst
    obtain rfl : len = 1 := hlen
    split at hst
    · rename_i v i k r
      split at hst
      · rename_i n hk
        split at hst
        · cases hst
        · rename_i hc
          cases hst
          have hv : v = 0 ∨ v = 1 := Decidable.not_not.mp (fun z => hc (Or.inr z))
          exact va_zast hx hb hK Z.1.1 (m_DD Z.1.2) Z.2.1 k 1 (m_arr hk) rfl (fun z => hc (Or.inl z)) hd (fun H1 locs1 g1 _ g2 => kk _ _ _ _ _ ⟨m_ast hk Z.1 (by rw [m_vnar01 hv] at g1; exact g1), g2, Z.2.2.1, Z.2.2.2.1, Z.2.2.2.2.1, Z.2.2.2.2.2⟩)
      · cases hst
    · cases hst
  | arraylength =>
    simp only [m_st1] at hst
    obtain rfl : len = 1 := hlen
    split at hst
    · rename_i k r
      split at hst
      · rename_i hc
        subst hc
        cases hst
        refine W.eq (g2 := F0 m pc ls (.ref b :: r.map (m_em (m_ad b0 b)))) (by show F0 m pc ls (.ref (m_ad b0 b m_scr) :: _) = _; rw [m_adscr]) ?_
        exact va_slen hx hb C.2.2.2.2.2.2.2.2.2.2.2.1 (m_x2 C) (m_x1 C) Z.2.1 hd (kk _ _ _ _ _ Z)
      · split at hst
        · rename_i t n hk
          split at hst
          · rename_i h2
            cases hst
            have ht2 : t = 0 ∨ t = 1 := by omega
            rcases ht2 with rfl | rfl
            · exact va_alen hx hb hK Z.1.1 k 0 (m_arr hk) (ty := .int) rfl rfl hd (kk _ _ _ _ _ Z)
            · exact va_alen hx hb hK Z.1.1 k 1 (m_arr hk) (ty := .boolean) rfl rfl hd (kk _ _ _ _ _ Z)
          · cases hst
        · rename_i ci rs hk
          split at hst
          · rename_i h2
            cases hst
            subst h2
            exact va_alen hx hb hK Z.1.1 k 2 (m_arq hk) (ty := .object "NoteHouse$World") rfl rfl hd (kk _ _ _ _ _ Z)
          · cases hst
        · cases hst
    · cases hst
  | aaload =>
    simp only [m_st1] at hst
    obtain rfl : len = 1 := hlen
    split at hst
    · rename_i i k r
      split at hst
      · rename_i ci rs hk
        split at hst
        · rename_i hc
          split at hst
          · rename_i v hv
            cases hst
            obtain ⟨rfl, h2⟩ := hc
            refine va_aldq hx hb hK Z.1.1 k 2 (m_arq hk) rfl h2 hd ?_
            rw [List.getD_eq_getElem?_getD, hv]
            exact kk _ _ _ _ _ Z
          · cases hst
        · cases hst
      · cases hst
    · cases hst
  | aastore =>
    simp only [m_st1] at hst
    obtain rfl : len = 1 := hlen
    split at hst
    · rename_i v i k r
      split at hst
      · rename_i ci rs cv rv hk hkv
        split at hst
        · rename_i hc
          cases hst
          obtain ⟨rfl, rfl, h2⟩ := hc
          have hkl := (List.getElem?_eq_some_iff.mp hk).1
          have hlt : i.toNatClampNeg < rs.length := Nat.not_le.mp fun z => h2 (Or.inr z)
          have hwv := m_ws_get (ad := m_ad b0 b) (cT := cT) hkv
          rw [m_e_obj (show (10 : Nat) ≠ 100 by decide)] at hwv
          have hnew := m_ws_set (ad := m_ad b0 b) (cT := cT) (h := h) (h1 := (h.1.set k (.inr (100, rs.set i.toNatClampNeg (some v))), h.2.1, h.2.2)) (k := k) (s := .inr (100, rs.set i.toNatClampNeg (some v))) (by simp) (List.getElem?_set_self hkl) (fun j hj => ⟨List.getElem?_set_ne (Ne.symm hj), rfl, rfl⟩)
          have hfn : (fun j => ((rs.set i.toNatClampNeg (some v)).getD j none).map (m_ad b0 b)) = va_up (fun j => (rs.getD j none).map (m_ad b0 b)) i.toNatClampNeg (some (m_ad b0 b v)) := by
            funext j
            rw [List.getD_eq_getElem?_getD]
            by_cases ej : j = i.toNatClampNeg
            · subst ej
              rw [List.getElem?_set_self hlt]
              exact (if_pos rfl).symm
            · rw [List.getElem?_set_ne (Ne.symm ej), ← List.getD_eq_getElem?_getD]
              exact (if_neg ej).symm
          rw [m_e_q, hfn, List.length_set] at hnew
          refine va_astq hx hb hK Z.1.1 (m_DD Z.1.2) Z.2.1 k 2 v 10 (r := ("NoteHouse$World", m_T mF10, mF10.length)) (m_arq hk) rfl hwv rfl h2 hd (fun H1 locs1 g1 _ g2 => kk _ _ _ _ _ ⟨⟨by rw [hnew] at g1; exact g1, by show (h.1.set k _).length ≤ 1000; rw [List.length_set]; exact Z.1.2⟩, g2, Z.2.2.1, ?_, ?_, Z.2.2.2.2.2⟩)
          · show _ + m_cs h0 = (h.1.set k _).length
            rw [List.length_set]
            exact Z.2.2.2.1
          · rw [m_ss_set (M2 := h.2.1) (L2 := h.2.2) hk (by simp [m_sz])]
            exact Z.2.2.2.2.1
        · cases hst
      · cases hst
    · cases hst
  | newarray ty =>
    simp only [m_st1] at hst
    obtain rfl : len = 2 := hlen
    split at hst
    · rename_i n r
      split at hst
      · cases hst
      · rename_i hc
        cases hst
        have hn : ¬ n < 0 := fun z => hc (Or.inl z)
        have hN : n.toNatClampNeg ≤ 100000 := Nat.not_lt.mp fun z => hc (Or.inr (Or.inl z))
        have hl : h.1.length < 1000 := Nat.not_le.mp fun z => hc (Or.inr (Or.inr z))
        have hcs : m_cs (h.1 ++ [(.inl (a, n.toNatClampNeg) : mS)], m_row h.2.1 h.1.length (fun _ => 0), h.2.2) = m_cs h + 1 := by simp [m_cs]
        have hss : m_ss (h.1 ++ [(.inl (a, n.toNatClampNeg) : mS)], m_row h.2.1 h.1.length (fun _ => 0), h.2.2) = m_ss h + n.toNatClampNeg := by simp [m_ss, m_sz]
        rw [hcs, hss] at hroom
        obtain ⟨z1, z2, z3, z4, z5, z6⟩ := Z
        have key : ∀ (ct : ClassId) (H1 : Heap) (q : Nat), ct = cT a → va_P D mCL (m_ws (m_ad b0 b) cT h ++ [(q, .inl (ct, n.toNatClampNeg, .inl (fun _ => 0)))]) H1 → va_D (m_A b0) (m_ws (m_ad b0 b) cT h ++ [(q, .inl (ct, n.toNatClampNeg, .inl (fun _ => 0)))]) → va_S (m_A b0) s.heap H1 locs →
            W p l e R s m args below meth c H1 locs (cells + 1) (slots + n.toNatClampNeg) Q (F0 m (pc + 2) ls (.ref q :: r.map (m_em (m_ad b0 b)))) := by
          intro ct H1 q hct g1 g2 g3
          subst hct
          refine m_bound fun hz => ?_
          have hq := m_newq hl g1 g2 (by have : m_cs h = h.1.length := rfl; omega)
          subst hq
          have ew := m_ws_app (ad := m_ad b0 b) (cT := cT) (h := h) (h1 := (h.1 ++ [(.inl (a, n.toNatClampNeg) : mS)], m_row h.2.1 h.1.length (fun _ => 0), h.2.2)) (s := .inl (a, n.toNatClampNeg)) rfl (fun j hj => ⟨m_row_ne hj, rfl⟩)
          rw [show m_e (m_ad b0 b) cT (.inl (a, n.toNatClampNeg)) (m_row h.2.1 h.1.length (fun _ => 0) h.1.length) (h.2.2 h.1.length) = .inl (cT a, n.toNatClampNeg, .inl (fun _ => 0)) by rw [m_row_eq]; rfl] at ew
          rw [ew] at g1
          exact kk H1 locs ls _ _ ⟨⟨g1, by simp; omega⟩, g3, z3, by rw [hcs]; omega, by rw [hss]; omega, z6⟩
        have hR : ∀ (ct : ClassId) (ty : FieldType) (i : Nat), (m_tys cT)[i]? = some (cT a, ty) → va_K D mCL (m_tys cT ++ [(ct, ty)]) s → (∀ C, ty ≠ .object C) → ct = cT a := by
          intro ct ty i hi hk2 hno
          have r1 := (hK.2 i _ hi).2
          have r2 := (hk2.2 3 (ct, ty) rfl).2
          cases ty with
          | object C => exact absurd rfl (hno C)
          | _ => exact Option.some.inj (r2.symm.trans r1)
        cases ty with
        | int =>
          have ht : (decide (a = 0) && mc_w q (.arrayClass .int)) = true := ht
          simp only [Bool.and_eq_true, decide_eq_true_eq] at ht
          obtain ⟨rfl, hw⟩ := ht
          exact va_newa (atype := .int) hx hb (C.word hw) rfl hK z1.1 (m_DD z1.2) z2 (fun q hq => Nat.le_trans C.2.2.2.2.2.2.2.2.2.2.2.2.2.1 hq) (a0 := (n.toNatClampNeg, .inl (fun _ => 0))) (fun _ => rfl) hn rfl (by show _ * 4 ≤ _; omega) (by omega) (by omega) hd
            (fun q cA H1 g0 g1 g2 g3 => key cA H1 q (hR cA .int 0 rfl g0 (fun C z => by cases z)) g1 g2 g3)
        | boolean =>
          have ht : (decide (a = 1) && mc_w q (.arrayClass .boolean)) = true := ht
          simp only [Bool.and_eq_true, decide_eq_true_eq] at ht
          obtain ⟨rfl, hw⟩ := ht
          exact va_newa (atype := .boolean) hx hb (C.word hw) rfl hK z1.1 (m_DD z1.2) z2 (fun q hq => Nat.le_trans C.2.2.2.2.2.2.2.2.2.2.2.2.2.1 hq) (a0 := (n.toNatClampNeg, .inl (fun _ => 0))) (fun _ => rfl) hn rfl (by show _ * 1 ≤ _; omega) (by omega) (by omega) hd
            (fun q cA H1 g0 g1 g2 g3 => key cA H1 q (hR cA .boolean 1 rfl g0 (fun C z => by cases z)) g1 g2 g3)
        | _ => exact absurd ht (by simp [mc_tag0])
    · cases hst
  | anewarray i =>
    simp only [m_st1] at hst
    obtain rfl : len = 3 := hlen
    split at hst
    · rename_i n r
      split at hst
      · cases hst
      · rename_i hc
        cases hst
        have hn : ¬ n < 0 := fun z => hc (Or.inl z)
        have hN : n.toNatClampNeg ≤ 100000 := Nat.not_lt.mp fun z => hc (Or.inr (Or.inl z))
        have hl : h.1.length < 1000 := Nat.not_le.mp fun z => hc (Or.inr (Or.inr z))
        have hcs : m_cs (h.1 ++ [(.inr (100, List.replicate n.toNatClampNeg none) : mS)], h.2.1, h.2.2) = m_cs h + 1 := by simp [m_cs]
        have hss : m_ss (h.1 ++ [(.inr (100, List.replicate n.toNatClampNeg none) : mS)], h.2.1, h.2.2) = m_ss h + n.toNatClampNeg := by simp [m_ss, m_sz]
        rw [hcs, hss] at hroom
        obtain ⟨z1, z2, z3, z4, z5, z6⟩ := Z
        refine va_newq hx hb C.2.2.2.2.1 (C.word ht) (va_AO.of (C.2.2.2.2.2.2.2.2.2.1 _ HA rfl)) hK z1.1 (m_DD z1.2) z2 (fun q hq => Nat.le_trans C.2.2.2.2.2.2.2.2.2.2.2.2.2.1 hq) hn rfl (by omega) (by omega) (by omega) hd (fun q cA H1 g0 g1 g2 g3 => ?_)
        have hct : cA = cT 2 := by
          obtain ⟨_, _, -, -, -, r1⟩ := (hK.2 2 _ rfl).2
          obtain ⟨_, _, -, -, -, r2⟩ := (g0.2 3 (cA, .object "NoteHouse$World") rfl).2
          exact Option.some.inj (r2.symm.trans r1)
        subst hct
        refine m_bound fun hz => ?_
        have hq := m_newq hl g1 g2 (by have : m_cs h = h.1.length := rfl; omega)
        subst hq
        have ew := m_ws_app (ad := m_ad b0 b) (cT := cT) (h := h) (h1 := (h.1 ++ [(.inr (100, List.replicate n.toNatClampNeg none) : mS)], h.2.1, h.2.2)) (s := .inr (100, List.replicate n.toNatClampNeg none)) rfl (fun j hj => ⟨rfl, rfl⟩)
        have e5 : m_e (m_ad b0 b) cT (.inr (100, List.replicate n.toNatClampNeg none)) (h.2.1 h.1.length) (h.2.2 h.1.length) = .inl (cT 2, n.toNatClampNeg, .inr (.inr (.inr (.inr (fun _ => none))))) := by
          rw [m_e_q, List.length_replicate]
          refine congrArg (fun f => (.inl (cT 2, n.toNatClampNeg, .inr (.inr (.inr (.inr f)))) : va_E)) ?_
          funext j
          rw [List.getD_eq_getElem?_getD, List.getElem?_replicate]
          split <;> rfl
        rw [e5] at ew
        rw [ew] at g1
        exact kk H1 locs ls _ _ ⟨⟨g1, by simp; omega⟩, g3, z3, by rw [hcs]; omega, by rw [hss]; omega, z6⟩
    · cases hst
  | new i =>
    simp only [m_st1] at hst
    obtain rfl : len = 3 := hlen
    split at hst
    · cases hst
    · rename_i hc
      cases hst
      have hl : h.1.length < 1000 := Nat.not_le.mp hc
      simp only [mc_tag0] at ht
      split at ht
      · rename_i Cn fl e1
        simp only [Bool.and_eq_true, decide_eq_true_eq] at ht
        obtain ⟨rfl, hw⟩ := ht
        have ha : a ≠ 100 := by have := m_CF_lt e1; omega
        obtain ⟨-, -, hin1, hin2, hok, -⟩ := HC a Cn fl e1
        have hok' : ∀ k, k < fl.length → parseFieldDescriptor (m_T fl k).2.2.1 = some (m_ty fl k) := fun k hk => by
          obtain ⟨ty, q1, -⟩ := m_okf_of (hok k hk)
          unfold m_ty
          rw [q1]
          rfl
        have hcs : m_cs (h.1 ++ [(.inr (a, List.replicate fl.length none) : mS)], m_row h.2.1 h.1.length (fun _ => 0), m_upl h.2.2 h.1.length 0) = m_cs h + 1 := by simp [m_cs]
        have hss : m_ss (h.1 ++ [(.inr (a, List.replicate fl.length none) : mS)], m_row h.2.1 h.1.length (fun _ => 0), m_upl h.2.2 h.1.length 0) = m_ss h + fl.length := by simp [m_ss, m_sz]
        rw [hcs, hss] at hroom
        obtain ⟨z1, z2, z3, z4, z5, z6⟩ := Z
        have hW := C.2.2.2.2.2.2.2.2.1
        refine va_new hx hb (C.cls HC e1) (fun _ z => z) (m_ty fl) hok' C.2.2.2.2.1 (C.word hw) (hW _ hin1.1 hin1.2) (hW _ hin2.1 hin2.2) hK z1.1 (m_DD z1.2) z2 (fun q hq => Nat.le_trans C.2.2.2.2.2.2.2.2.2.2.2.2.2.1 hq) (m_CL_of e1) (fs := (List.range (List.replicate fl.length (none : Option Nat)).length).map (fun j => m_val (m_ad b0 b) a j ((List.replicate fl.length (none : Option Nat)).getD j none) (fun _ => 0) 0)) ?_ (by omega) (by omega) hd (fun q H1 g1 g2 g3 => ?_)
        · intro j hj
          unfold vp_V
          rw [List.getD_eq_getElem?_getD, List.getElem?_map, List.getElem?_range (by simpa using hj)]
          simp only [Option.map_some, Option.getD_some]
          have hfj : fl[j]? = some fl[j] := List.getElem?_eq_getElem hj
          obtain ⟨ty, q1, q2⟩ := m_okf_of (hok j hj)
          have e9 : m_ty fl j = ty := by unfold m_ty; rw [q1]; rfl
          have e8 : m_fk a j = m_fki (m_T fl j).2.2.1 := by rw [m_fk_of e1 hfj, (m_T_of hfj).1]
          rw [e9]
          unfold m_val
          rw [e8, List.getD_eq_getElem?_getD, List.getElem?_replicate, if_pos hj]
          rcases q2 with ⟨k0, rfl⟩ | ⟨k0, rfl⟩ | ⟨k0, rfl⟩ | ⟨k0, hr⟩
          · rw [k0]; rfl
          · rw [k0]; rfl
          · rw [k0]; rfl
          · rw [k0]
            cases ty <;> first | rfl | cases hr
        · refine m_bound fun hz => ?_
          have hq := m_newq hl g1 g2 (by have : m_cs h = h.1.length := rfl; omega)
          subst hq
          have ew := m_ws_app (ad := m_ad b0 b) (cT := cT) (h := h) (h1 := (h.1 ++ [(.inr (a, List.replicate fl.length none) : mS)], m_row h.2.1 h.1.length (fun _ => 0), m_upl h.2.2 h.1.length 0)) (s := .inr (a, List.replicate fl.length none)) rfl (fun j hj => ⟨m_row_ne hj, m_upl_ne hj⟩)
          rw [show m_e (m_ad b0 b) cT (.inr (a, List.replicate fl.length none)) (m_row h.2.1 h.1.length (fun _ => 0) h.1.length) (m_upl h.2.2 h.1.length 0 h.1.length) = .inr (a, (List.range (List.replicate fl.length (none : Option Nat)).length).map (fun j => m_val (m_ad b0 b) a j ((List.replicate fl.length (none : Option Nat)).getD j none) (fun _ => 0) 0)) by rw [m_row_eq, m_upl_eq]; exact if_neg ha] at ew
          rw [ew] at g1
          exact kk H1 locs ls _ _ ⟨⟨g1, by simp; omega⟩, g3, z3, by rw [hcs]; omega, by rw [hss]; omega, z6⟩
      · cases ht
  | _ => cases hh
end MS2
