/-! A HOUSE CAN, AND GIVES -/
theorem sm_suc (n : Nat) (f : Nat → Int) : sm (n + 1) f = f 0 + sm n (fun i => f (i + 1)) := by
  induction n with
  | zero => simp only [sm]; omega
  | succ n ih => rw [sm, ih]; simp only [sm]; omega
theorem gdL_g {A : hI} {last : Int} {c : Nat} {l : List Nat} (h : A 56 (A 2 c).toNat = 1 ∧ A 2 c ≠ last) : gdL A last (c :: l) = c :: gdL A (A 2 c) l := if_pos h
theorem gdL_b {A : hI} {last : Int} {c : Nat} {l : List Nat} (h : ¬ (A 56 (A 2 c).toNat = 1 ∧ A 2 c ≠ last)) : gdL A last (c :: l) = gdL A (A 2 c) l := if_neg h
theorem gdL_len (A : hI) : ∀ (l : List Nat) (last : Int), ((gdL A last l).length : Int) = sm l.length (fun j => bI (A 56 (A 2 (l.getD j 0)).toNat = 1 ∧ A 2 (l.getD j 0) ≠ if j = 0 then last else A 2 (l.getD (j - 1) 0))) := by
  intro l
  induction l with
  | nil => intro last; rfl
  | cons c l ih =>
    intro last
    rw [List.length_cons, sm_suc]
    have e : sm l.length (fun i => bI (A 56 (A 2 ((c :: l).getD (i + 1) 0)).toNat = 1 ∧ A 2 ((c :: l).getD (i + 1) 0) ≠ if i + 1 = 0 then last else A 2 ((c :: l).getD (i + 1 - 1) 0))) = ((gdL A (A 2 c) l).length : Int) := by
      rw [ih]
      refine sm_c fun i hi => bI_c ?_
      rw [if_neg (by omega), Nat.add_sub_cancel]
      show A 56 (A 2 (l.getD i 0)).toNat = 1 ∧ A 2 (l.getD i 0) ≠ A 2 ((c :: l).getD i 0) ↔ _
      by_cases h0 : i = 0
      · subst h0; exact Iff.rfl
      · rw [if_neg h0]
        obtain ⟨k, rfl⟩ : ∃ k, i = k + 1 := ⟨i - 1, by omega⟩
        exact Iff.rfl
    rw [e]
    show _ = bI (A 56 (A 2 c).toNat = 1 ∧ A 2 c ≠ last) + _
    by_cases g : A 56 (A 2 c).toNat = 1 ∧ A 2 c ≠ last
    · rw [gdL_g g, bI_t g, List.length_cons]; omega
    · rw [gdL_b g, bI_f g]; omega
section XFER
variable {K D : Int} {A0 B0 A B A' B' : hI}
theorem gdN_len (N : WN A A B) (h : Int) : gdN A (hL A h) = (gdL A (-1) (hL A h)).length := by
  rw [gdL_len]
  unfold gdN
  refine sm_c fun j hj => bI_c ?_
  by_cases h0 : j = 0
  · rw [if_pos h0]
    have hm : (hL A h).getD j 0 ∈ hL A h := by rw [List.getD_eq_getElem?_getD, List.getElem?_eq_getElem hj]; exact List.getElem_mem hj
    have := N.nnu _ ((hL_mem N h _).mp hm).1
    exact ⟨fun z => ⟨z.1, by omega⟩, fun z => ⟨z.1, Or.inl h0⟩⟩
  · rw [if_neg h0]
    exact ⟨fun z => ⟨z.1, fun w => z.2.elim h0 (fun y => y w.symm)⟩, fun z => ⟨z.1, Or.inr (fun w => z.2 w.symm)⟩⟩
theorem ex_goodOf (R : RR K D A0 B0 A B) (F : Nat) (Bx : hI) {h : Nat} (hh : 1 ≤ h) (hh2 : h < 16) : ∀ (q i : Nat) (acc last : Int), (A 55 7).toNat - i < q → i ≤ (A 55 7).toNat → -1 ≤ last → last < 300 → f_Notes_goodOf_7 F q (iI h) (iI acc) (iI last) (iI i) (mk A Bx) = some (iI (acc + (gdL A last (hLs A h i)).length), mk A Bx) := by
  have N := R.gN
  have hn := R.gH.hn2
  intro q
  induction q with
  | zero => intro i acc last hq; omega
  | succ q ih =>
    intro i acc last hq hi hl1 hl2
    have hC := N.nc2
    have hC0 := N.nc1
    have hd := hL_held N hh hh2
    have hrg : A 61 h ≤ 400 := by rw [hd, hL_len N]; have := (sm_cnt (A 55 7).toNat (fun e => A 58 e = h)).2; omega
    rw [f_Notes_goodOf_7]
    simp only [f_Notes_goodOf_91, f_Notes_goodOf_79, f_Notes_goodOf_80, f_Notes_goodOf_85]
    by_cases hin : i = (A 55 7).toNat
    · rw [hLs_end A h (by omega)]
      simp only [gdL, List.length_nil]
      simp (disch := first | omega | (simp (disch := omega) only [uA_n]; done) | fail) only [iI_lit, iI_add, iI_sub, iI_mul, iI_neg, iI_lt, iI_le, iI_eq, zlt_t, zlt_f, zle_t, zle_f, zeq_t, zeq_f, nle_t, nle_f, iI_cl, rA, rS, rB, wA, wS, wB, mkp, mk2, uA_s, uA_n, ud_s, ud_n, bI_0, bI_1, nor_s, reduceIte, or_false, false_or, or_true, true_or, or_self, not_true_eq_false, not_false_eq_true, and_true, true_and, and_false, false_and, bI_T, bI_F, Int.reduceToNat, Nat.reduceAdd, Nat.reduceMul, Int.reduceNeg, Option.bind_some, Int.toNat_natCast, show acc + ((0 : Nat) : Int) = acc by omega]
    · by_cases h61 : A 61 h ≤ 0
      · have hem : hLs A h i = [] := by
          refine List.eq_nil_iff_forall_not_mem.mpr fun c hc => ?_
          have := List.length_pos_of_mem ((hLs_sub A h i).subset hc)
          omega
        rw [hem]
        simp only [gdL, List.length_nil]
        simp (disch := first | omega | (simp (disch := omega) only [uA_n]; done) | fail) only [iI_lit, iI_add, iI_sub, iI_mul, iI_neg, iI_lt, iI_le, iI_eq, zlt_t, zlt_f, zle_t, zle_f, zeq_t, zeq_f, nle_t, nle_f, iI_cl, rA, rS, rB, wA, wS, wB, mkp, mk2, uA_s, uA_n, ud_s, ud_n, bI_0, bI_1, nor_s, reduceIte, or_false, false_or, or_true, true_or, or_self, not_true_eq_false, not_false_eq_true, and_true, true_and, and_false, false_and, bI_T, bI_F, Int.reduceToNat, Nat.reduceAdd, Nat.reduceMul, Int.reduceNeg, Option.bind_some, Int.toNat_natCast, show acc + ((0 : Nat) : Int) = acc by omega]
      · have no := N.nor i (by omega)
        have nu := N.nnu (A 60 i).toNat (by omega)
        have nf := N.nf2
        have st := N.nsr (A 2 (A 60 i).toNat).toNat (by omega)
        have nho := N.nho (A 60 i).toNat (by omega)
        rw [hLs_st (by omega)]
        by_cases hm : A 58 (A 60 i).toNat = h
        · rw [if_pos hm]
          unfold gdL
          by_cases k1 : A 56 (A 2 (A 60 i).toNat).toNat = 1
          · by_cases k2 : A 2 (A 60 i).toNat = last
            · rw [if_neg (show ¬ (A 56 (A 2 (A 60 i).toNat).toNat = 1 ∧ A 2 (A 60 i).toNat ≠ last) from fun z => z.2 k2)]
              refine Eq.trans ?_ (ih (i + 1) acc (A 2 (A 60 i).toNat) (by omega) (by omega) (by omega) (by omega))
              simp (disch := first | omega | (simp (disch := omega) only [uA_n]; done) | fail) only [iI_lit, iI_add, iI_sub, iI_mul, iI_neg, iI_lt, iI_le, iI_eq, zlt_t, zlt_f, zle_t, zle_f, zeq_t, zeq_f, nle_t, nle_f, iI_cl, rA, rS, rB, wA, wS, wB, mkp, mk2, uA_s, uA_n, ud_s, ud_n, bI_0, bI_1, nor_s, reduceIte, or_false, false_or, or_true, true_or, or_self, not_true_eq_false, not_false_eq_true, and_true, true_and, and_false, false_and, bI_T, bI_F, Int.reduceToNat, Nat.reduceAdd, Nat.reduceMul, Int.reduceNeg, Option.bind_some, Int.toNat_natCast, show acc + (0 : Int) = acc by omega]
              rfl
            · rw [if_pos (show (A 56 (A 2 (A 60 i).toNat).toNat = 1 ∧ A 2 (A 60 i).toNat ≠ last) from ⟨k1, k2⟩)]
              have nx := ih (i + 1) (acc + 1) (A 2 (A 60 i).toNat) (by omega) (by omega) (by omega) (by omega)
              rw [show acc + (((A 60 i).toNat :: gdL A (A 2 (A 60 i).toNat) (hLs A (↑h) (i + 1))).length : Int) = acc + 1 + ((gdL A (A 2 (A 60 i).toNat) (hLs A (↑h) (i + 1))).length : Int) by rw [List.length_cons]; omega]
              refine Eq.trans ?_ nx
              simp (disch := first | omega | (simp (disch := omega) only [uA_n]; done) | fail) only [iI_lit, iI_add, iI_sub, iI_mul, iI_neg, iI_lt, iI_le, iI_eq, zlt_t, zlt_f, zle_t, zle_f, zeq_t, zeq_f, nle_t, nle_f, iI_cl, rA, rS, rB, wA, wS, wB, mkp, mk2, uA_s, uA_n, ud_s, ud_n, bI_0, bI_1, nor_s, reduceIte, or_false, false_or, or_true, true_or, or_self, not_true_eq_false, not_false_eq_true, and_true, true_and, and_false, false_and, bI_T, bI_F, Int.reduceToNat, Nat.reduceAdd, Nat.reduceMul, Int.reduceNeg, Option.bind_some, Int.toNat_natCast]
              rfl
          · rw [if_neg (show ¬ (A 56 (A 2 (A 60 i).toNat).toNat = 1 ∧ A 2 (A 60 i).toNat ≠ last) from fun z => k1 z.1)]
            refine Eq.trans ?_ (ih (i + 1) acc (A 2 (A 60 i).toNat) (by omega) (by omega) (by omega) (by omega))
            simp (disch := first | omega | (simp (disch := omega) only [uA_n]; done) | fail) only [iI_lit, iI_add, iI_sub, iI_mul, iI_neg, iI_lt, iI_le, iI_eq, zlt_t, zlt_f, zle_t, zle_f, zeq_t, zeq_f, nle_t, nle_f, iI_cl, rA, rS, rB, wA, wS, wB, mkp, mk2, uA_s, uA_n, ud_s, ud_n, bI_0, bI_1, nor_s, reduceIte, or_false, false_or, or_true, true_or, or_self, not_true_eq_false, not_false_eq_true, and_true, true_and, and_false, false_and, bI_T, bI_F, Int.reduceToNat, Nat.reduceAdd, Nat.reduceMul, Int.reduceNeg, Option.bind_some, Int.toNat_natCast, show acc + (0 : Int) = acc by omega]
            rfl
        · rw [if_neg hm]
          refine Eq.trans ?_ (ih (i + 1) acc last (by omega) (by omega) hl1 hl2)
          simp (disch := first | omega | (simp (disch := omega) only [uA_n]; done) | fail) only [iI_lit, iI_add, iI_sub, iI_mul, iI_neg, iI_lt, iI_le, iI_eq, zlt_t, zlt_f, zle_t, zle_f, zeq_t, zeq_f, nle_t, nle_f, iI_cl, rA, rS, rB, wA, wS, wB, mkp, mk2, uA_s, uA_n, ud_s, ud_n, bI_0, bI_1, nor_s, reduceIte, or_false, false_or, or_true, true_or, or_self, not_true_eq_false, not_false_eq_true, and_true, true_and, and_false, false_and, bI_T, bI_F, Int.reduceToNat, Nat.reduceAdd, Nat.reduceMul, Int.reduceNeg, Option.bind_some, Int.toNat_natCast]
          rfl
/-- how many notes count, for what goes to another house -/
def cntN (A : hI) (h : Nat) (to : Int) : Int := if to = 0 then ((gdL A (-1) (hL A h)).length : Int) else A 61 h
abbrev hCan (A : hI) (a to s : Int) : Prop := a = to ∨ s - 10 * (min (s / 10) (cntN A a.toNat to)) ≤ A 22 a.toNat
theorem cntN_rg (N : WN A A B) {h : Nat} (h1 : 1 ≤ h) (h2 : h < 16) (to : Int) : 0 ≤ cntN A h to ∧ cntN A h to ≤ 400 := by
  have hC := N.nc2
  have hd := hL_held N h1 h2
  have hl := hL_len N h
  have c := sm_cnt (A 55 7).toNat (fun e => A 58 e = h)
  unfold cntN
  split
  · have : ((gdL A (-1) (hL A h)).length : Int) ≤ (hL A h).length := by
      rw [gdL_len]
      exact (sm_cnt (hL A h).length _).2
    omega
  · omega
theorem ex_houseCan (R : RR K D A0 B0 A B) (F : Nat) (hF : 1000 ≤ F) (Bx : hI) (a to s : Int) (ha : 1 ≤ a) (ha2 : a < A 19 11) (hto : 0 ≤ to) (hto2 : to < A 19 11) (hs : 0 ≤ s) (hs2 : s ≤ 1000000) (hK : K ≤ 1000000000) : f_World_houseCan F (iI a) (iI to) (iI s) (mk A Bx) = some (iI (bI (hCan A a to s)), mk A Bx) := by
  have N := R.gN
  have hC := N.nc2
  have hn := R.gH.hn2
  have g := R.gle (h := a.toNat) (by omega)
  have cr := cntN_rg N (h := a.toNat) (by omega) (by omega) to
  have eA : ((a.toNat : Nat) : Int) = a := Int.toNat_of_nonneg (by omega)
  unfold f_World_houseCan
  by_cases h1 : a = to
  · rw [bI_t (Or.inl h1)]
    simp (disch := first | omega | (simp (disch := omega) only [uA_n]; done) | fail) only [iI_lit, iI_add, iI_sub, iI_mul, iI_neg, iI_lt, iI_le, iI_eq, zlt_t, zlt_f, zle_t, zle_f, zeq_t, zeq_f, nle_t, nle_f, iI_cl, rA, rS, rB, wA, wS, wB, mkp, mk2, uA_s, uA_n, ud_s, ud_n, bI_0, bI_1, nor_s, reduceIte, or_false, false_or, or_true, true_or, or_self, not_true_eq_false, not_false_eq_true, and_true, true_and, and_false, false_and, bI_T, bI_F, Int.reduceToNat, Nat.reduceAdd, Nat.reduceMul, Int.reduceNeg, Option.bind_some, Int.toNat_natCast]
  · have tail : ∀ m : Int, m = cntN A a.toNat to → f_World_houseCan_31 F (iI a) (iI s) (iI m) (mk A Bx) = some (iI (bI (hCan A a to s)), mk A Bx) := by
      intro m hm
      simp only [f_World_houseCan_31, f_World_houseCan_64]
      by_cases h2 : s - 10 * (min (s / 10) (cntN A a.toNat to)) ≤ A 22 a.toNat
      · rw [bI_t (Or.inr h2)]
        simp (disch := first | omega | (simp (disch := omega) only [uA_n]; done) | fail) only [iI_lit, iI_add, iI_sub, iI_mul, iI_neg, iI_lt, iI_le, iI_eq, zlt_t, zlt_f, zle_t, zle_f, zeq_t, zeq_f, nle_t, nle_f, iI_cl, rA, rS, rB, wA, wS, wB, mkp, mk2, uA_s, uA_n, ud_s, ud_n, bI_0, bI_1, nor_s, reduceIte, or_false, false_or, or_true, true_or, or_self, not_true_eq_false, not_false_eq_true, and_true, true_and, and_false, false_and, bI_T, bI_F, Int.reduceToNat, Nat.reduceAdd, Nat.reduceMul, Int.reduceNeg, Option.bind_some, Int.toNat_natCast, iI_div, ex_min]
      · rw [bI_f (fun z => z.elim h1 h2)]
        simp (disch := first | omega | (simp (disch := omega) only [uA_n]; done) | fail) only [iI_lit, iI_add, iI_sub, iI_mul, iI_neg, iI_lt, iI_le, iI_eq, zlt_t, zlt_f, zle_t, zle_f, zeq_t, zeq_f, nle_t, nle_f, iI_cl, rA, rS, rB, wA, wS, wB, mkp, mk2, uA_s, uA_n, ud_s, ud_n, bI_0, bI_1, nor_s, reduceIte, or_false, false_or, or_true, true_or, or_self, not_true_eq_false, not_false_eq_true, and_true, true_and, and_false, false_and, bI_T, bI_F, Int.reduceToNat, Nat.reduceAdd, Nat.reduceMul, Int.reduceNeg, Option.bind_some, Int.toNat_natCast, iI_div, ex_min]
    by_cases h0 : to = 0
    · have e := ex_goodOf R F Bx (h := a.toNat) (by omega) (by omega) F 0 0 (-1) (by omega) (by omega) (by omega) (by omega)
      rw [hLs_0, eA] at e
      have t := tail ((gdL A (-1) (hL A a)).length : Int) (by unfold cntN; rw [if_pos h0, eA])
      unfold f_Notes_goodOf
      subst h0
      simp (disch := first | omega | (simp (disch := omega) only [uA_n]; done) | fail) only [iI_lit, iI_add, iI_sub, iI_mul, iI_neg, iI_lt, iI_le, iI_eq, zlt_t, zlt_f, zle_t, zle_f, zeq_t, zeq_f, nle_t, nle_f, iI_cl, rA, rS, rB, wA, wS, wB, mkp, mk2, uA_s, uA_n, ud_s, ud_n, bI_0, bI_1, nor_s, reduceIte, or_false, false_or, or_true, true_or, or_self, not_true_eq_false, not_false_eq_true, and_true, true_and, and_false, false_and, bI_T, bI_F, Int.reduceToNat, Nat.reduceAdd, Nat.reduceMul, Int.reduceNeg, Option.bind_some, Int.toNat_natCast, show ((0 : Nat) : Int) = 0 from rfl] at e
      simp (disch := first | omega | (simp (disch := omega) only [uA_n]; done) | fail) only [iI_lit, iI_add, iI_sub, iI_mul, iI_neg, iI_lt, iI_le, iI_eq, zlt_t, zlt_f, zle_t, zle_f, zeq_t, zeq_f, nle_t, nle_f, iI_cl, rA, rS, rB, wA, wS, wB, mkp, mk2, uA_s, uA_n, ud_s, ud_n, bI_0, bI_1, nor_s, reduceIte, or_false, false_or, or_true, true_or, or_self, not_true_eq_false, not_false_eq_true, and_true, true_and, and_false, false_and, bI_T, bI_F, Int.reduceToNat, Nat.reduceAdd, Nat.reduceMul, Int.reduceNeg, Option.bind_some, Int.toNat_natCast, e, show (0 : Int) + ((gdL A (-1) (hL A a)).length : Int) = (gdL A (-1) (hL A a)).length by omega, t]
    · have t := tail (A 61 a.toNat) (by unfold cntN; rw [if_neg h0])
      simp (disch := first | omega | (simp (disch := omega) only [uA_n]; done) | fail) only [iI_lit, iI_add, iI_sub, iI_mul, iI_neg, iI_lt, iI_le, iI_eq, zlt_t, zlt_f, zle_t, zle_f, zeq_t, zeq_f, nle_t, nle_f, iI_cl, rA, rS, rB, wA, wS, wB, mkp, mk2, uA_s, uA_n, ud_s, ud_n, bI_0, bI_1, nor_s, reduceIte, or_false, false_or, or_true, true_or, or_self, not_true_eq_false, not_false_eq_true, and_true, true_and, and_false, false_and, bI_T, bI_F, Int.reduceToNat, Nat.reduceAdd, Nat.reduceMul, Int.reduceNeg, Option.bind_some, Int.toNat_natCast, t]
theorem em_can (R : RR K D A0 B0 A B) (F : Nat) (hF : 1000 ≤ F) (Ax : hI) (a to s : Int) (ha : 1 ≤ a) (ha2 : a < A 19 11) (hto : 0 ≤ to) (hto2 : to < A 19 11) (hs : 0 ≤ s) (hs2 : s ≤ 1000000) (hK : K ≤ 1000000000) : ∃ B2 : hI, f_m_can F (iI a) (iI to) (iI s) (mk Ax B) = some (iI (bI (hCan A a to s)), mk Ax B2) ∧ sc3 B B2 := by
  have N := R.gN
  have hC := N.nc2
  have hn := R.gH.hn2
  have g := R.gle (h := a.toNat) (by omega)
  have cr := cntN_rg N (h := a.toNat) (by omega) (by omega) to
  have eA : ((a.toNat : Nat) : Int) = a := Int.toNat_of_nonneg (by omega)
  unfold f_m_can
  by_cases h1 : a = to
  · rw [bI_t (Or.inl h1)]
    exact ⟨B, by simp (disch := first | omega | (simp (disch := omega) only [uA_n]; done) | fail) only [iI_lit, iI_add, iI_sub, iI_mul, iI_neg, iI_lt, iI_le, iI_eq, zlt_t, zlt_f, zle_t, zle_f, zeq_t, zeq_f, nle_t, nle_f, iI_cl, rA, rS, rB, wA, wS, wB, mkp, mk2, uA_s, uA_n, ud_s, ud_n, bI_0, bI_1, nor_s, reduceIte, or_false, false_or, or_true, true_or, or_self, not_true_eq_false, not_false_eq_true, and_true, true_and, and_false, false_and, bI_T, bI_F, Int.reduceToNat, Nat.reduceAdd, Nat.reduceMul, Int.reduceNeg, Option.bind_some, Int.toNat_natCast], sc3.rf B⟩
  · obtain ⟨B2, c1, c2, c3, c4⟩ := em_collect R F hF Ax a ha (by omega)
    refine ⟨B2, ?_, c2⟩
    have hg : B2 412 a.toNat = A 22 a.toNat := by rw [c2.1 412 (by omega), R.gH.hg _ (by omega)]
    have tail : ∀ m : Int, m = cntN A a.toNat to → f_m_can_37 F (iI a) (iI s) (iI m) (mk Ax B2) = some (iI (bI (hCan A a to s)), mk Ax B2) := by
      intro m hm
      simp only [f_m_can_37, f_m_can_57, f_m_can_80]
      by_cases h3 : s / 10 ≤ m <;> by_cases h2 : s - 10 * (min (s / 10) (cntN A a.toNat to)) ≤ A 22 a.toNat
      · rw [bI_t (Or.inr h2)]
        simp (disch := first | omega | (simp (disch := omega) only [uA_n]; done) | fail) only [iI_lit, iI_add, iI_sub, iI_mul, iI_neg, iI_lt, iI_le, iI_eq, zlt_t, zlt_f, zle_t, zle_f, zeq_t, zeq_f, nle_t, nle_f, iI_cl, rA, rS, rB, wA, wS, wB, mkp, mk2, uA_s, uA_n, ud_s, ud_n, bI_0, bI_1, nor_s, reduceIte, or_false, false_or, or_true, true_or, or_self, not_true_eq_false, not_false_eq_true, and_true, true_and, and_false, false_and, bI_T, bI_F, Int.reduceToNat, Nat.reduceAdd, Nat.reduceMul, Int.reduceNeg, Option.bind_some, Int.toNat_natCast, iI_div, em_hs, hg]
      · rw [bI_f (fun z => z.elim h1 h2)]
        simp (disch := first | omega | (simp (disch := omega) only [uA_n]; done) | fail) only [iI_lit, iI_add, iI_sub, iI_mul, iI_neg, iI_lt, iI_le, iI_eq, zlt_t, zlt_f, zle_t, zle_f, zeq_t, zeq_f, nle_t, nle_f, iI_cl, rA, rS, rB, wA, wS, wB, mkp, mk2, uA_s, uA_n, ud_s, ud_n, bI_0, bI_1, nor_s, reduceIte, or_false, false_or, or_true, true_or, or_self, not_true_eq_false, not_false_eq_true, and_true, true_and, and_false, false_and, bI_T, bI_F, Int.reduceToNat, Nat.reduceAdd, Nat.reduceMul, Int.reduceNeg, Option.bind_some, Int.toNat_natCast, iI_div, em_hs, hg]
      · rw [bI_t (Or.inr h2)]
        simp (disch := first | omega | (simp (disch := omega) only [uA_n]; done) | fail) only [iI_lit, iI_add, iI_sub, iI_mul, iI_neg, iI_lt, iI_le, iI_eq, zlt_t, zlt_f, zle_t, zle_f, zeq_t, zeq_f, nle_t, nle_f, iI_cl, rA, rS, rB, wA, wS, wB, mkp, mk2, uA_s, uA_n, ud_s, ud_n, bI_0, bI_1, nor_s, reduceIte, or_false, false_or, or_true, true_or, or_self, not_true_eq_false, not_false_eq_true, and_true, true_and, and_false, false_and, bI_T, bI_F, Int.reduceToNat, Nat.reduceAdd, Nat.reduceMul, Int.reduceNeg, Option.bind_some, Int.toNat_natCast, iI_div, em_hs, hg]
      · rw [bI_f (fun z => z.elim h1 h2)]
        simp (disch := first | omega | (simp (disch := omega) only [uA_n]; done) | fail) only [iI_lit, iI_add, iI_sub, iI_mul, iI_neg, iI_lt, iI_le, iI_eq, zlt_t, zlt_f, zle_t, zle_f, zeq_t, zeq_f, nle_t, nle_f, iI_cl, rA, rS, rB, wA, wS, wB, mkp, mk2, uA_s, uA_n, ud_s, ud_n, bI_0, bI_1, nor_s, reduceIte, or_false, false_or, or_true, true_or, or_self, not_true_eq_false, not_false_eq_true, and_true, true_and, and_false, false_and, bI_T, bI_F, Int.reduceToNat, Nat.reduceAdd, Nat.reduceMul, Int.reduceNeg, Option.bind_some, Int.toNat_natCast, iI_div, em_hs, hg]
    by_cases h0 : to = 0
    · have t := tail (gdN A (hL A a)) (by unfold cntN; rw [if_pos h0, gdN_len N, eA])
      subst h0
      simp (disch := first | omega | (simp (disch := omega) only [uA_n]; done) | fail) only [iI_lit, iI_add, iI_sub, iI_mul, iI_neg, iI_lt, iI_le, iI_eq, zlt_t, zlt_f, zle_t, zle_f, zeq_t, zeq_f, nle_t, nle_f, iI_cl, rA, rS, rB, wA, wS, wB, mkp, mk2, uA_s, uA_n, ud_s, ud_n, bI_0, bI_1, nor_s, reduceIte, or_false, false_or, or_true, true_or, or_self, not_true_eq_false, not_false_eq_true, and_true, true_and, and_false, false_and, bI_T, bI_F, Int.reduceToNat, Nat.reduceAdd, Nat.reduceMul, Int.reduceNeg, Option.bind_some, Int.toNat_natCast, c1, t]
    · have hd := hL_held N (h := a.toNat) (by omega) (by omega)
      rw [eA] at hd
      have t := tail (B2 304 5) (by unfold cntN; rw [if_neg h0, c3, hd])
      simp (disch := first | omega | (simp (disch := omega) only [uA_n]; done) | fail) only [iI_lit, iI_add, iI_sub, iI_mul, iI_neg, iI_lt, iI_le, iI_eq, zlt_t, zlt_f, zle_t, zle_f, zeq_t, zeq_f, nle_t, nle_f, iI_cl, rA, rS, rB, wA, wS, wB, mkp, mk2, uA_s, uA_n, ud_s, ud_n, bI_0, bI_1, nor_s, reduceIte, or_false, false_or, or_true, true_or, or_self, not_true_eq_false, not_false_eq_true, and_true, true_and, and_false, false_and, bI_T, bI_F, Int.reduceToNat, Nat.reduceAdd, Nat.reduceMul, Int.reduceNeg, Option.bind_some, Int.toNat_natCast, c1, t]
/-- a house gives: notes, then gold -/
theorem RR.xfer (R : RR K D A0 B0 A B) (F : Nat) (hF : 1000 ≤ F) (Ax Bx : hI) {a : Nat} {to s : Int} (ha : 1 ≤ a) (ha2 : (a : Int) < A 19 11) (hto : 0 ≤ to) (hto2 : to < A 19 11) (hs : 0 ≤ s) (hs2 : s ≤ 1000000) (hK : K ≤ 1000000000) (hcan : hCan A a to s) : ∃ A' B' : hI, f_World_transfer F (iI a) (iI to) (iI s) (mk A Bx) = some ((), mk A' Bx) ∧ f_m_gives F (iI a) (iI to) (iI s) (mk Ax B) = some ((), mk Ax B') ∧ RR K D A0 B0 A' B' ∧ (∀ k : Nat, ¬ (3 ≤ k ∧ k ≤ 6) ∧ k ≠ 22 ∧ ¬ (55 ≤ k ∧ k ≤ 61) → A' k = A k) := by
  have hn := R.gH.hn2
  unfold f_World_transfer f_m_gives
  by_cases h1 : (a : Int) = to
  · exact ⟨A, B, by simp (disch := first | omega | (simp (disch := omega) only [uA_n]; done) | fail) only [iI_lit, iI_add, iI_sub, iI_mul, iI_neg, iI_lt, iI_le, iI_eq, zlt_t, zlt_f, zle_t, zle_f, zeq_t, zeq_f, nle_t, nle_f, iI_cl, rA, rS, rB, wA, wS, wB, mkp, mk2, uA_s, uA_n, ud_s, ud_n, bI_0, bI_1, nor_s, reduceIte, or_false, false_or, or_true, true_or, or_self, not_true_eq_false, not_false_eq_true, and_true, true_and, and_false, false_and, bI_T, bI_F, Int.reduceToNat, Nat.reduceAdd, Nat.reduceMul, Int.reduceNeg, Option.bind_some, Int.toNat_natCast], by simp (disch := first | omega | (simp (disch := omega) only [uA_n]; done) | fail) only [iI_lit, iI_add, iI_sub, iI_mul, iI_neg, iI_lt, iI_le, iI_eq, zlt_t, zlt_f, zle_t, zle_f, zeq_t, zeq_f, nle_t, nle_f, iI_cl, rA, rS, rB, wA, wS, wB, mkp, mk2, uA_s, uA_n, ud_s, ud_n, bI_0, bI_1, nor_s, reduceIte, or_false, false_or, or_true, true_or, or_self, not_true_eq_false, not_false_eq_true, and_true, true_and, and_false, false_and, bI_T, bI_F, Int.reduceToNat, Nat.reduceAdd, Nat.reduceMul, Int.reduceNeg, Option.bind_some, Int.toNat_natCast], R, fun _ _ => rfl⟩
  · have hc : s - 10 * (min (s / 10) (cntN A a to)) ≤ A 22 a := by have := hcan.resolve_left h1; rw [Int.toNat_natCast] at this; exact this
    -- from the good copies on
    have body : ∀ A1 B1 : hI, RR K D A0 B0 A1 B1 → A1 19 = A 19 → A1 22 = A 22 → (to = 0 → gud A1 a) → ((hL A1 a).length : Int) = cntN A a to → ∃ A' B' : hI, f_World_transfer_45 F (iI a) (iI to) (iI s) (iI (s / 10)) (mk A1 Bx) = some ((), mk A' Bx) ∧ f_m_gives_40 F (iI a) (iI to) (iI s) (mk Ax B1) = some ((), mk Ax B') ∧ RR K D A0 B0 A' B' ∧ (∀ k : Nat, k ≠ 3 ∧ k ≠ 22 ∧ ¬ (55 ≤ k ∧ k ≤ 59) ∧ k ≠ 61 → A' k = A1 k) := by
      intro A1 B1 R1 e19 e22 hgd hln
      have N := R1.gN
      have hC := N.nc2
      have hd := hL_held N (h := a) (by omega) (by omega)
      have hl4 : (hL A1 a).length ≤ 400 := by have := hL_len N a; have := (sm_cnt (A1 55 7).toNat (fun e => A1 58 e = a)).2; omega
      obtain ⟨B2, c1, c2, c3, c4⟩ := em_collect R1 F hF Ax a (by omega) (by omega)
      have R2 := R1.x3 c2
      have hnd := pw_nd (hL_pw N a)
      have ok : psOK to a A1 A1 (hL A1 a) := ⟨fun c hc => (hL_mem N a c).mp hc, fun h0 => hgd h0⟩
      have hto3 : to < A1 19 11 := by rw [e19]; exact hto2
      have x := ex_pass N F Bx (h := a) (to := to) (by omega) (by omega) hto hto3 (by rw [e19]; exact hn) F 0 (min (s / 10) (hL A1 a).length).toNat A1 B2 (by omega) (by omega) (by omega) R2 ⟨rfl, rfl, rfl, rfl, rfl, rfl⟩ (fun _ _ => rfl) (by rw [hLs_0]; exact ok)
      have y := em_pass N F Ax (h := a) (to := to) (by omega) (by omega) hto hto3 (by rw [e19]; exact hn) (hL A1 a) hl4 hnd F 0 s A1 B2 (by omega) (by omega) hs hs2 R2 ⟨rfl, rfl, rfl, rfl, rfl, rfl⟩ (by rw [List.drop_zero]; exact ok) c3 (fun j hj => (c4 j hj).1)
      rw [hLs_0] at x
      rw [List.drop_zero] at y
      have et : (hL A1 a).take (s / 10).toNat = (hL A1 a).take (min (s / 10) (hL A1 a).length).toNat := by
        by_cases hq : s / 10 ≤ (hL A1 a).length
        · rw [show (min (s / 10) ((hL A1 a).length : Int)).toNat = (s / 10).toNat by omega]
        · rw [List.take_of_length_le (by omega), List.take_of_length_le (by omega)]
      rw [et] at y
      have okt : psOK to a A1 A1 ((hL A1 a).take (min (s / 10) (hL A1 a).length).toNat) := ⟨fun c hc => ok.1 c (List.take_subset _ _ hc), fun h0 => ⟨fun c hc => (ok.2 h0).1 c (List.take_subset _ _ hc), fun c d hc hd => (ok.2 h0).2 c d (List.take_subset _ _ hc) (List.take_subset _ _ hd)⟩⟩
      obtain ⟨r1, r2, r3⟩ := RR.psL (to := to) (h := a) (by omega) hto N ((hL A1 a).take (min (s / 10) (hL A1 a).length).toNat) R2 ⟨rfl, rfl, rfl, rfl, rfl, rfl⟩ hto3 (hnd.sublist (List.take_sublist _ _)) okt
      generalize hX : xPsL to A1 ((hL A1 a).take (min (s / 10) (hL A1 a).length).toNat) = X at *
      generalize hY : mPsL to B2 ((hL A1 a).take (min (s / 10) (hL A1 a).length).toNat) = Y at *
      generalize hn1 : min (s / 10) ((hL A1 a).length : Int) = n at *
      have en : (((hL A1 a).length : Int) - ((0 : Nat) : Int)) = (hL A1 a).length := by omega
      rw [en, hn1] at y
      have hnn : 0 ≤ n ∧ n ≤ 400 ∧ 10 * n ≤ s := by omega
      have x22 : X 22 = A 22 := by rw [r2.2.2.2.2.2, e22]
      have x19 : X 19 = A 19 := by rw [r2.2.2.2.2.1, e19]
      have ga := r1.gle (h := a) (by rw [x19]; exact ha2)
      have gb := r1.gle (h := to.toNat) (by rw [x19]; omega)
      rw [x22] at ga gb
      have hv : s - 10 * n ≤ A 22 a := by rw [← hn1, hln]; exact hc
      have hga := r1.gH.hg a (by omega)
      have hgb := r1.gH.hg to.toNat (by omega)
      have hg := r1.gold (a := a) (b := to.toNat) (v := s - 10 * n) (A' := uA (uA X 22 a (X 22 a - (s - 10 * n))) 22 to.toNat (uA X 22 a (X 22 a - (s - 10 * n)) 22 to.toNat + (s - 10 * n))) (B' := uA (uA Y 412 a (Y 412 a - (s - 10 * n))) 412 to.toNat (uA Y 412 a (Y 412 a - (s - 10 * n)) 412 to.toNat + (s - 10 * n))) (by rw [x19]; exact ha2) (by rw [x19]; omega) (by omega) (by omega) (by rw [x22]; exact hv) (by unfold gM; rw [uA_s, uA_s]) (by unfold gM; rw [uA_s, uA_s]) (fun k hk => by rw [uA_n hk, uA_n hk]) (fun k hk => by rw [uA_n hk, uA_n hk])
      refine ⟨_, _, ?_, ?_, hg, fun k hk => by rw [uA_n (by omega), uA_n (by omega)]; exact r3 k (by omega)⟩
      · unfold f_World_transfer_45 f_Notes_pass
        have e1 : ((n.toNat : Nat) : Int) = n := Int.toNat_of_nonneg hnn.1
        rw [e1] at x
        have x' : f_Notes_pass_6 F F (iI a) (iI to) (iI n) (iI 0) (mk A1 Bx) = some ((), mk X Bx) := x
        simp only [f_World_transfer_72, f_World_transfer_110]
        simp (disch := first | omega | (simp (disch := omega) only [uA_n]; done) | fail) only [iI_lit, iI_add, iI_sub, iI_mul, iI_neg, iI_lt, iI_le, iI_eq, zlt_t, zlt_f, zle_t, zle_f, zeq_t, zeq_f, nle_t, nle_f, iI_cl, rA, rS, rB, wA, wS, wB, mkp, mk2, uA_s, uA_n, ud_s, ud_n, bI_0, bI_1, nor_s, reduceIte, or_false, false_or, or_true, true_or, or_self, not_true_eq_false, not_false_eq_true, and_true, true_and, and_false, false_and, bI_T, bI_F, Int.reduceToNat, Nat.reduceAdd, Nat.reduceMul, Int.reduceNeg, Option.bind_some, Int.toNat_natCast, ex_min, hd, hn1, x']
      · unfold f_m_gives_40
        have y' : f_m_gives_50 F F (iI a) (iI to) (iI s) (iI 0) (mk Ax B2) = f_m_gives_87 F (iI a) (iI to) (iI (s - 10 * n)) (mk Ax Y) := y
        simp only [f_m_gives_87, f_m_gives_127] at y' ⊢
        simp (disch := first | omega | (simp (disch := omega) only [uA_n]; done) | fail) only [iI_lit, iI_add, iI_sub, iI_mul, iI_neg, iI_lt, iI_le, iI_eq, zlt_t, zlt_f, zle_t, zle_f, zeq_t, zeq_f, nle_t, nle_f, iI_cl, rA, rS, rB, wA, wS, wB, mkp, mk2, uA_s, uA_n, ud_s, ud_n, bI_0, bI_1, nor_s, reduceIte, or_false, false_or, or_true, true_or, or_self, not_true_eq_false, not_false_eq_true, and_true, true_and, and_false, false_and, bI_T, bI_F, Int.reduceToNat, Nat.reduceAdd, Nat.reduceMul, Int.reduceNeg, Option.bind_some, Int.toNat_natCast, c1, y', zH]
    by_cases h0 : to = 0
    · obtain ⟨A1, B1, f1, f2, R1, g, k1, k2, gd, hl⟩ := R.finds F hF Ax Bx ha ha2
      obtain ⟨A', B', b1, b2, b3, b4⟩ := body A1 B1 R1 g.2.2.2.2.2 (k1 22 (by omega)) (fun _ => gd) (by rw [hl]; unfold cntN; rw [if_pos h0])
      refine ⟨A', B', ?_, ?_, b3, fun k hk => (b4 k (by omega)).trans (k1 k (by omega))⟩
      · subst h0
        simp (disch := first | omega | (simp (disch := omega) only [uA_n]; done) | fail) only [iI_lit, iI_add, iI_sub, iI_mul, iI_neg, iI_lt, iI_le, iI_eq, zlt_t, zlt_f, zle_t, zle_f, zeq_t, zeq_f, nle_t, nle_f, iI_cl, rA, rS, rB, wA, wS, wB, mkp, mk2, uA_s, uA_n, ud_s, ud_n, bI_0, bI_1, nor_s, reduceIte, or_false, false_or, or_true, true_or, or_self, not_true_eq_false, not_false_eq_true, and_true, true_and, and_false, false_and, bI_T, bI_F, Int.reduceToNat, Nat.reduceAdd, Nat.reduceMul, Int.reduceNeg, Option.bind_some, Int.toNat_natCast, f1, iI_div, b1]
      · subst h0
        simp (disch := first | omega | (simp (disch := omega) only [uA_n]; done) | fail) only [iI_lit, iI_add, iI_sub, iI_mul, iI_neg, iI_lt, iI_le, iI_eq, zlt_t, zlt_f, zle_t, zle_f, zeq_t, zeq_f, nle_t, nle_f, iI_cl, rA, rS, rB, wA, wS, wB, mkp, mk2, uA_s, uA_n, ud_s, ud_n, bI_0, bI_1, nor_s, reduceIte, or_false, false_or, or_true, true_or, or_self, not_true_eq_false, not_false_eq_true, and_true, true_and, and_false, false_and, bI_T, bI_F, Int.reduceToNat, Nat.reduceAdd, Nat.reduceMul, Int.reduceNeg, Option.bind_some, Int.toNat_natCast, f2, b2]
    · obtain ⟨A', B', b1, b2, b3, b4⟩ := body A B R rfl rfl (fun z => absurd z h0) (by unfold cntN; rw [if_neg h0, hL_held R.gN (h := a) (by omega) (by omega)])
      refine ⟨A', B', ?_, ?_, b3, fun k hk => b4 k (by omega)⟩
      · simp (disch := first | omega | (simp (disch := omega) only [uA_n]; done) | fail) only [iI_lit, iI_add, iI_sub, iI_mul, iI_neg, iI_lt, iI_le, iI_eq, zlt_t, zlt_f, zle_t, zle_f, zeq_t, zeq_f, nle_t, nle_f, iI_cl, rA, rS, rB, wA, wS, wB, mkp, mk2, uA_s, uA_n, ud_s, ud_n, bI_0, bI_1, nor_s, reduceIte, or_false, false_or, or_true, true_or, or_self, not_true_eq_false, not_false_eq_true, and_true, true_and, and_false, false_and, bI_T, bI_F, Int.reduceToNat, Nat.reduceAdd, Nat.reduceMul, Int.reduceNeg, Option.bind_some, Int.toNat_natCast, iI_div, b1]
      · simp (disch := first | omega | (simp (disch := omega) only [uA_n]; done) | fail) only [iI_lit, iI_add, iI_sub, iI_mul, iI_neg, iI_lt, iI_le, iI_eq, zlt_t, zlt_f, zle_t, zle_f, zeq_t, zeq_f, nle_t, nle_f, iI_cl, rA, rS, rB, wA, wS, wB, mkp, mk2, uA_s, uA_n, ud_s, ud_n, bI_0, bI_1, nor_s, reduceIte, or_false, false_or, or_true, true_or, or_self, not_true_eq_false, not_false_eq_true, and_true, true_and, and_false, false_and, bI_T, bI_F, Int.reduceToNat, Nat.reduceAdd, Nat.reduceMul, Int.reduceNeg, Option.bind_some, Int.toNat_natCast, b2]
end XFER
