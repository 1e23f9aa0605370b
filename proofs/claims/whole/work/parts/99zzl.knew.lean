/-! CALLS: knew -/
section
variable {K D : Int} {A0 B0 A B : hI} {i : Nat} (F : Nat)
theorem c_knew (h : Inv i A B) (hF : 1000 ≤ F) (v1 v2 v3 : Int32) : CP i A B (f_x_knew F v1 v2 v3) (f_m_knew F v1 v2 v3) := by
  obtain ⟨z, za, zb, rfl⟩ : ∃ z : Int, -2147483648 ≤ z ∧ z < 2147483648 ∧ v1 = iI z := ⟨_, (i32rg v1).1, (i32rg v1).2, iI_of v1⟩
  obtain ⟨w, wa, wb, rfl⟩ : ∃ z : Int, -2147483648 ≤ z ∧ z < 2147483648 ∧ v2 = iI z := ⟨_, (i32rg v2).1, (i32rg v2).2, iI_of v2⟩
  obtain ⟨d, da, db, rfl⟩ : ∃ z : Int, -2147483648 ≤ z ∧ z < 2147483648 ∧ v3 = iI z := ⟨_, (i32rg v3).1, (i32rg v3).2, iI_of v3⟩
  have R := h.rr
  have hn2 := R.gH.hn2
  have d1 := R.gD.dd1
  have d2 := R.gD.dd2
  have d3 := R.gD.dd3
  have ed : ∀ Ax : hI, f_m_in F (iI d) (0 : Int32) ((mk Ax B).1 305 (0 : Int32).toNatClampNeg) (mk Ax B) = some (iI (bI (0 ≤ d ∧ d ≤ A 16 9)), mk Ax B) := fun Ax => by
    refine Eq.trans ?_ (em_in F d 0 (A 16 9) (mk Ax B) da db (by omega) (by omega) (by omega) (by omega))
    simp (disch := first | omega | (simp (disch := omega) only [uA_n]; done) | fail) only [iI_lit, iI_add, iI_sub, iI_mul, iI_neg, iI_lt, iI_le, iI_eq, zlt_t, zlt_f, zle_t, zle_f, zeq_t, zeq_f, nle_t, nle_f, iI_cl, rA, rS, rB, wA, wS, wB, mkp, mk2, uA_s, uA_n, ud_s, ud_n, bI_0, bI_1, nor_s, ↓reduceIte, or_false, false_or, or_true, true_or, or_self, not_true_eq_false, not_false_eq_true, and_true, true_and, and_false, false_and, bI_T, bI_F, Int.reduceToNat, Nat.reduceAdd, Nat.reduceMul, Int.reduceNeg, Option.bind_some, Int.toNat_natCast, dS, d3]
  have ew := fun Ax => em_in F w 0 2 (mk Ax B) wa wb (by omega) (by omega) (by omega) (by omega)
  by_cases c0 : 0 ≤ z ∧ z < A 19 11
  rotate_left
  · refine cp_no F h (v := -3) (by omega) (by omega) (fun Bx => ?_) (fun Ax => ?_)
    · unfold f_x_knew
      exact (askF (ex_isHouse F R Bx z za zb) c0).trans rfl
    · unfold f_m_knew
      exact (askF (em_isHouse F R Ax z za zb) c0).trans rfl
  by_cases c1 : 0 ≤ d ∧ d ≤ A 16 9
  rotate_left
  · refine cp_no F h (v := -3) (by omega) (by omega) (fun Bx => ?_) (fun Ax => ?_)
    · unfold f_x_knew
      refine (askT (ex_isHouse F R Bx z za zb) c0).trans ?_
      by_cases e : d < 0
      · exact (if_pos (by simp (disch := first | omega | (simp (disch := omega) only [uA_n]; done) | fail) only [iI_lit, iI_add, iI_sub, iI_mul, iI_neg, iI_lt, iI_le, iI_eq, zlt_t, zlt_f, zle_t, zle_f, zeq_t, zeq_f, nle_t, nle_f, iI_cl, rA, rS, rB, wA, wS, wB, mkp, mk2, uA_s, uA_n, ud_s, ud_n, bI_0, bI_1, nor_s, ↓reduceIte, or_false, false_or, or_true, true_or, or_self, not_true_eq_false, not_false_eq_true, and_true, true_and, and_false, false_and, bI_T, bI_F, Int.reduceToNat, Nat.reduceAdd, Nat.reduceMul, Int.reduceNeg, Option.bind_some, Int.toNat_natCast])).trans rfl
      · refine (if_neg (by simp (disch := first | omega | (simp (disch := omega) only [uA_n]; done) | fail) only [iI_lit, iI_add, iI_sub, iI_mul, iI_neg, iI_lt, iI_le, iI_eq, zlt_t, zlt_f, zle_t, zle_f, zeq_t, zeq_f, nle_t, nle_f, iI_cl, rA, rS, rB, wA, wS, wB, mkp, mk2, uA_s, uA_n, ud_s, ud_n, bI_0, bI_1, nor_s, ↓reduceIte, or_false, false_or, or_true, true_or, or_self, not_true_eq_false, not_false_eq_true, and_true, true_and, and_false, false_and, bI_T, bI_F, Int.reduceToNat, Nat.reduceAdd, Nat.reduceMul, Int.reduceNeg, Option.bind_some, Int.toNat_natCast])).trans ?_
        exact (if_neg (by simp (disch := first | omega | (simp (disch := omega) only [uA_n]; done) | fail) only [iI_lit, iI_add, iI_sub, iI_mul, iI_neg, iI_lt, iI_le, iI_eq, zlt_t, zlt_f, zle_t, zle_f, zeq_t, zeq_f, nle_t, nle_f, iI_cl, rA, rS, rB, wA, wS, wB, mkp, mk2, uA_s, uA_n, ud_s, ud_n, bI_0, bI_1, nor_s, ↓reduceIte, or_false, false_or, or_true, true_or, or_self, not_true_eq_false, not_false_eq_true, and_true, true_and, and_false, false_and, bI_T, bI_F, Int.reduceToNat, Nat.reduceAdd, Nat.reduceMul, Int.reduceNeg, Option.bind_some, Int.toNat_natCast])).trans rfl
    · unfold f_m_knew
      refine (askT (em_isHouse F R Ax z za zb) c0).trans ?_
      exact (askF (ed Ax) c1).trans rfl
  obtain ⟨n, rfl⟩ : ∃ n : Nat, z = n := ⟨z.toNat, by omega⟩
  have hs := R.hsv0 (h := n) c0.2 c1.1 (by omega)
  by_cases c2 : 0 ≤ w ∧ w ≤ 2
  rotate_left
  · refine cp_no F h (v := -7) (by omega) (by omega) (fun Bx => ?_) (fun Ax => ?_)
    · unfold f_x_knew
      refine (askT (ex_isHouse F R Bx n za zb) c0).trans ?_
      refine (if_neg (by simp (disch := first | omega | (simp (disch := omega) only [uA_n]; done) | fail) only [iI_lit, iI_add, iI_sub, iI_mul, iI_neg, iI_lt, iI_le, iI_eq, zlt_t, zlt_f, zle_t, zle_f, zeq_t, zeq_f, nle_t, nle_f, iI_cl, rA, rS, rB, wA, wS, wB, mkp, mk2, uA_s, uA_n, ud_s, ud_n, bI_0, bI_1, nor_s, ↓reduceIte, or_false, false_or, or_true, true_or, or_self, not_true_eq_false, not_false_eq_true, and_true, true_and, and_false, false_and, bI_T, bI_F, Int.reduceToNat, Nat.reduceAdd, Nat.reduceMul, Int.reduceNeg, Option.bind_some, Int.toNat_natCast])).trans ?_
      refine (if_pos (by simp (disch := first | omega | (simp (disch := omega) only [uA_n]; done) | fail) only [iI_lit, iI_add, iI_sub, iI_mul, iI_neg, iI_lt, iI_le, iI_eq, zlt_t, zlt_f, zle_t, zle_f, zeq_t, zeq_f, nle_t, nle_f, iI_cl, rA, rS, rB, wA, wS, wB, mkp, mk2, uA_s, uA_n, ud_s, ud_n, bI_0, bI_1, nor_s, ↓reduceIte, or_false, false_or, or_true, true_or, or_self, not_true_eq_false, not_false_eq_true, and_true, true_and, and_false, false_and, bI_T, bI_F, Int.reduceToNat, Nat.reduceAdd, Nat.reduceMul, Int.reduceNeg, Option.bind_some, Int.toNat_natCast])).trans ?_
      refine (if_neg (by simp (disch := first | omega | (simp (disch := omega) only [uA_n]; done) | fail) only [iI_lit, iI_add, iI_sub, iI_mul, iI_neg, iI_lt, iI_le, iI_eq, zlt_t, zlt_f, zle_t, zle_f, zeq_t, zeq_f, nle_t, nle_f, iI_cl, rA, rS, rB, wA, wS, wB, mkp, mk2, uA_s, uA_n, ud_s, ud_n, bI_0, bI_1, nor_s, ↓reduceIte, or_false, false_or, or_true, true_or, or_self, not_true_eq_false, not_false_eq_true, and_true, true_and, and_false, false_and, bI_T, bI_F, Int.reduceToNat, Nat.reduceAdd, Nat.reduceMul, Int.reduceNeg, Option.bind_some, Int.toNat_natCast])).trans ?_
      refine (if_neg (by simp (disch := first | omega | (simp (disch := omega) only [uA_n]; done) | fail) only [iI_lit, iI_add, iI_sub, iI_mul, iI_neg, iI_lt, iI_le, iI_eq, zlt_t, zlt_f, zle_t, zle_f, zeq_t, zeq_f, nle_t, nle_f, iI_cl, rA, rS, rB, wA, wS, wB, mkp, mk2, uA_s, uA_n, ud_s, ud_n, bI_0, bI_1, nor_s, ↓reduceIte, or_false, false_or, or_true, true_or, or_self, not_true_eq_false, not_false_eq_true, and_true, true_and, and_false, false_and, bI_T, bI_F, Int.reduceToNat, Nat.reduceAdd, Nat.reduceMul, Int.reduceNeg, Option.bind_some, Int.toNat_natCast])).trans ?_
      exact (if_neg (by simp (disch := first | omega | (simp (disch := omega) only [uA_n]; done) | fail) only [iI_lit, iI_add, iI_sub, iI_mul, iI_neg, iI_lt, iI_le, iI_eq, zlt_t, zlt_f, zle_t, zle_f, zeq_t, zeq_f, nle_t, nle_f, iI_cl, rA, rS, rB, wA, wS, wB, mkp, mk2, uA_s, uA_n, ud_s, ud_n, bI_0, bI_1, nor_s, ↓reduceIte, or_false, false_or, or_true, true_or, or_self, not_true_eq_false, not_false_eq_true, and_true, true_and, and_false, false_and, bI_T, bI_F, Int.reduceToNat, Nat.reduceAdd, Nat.reduceMul, Int.reduceNeg, Option.bind_some, Int.toNat_natCast])).trans rfl
    · unfold f_m_knew
      refine (askT (em_isHouse F R Ax n za zb) c0).trans ?_
      refine (askT (ed Ax) c1).trans ?_
      exact (askF (ew Ax) c2).trans rfl
  have xp : ∀ Bx : hI, f_x_knew F (iI (n : Int)) (iI w) (iI d) (mk A Bx) = (if iI w = 0 then ((f_World_heardFailures F (iI (n : Int)) (iI d) (mk A Bx)).bind fun q2 => some (q2.1, q2.2)) else (if iI w = 1 then ((f_World_heardSheet F (iI (n : Int)) (iI d) (mk A Bx)).bind fun q3 => some (q3.1, q3.2)) else (if iI w = 2 then ((f_World_heardReserve F (iI (n : Int)) (iI d) (mk A Bx)).bind fun q4 => some (q4.1, q4.2)) else ((f_x_refuse F (-7) (mk A Bx)).bind fun q5 => some (q5.1, q5.2))))) := fun Bx => by
    unfold f_x_knew
    refine (askT (ex_isHouse F R Bx n za zb) c0).trans ?_
    refine (if_neg (by simp (disch := first | omega | (simp (disch := omega) only [uA_n]; done) | fail) only [iI_lit, iI_add, iI_sub, iI_mul, iI_neg, iI_lt, iI_le, iI_eq, zlt_t, zlt_f, zle_t, zle_f, zeq_t, zeq_f, nle_t, nle_f, iI_cl, rA, rS, rB, wA, wS, wB, mkp, mk2, uA_s, uA_n, ud_s, ud_n, bI_0, bI_1, nor_s, ↓reduceIte, or_false, false_or, or_true, true_or, or_self, not_true_eq_false, not_false_eq_true, and_true, true_and, and_false, false_and, bI_T, bI_F, Int.reduceToNat, Nat.reduceAdd, Nat.reduceMul, Int.reduceNeg, Option.bind_some, Int.toNat_natCast])).trans ?_
    exact (if_pos (by simp (disch := first | omega | (simp (disch := omega) only [uA_n]; done) | fail) only [iI_lit, iI_add, iI_sub, iI_mul, iI_neg, iI_lt, iI_le, iI_eq, zlt_t, zlt_f, zle_t, zle_f, zeq_t, zeq_f, nle_t, nle_f, iI_cl, rA, rS, rB, wA, wS, wB, mkp, mk2, uA_s, uA_n, ud_s, ud_n, bI_0, bI_1, nor_s, ↓reduceIte, or_false, false_or, or_true, true_or, or_self, not_true_eq_false, not_false_eq_true, and_true, true_and, and_false, false_and, bI_T, bI_F, Int.reduceToNat, Nat.reduceAdd, Nat.reduceMul, Int.reduceNeg, Option.bind_some, Int.toNat_natCast]))
  have yp : ∀ Ax : hI, f_m_knew F (iI (n : Int)) (iI w) (iI d) (mk Ax B) = (if iI w = 0 then ((f_m_heardOf F (iI (n : Int)) (iI d) (mk Ax B)).bind fun q5 => some (q5.1, q5.2)) else ((f_m_sheetOf F (iI (n : Int)) (iI d) (mk Ax B)).bind fun q6 => (if iI w = 1 then f_m_knew_74 F q6.1 q6.2 else (if 0 ≤ q6.1 then ((f_m_shown F q6.1 5 q6.2).bind fun q7 => f_m_knew_86 F q7.1 q7.2) else f_m_knew_74 F q6.1 q6.2)))) := fun Ax => by
    unfold f_m_knew
    refine (askT (em_isHouse F R Ax n za zb) c0).trans ?_
    refine (askT (ed Ax) c1).trans ?_
    exact askT (ew Ax) c2
  rcases (show w = 0 ∨ w = 1 ∨ w = 2 by omega) with rfl | rfl | rfl
  · refine cp_ans h (iI (hfv A n d)) (fun Bx => ⟨A, nA.rf A, ?_⟩) (fun Ax => ⟨B, nB.rf B, ?_⟩)
    · rw [xp]
      refine (if_pos rfl).trans ?_
      exact obd (ex_hearF F R hF Bx c0.2 c1.1 (by omega)) rfl
    · rw [yp]
      refine (if_pos rfl).trans ?_
      exact obd (em_hearF F R hF Ax c0.2 c1.1 (by omega)) rfl
  · refine cp_ans h (iI (hsv A n d)) (fun Bx => ⟨A, nA.rf A, ?_⟩) (fun Ax => ⟨B, nB.rf B, ?_⟩)
    · rw [xp]
      refine (if_neg i1n0).trans ?_
      refine (if_pos rfl).trans ?_
      exact obd (ex_hearS F R Bx c0.2 c1.1 (by omega)) rfl
    · rw [yp]
      refine (if_neg i1n0).trans ?_
      refine obd (em_hearS F R hF Ax c0.2 c1.1 (by omega)) ?_
      exact (if_pos rfl).trans rfl
  · refine cp_ans h (iI (hrv A n d)) (fun Bx => ⟨A, nA.rf A, ?_⟩) (fun Ax => ⟨B, nB.rf B, ?_⟩)
    · rw [xp]
      refine (if_neg (by decide)).trans ?_
      refine (if_neg (by decide)).trans ?_
      refine (if_pos rfl).trans ?_
      exact obd (ex_hearR F R Bx c0.2 c1.1 (by omega)) rfl
    · rw [yp]
      refine (if_neg (by decide)).trans ?_
      refine obd (em_hearS F R hF Ax c0.2 c1.1 (by omega)) ?_
      refine (if_neg (by decide)).trans ?_
      unfold hrv
      by_cases e : hsv A n d = -1
      · rw [if_pos e]
        refine (if_neg (by rw [e]; show ¬ ((0 : Int32) ≤ iI (-1)); decide)).trans ?_
        rw [e]; rfl
      · rw [if_neg e]
        refine (if_pos (by simp (disch := first | omega | (simp (disch := omega) only [uA_n]; done) | fail) only [iI_lit, iI_add, iI_sub, iI_mul, iI_neg, iI_lt, iI_le, iI_eq, zlt_t, zlt_f, zle_t, zle_f, zeq_t, zeq_f, nle_t, nle_f, iI_cl, rA, rS, rB, wA, wS, wB, mkp, mk2, uA_s, uA_n, ud_s, ud_n, bI_0, bI_1, nor_s, ↓reduceIte, or_false, false_or, or_true, true_or, or_self, not_true_eq_false, not_false_eq_true, and_true, true_and, and_false, false_and, bI_T, bI_F, Int.reduceToNat, Nat.reduceAdd, Nat.reduceMul, Int.reduceNeg, Option.bind_some, Int.toNat_natCast])).trans ?_
        have s5 := em_shown5 F R Ax (k := (hsv A n d).toNat) (by omega) (i := 5) (by omega)
        rw [show (((hsv A n d).toNat : Nat) : Int) = hsv A n d by omega] at s5
        exact obd s5 rfl
end
