/-! CALLS: gold, down, town, far, rate -/
section CAL3
variable {K D : Int} {A0 B0 A B : hI} {i : Nat} (F : Nat)
theorem RR.gadd (R : RR K D A0 B0 A B) {p : Nat} (hp : (p : Int) < A 19 11) {c : Int} (hc : 0 ≤ c) : RR (K + c) D A0 B0 (uA A 22 p (A 22 p + c)) (uA B 412 p (A 22 p + c)) := by
  have hn1 := R.gH.hn1
  have hn := R.gH.hn2
  have g0 := R.gG.gn p hp
  have hA : ∀ k : Nat, k ≠ 22 → uA A 22 p (A 22 p + c) k = A k := fun k hk => uA_n hk
  have hB : ∀ k : Nat, k ≠ 412 → uA B 412 p (A 22 p + c) k = B k := fun k hk => uA_n hk
  have h4 : ∀ j : Nat, j ≠ 99 → uA B 412 p (A 22 p + c) 400 j = B 400 j := fun j _ => by rw [hB 400 (by omega)]
  have G := R.gG
  have R := R.k (show K ≤ K + c by omega)
  refine ⟨⟨(by apply R.gL.c <;> first | rfl | exact hA _ (by omega) | exact congrFun (hA _ (by omega)) _ | exact hB _ (by omega) | exact h4 _ (by omega) | (intro k hk1 hk2; exact hB k (by omega)) | (simp (disch := omega) only [uA_s, uA_n, ud_n]; done)), ?_, (by apply R.gN.c <;> first | rfl | exact hA _ (by omega) | exact congrFun (hA _ (by omega)) _ | exact hB _ (by omega) | exact h4 _ (by omega) | (intro k hk1 hk2; exact hB k (by omega)) | (simp (disch := omega) only [uA_s, uA_n, ud_n]; done)), (by apply R.gP.c <;> first | rfl | exact hA _ (by omega) | exact congrFun (hA _ (by omega)) _ | exact hB _ (by omega) | exact h4 _ (by omega) | (intro k hk1 hk2; exact hB k (by omega)) | (simp (disch := omega) only [uA_s, uA_n, ud_n]; done)), (by apply R.gT.c <;> first | rfl | exact hA _ (by omega) | exact congrFun (hA _ (by omega)) _ | exact hB _ (by omega) | exact h4 _ (by omega) | (intro k hk1 hk2; exact hB k (by omega)) | (simp (disch := omega) only [uA_s, uA_n, ud_n]; done)), (by apply R.gS.c <;> first | rfl | exact hA _ (by omega) | exact congrFun (hA _ (by omega)) _ | exact hB _ (by omega) | exact h4 _ (by omega) | (intro k hk1 hk2; exact hB k (by omega)) | (simp (disch := omega) only [uA_s, uA_n, ud_n]; done)), (by apply R.gD.c <;> first | rfl | exact hA _ (by omega) | exact congrFun (hA _ (by omega)) _ | exact hB _ (by omega) | exact h4 _ (by omega) | (intro k hk1 hk2; exact hB k (by omega)) | (simp (disch := omega) only [uA_s, uA_n, ud_n]; done)), (by apply R.gW.c <;> first | rfl | exact hA _ (by omega) | exact congrFun (hA _ (by omega)) _ | exact hB _ (by omega) | exact h4 _ (by omega) | (intro k hk1 hk2; exact hB k (by omega)) | (simp (disch := omega) only [uA_s, uA_n, ud_n]; done)), (by apply R.gX.c <;> first | rfl | exact hA _ (by omega) | exact congrFun (hA _ (by omega)) _ | exact hB _ (by omega) | exact h4 _ (by omega) | (intro k hk1 hk2; exact hB k (by omega)) | (simp (disch := omega) only [uA_s, uA_n, ud_n]; done)), ?_, (by apply R.gI.c <;> first | rfl | exact hA _ (by omega) | exact congrFun (hA _ (by omega)) _ | exact hB _ (by omega) | exact h4 _ (by omega) | (intro k hk1 hk2; exact hB k (by omega)) | (simp (disch := omega) only [uA_s, uA_n, ud_n]; done))⟩, R.sx.tr ?_, R.sb.tr (SB.st (fun k hk => hB k (by omega)))⟩
  · obtain ⟨x1, x2, x3, x4, x5, x6, x7, x8, x9, x10, x11, x12, x13, x14, x15, x16, x17, x18, x19, x20, x21⟩ := R.gH
    unfold WH
    have e : uA A 22 p (A 22 p + c) 22 = ud (A 22) p (A 22 p + c) := uA_s ..
    have f : uA B 412 p (A 22 p + c) 412 = ud (B 412) p (A 22 p + c) := uA_s ..
    simp only [e, f, hA 19 (by omega), hA 20 (by omega), hA 21 (by omega), hA 23 (by omega), hA 24 (by omega), hA 25 (by omega), hA 26 (by omega), hA 27 (by omega), hA 28 (by omega), hA 29 (by omega), hA 30 (by omega), hA 17 (by omega), hA 16 (by omega), hB 400 (by omega), hB 410 (by omega), hB 411 (by omega), hB 413 (by omega), hB 414 (by omega), hB 415 (by omega), hB 416 (by omega), hB 417 (by omega), hB 418 (by omega), hB 419 (by omega), hB 420 (by omega), hB 421 (by omega)]
    refine ⟨x1, x2, x3, x4, x5, fun h hh => ?_, x7, x8, x9, x10, x11, x12, x13, x14, x15, x16, x17, x18, x19, x20, x21⟩
    by_cases q : h = p
    · subst q; rw [ud_s, ud_s]
    · rw [ud_n q, ud_n q, x6 h hh]
  · have e : uA A 22 p (A 22 p + c) 22 = ud (A 22) p (A 22 p + c) := uA_s ..
    refine ⟨fun h hh => ?_, ?_⟩
    · rw [hA 19 (by omega)] at hh
      rw [e]
      have g1 := G.gn h hh
      by_cases q : h = p
      · subst q; rw [ud_s]; omega
      · rw [ud_n q]; exact g1
    · rw [e, hA 19 (by omega), sm_ud (by omega)]
      have := G.gs
      omega
  · exact SX.st (fun k hk => hA k (by omega)) (by rw [hA 16 (by omega)]) (by rw [hA 16 (by omega)]) (by rw [hA 55 (by omega)]) (by rw [hA 55 (by omega)]) (fun c _ => by rw [hA 59 (by omega)])
theorem c_gold (h : Inv i A B) (hi : i < 512) (v w : Int32) : CP i A B (f_x_gold F v w) (f_m_gold F v w) := by
  obtain ⟨z, hz1, hz2, rfl⟩ : ∃ z : Int, -2147483648 ≤ z ∧ z < 2147483648 ∧ v = iI z := ⟨_, (i32rg v).1, (i32rg v).2, iI_of v⟩
  obtain ⟨y, hy1, hy2, rfl⟩ : ∃ z : Int, -2147483648 ≤ z ∧ z < 2147483648 ∧ w = iI z := ⟨_, (i32rg w).1, (i32rg w).2, iI_of w⟩
  have R := h.rr
  have hn2 := R.gH.hn2
  have xh := fun Bx => ex_isHouse F R Bx z hz1 hz2
  have yh := fun Ax => em_isHouse F R Ax z hz1 hz2
  have ei := fun Ax => em_in F y 0 10000 (mk Ax B) hy1 hy2 (by omega) (by omega) (by omega) (by omega)
  by_cases c0 : 0 ≤ z ∧ z < A 19 11
  · rw [bI_t c0] at xh yh
    have xu := fun Bx => ex_isUp F R Bx z c0.1 c0.2
    have yu := fun Ax => em_isUp F R Ax z c0.1 c0.2
    by_cases c1 : 0 ≤ y ∧ y ≤ 10000
    · rw [show bI (0 ≤ y ∧ y ≤ 10000) = 1 from bI_t c1] at ei
      by_cases c2 : A 27 z.toNat = -1
      · rw [bI_t c2] at xu yu
        intro Ax Bx
        have g := R.gle (h := z.toNat) (by omega)
        have hK := h.kmx (by omega)
        have hg := R.gH.hg z.toNat (by omega)
        have m0 : uA B 412 z.toNat (A 22 z.toNat + y) 399 = B 399 := uA_n (by omega)
        have e16 : uA A 22 z.toNat (A 22 z.toNat + y) 16 9 = A 16 9 := by rw [uA_n (by omega)]
        have R1 := R.gadd (p := z.toNat) (by omega) c1.1
        rw [← e16] at R1
        refine ⟨iI (A 22 z.toNat + y), uA A 22 z.toNat (A 22 z.toNat + y), uA B 412 z.toNat (A 22 z.toNat + y), ?_, ?_, h.step R1 (fun _ _ => rfl) (by rw [e16]; unfold KMX; omega)⟩
        · unfold f_x_gold
          refine obd (xh Bx) ?_
          refine (if_neg i1n0).trans ?_
          refine (if_neg (by simp (disch := first | omega | (simp (disch := omega) only [uA_n]; done) | fail) only [iI_lit, iI_add, iI_sub, iI_mul, iI_neg, iI_lt, iI_le, iI_eq, zlt_t, zlt_f, zle_t, zle_f, zeq_t, zeq_f, nle_t, nle_f, iI_cl, rA, rS, rB, wA, wS, wB, mkp, mk2, uA_s, uA_n, ud_s, ud_n, bI_0, bI_1, nor_s, ↓reduceIte, or_false, false_or, or_true, true_or, or_self, not_true_eq_false, not_false_eq_true, and_true, true_and, and_false, false_and, bI_T, bI_F, Int.reduceToNat, Nat.reduceAdd, Nat.reduceMul, Int.reduceNeg, Option.bind_some, Int.toNat_natCast])).trans ?_
          refine (if_neg (by simp (disch := first | omega | (simp (disch := omega) only [uA_n]; done) | fail) only [iI_lit, iI_add, iI_sub, iI_mul, iI_neg, iI_lt, iI_le, iI_eq, zlt_t, zlt_f, zle_t, zle_f, zeq_t, zeq_f, nle_t, nle_f, iI_cl, rA, rS, rB, wA, wS, wB, mkp, mk2, uA_s, uA_n, ud_s, ud_n, bI_0, bI_1, nor_s, ↓reduceIte, or_false, false_or, or_true, true_or, or_self, not_true_eq_false, not_false_eq_true, and_true, true_and, and_false, false_and, bI_T, bI_F, Int.reduceToNat, Nat.reduceAdd, Nat.reduceMul, Int.reduceNeg, Option.bind_some, Int.toNat_natCast])).trans ?_
          refine obd (xu Bx) ?_
          refine (if_neg i1n0).trans ?_
          refine (if_neg (by simp (disch := first | omega | (simp (disch := omega) only [uA_n]; done) | fail) only [iI_lit, iI_add, iI_sub, iI_mul, iI_neg, iI_lt, iI_le, iI_eq, zlt_t, zlt_f, zle_t, zle_f, zeq_t, zeq_f, nle_t, nle_f, iI_cl, rA, rS, rB, wA, wS, wB, mkp, mk2, uA_s, uA_n, ud_s, ud_n, bI_0, bI_1, nor_s, ↓reduceIte, or_false, false_or, or_true, true_or, or_self, not_true_eq_false, not_false_eq_true, and_true, true_and, and_false, false_and, bI_T, bI_F, Int.reduceToNat, Nat.reduceAdd, Nat.reduceMul, Int.reduceNeg, Option.bind_some, Int.toNat_natCast])).trans ?_
          simp (disch := first | omega | (simp (disch := omega) only [uA_n]; done) | fail) only [iI_lit, iI_add, iI_sub, iI_mul, iI_neg, iI_lt, iI_le, iI_eq, zlt_t, zlt_f, zle_t, zle_f, zeq_t, zeq_f, nle_t, nle_f, iI_cl, rA, rS, rB, wA, wS, wB, mkp, mk2, uA_s, uA_n, ud_s, ud_n, bI_0, bI_1, nor_s, ↓reduceIte, or_false, false_or, or_true, true_or, or_self, not_true_eq_false, not_false_eq_true, and_true, true_and, and_false, false_and, bI_T, bI_F, Int.reduceToNat, Nat.reduceAdd, Nat.reduceMul, Int.reduceNeg, Option.bind_some, Int.toNat_natCast]
        · unfold f_m_gold
          refine obd (yh Ax) ?_
          refine (if_neg i1n0).trans ?_
          refine obd (ei Ax) ?_
          refine (if_neg i1n0).trans ?_
          refine obd (yu Ax) ?_
          refine (if_neg i1n0).trans ?_
          refine (if_neg (by simp (disch := first | omega | (simp (disch := omega) only [uA_n]; done) | fail) only [iI_lit, iI_add, iI_sub, iI_mul, iI_neg, iI_lt, iI_le, iI_eq, zlt_t, zlt_f, zle_t, zle_f, zeq_t, zeq_f, nle_t, nle_f, iI_cl, rA, rS, rB, wA, wS, wB, mkp, mk2, uA_s, uA_n, ud_s, ud_n, bI_0, bI_1, nor_s, ↓reduceIte, or_false, false_or, or_true, true_or, or_self, not_true_eq_false, not_false_eq_true, and_true, true_and, and_false, false_and, bI_T, bI_F, Int.reduceToNat, Nat.reduceAdd, Nat.reduceMul, Int.reduceNeg, Option.bind_some, Int.toNat_natCast])).trans ?_
          refine obd (v := (iI (A 22 z.toNat + y), mk Ax (uA B 412 z.toNat (A 22 z.toNat + y)))) ?_ rfl
          refine Eq.trans (b := f_m_hs F (iI z) (iI 2) (mk Ax (uA B 412 z.toNat (A 22 z.toNat + y)))) (by simp (disch := first | omega | (simp (disch := omega) only [uA_n]; done) | fail) only [iI_lit, iI_add, iI_sub, iI_mul, iI_neg, iI_lt, iI_le, iI_eq, zlt_t, zlt_f, zle_t, zle_f, zeq_t, zeq_f, nle_t, nle_f, iI_cl, rA, rS, rB, wA, wS, wB, mkp, mk2, uA_s, uA_n, ud_s, ud_n, bI_0, bI_1, nor_s, ↓reduceIte, or_false, false_or, or_true, true_or, or_self, not_true_eq_false, not_false_eq_true, and_true, true_and, and_false, false_and, bI_T, bI_F, Int.reduceToNat, Nat.reduceAdd, Nat.reduceMul, Int.reduceNeg, Option.bind_some, Int.toNat_natCast, zH, hg, mk2 m0]) ?_
          refine (em_hs F z 2 Ax _ (by omega) (by omega) (by omega) (by omega)).trans ?_
          show some (iI (uA B 412 z.toNat (A 22 z.toNat + y) 412 z.toNat), _) = _
          rw [uA_s, ud_s]
      · rw [bI_f c2] at xu yu
        refine cp_no F h (v := -7) (by omega) (by omega) (fun Bx => ?_) (fun Ax => ?_)
        · simp only [f_x_gold, f_x_gold_46]
          refine obd (xh Bx) ?_
          refine (if_neg i1n0).trans ?_
          refine (if_neg (by simp (disch := first | omega | (simp (disch := omega) only [uA_n]; done) | fail) only [iI_lit, iI_add, iI_sub, iI_mul, iI_neg, iI_lt, iI_le, iI_eq, zlt_t, zlt_f, zle_t, zle_f, zeq_t, zeq_f, nle_t, nle_f, iI_cl, rA, rS, rB, wA, wS, wB, mkp, mk2, uA_s, uA_n, ud_s, ud_n, bI_0, bI_1, nor_s, ↓reduceIte, or_false, false_or, or_true, true_or, or_self, not_true_eq_false, not_false_eq_true, and_true, true_and, and_false, false_and, bI_T, bI_F, Int.reduceToNat, Nat.reduceAdd, Nat.reduceMul, Int.reduceNeg, Option.bind_some, Int.toNat_natCast])).trans ?_
          refine (if_neg (by simp (disch := first | omega | (simp (disch := omega) only [uA_n]; done) | fail) only [iI_lit, iI_add, iI_sub, iI_mul, iI_neg, iI_lt, iI_le, iI_eq, zlt_t, zlt_f, zle_t, zle_f, zeq_t, zeq_f, nle_t, nle_f, iI_cl, rA, rS, rB, wA, wS, wB, mkp, mk2, uA_s, uA_n, ud_s, ud_n, bI_0, bI_1, nor_s, ↓reduceIte, or_false, false_or, or_true, true_or, or_self, not_true_eq_false, not_false_eq_true, and_true, true_and, and_false, false_and, bI_T, bI_F, Int.reduceToNat, Nat.reduceAdd, Nat.reduceMul, Int.reduceNeg, Option.bind_some, Int.toNat_natCast])).trans ?_
          refine obd (xu Bx) ?_
          exact (if_pos rfl)
        · simp only [f_m_gold, f_m_gold_34]
          refine obd (yh Ax) ?_
          refine (if_neg i1n0).trans ?_
          refine obd (ei Ax) ?_
          refine (if_neg i1n0).trans ?_
          refine obd (yu Ax) ?_
          exact (if_pos rfl)
    · rw [show bI (0 ≤ y ∧ y ≤ 10000) = 0 from bI_f c1] at ei
      refine cp_no F h (v := -7) (by omega) (by omega) (fun Bx => ?_) (fun Ax => ?_)
      · simp only [f_x_gold, f_x_gold_46]
        refine obd (xh Bx) ?_
        refine (if_neg i1n0).trans ?_
        by_cases c3 : y < 0
        · exact (if_pos (by simp (disch := first | omega | (simp (disch := omega) only [uA_n]; done) | fail) only [iI_lit, iI_add, iI_sub, iI_mul, iI_neg, iI_lt, iI_le, iI_eq, zlt_t, zlt_f, zle_t, zle_f, zeq_t, zeq_f, nle_t, nle_f, iI_cl, rA, rS, rB, wA, wS, wB, mkp, mk2, uA_s, uA_n, ud_s, ud_n, bI_0, bI_1, nor_s, ↓reduceIte, or_false, false_or, or_true, true_or, or_self, not_true_eq_false, not_false_eq_true, and_true, true_and, and_false, false_and, bI_T, bI_F, Int.reduceToNat, Nat.reduceAdd, Nat.reduceMul, Int.reduceNeg, Option.bind_some, Int.toNat_natCast]))
        · refine (if_neg (by simp (disch := first | omega | (simp (disch := omega) only [uA_n]; done) | fail) only [iI_lit, iI_add, iI_sub, iI_mul, iI_neg, iI_lt, iI_le, iI_eq, zlt_t, zlt_f, zle_t, zle_f, zeq_t, zeq_f, nle_t, nle_f, iI_cl, rA, rS, rB, wA, wS, wB, mkp, mk2, uA_s, uA_n, ud_s, ud_n, bI_0, bI_1, nor_s, ↓reduceIte, or_false, false_or, or_true, true_or, or_self, not_true_eq_false, not_false_eq_true, and_true, true_and, and_false, false_and, bI_T, bI_F, Int.reduceToNat, Nat.reduceAdd, Nat.reduceMul, Int.reduceNeg, Option.bind_some, Int.toNat_natCast])).trans ?_
          exact (if_pos (by simp (disch := first | omega | (simp (disch := omega) only [uA_n]; done) | fail) only [iI_lit, iI_add, iI_sub, iI_mul, iI_neg, iI_lt, iI_le, iI_eq, zlt_t, zlt_f, zle_t, zle_f, zeq_t, zeq_f, nle_t, nle_f, iI_cl, rA, rS, rB, wA, wS, wB, mkp, mk2, uA_s, uA_n, ud_s, ud_n, bI_0, bI_1, nor_s, ↓reduceIte, or_false, false_or, or_true, true_or, or_self, not_true_eq_false, not_false_eq_true, and_true, true_and, and_false, false_and, bI_T, bI_F, Int.reduceToNat, Nat.reduceAdd, Nat.reduceMul, Int.reduceNeg, Option.bind_some, Int.toNat_natCast]))
      · simp only [f_m_gold, f_m_gold_34]
        refine obd (yh Ax) ?_
        refine (if_neg i1n0).trans ?_
        refine obd (ei Ax) ?_
        exact (if_pos rfl)
  · rw [bI_f c0] at xh yh
    refine cp_no F h (v := -3) (by omega) (by omega) (fun Bx => ?_) (fun Ax => ?_)
    · unfold f_x_gold
      refine obd (xh Bx) ?_
      exact (if_pos rfl)
    · unfold f_m_gold
      refine obd (yh Ax) ?_
      exact (if_pos rfl)
end CAL3
