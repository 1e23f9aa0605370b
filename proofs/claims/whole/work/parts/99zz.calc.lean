/-! CALLS: burn -/
section CALC
variable {K D : Int} {A0 B0 A B : hI} {i : Nat} (F : Nat)
theorem bI_ud {f : Nat → Int} {p : Nat} {x v : Int} : (fun k => bI (ud f p x k = v)) = ud (fun k => bI (f k = v)) p (bI (x = v)) := by
  funext k
  by_cases h : k = p
  · subst h; simp only [ud_s]
  · simp only [ud_n h]
theorem RR.burn (R : RR K D A0 B0 A B) {p : Nat} (hp : p < 300) (h2 : A 56 p = 2) : RR K D A0 B0 (uA (uA (uA A 56 p 3) 55 10 (A 55 10 - 1)) 55 11 (A 55 11 + 1)) (uA B 422 p 3) := by
  have hA : ∀ k : Nat, ¬ (55 ≤ k ∧ k ≤ 56) → uA (uA (uA A 56 p 3) 55 10 (A 55 10 - 1)) 55 11 (A 55 11 + 1) k = A k := fun k hk => by rw [uA_n (by omega), uA_n (by omega), uA_n (by omega)]
  have hB : ∀ k : Nat, k ≠ 422 → uA B 422 p 3 k = B k := fun k hk => uA_n hk
  have h4 : ∀ j : Nat, j ≠ 99 → uA B 422 p 3 400 j = B 400 j := fun j _ => by rw [hB 400 (by omega)]
  have e56 : uA (uA (uA A 56 p 3) 55 10 (A 55 10 - 1)) 55 11 (A 55 11 + 1) 56 = ud (A 56) p 3 := by rw [uA_n (by omega), uA_n (by omega), uA_s]
  have e55 : ∀ j : Nat, j ≠ 10 → j ≠ 11 → uA (uA (uA A 56 p 3) 55 10 (A 55 10 - 1)) 55 11 (A 55 11 + 1) 55 j = A 55 j := fun j h1 h2 => by rw [uA_s, ud_n h2, uA_s, ud_n h1, uA_n (by omega)]
  have e10 : uA (uA (uA A 56 p 3) 55 10 (A 55 10 - 1)) 55 11 (A 55 11 + 1) 55 10 = A 55 10 - 1 := by rw [uA_s, ud_n (by omega), uA_s, ud_s]
  have e11 : uA (uA (uA A 56 p 3) 55 10 (A 55 10 - 1)) 55 11 (A 55 11 + 1) 55 11 = A 55 11 + 1 := by rw [uA_s, ud_s]
  have e422 : uA B 422 p 3 422 = ud (B 422) p 3 := uA_s ..
  refine ⟨⟨(by apply R.gL.c <;> first | rfl | exact hA _ (by omega) | exact congrFun (hA _ (by omega)) _ | exact hB _ (by omega) | exact h4 _ (by omega) | (intro k hk1 hk2; exact hB k (by omega)) | (simp (disch := omega) only [uA_s, uA_n, ud_n]; done)), (by apply R.gH.c <;> first | rfl | exact hA _ (by omega) | exact congrFun (hA _ (by omega)) _ | exact hB _ (by omega) | exact h4 _ (by omega) | (intro k hk1 hk2; exact hB k (by omega)) | (simp (disch := omega) only [uA_s, uA_n, ud_n]; done)), ?_, (by apply R.gP.c <;> first | rfl | exact hA _ (by omega) | exact congrFun (hA _ (by omega)) _ | exact hB _ (by omega) | exact h4 _ (by omega) | (intro k hk1 hk2; exact hB k (by omega)) | (simp (disch := omega) only [uA_s, uA_n, ud_n]; done)), (by apply R.gT.c <;> first | rfl | exact hA _ (by omega) | exact congrFun (hA _ (by omega)) _ | exact hB _ (by omega) | exact h4 _ (by omega) | (intro k hk1 hk2; exact hB k (by omega)) | (simp (disch := omega) only [uA_s, uA_n, ud_n]; done)), (by apply R.gS.c <;> first | rfl | exact hA _ (by omega) | exact congrFun (hA _ (by omega)) _ | exact hB _ (by omega) | exact h4 _ (by omega) | (intro k hk1 hk2; exact hB k (by omega)) | (simp (disch := omega) only [uA_s, uA_n, ud_n]; done)), (by apply R.gD.c <;> first | rfl | exact hA _ (by omega) | exact congrFun (hA _ (by omega)) _ | exact hB _ (by omega) | exact h4 _ (by omega) | (intro k hk1 hk2; exact hB k (by omega)) | (simp (disch := omega) only [uA_s, uA_n, ud_n]; done)), (by apply R.gW.c <;> first | rfl | exact hA _ (by omega) | exact congrFun (hA _ (by omega)) _ | exact hB _ (by omega) | exact h4 _ (by omega) | (intro k hk1 hk2; exact hB k (by omega)) | (simp (disch := omega) only [uA_s, uA_n, ud_n]; done)), (by apply R.gX.c <;> first | rfl | exact hA _ (by omega) | exact congrFun (hA _ (by omega)) _ | exact hB _ (by omega) | exact h4 _ (by omega) | (intro k hk1 hk2; exact hB k (by omega)) | (simp (disch := omega) only [uA_s, uA_n, ud_n]; done)), (by apply R.gG.c <;> first | rfl | exact hA _ (by omega) | exact congrFun (hA _ (by omega)) _ | exact hB _ (by omega) | exact h4 _ (by omega) | (intro k hk1 hk2; exact hB k (by omega)) | (simp (disch := omega) only [uA_s, uA_n, ud_n]; done)), ?_⟩, R.sx.tr ?_, R.sb.tr (SB.st (fun k hk => hB k (by omega)))⟩
  · obtain ⟨x1, x2, x3, x4, x5, x6, x7, x8, x9, x10, x11, x12, x13, x14, x15, x16, x17, x18, x19, x20, x21, x22, x23, x24, x25⟩ := R.gN
    unfold WN
    simp only [e56, e10, e11, e55 7 (by omega) (by omega), e55 8 (by omega) (by omega), e55 9 (by omega) (by omega), e55 12 (by omega) (by omega), e422, hA 2 (by omega), hA 3 (by omega), hA 4 (by omega), hA 5 (by omega), hA 6 (by omega), hA 58 (by omega), hA 59 (by omega), hA 60 (by omega), hA 61 (by omega), hA 19 (by omega), hB 400 (by omega), hB 424 (by omega), hB 430 (by omega), hB 431 (by omega), hB 432 (by omega), hB 433 (by omega), hB 442 (by omega), hB 443 (by omega), hB 444 (by omega)]
    refine ⟨x1, x2, x3, x4, x5, fun k hk => ?_, fun k hk => ?_, fun k hk => ?_, x9, x10, x11, x12, x13, fun c t hc ht => ?_, x15, x16, x17, x18, x19, ?_, ?_, ?_, x23, x24, x25⟩
    · by_cases q : k = p
      · subst q; rw [ud_s, ud_s]
      · rw [ud_n q, ud_n q]; exact x6 k hk
    · by_cases q : k = p
      · subst q; rw [ud_s]; omega
      · rw [ud_n q]; exact x7 k hk
    · by_cases q : k = p
      · subst q; rw [ud_s]
        have := x8 k hk
        rw [h2] at this
        omega
      · rw [ud_n q]; exact x8 k hk
    · rw [hB (434 + t) (by have := x13 c hc; omega)]
      exact x14 c t hc ht
    · have q1 : bI (A 56 p = 1) = 0 := bI_f (by omega)
      have q2 : bI ((3 : Int) = 1) = 0 := bI_f (by decide)
      rw [bI_ud, sm_ud hp, q1, q2]
      omega
    · have q1 : bI (A 56 p = 2) = 1 := bI_t h2
      have q2 : bI ((3 : Int) = 2) = 0 := bI_f (by decide)
      rw [bI_ud, sm_ud hp, q1, q2]
      omega
    · have q1 : bI (A 56 p = 3) = 0 := bI_f (by omega)
      have q2 : bI ((3 : Int) = 3) = 1 := bI_t rfl
      rw [bI_ud, sm_ud hp, q1, q2]
      omega
  · intro k hk h3
    rw [e56] at h3
    by_cases q : k = p
    · subst q; rw [ud_s] at h3; omega
    · rw [ud_n q] at h3
      rw [hA 57 (by omega), hA 58 (by omega), hA 2 (by omega), e55 7 (by omega) (by omega), hB 423 (by omega)]
      exact R.gI k hk h3
  · exact SX.st (fun k hk => hA k (by omega)) (by rw [hA 16 (by omega)]) (by rw [hA 16 (by omega)]) (e55 7 (by omega) (by omega)) (e55 12 (by omega) (by omega)) (fun c _ => by rw [hA 59 (by omega)])
theorem c_burn (h : Inv i A B) (hF : 1000 ≤ F) (v : Int32) : CP i A B (f_x_burn F v) (f_m_burn F v) := by
  obtain ⟨z, hz1, hz2, rfl⟩ : ∃ z : Int, -2147483648 ≤ z ∧ z < 2147483648 ∧ v = iI z := ⟨_, (i32rg v).1, (i32rg v).2, iI_of v⟩
  have R := h.rr
  have xn := fun Bx => ex_isNumber F z (mk A Bx) hz1 hz2
  have yn := fun Ax => em_isNumber F z (mk Ax B) hz1 hz2
  by_cases c : 0 ≤ z ∧ z < 300
  · rw [bI_t c] at xn yn
    have ns := R.gN.nst z.toNat (by omega)
    have nr := R.gN.nsr z.toNat (by omega)
    have ys : ∀ Ax : hI, f_m_stateOf F (iI z) (mk Ax B) = some (iI (A 56 z.toNat), mk Ax B) := fun Ax => (em_stateOf F z Ax B c.1 c.2).trans (by rw [ns])
    by_cases c1 : A 56 z.toNat = 2
    · intro Ax Bx
      have R1 := R.burn (p := z.toNat) (by omega) c1
      have ym := em_many F R1 hF Ax 3 (by omega) (by omega)
      rw [← R1.gN.nbu] at ym
      have m0 : uA B 422 z.toNat 3 399 = B 399 := uA_n (by omega)
      have e11 : uA (uA (uA A 56 z.toNat 3) 55 10 (A 55 10 - 1)) 55 11 (A 55 11 + 1) 55 11 = A 55 11 + 1 := by rw [uA_s, ud_s]
      rw [e11] at ym
      refine ⟨iI (A 55 11 + 1), uA (uA (uA A 56 z.toNat 3) 55 10 (A 55 10 - 1)) 55 11 (A 55 11 + 1), uA B 422 z.toNat 3, ?_, ?_, h.land R1 (by rw [uA_n (by omega), uA_n (by omega), uA_n (by omega)])⟩
      · simp only [f_x_burn, f_x_burn_66]
        refine obd (xn Bx) ?_
        refine (if_neg i1n0).trans ?_
        refine (if_neg (by simp (disch := first | omega | (simp (disch := omega) only [uA_n]; done) | fail) only [iI_lit, iI_add, iI_sub, iI_mul, iI_neg, iI_lt, iI_le, iI_eq, zlt_t, zlt_f, zle_t, zle_f, zeq_t, zeq_f, nle_t, nle_f, iI_cl, rA, rS, rB, wA, wS, wB, mkp, mk2, uA_s, uA_n, ud_s, ud_n, bI_0, bI_1, nor_s, ↓reduceIte, or_false, false_or, or_true, true_or, or_self, not_true_eq_false, not_false_eq_true, and_true, true_and, and_false, false_and, bI_T, bI_F, Int.reduceToNat, Nat.reduceAdd, Nat.reduceMul, Int.reduceNeg, Option.bind_some, Int.toNat_natCast])).trans ?_
        refine (if_pos (by simp (disch := first | omega | (simp (disch := omega) only [uA_n]; done) | fail) only [iI_lit, iI_add, iI_sub, iI_mul, iI_neg, iI_lt, iI_le, iI_eq, zlt_t, zlt_f, zle_t, zle_f, zeq_t, zeq_f, nle_t, nle_f, iI_cl, rA, rS, rB, wA, wS, wB, mkp, mk2, uA_s, uA_n, ud_s, ud_n, bI_0, bI_1, nor_s, ↓reduceIte, or_false, false_or, or_true, true_or, or_self, not_true_eq_false, not_false_eq_true, and_true, true_and, and_false, false_and, bI_T, bI_F, Int.reduceToNat, Nat.reduceAdd, Nat.reduceMul, Int.reduceNeg, Option.bind_some, Int.toNat_natCast, c1])).trans ?_
        simp (disch := first | omega | (simp (disch := omega) only [uA_n]; done) | fail) only [iI_lit, iI_add, iI_sub, iI_mul, iI_neg, iI_lt, iI_le, iI_eq, zlt_t, zlt_f, zle_t, zle_f, zeq_t, zeq_f, nle_t, nle_f, iI_cl, rA, rS, rB, wA, wS, wB, mkp, mk2, uA_s, uA_n, ud_s, ud_n, bI_0, bI_1, nor_s, ↓reduceIte, or_false, false_or, or_true, true_or, or_self, not_true_eq_false, not_false_eq_true, and_true, true_and, and_false, false_and, bI_T, bI_F, Int.reduceToNat, Nat.reduceAdd, Nat.reduceMul, Int.reduceNeg, Option.bind_some, Int.toNat_natCast]
      · unfold f_m_burn
        refine obd (yn Ax) ?_
        refine (if_neg i1n0).trans ?_
        refine obd (ys Ax) ?_
        refine (if_pos (by simp (disch := first | omega | (simp (disch := omega) only [uA_n]; done) | fail) only [iI_lit, iI_add, iI_sub, iI_mul, iI_neg, iI_lt, iI_le, iI_eq, zlt_t, zlt_f, zle_t, zle_f, zeq_t, zeq_f, nle_t, nle_f, iI_cl, rA, rS, rB, wA, wS, wB, mkp, mk2, uA_s, uA_n, ud_s, ud_n, bI_0, bI_1, nor_s, ↓reduceIte, or_false, false_or, or_true, true_or, or_self, not_true_eq_false, not_false_eq_true, and_true, true_and, and_false, false_and, bI_T, bI_F, Int.reduceToNat, Nat.reduceAdd, Nat.reduceMul, Int.reduceNeg, Option.bind_some, Int.toNat_natCast, c1])).trans ?_
        refine (if_neg (by simp (disch := first | omega | (simp (disch := omega) only [uA_n]; done) | fail) only [iI_lit, iI_add, iI_sub, iI_mul, iI_neg, iI_lt, iI_le, iI_eq, zlt_t, zlt_f, zle_t, zle_f, zeq_t, zeq_f, nle_t, nle_f, iI_cl, rA, rS, rB, wA, wS, wB, mkp, mk2, uA_s, uA_n, ud_s, ud_n, bI_0, bI_1, nor_s, ↓reduceIte, or_false, false_or, or_true, true_or, or_self, not_true_eq_false, not_false_eq_true, and_true, true_and, and_false, false_and, bI_T, bI_F, Int.reduceToNat, Nat.reduceAdd, Nat.reduceMul, Int.reduceNeg, Option.bind_some, Int.toNat_natCast])).trans ?_
        refine obd (v := (iI (A 55 11 + 1), mk Ax (uA B 422 z.toNat 3))) ?_ rfl
        refine Eq.trans ?_ ym
        simp (disch := first | omega | (simp (disch := omega) only [uA_n]; done) | fail) only [iI_lit, iI_add, iI_sub, iI_mul, iI_neg, iI_lt, iI_le, iI_eq, zlt_t, zlt_f, zle_t, zle_f, zeq_t, zeq_f, nle_t, nle_f, iI_cl, rA, rS, rB, wA, wS, wB, mkp, mk2, uA_s, uA_n, ud_s, ud_n, bI_0, bI_1, nor_s, ↓reduceIte, or_false, false_or, or_true, true_or, or_self, not_true_eq_false, not_false_eq_true, and_true, true_and, and_false, false_and, bI_T, bI_F, Int.reduceToNat, Nat.reduceAdd, Nat.reduceMul, Int.reduceNeg, Option.bind_some, Int.toNat_natCast, zN0, mk2 m0]
    · refine cp_no F h (v := -7) (by omega) (by omega) (fun Bx => ?_) (fun Ax => ?_)
      · unfold f_x_burn
        refine obd (xn Bx) ?_
        refine (if_neg i1n0).trans ?_
        refine (if_neg (by simp (disch := first | omega | (simp (disch := omega) only [uA_n]; done) | fail) only [iI_lit, iI_add, iI_sub, iI_mul, iI_neg, iI_lt, iI_le, iI_eq, zlt_t, zlt_f, zle_t, zle_f, zeq_t, zeq_f, nle_t, nle_f, iI_cl, rA, rS, rB, wA, wS, wB, mkp, mk2, uA_s, uA_n, ud_s, ud_n, bI_0, bI_1, nor_s, ↓reduceIte, or_false, false_or, or_true, true_or, or_self, not_true_eq_false, not_false_eq_true, and_true, true_and, and_false, false_and, bI_T, bI_F, Int.reduceToNat, Nat.reduceAdd, Nat.reduceMul, Int.reduceNeg, Option.bind_some, Int.toNat_natCast])).trans ?_
        exact (if_neg (by simp (disch := first | omega | (simp (disch := omega) only [uA_n]; done) | fail) only [iI_lit, iI_add, iI_sub, iI_mul, iI_neg, iI_lt, iI_le, iI_eq, zlt_t, zlt_f, zle_t, zle_f, zeq_t, zeq_f, nle_t, nle_f, iI_cl, rA, rS, rB, wA, wS, wB, mkp, mk2, uA_s, uA_n, ud_s, ud_n, bI_0, bI_1, nor_s, ↓reduceIte, or_false, false_or, or_true, true_or, or_self, not_true_eq_false, not_false_eq_true, and_true, true_and, and_false, false_and, bI_T, bI_F, Int.reduceToNat, Nat.reduceAdd, Nat.reduceMul, Int.reduceNeg, Option.bind_some, Int.toNat_natCast]))
      · unfold f_m_burn
        refine obd (yn Ax) ?_
        refine (if_neg i1n0).trans ?_
        refine obd (ys Ax) ?_
        exact (if_neg (by simp (disch := first | omega | (simp (disch := omega) only [uA_n]; done) | fail) only [iI_lit, iI_add, iI_sub, iI_mul, iI_neg, iI_lt, iI_le, iI_eq, zlt_t, zlt_f, zle_t, zle_f, zeq_t, zeq_f, nle_t, nle_f, iI_cl, rA, rS, rB, wA, wS, wB, mkp, mk2, uA_s, uA_n, ud_s, ud_n, bI_0, bI_1, nor_s, ↓reduceIte, or_false, false_or, or_true, true_or, or_self, not_true_eq_false, not_false_eq_true, and_true, true_and, and_false, false_and, bI_T, bI_F, Int.reduceToNat, Nat.reduceAdd, Nat.reduceMul, Int.reduceNeg, Option.bind_some, Int.toNat_natCast]))
  · rw [bI_f c] at xn yn
    refine cp_no F h (v := -3) (by omega) (by omega) (fun Bx => ?_) (fun Ax => ?_)
    · unfold f_x_burn
      refine obd (xn Bx) ?_
      exact (if_pos rfl)
    · unfold f_m_burn
      refine obd (yn Ax) ?_
      exact (if_pos rfl)
end CALC
