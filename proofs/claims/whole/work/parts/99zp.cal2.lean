/-! CALLS: rate, gold, mind, down, town, far -/
section CAL2
variable {K D : Int} {A0 B0 A B : hI} {i : Nat} (F : Nat)
theorem RR.mind (R : RR K D A0 B0 A B) {p : Nat} (hp1 : 1 ≤ p) {a b : Int} (ha : 0 ≤ a ∧ a ≤ 9999) (hb : 0 ≤ b ∧ b < A 19 11 ∧ A 20 p < A 20 b.toNat) : RR K D A0 B0 (uA (uA A 23 p a) 24 p b) (uA (uA B 414 p a) 415 p b) := by
  have hA : ∀ k : Nat, ¬ (23 ≤ k ∧ k ≤ 24) → uA (uA A 23 p a) 24 p b k = A k := fun k hk => by rw [uA_n (by omega), uA_n (by omega)]
  have hB : ∀ k : Nat, ¬ (414 ≤ k ∧ k ≤ 415) → uA (uA B 414 p a) 415 p b k = B k := fun k hk => by rw [uA_n (by omega), uA_n (by omega)]
  have h4 : ∀ j : Nat, j ≠ 99 → uA (uA B 414 p a) 415 p b 400 j = B 400 j := fun j _ => by rw [hB 400 (by omega)]
  refine ⟨⟨(by apply R.gL.c <;> first | rfl | exact hA _ (by omega) | exact congrFun (hA _ (by omega)) _ | exact hB _ (by omega) | exact h4 _ (by omega) | (intro k hk1 hk2; exact hB k (by omega)) | (simp (disch := omega) only [uA_s, uA_n, ud_n]; done)), ?_, (by apply R.gN.c <;> first | rfl | exact hA _ (by omega) | exact congrFun (hA _ (by omega)) _ | exact hB _ (by omega) | exact h4 _ (by omega) | (intro k hk1 hk2; exact hB k (by omega)) | (simp (disch := omega) only [uA_s, uA_n, ud_n]; done)), (by apply R.gP.c <;> first | rfl | exact hA _ (by omega) | exact congrFun (hA _ (by omega)) _ | exact hB _ (by omega) | exact h4 _ (by omega) | (intro k hk1 hk2; exact hB k (by omega)) | (simp (disch := omega) only [uA_s, uA_n, ud_n]; done)), (by apply R.gT.c <;> first | rfl | exact hA _ (by omega) | exact congrFun (hA _ (by omega)) _ | exact hB _ (by omega) | exact h4 _ (by omega) | (intro k hk1 hk2; exact hB k (by omega)) | (simp (disch := omega) only [uA_s, uA_n, ud_n]; done)), (by apply R.gS.c <;> first | rfl | exact hA _ (by omega) | exact congrFun (hA _ (by omega)) _ | exact hB _ (by omega) | exact h4 _ (by omega) | (intro k hk1 hk2; exact hB k (by omega)) | (simp (disch := omega) only [uA_s, uA_n, ud_n]; done)), (by apply R.gD.c <;> first | rfl | exact hA _ (by omega) | exact congrFun (hA _ (by omega)) _ | exact hB _ (by omega) | exact h4 _ (by omega) | (intro k hk1 hk2; exact hB k (by omega)) | (simp (disch := omega) only [uA_s, uA_n, ud_n]; done)), (by apply R.gW.c <;> first | rfl | exact hA _ (by omega) | exact congrFun (hA _ (by omega)) _ | exact hB _ (by omega) | exact h4 _ (by omega) | (intro k hk1 hk2; exact hB k (by omega)) | (simp (disch := omega) only [uA_s, uA_n, ud_n]; done)), (by apply R.gX.c <;> first | rfl | exact hA _ (by omega) | exact congrFun (hA _ (by omega)) _ | exact hB _ (by omega) | exact h4 _ (by omega) | (intro k hk1 hk2; exact hB k (by omega)) | (simp (disch := omega) only [uA_s, uA_n, ud_n]; done)), (by apply R.gG.c <;> first | rfl | exact hA _ (by omega) | exact congrFun (hA _ (by omega)) _ | exact hB _ (by omega) | exact h4 _ (by omega) | (intro k hk1 hk2; exact hB k (by omega)) | (simp (disch := omega) only [uA_s, uA_n, ud_n]; done)), (by apply R.gI.c <;> first | rfl | exact hA _ (by omega) | exact congrFun (hA _ (by omega)) _ | exact hB _ (by omega) | exact h4 _ (by omega) | (intro k hk1 hk2; exact hB k (by omega)) | (simp (disch := omega) only [uA_s, uA_n, ud_n]; done))⟩, R.sx.tr ?_, R.sb.tr (SB.st (fun k hk => hB k (by omega)))⟩
  · obtain ⟨x1, x2, x3, x4, x5, x6, x7, x8, x9, x10, x11, x12, x13, x14, x15, x16, x17, x18, x19, x20, x21⟩ := R.gH
    have e23 : uA (uA A 23 p a) 24 p b 23 = ud (A 23) p a := by rw [uA_n (by omega), uA_s]
    have e24 : uA (uA A 23 p a) 24 p b 24 = ud (A 24) p b := by rw [uA_s, uA_n (by omega)]
    have e414 : uA (uA B 414 p a) 415 p b 414 = ud (B 414) p a := by rw [uA_n (by omega), uA_s]
    have e415 : uA (uA B 414 p a) 415 p b 415 = ud (B 415) p b := by rw [uA_s, uA_n (by omega)]
    unfold WH
    simp only [e23, e24, e414, e415, hA 19 (by omega), hA 20 (by omega), hA 21 (by omega), hA 22 (by omega), hA 25 (by omega), hA 26 (by omega), hA 27 (by omega), hA 28 (by omega), hA 29 (by omega), hA 30 (by omega), hA 17 (by omega), hA 16 (by omega), hB 400 (by omega), hB 410 (by omega), hB 411 (by omega), hB 412 (by omega), hB 413 (by omega), hB 416 (by omega), hB 417 (by omega), hB 418 (by omega), hB 419 (by omega), hB 420 (by omega), hB 421 (by omega)]
    refine ⟨x1, x2, x3, x4, x5, x6, fun h hh => ?_, fun h hh => ?_, x9, x10, x11, x12, x13, fun h hh => ?_, by rw [ud_n (by omega)]; exact x15, fun h h1 hh => ?_, x17, x18, x19, x20, x21⟩
    · by_cases q : h = p
      · subst q; rw [ud_s, ud_s]
      · rw [ud_n q, ud_n q]; exact x7 h hh
    · by_cases q : h = p
      · subst q; rw [ud_s, ud_s]
      · rw [ud_n q, ud_n q]; exact x8 h hh
    · by_cases q : h = p
      · subst q; rw [ud_s]; exact ha
      · rw [ud_n q]; exact x14 h hh
    · by_cases q : h = p
      · subst q; rw [ud_s]; exact hb
      · rw [ud_n q]; exact x16 h h1 hh
  · exact SX.st (fun k hk => hA k (by omega)) (by rw [hA 16 (by omega)]) (by rw [hA 16 (by omega)]) (by rw [hA 55 (by omega)]) (by rw [hA 55 (by omega)]) (fun c _ => by rw [hA 59 (by omega)])
theorem c_mind (h : Inv i A B) (v w u : Int32) : CP i A B (f_x_mind F v w u) (f_m_mind F v w u) := by
  obtain ⟨z, hz1, hz2, rfl⟩ : ∃ z : Int, -2147483648 ≤ z ∧ z < 2147483648 ∧ v = iI z := ⟨_, (i32rg v).1, (i32rg v).2, iI_of v⟩
  obtain ⟨y, hy1, hy2, rfl⟩ : ∃ z : Int, -2147483648 ≤ z ∧ z < 2147483648 ∧ w = iI z := ⟨_, (i32rg w).1, (i32rg w).2, iI_of w⟩
  obtain ⟨b, hb1, hb2, rfl⟩ : ∃ z : Int, -2147483648 ≤ z ∧ z < 2147483648 ∧ u = iI z := ⟨_, (i32rg u).1, (i32rg u).2, iI_of u⟩
  have R := h.rr
  have hn2 := R.gH.hn2
  have xh := fun Bx => ex_isHouse F R Bx z hz1 hz2
  have yh := fun Ax => em_isHouse F R Ax z hz1 hz2
  have xb := fun Bx => ex_isHouse F R Bx b hb1 hb2
  have yb := fun Ax => em_isHouse F R Ax b hb1 hb2
  have ei := fun Ax => em_in F y 0 9999 (mk Ax B) hy1 hy2 (by omega) (by omega) (by omega) (by omega)
  by_cases c0 : 0 ≤ z ∧ z < A 19 11
  · rw [bI_t c0] at xh yh
    by_cases cb : 0 ≤ b ∧ b < A 19 11
    · rw [bI_t cb] at xb yb
      have kz := R.gH.hk z.toNat (by omega)
      have kb := R.gH.hk b.toNat (by omega)
      have k0 := R.gH.hk0.1
      have rg : ∀ t : Int, 0 ≤ t → t < A 19 11 → 0 ≤ A 20 t.toNat ∧ A 20 t.toNat ≤ 2 := fun t t1 t2 => by
        by_cases e : t.toNat = 0
        · rw [e]; omega
        · have := R.gH.hk1 t.toNat (by omega) (by omega)
          omega
      have rz := rg z c0.1 c0.2
      have rb := rg b cb.1 cb.2
      by_cases c1 : z = 0
      · refine cp_no F h (v := -5) (by omega) (by omega) (fun Bx => ?_) (fun Ax => ?_)
        · simp only [f_x_mind, f_x_mind_55]
          refine obd (xh Bx) ?_
          refine (if_neg i1n0).trans ?_
          refine obd (xb Bx) ?_
          refine (if_neg i1n0).trans ?_
          exact (if_pos (by simp (disch := first | omega | (simp (disch := omega) only [uA_n]; done) | fail) only [iI_lit, iI_add, iI_sub, iI_mul, iI_neg, iI_lt, iI_le, iI_eq, zlt_t, zlt_f, zle_t, zle_f, zeq_t, zeq_f, nle_t, nle_f, iI_cl, rA, rS, rB, wA, wS, wB, mkp, mk2, uA_s, uA_n, ud_s, ud_n, bI_0, bI_1, nor_s, ↓reduceIte, or_false, false_or, or_true, true_or, or_self, not_true_eq_false, not_false_eq_true, and_true, true_and, and_false, false_and, bI_T, bI_F, Int.reduceToNat, Nat.reduceAdd, Nat.reduceMul, Int.reduceNeg, Option.bind_some, Int.toNat_natCast, c1]))
        · simp only [f_m_mind, f_m_mind_42]
          refine obd (yh Ax) ?_
          refine (if_neg i1n0).trans ?_
          refine obd (yb Ax) ?_
          refine (if_neg i1n0).trans ?_
          exact (if_pos (by simp (disch := first | omega | (simp (disch := omega) only [uA_n]; done) | fail) only [iI_lit, iI_add, iI_sub, iI_mul, iI_neg, iI_lt, iI_le, iI_eq, zlt_t, zlt_f, zle_t, zle_f, zeq_t, zeq_f, nle_t, nle_f, iI_cl, rA, rS, rB, wA, wS, wB, mkp, mk2, uA_s, uA_n, ud_s, ud_n, bI_0, bI_1, nor_s, ↓reduceIte, or_false, false_or, or_true, true_or, or_self, not_true_eq_false, not_false_eq_true, and_true, true_and, and_false, false_and, bI_T, bI_F, Int.reduceToNat, Nat.reduceAdd, Nat.reduceMul, Int.reduceNeg, Option.bind_some, Int.toNat_natCast, c1]))
      · have s0 := fun Ax => em_hs F b 0 Ax B (by omega) (by omega) (by omega) (by omega)
        have s1 := fun Ax => em_hs F z 0 Ax B (by omega) (by omega) (by omega) (by omega)
        have s0 : ∀ Ax, f_m_hs F (iI b) (iI 0) (mk Ax B) = some (iI (A 20 b.toNat), mk Ax B) := fun Ax => (s0 Ax).trans (by show some (iI (B 410 b.toNat), _) = _; rw [kb])
        have s1 : ∀ Ax, f_m_hs F (iI z) (iI 0) (mk Ax B) = some (iI (A 20 z.toNat), mk Ax B) := fun Ax => (s1 Ax).trans (by show some (iI (B 410 z.toNat), _) = _; rw [kz])
        by_cases c2 : A 20 z.toNat < A 20 b.toNat
        · by_cases c3 : 0 ≤ y ∧ y ≤ 9999
          · intro Ax Bx
            have ei := ei Ax
            rw [bI_t c3] at ei
            have hm := R.gH.hm z.toNat (by omega)
            have m0 : uA (uA B 414 z.toNat y) 415 z.toNat b 399 = B 399 := by rw [uA_n (by omega), uA_n (by omega)]
            refine ⟨iI (A 23 z.toNat), uA (uA A 23 z.toNat y) 24 z.toNat b, uA (uA B 414 z.toNat y) 415 z.toNat b, ?_, ?_, h.land (R.mind (by omega) c3 ⟨cb.1, cb.2, c2⟩) (by rw [uA_n (by omega), uA_n (by omega)])⟩
            · unfold f_x_mind
              refine obd (xh Bx) ?_
              refine (if_neg i1n0).trans ?_
              refine obd (xb Bx) ?_
              refine (if_neg i1n0).trans ?_
              refine (if_neg (by simp (disch := first | omega | (simp (disch := omega) only [uA_n]; done) | fail) only [iI_lit, iI_add, iI_sub, iI_mul, iI_neg, iI_lt, iI_le, iI_eq, zlt_t, zlt_f, zle_t, zle_f, zeq_t, zeq_f, nle_t, nle_f, iI_cl, rA, rS, rB, wA, wS, wB, mkp, mk2, uA_s, uA_n, ud_s, ud_n, bI_0, bI_1, nor_s, ↓reduceIte, or_false, false_or, or_true, true_or, or_self, not_true_eq_false, not_false_eq_true, and_true, true_and, and_false, false_and, bI_T, bI_F, Int.reduceToNat, Nat.reduceAdd, Nat.reduceMul, Int.reduceNeg, Option.bind_some, Int.toNat_natCast])).trans ?_
              refine (if_neg (by simp (disch := first | omega | (simp (disch := omega) only [uA_n]; done) | fail) only [iI_lit, iI_add, iI_sub, iI_mul, iI_neg, iI_lt, iI_le, iI_eq, zlt_t, zlt_f, zle_t, zle_f, zeq_t, zeq_f, nle_t, nle_f, iI_cl, rA, rS, rB, wA, wS, wB, mkp, mk2, uA_s, uA_n, ud_s, ud_n, bI_0, bI_1, nor_s, ↓reduceIte, or_false, false_or, or_true, true_or, or_self, not_true_eq_false, not_false_eq_true, and_true, true_and, and_false, false_and, bI_T, bI_F, Int.reduceToNat, Nat.reduceAdd, Nat.reduceMul, Int.reduceNeg, Option.bind_some, Int.toNat_natCast])).trans ?_
              refine (if_neg (by simp (disch := first | omega | (simp (disch := omega) only [uA_n]; done) | fail) only [iI_lit, iI_add, iI_sub, iI_mul, iI_neg, iI_lt, iI_le, iI_eq, zlt_t, zlt_f, zle_t, zle_f, zeq_t, zeq_f, nle_t, nle_f, iI_cl, rA, rS, rB, wA, wS, wB, mkp, mk2, uA_s, uA_n, ud_s, ud_n, bI_0, bI_1, nor_s, ↓reduceIte, or_false, false_or, or_true, true_or, or_self, not_true_eq_false, not_false_eq_true, and_true, true_and, and_false, false_and, bI_T, bI_F, Int.reduceToNat, Nat.reduceAdd, Nat.reduceMul, Int.reduceNeg, Option.bind_some, Int.toNat_natCast])).trans ?_
              refine (if_pos (by simp (disch := first | omega | (simp (disch := omega) only [uA_n]; done) | fail) only [iI_lit, iI_add, iI_sub, iI_mul, iI_neg, iI_lt, iI_le, iI_eq, zlt_t, zlt_f, zle_t, zle_f, zeq_t, zeq_f, nle_t, nle_f, iI_cl, rA, rS, rB, wA, wS, wB, mkp, mk2, uA_s, uA_n, ud_s, ud_n, bI_0, bI_1, nor_s, ↓reduceIte, or_false, false_or, or_true, true_or, or_self, not_true_eq_false, not_false_eq_true, and_true, true_and, and_false, false_and, bI_T, bI_F, Int.reduceToNat, Nat.reduceAdd, Nat.reduceMul, Int.reduceNeg, Option.bind_some, Int.toNat_natCast])).trans ?_
              refine (if_neg (by simp (disch := first | omega | (simp (disch := omega) only [uA_n]; done) | fail) only [iI_lit, iI_add, iI_sub, iI_mul, iI_neg, iI_lt, iI_le, iI_eq, zlt_t, zlt_f, zle_t, zle_f, zeq_t, zeq_f, nle_t, nle_f, iI_cl, rA, rS, rB, wA, wS, wB, mkp, mk2, uA_s, uA_n, ud_s, ud_n, bI_0, bI_1, nor_s, ↓reduceIte, or_false, false_or, or_true, true_or, or_self, not_true_eq_false, not_false_eq_true, and_true, true_and, and_false, false_and, bI_T, bI_F, Int.reduceToNat, Nat.reduceAdd, Nat.reduceMul, Int.reduceNeg, Option.bind_some, Int.toNat_natCast])).trans ?_
              refine (if_pos (by simp (disch := first | omega | (simp (disch := omega) only [uA_n]; done) | fail) only [iI_lit, iI_add, iI_sub, iI_mul, iI_neg, iI_lt, iI_le, iI_eq, zlt_t, zlt_f, zle_t, zle_f, zeq_t, zeq_f, nle_t, nle_f, iI_cl, rA, rS, rB, wA, wS, wB, mkp, mk2, uA_s, uA_n, ud_s, ud_n, bI_0, bI_1, nor_s, ↓reduceIte, or_false, false_or, or_true, true_or, or_self, not_true_eq_false, not_false_eq_true, and_true, true_and, and_false, false_and, bI_T, bI_F, Int.reduceToNat, Nat.reduceAdd, Nat.reduceMul, Int.reduceNeg, Option.bind_some, Int.toNat_natCast])).trans ?_
              simp (disch := first | omega | (simp (disch := omega) only [uA_n]; done) | fail) only [iI_lit, iI_add, iI_sub, iI_mul, iI_neg, iI_lt, iI_le, iI_eq, zlt_t, zlt_f, zle_t, zle_f, zeq_t, zeq_f, nle_t, nle_f, iI_cl, rA, rS, rB, wA, wS, wB, mkp, mk2, uA_s, uA_n, ud_s, ud_n, bI_0, bI_1, nor_s, ↓reduceIte, or_false, false_or, or_true, true_or, or_self, not_true_eq_false, not_false_eq_true, and_true, true_and, and_false, false_and, bI_T, bI_F, Int.reduceToNat, Nat.reduceAdd, Nat.reduceMul, Int.reduceNeg, Option.bind_some, Int.toNat_natCast]
            · unfold f_m_mind
              refine obd (yh Ax) ?_
              refine (if_neg i1n0).trans ?_
              refine obd (yb Ax) ?_
              refine (if_neg i1n0).trans ?_
              refine (if_neg (by simp (disch := first | omega | (simp (disch := omega) only [uA_n]; done) | fail) only [iI_lit, iI_add, iI_sub, iI_mul, iI_neg, iI_lt, iI_le, iI_eq, zlt_t, zlt_f, zle_t, zle_f, zeq_t, zeq_f, nle_t, nle_f, iI_cl, rA, rS, rB, wA, wS, wB, mkp, mk2, uA_s, uA_n, ud_s, ud_n, bI_0, bI_1, nor_s, ↓reduceIte, or_false, false_or, or_true, true_or, or_self, not_true_eq_false, not_false_eq_true, and_true, true_and, and_false, false_and, bI_T, bI_F, Int.reduceToNat, Nat.reduceAdd, Nat.reduceMul, Int.reduceNeg, Option.bind_some, Int.toNat_natCast])).trans ?_
              refine obd (s0 Ax) ?_
              refine obd (s1 Ax) ?_
              refine (if_pos (by simp (disch := first | omega | (simp (disch := omega) only [uA_n]; done) | fail) only [iI_lit, iI_add, iI_sub, iI_mul, iI_neg, iI_lt, iI_le, iI_eq, zlt_t, zlt_f, zle_t, zle_f, zeq_t, zeq_f, nle_t, nle_f, iI_cl, rA, rS, rB, wA, wS, wB, mkp, mk2, uA_s, uA_n, ud_s, ud_n, bI_0, bI_1, nor_s, ↓reduceIte, or_false, false_or, or_true, true_or, or_self, not_true_eq_false, not_false_eq_true, and_true, true_and, and_false, false_and, bI_T, bI_F, Int.reduceToNat, Nat.reduceAdd, Nat.reduceMul, Int.reduceNeg, Option.bind_some, Int.toNat_natCast])).trans ?_
              refine obd ei ?_
              refine (if_neg i1n0).trans ?_
              refine obd (em_hs F z 4 Ax B (by omega) (by omega) (by omega) (by omega)) ?_
              refine (if_neg (by simp (disch := first | omega | (simp (disch := omega) only [uA_n]; done) | fail) only [iI_lit, iI_add, iI_sub, iI_mul, iI_neg, iI_lt, iI_le, iI_eq, zlt_t, zlt_f, zle_t, zle_f, zeq_t, zeq_f, nle_t, nle_f, iI_cl, rA, rS, rB, wA, wS, wB, mkp, mk2, uA_s, uA_n, ud_s, ud_n, bI_0, bI_1, nor_s, ↓reduceIte, or_false, false_or, or_true, true_or, or_self, not_true_eq_false, not_false_eq_true, and_true, true_and, and_false, false_and, bI_T, bI_F, Int.reduceToNat, Nat.reduceAdd, Nat.reduceMul, Int.reduceNeg, Option.bind_some, Int.toNat_natCast])).trans ?_
              refine (if_neg (by simp (disch := first | omega | (simp (disch := omega) only [uA_n]; done) | fail) only [iI_lit, iI_add, iI_sub, iI_mul, iI_neg, iI_lt, iI_le, iI_eq, zlt_t, zlt_f, zle_t, zle_f, zeq_t, zeq_f, nle_t, nle_f, iI_cl, rA, rS, rB, wA, wS, wB, mkp, mk2, uA_s, uA_n, ud_s, ud_n, bI_0, bI_1, nor_s, ↓reduceIte, or_false, false_or, or_true, true_or, or_self, not_true_eq_false, not_false_eq_true, and_true, true_and, and_false, false_and, bI_T, bI_F, Int.reduceToNat, Nat.reduceAdd, Nat.reduceMul, Int.reduceNeg, Option.bind_some, Int.toNat_natCast])).trans ?_
              simp (disch := first | omega | (simp (disch := omega) only [uA_n]; done) | fail) only [iI_lit, iI_add, iI_sub, iI_mul, iI_neg, iI_lt, iI_le, iI_eq, zlt_t, zlt_f, zle_t, zle_f, zeq_t, zeq_f, nle_t, nle_f, iI_cl, rA, rS, rB, wA, wS, wB, mkp, mk2, uA_s, uA_n, ud_s, ud_n, bI_0, bI_1, nor_s, ↓reduceIte, or_false, false_or, or_true, true_or, or_self, not_true_eq_false, not_false_eq_true, and_true, true_and, and_false, false_and, bI_T, bI_F, Int.reduceToNat, Nat.reduceAdd, Nat.reduceMul, Int.reduceNeg, Option.bind_some, Int.toNat_natCast, zH, hm, mk2 m0]
          · refine cp_no F h (v := -7) (by omega) (by omega) (fun Bx => ?_) (fun Ax => ?_)
            · simp only [f_x_mind, f_x_mind_73]
              refine obd (xh Bx) ?_
              refine (if_neg i1n0).trans ?_
              refine obd (xb Bx) ?_
              refine (if_neg i1n0).trans ?_
              refine (if_neg (by simp (disch := first | omega | (simp (disch := omega) only [uA_n]; done) | fail) only [iI_lit, iI_add, iI_sub, iI_mul, iI_neg, iI_lt, iI_le, iI_eq, zlt_t, zlt_f, zle_t, zle_f, zeq_t, zeq_f, nle_t, nle_f, iI_cl, rA, rS, rB, wA, wS, wB, mkp, mk2, uA_s, uA_n, ud_s, ud_n, bI_0, bI_1, nor_s, ↓reduceIte, or_false, false_or, or_true, true_or, or_self, not_true_eq_false, not_false_eq_true, and_true, true_and, and_false, false_and, bI_T, bI_F, Int.reduceToNat, Nat.reduceAdd, Nat.reduceMul, Int.reduceNeg, Option.bind_some, Int.toNat_natCast])).trans ?_
              refine (if_neg (by simp (disch := first | omega | (simp (disch := omega) only [uA_n]; done) | fail) only [iI_lit, iI_add, iI_sub, iI_mul, iI_neg, iI_lt, iI_le, iI_eq, zlt_t, zlt_f, zle_t, zle_f, zeq_t, zeq_f, nle_t, nle_f, iI_cl, rA, rS, rB, wA, wS, wB, mkp, mk2, uA_s, uA_n, ud_s, ud_n, bI_0, bI_1, nor_s, ↓reduceIte, or_false, false_or, or_true, true_or, or_self, not_true_eq_false, not_false_eq_true, and_true, true_and, and_false, false_and, bI_T, bI_F, Int.reduceToNat, Nat.reduceAdd, Nat.reduceMul, Int.reduceNeg, Option.bind_some, Int.toNat_natCast])).trans ?_
              refine (if_neg (by simp (disch := first | omega | (simp (disch := omega) only [uA_n]; done) | fail) only [iI_lit, iI_add, iI_sub, iI_mul, iI_neg, iI_lt, iI_le, iI_eq, zlt_t, zlt_f, zle_t, zle_f, zeq_t, zeq_f, nle_t, nle_f, iI_cl, rA, rS, rB, wA, wS, wB, mkp, mk2, uA_s, uA_n, ud_s, ud_n, bI_0, bI_1, nor_s, ↓reduceIte, or_false, false_or, or_true, true_or, or_self, not_true_eq_false, not_false_eq_true, and_true, true_and, and_false, false_and, bI_T, bI_F, Int.reduceToNat, Nat.reduceAdd, Nat.reduceMul, Int.reduceNeg, Option.bind_some, Int.toNat_natCast])).trans ?_
              refine (if_pos (by simp (disch := first | omega | (simp (disch := omega) only [uA_n]; done) | fail) only [iI_lit, iI_add, iI_sub, iI_mul, iI_neg, iI_lt, iI_le, iI_eq, zlt_t, zlt_f, zle_t, zle_f, zeq_t, zeq_f, nle_t, nle_f, iI_cl, rA, rS, rB, wA, wS, wB, mkp, mk2, uA_s, uA_n, ud_s, ud_n, bI_0, bI_1, nor_s, ↓reduceIte, or_false, false_or, or_true, true_or, or_self, not_true_eq_false, not_false_eq_true, and_true, true_and, and_false, false_and, bI_T, bI_F, Int.reduceToNat, Nat.reduceAdd, Nat.reduceMul, Int.reduceNeg, Option.bind_some, Int.toNat_natCast])).trans ?_
              by_cases c4 : y < 0
              · exact (if_pos (by simp (disch := first | omega | (simp (disch := omega) only [uA_n]; done) | fail) only [iI_lit, iI_add, iI_sub, iI_mul, iI_neg, iI_lt, iI_le, iI_eq, zlt_t, zlt_f, zle_t, zle_f, zeq_t, zeq_f, nle_t, nle_f, iI_cl, rA, rS, rB, wA, wS, wB, mkp, mk2, uA_s, uA_n, ud_s, ud_n, bI_0, bI_1, nor_s, ↓reduceIte, or_false, false_or, or_true, true_or, or_self, not_true_eq_false, not_false_eq_true, and_true, true_and, and_false, false_and, bI_T, bI_F, Int.reduceToNat, Nat.reduceAdd, Nat.reduceMul, Int.reduceNeg, Option.bind_some, Int.toNat_natCast]))
              · refine (if_neg (by simp (disch := first | omega | (simp (disch := omega) only [uA_n]; done) | fail) only [iI_lit, iI_add, iI_sub, iI_mul, iI_neg, iI_lt, iI_le, iI_eq, zlt_t, zlt_f, zle_t, zle_f, zeq_t, zeq_f, nle_t, nle_f, iI_cl, rA, rS, rB, wA, wS, wB, mkp, mk2, uA_s, uA_n, ud_s, ud_n, bI_0, bI_1, nor_s, ↓reduceIte, or_false, false_or, or_true, true_or, or_self, not_true_eq_false, not_false_eq_true, and_true, true_and, and_false, false_and, bI_T, bI_F, Int.reduceToNat, Nat.reduceAdd, Nat.reduceMul, Int.reduceNeg, Option.bind_some, Int.toNat_natCast])).trans ?_
                exact (if_neg (by simp (disch := first | omega | (simp (disch := omega) only [uA_n]; done) | fail) only [iI_lit, iI_add, iI_sub, iI_mul, iI_neg, iI_lt, iI_le, iI_eq, zlt_t, zlt_f, zle_t, zle_f, zeq_t, zeq_f, nle_t, nle_f, iI_cl, rA, rS, rB, wA, wS, wB, mkp, mk2, uA_s, uA_n, ud_s, ud_n, bI_0, bI_1, nor_s, ↓reduceIte, or_false, false_or, or_true, true_or, or_self, not_true_eq_false, not_false_eq_true, and_true, true_and, and_false, false_and, bI_T, bI_F, Int.reduceToNat, Nat.reduceAdd, Nat.reduceMul, Int.reduceNeg, Option.bind_some, Int.toNat_natCast]))
            · have ei := ei Ax
              rw [bI_f c3] at ei
              unfold f_m_mind
              refine obd (yh Ax) ?_
              refine (if_neg i1n0).trans ?_
              refine obd (yb Ax) ?_
              refine (if_neg i1n0).trans ?_
              refine (if_neg (by simp (disch := first | omega | (simp (disch := omega) only [uA_n]; done) | fail) only [iI_lit, iI_add, iI_sub, iI_mul, iI_neg, iI_lt, iI_le, iI_eq, zlt_t, zlt_f, zle_t, zle_f, zeq_t, zeq_f, nle_t, nle_f, iI_cl, rA, rS, rB, wA, wS, wB, mkp, mk2, uA_s, uA_n, ud_s, ud_n, bI_0, bI_1, nor_s, ↓reduceIte, or_false, false_or, or_true, true_or, or_self, not_true_eq_false, not_false_eq_true, and_true, true_and, and_false, false_and, bI_T, bI_F, Int.reduceToNat, Nat.reduceAdd, Nat.reduceMul, Int.reduceNeg, Option.bind_some, Int.toNat_natCast])).trans ?_
              refine obd (s0 Ax) ?_
              refine obd (s1 Ax) ?_
              refine (if_pos (by simp (disch := first | omega | (simp (disch := omega) only [uA_n]; done) | fail) only [iI_lit, iI_add, iI_sub, iI_mul, iI_neg, iI_lt, iI_le, iI_eq, zlt_t, zlt_f, zle_t, zle_f, zeq_t, zeq_f, nle_t, nle_f, iI_cl, rA, rS, rB, wA, wS, wB, mkp, mk2, uA_s, uA_n, ud_s, ud_n, bI_0, bI_1, nor_s, ↓reduceIte, or_false, false_or, or_true, true_or, or_self, not_true_eq_false, not_false_eq_true, and_true, true_and, and_false, false_and, bI_T, bI_F, Int.reduceToNat, Nat.reduceAdd, Nat.reduceMul, Int.reduceNeg, Option.bind_some, Int.toNat_natCast])).trans ?_
              refine obd ei ?_
              exact (if_pos rfl)
        · refine cp_no F h (v := -5) (by omega) (by omega) (fun Bx => ?_) (fun Ax => ?_)
          · simp only [f_x_mind, f_x_mind_55]
            refine obd (xh Bx) ?_
            refine (if_neg i1n0).trans ?_
            refine obd (xb Bx) ?_
            refine (if_neg i1n0).trans ?_
            refine (if_neg (by simp (disch := first | omega | (simp (disch := omega) only [uA_n]; done) | fail) only [iI_lit, iI_add, iI_sub, iI_mul, iI_neg, iI_lt, iI_le, iI_eq, zlt_t, zlt_f, zle_t, zle_f, zeq_t, zeq_f, nle_t, nle_f, iI_cl, rA, rS, rB, wA, wS, wB, mkp, mk2, uA_s, uA_n, ud_s, ud_n, bI_0, bI_1, nor_s, ↓reduceIte, or_false, false_or, or_true, true_or, or_self, not_true_eq_false, not_false_eq_true, and_true, true_and, and_false, false_and, bI_T, bI_F, Int.reduceToNat, Nat.reduceAdd, Nat.reduceMul, Int.reduceNeg, Option.bind_some, Int.toNat_natCast])).trans ?_
            refine (if_neg (by simp (disch := first | omega | (simp (disch := omega) only [uA_n]; done) | fail) only [iI_lit, iI_add, iI_sub, iI_mul, iI_neg, iI_lt, iI_le, iI_eq, zlt_t, zlt_f, zle_t, zle_f, zeq_t, zeq_f, nle_t, nle_f, iI_cl, rA, rS, rB, wA, wS, wB, mkp, mk2, uA_s, uA_n, ud_s, ud_n, bI_0, bI_1, nor_s, ↓reduceIte, or_false, false_or, or_true, true_or, or_self, not_true_eq_false, not_false_eq_true, and_true, true_and, and_false, false_and, bI_T, bI_F, Int.reduceToNat, Nat.reduceAdd, Nat.reduceMul, Int.reduceNeg, Option.bind_some, Int.toNat_natCast])).trans ?_
            refine (if_neg (by simp (disch := first | omega | (simp (disch := omega) only [uA_n]; done) | fail) only [iI_lit, iI_add, iI_sub, iI_mul, iI_neg, iI_lt, iI_le, iI_eq, zlt_t, zlt_f, zle_t, zle_f, zeq_t, zeq_f, nle_t, nle_f, iI_cl, rA, rS, rB, wA, wS, wB, mkp, mk2, uA_s, uA_n, ud_s, ud_n, bI_0, bI_1, nor_s, ↓reduceIte, or_false, false_or, or_true, true_or, or_self, not_true_eq_false, not_false_eq_true, and_true, true_and, and_false, false_and, bI_T, bI_F, Int.reduceToNat, Nat.reduceAdd, Nat.reduceMul, Int.reduceNeg, Option.bind_some, Int.toNat_natCast])).trans ?_
            exact (if_neg (by simp (disch := first | omega | (simp (disch := omega) only [uA_n]; done) | fail) only [iI_lit, iI_add, iI_sub, iI_mul, iI_neg, iI_lt, iI_le, iI_eq, zlt_t, zlt_f, zle_t, zle_f, zeq_t, zeq_f, nle_t, nle_f, iI_cl, rA, rS, rB, wA, wS, wB, mkp, mk2, uA_s, uA_n, ud_s, ud_n, bI_0, bI_1, nor_s, ↓reduceIte, or_false, false_or, or_true, true_or, or_self, not_true_eq_false, not_false_eq_true, and_true, true_and, and_false, false_and, bI_T, bI_F, Int.reduceToNat, Nat.reduceAdd, Nat.reduceMul, Int.reduceNeg, Option.bind_some, Int.toNat_natCast]))
          · simp only [f_m_mind, f_m_mind_42]
            refine obd (yh Ax) ?_
            refine (if_neg i1n0).trans ?_
            refine obd (yb Ax) ?_
            refine (if_neg i1n0).trans ?_
            refine (if_neg (by simp (disch := first | omega | (simp (disch := omega) only [uA_n]; done) | fail) only [iI_lit, iI_add, iI_sub, iI_mul, iI_neg, iI_lt, iI_le, iI_eq, zlt_t, zlt_f, zle_t, zle_f, zeq_t, zeq_f, nle_t, nle_f, iI_cl, rA, rS, rB, wA, wS, wB, mkp, mk2, uA_s, uA_n, ud_s, ud_n, bI_0, bI_1, nor_s, ↓reduceIte, or_false, false_or, or_true, true_or, or_self, not_true_eq_false, not_false_eq_true, and_true, true_and, and_false, false_and, bI_T, bI_F, Int.reduceToNat, Nat.reduceAdd, Nat.reduceMul, Int.reduceNeg, Option.bind_some, Int.toNat_natCast])).trans ?_
            refine obd (s0 Ax) ?_
            refine obd (s1 Ax) ?_
            exact (if_neg (by simp (disch := first | omega | (simp (disch := omega) only [uA_n]; done) | fail) only [iI_lit, iI_add, iI_sub, iI_mul, iI_neg, iI_lt, iI_le, iI_eq, zlt_t, zlt_f, zle_t, zle_f, zeq_t, zeq_f, nle_t, nle_f, iI_cl, rA, rS, rB, wA, wS, wB, mkp, mk2, uA_s, uA_n, ud_s, ud_n, bI_0, bI_1, nor_s, ↓reduceIte, or_false, false_or, or_true, true_or, or_self, not_true_eq_false, not_false_eq_true, and_true, true_and, and_false, false_and, bI_T, bI_F, Int.reduceToNat, Nat.reduceAdd, Nat.reduceMul, Int.reduceNeg, Option.bind_some, Int.toNat_natCast]))
    · rw [bI_f cb] at xb yb
      refine cp_no F h (v := -3) (by omega) (by omega) (fun Bx => ?_) (fun Ax => ?_)
      · simp only [f_x_mind, f_x_mind_27]
        refine obd (xh Bx) ?_
        refine (if_neg i1n0).trans ?_
        refine obd (xb Bx) ?_
        exact (if_pos rfl)
      · simp only [f_m_mind, f_m_mind_16]
        refine obd (yh Ax) ?_
        refine (if_neg i1n0).trans ?_
        refine obd (yb Ax) ?_
        exact (if_pos rfl)
  · rw [bI_f c0] at xh yh
    refine cp_no F h (v := -3) (by omega) (by omega) (fun Bx => ?_) (fun Ax => ?_)
    · simp only [f_x_mind, f_x_mind_27]
      refine obd (xh Bx) ?_
      exact (if_pos rfl)
    · simp only [f_m_mind, f_m_mind_16]
      refine obd (yh Ax) ?_
      exact (if_pos rfl)
end CAL2
