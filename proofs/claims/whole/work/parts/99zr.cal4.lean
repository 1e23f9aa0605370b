/-! CALLS: rate, town, far, down -/
theorem Inv.same {i : Nat} {A B A' B' B1 : hI} {K : Int} (h : Inv i A B) (R : RR K (A' 16 9) A B1 A' B') (hB1 : ∀ k : Nat, k ≠ 469 → B1 k = B k) (hK : K ≤ KMX i (A' 16 9)) : Inv i A' B' := by
  obtain ⟨-, h2, h3, h4, h5, h6⟩ := h
  obtain ⟨w, sx, sb⟩ := R
  obtain ⟨s1, s2, s3, s4⟩ := sx
  obtain ⟨t1, t2, t3, t4, t5⟩ := sb
  have hA : ∀ k : Nat, k < 2 ∨ (8 ≤ k ∧ k < 15) ∨ 62 ≤ k → A' k = A k := s1
  have hB : ∀ k : Nat, k = 306 ∨ k = 311 ∨ (315 ≤ k ∧ k < 318) ∨ k = 350 ∨ 1000 ≤ k → B' k = B k := fun k hk => (t1 k (by omega)).trans (hB1 k (by omega))
  have b304 : B1 304 = B 304 := hB1 304 (by omega)
  rw [b304] at t2 t3 t4 t5
  refine ⟨w.k hK, ?_, ?_, ?_, ?_, ?_⟩
  · rw [hA 119 (by omega), hB 306 (by omega)]; exact h2
  · unfold tpI
    rw [hA 114 (by omega), hA 115 (by omega), t2, hB 311 (by omega)]; exact h3
  · unfold rwI
    rw [hA 0 (by omega), hA 117 (by omega), t5, t4, hB 317 (by omega)]; exact h4
  · have e1 : shA A' = shA A := by
      funext k
      unfold shA
      split
      · exact hA (k + 46) (by omega)
      · rfl
    have e2 : shB B' = shB B := funext fun k => hB (1000 + k) (by omega)
    unfold kpI
    rw [hA 0 (by omega), hA 62 (by omega), t3, e1, e2]
    rcases h5 with h5 | ⟨u1, u2, u3, u4⟩
    · exact Or.inl h5
    · exact Or.inr ⟨u1, u2, u3.rc (s4.lo u4), u4.tr s3⟩
  · intro q
    rw [hB 350 (by omega), hB 1350 (by omega)]; exact h6 q

section CAL4
variable {K D : Int} {A0 B0 A B : hI} {i : Nat} (F : Nat)
theorem c_rate (h : Inv i A B) (hi : i < 512) (hF : 1000 ≤ F) (v : Int32) : CP i A B (f_x_rate F v) (f_m_rate F v) := by
  obtain ⟨z, hz1, hz2, rfl⟩ : ∃ z : Int, -2147483648 ≤ z ∧ z < 2147483648 ∧ v = iI z := ⟨_, (i32rg v).1, (i32rg v).2, iI_of v⟩
  have R := h.rr
  have hK := h.kmx (by omega)
  have rg := tin_rg A B (-1) 1 (A 16 14).toNat
  have hx1 := R.gX.xn1
  have hx2 := R.gX.xn2
  have hw : -1 ≤ twh A B (-1) 1 ∧ twh A B (-1) 1 < 12 := by unfold twh; omega
  have xr := fun Bx : hI => ex_isRate F z (mk A Bx) hz1 hz2
  have ei := fun Ax => em_in F z 0 20 (mk Ax B) hz1 hz2 (by omega) (by omega) (by omega) (by omega)
  by_cases c0 : 0 ≤ z ∧ z ≤ 20
  · rw [bI_t c0] at xr
    intro Ax Bx
    have ei := ei Ax
    rw [bI_t c0] at ei
    obtain ⟨A1, x1, x2⟩ := ex_which F R hF (by omega) Bx (bill := -1) (key := 1) (Or.inl rfl) (by omega) (by omega)
    obtain ⟨B1, y1, y2, y3⟩ := em_rules F Ax R hF (by omega) (bill := -1) (key := 1) (Or.inl rfl) (by omega) (by omega)
    have R1 : RR (KMX i (A 16 9)) (A 16 9) A B A1 B1 := (R.xA (fun j h15 _ h54 => x2 j h15 h54)).x4 y2
    have e16 : A1 16 = A 16 := x2 16 (by omega) (by omega)
    by_cases c : twh A B (-1) 1 = -1
    · have r3 := R1.gD.dr3
      have m0 : uA B1 400 10 z 399 = B1 399 := uA_n (by omega)
      rw [c] at x1 y1
      refine ⟨iI (A1 16 10), uA A1 16 10 z, uA B1 400 10 z, ?_, ?_, h.land (R1.rate c0) (by rw [uA_s, ud_n (by omega), e16])⟩
      · unfold f_x_rate
        refine obd (xr Bx) ?_
        refine (if_neg i1n0).trans ?_
        refine obd (v := (iI (-1), mk A1 Bx)) (by simp (disch := first | omega | (simp (disch := omega) only [uA_n]; done) | fail) only [iI_lit, iI_add, iI_sub, iI_mul, iI_neg, iI_lt, iI_le, iI_eq, zlt_t, zlt_f, zle_t, zle_f, zeq_t, zeq_f, nle_t, nle_f, iI_cl, rA, rS, rB, wA, wS, wB, mkp, mk2, uA_s, uA_n, ud_s, ud_n, bI_0, bI_1, nor_s, ↓reduceIte, or_false, false_or, or_true, true_or, or_self, not_true_eq_false, not_false_eq_true, and_true, true_and, and_false, false_and, bI_T, bI_F, Int.reduceToNat, Nat.reduceAdd, Nat.reduceMul, Int.reduceNeg, Option.bind_some, Int.toNat_natCast, x1]) ?_
        refine (if_pos rfl).trans ?_
        simp (disch := first | omega | (simp (disch := omega) only [uA_n]; done) | fail) only [iI_lit, iI_add, iI_sub, iI_mul, iI_neg, iI_lt, iI_le, iI_eq, zlt_t, zlt_f, zle_t, zle_f, zeq_t, zeq_f, nle_t, nle_f, iI_cl, rA, rS, rB, wA, wS, wB, mkp, mk2, uA_s, uA_n, ud_s, ud_n, bI_0, bI_1, nor_s, ↓reduceIte, or_false, false_or, or_true, true_or, or_self, not_true_eq_false, not_false_eq_true, and_true, true_and, and_false, false_and, bI_T, bI_F, Int.reduceToNat, Nat.reduceAdd, Nat.reduceMul, Int.reduceNeg, Option.bind_some, Int.toNat_natCast]
      · unfold f_m_rate
        refine obd ei ?_
        refine (if_neg i1n0).trans ?_
        refine obd (v := (iI 0, mk Ax B1)) (by
          simp only [f_m_rules, f_m_rules_15]
          refine obd (v := (iI (-1), mk Ax B1)) (by simp (disch := first | omega | (simp (disch := omega) only [uA_n]; done) | fail) only [iI_lit, iI_add, iI_sub, iI_mul, iI_neg, iI_lt, iI_le, iI_eq, zlt_t, zlt_f, zle_t, zle_f, zeq_t, zeq_f, nle_t, nle_f, iI_cl, rA, rS, rB, wA, wS, wB, mkp, mk2, uA_s, uA_n, ud_s, ud_n, bI_0, bI_1, nor_s, ↓reduceIte, or_false, false_or, or_true, true_or, or_self, not_true_eq_false, not_false_eq_true, and_true, true_and, and_false, false_and, bI_T, bI_F, Int.reduceToNat, Nat.reduceAdd, Nat.reduceMul, Int.reduceNeg, Option.bind_some, Int.toNat_natCast, y1]) ?_
          simp (disch := first | omega | (simp (disch := omega) only [uA_n]; done) | fail) only [iI_lit, iI_add, iI_sub, iI_mul, iI_neg, iI_lt, iI_le, iI_eq, zlt_t, zlt_f, zle_t, zle_f, zeq_t, zeq_f, nle_t, nle_f, iI_cl, rA, rS, rB, wA, wS, wB, mkp, mk2, uA_s, uA_n, ud_s, ud_n, bI_0, bI_1, nor_s, ↓reduceIte, or_false, false_or, or_true, true_or, or_self, not_true_eq_false, not_false_eq_true, and_true, true_and, and_false, false_and, bI_T, bI_F, Int.reduceToNat, Nat.reduceAdd, Nat.reduceMul, Int.reduceNeg, Option.bind_some, Int.toNat_natCast]) ?_
        refine (if_pos rfl).trans ?_
        simp (disch := first | omega | (simp (disch := omega) only [uA_n]; done) | fail) only [iI_lit, iI_add, iI_sub, iI_mul, iI_neg, iI_lt, iI_le, iI_eq, zlt_t, zlt_f, zle_t, zle_f, zeq_t, zeq_f, nle_t, nle_f, iI_cl, rA, rS, rB, wA, wS, wB, mkp, mk2, uA_s, uA_n, ud_s, ud_n, bI_0, bI_1, nor_s, ↓reduceIte, or_false, false_or, or_true, true_or, or_self, not_true_eq_false, not_false_eq_true, and_true, true_and, and_false, false_and, bI_T, bI_F, Int.reduceToNat, Nat.reduceAdd, Nat.reduceMul, Int.reduceNeg, Option.bind_some, Int.toNat_natCast, dS, r3, mk2 m0]
    · have I1 : Inv i A1 B1 := h.same (B1 := B) (K := KMX i (A 16 9)) (by rw [e16]; exact R1) (fun _ _ => rfl) (by rw [e16]; exact Int.le_refl _)
      obtain ⟨A2, B2, x5, y5, I2⟩ := both_refuse F I1 (v := -7) (by omega) (by omega) Ax Bx
      refine ⟨iI (-7), A2, B2, ?_, ?_, I2⟩
      · simp only [f_x_rate, f_x_rate_20]
        refine obd (xr Bx) ?_
        refine (if_neg i1n0).trans ?_
        refine obd (v := (iI (twh A B (-1) 1), mk A1 Bx)) (by simp (disch := first | omega | (simp (disch := omega) only [uA_n]; done) | fail) only [iI_lit, iI_add, iI_sub, iI_mul, iI_neg, iI_lt, iI_le, iI_eq, zlt_t, zlt_f, zle_t, zle_f, zeq_t, zeq_f, nle_t, nle_f, iI_cl, rA, rS, rB, wA, wS, wB, mkp, mk2, uA_s, uA_n, ud_s, ud_n, bI_0, bI_1, nor_s, ↓reduceIte, or_false, false_or, or_true, true_or, or_self, not_true_eq_false, not_false_eq_true, and_true, true_and, and_false, false_and, bI_T, bI_F, Int.reduceToNat, Nat.reduceAdd, Nat.reduceMul, Int.reduceNeg, Option.bind_some, Int.toNat_natCast, x1]) ?_
        refine (if_neg (by simp (disch := first | omega | (simp (disch := omega) only [uA_n]; done) | fail) only [iI_lit, iI_add, iI_sub, iI_mul, iI_neg, iI_lt, iI_le, iI_eq, zlt_t, zlt_f, zle_t, zle_f, zeq_t, zeq_f, nle_t, nle_f, iI_cl, rA, rS, rB, wA, wS, wB, mkp, mk2, uA_s, uA_n, ud_s, ud_n, bI_0, bI_1, nor_s, ↓reduceIte, or_false, false_or, or_true, true_or, or_self, not_true_eq_false, not_false_eq_true, and_true, true_and, and_false, false_and, bI_T, bI_F, Int.reduceToNat, Nat.reduceAdd, Nat.reduceMul, Int.reduceNeg, Option.bind_some, Int.toNat_natCast])).trans ?_
        exact obd x5 rfl
      · simp only [f_m_rate, f_m_rate_19]
        refine obd ei ?_
        refine (if_neg i1n0).trans ?_
        refine obd (v := (iI 1, mk Ax B1)) (by
          simp only [f_m_rules, f_m_rules_15]
          refine obd (v := (iI (twh A B (-1) 1), mk Ax B1)) (by simp (disch := first | omega | (simp (disch := omega) only [uA_n]; done) | fail) only [iI_lit, iI_add, iI_sub, iI_mul, iI_neg, iI_lt, iI_le, iI_eq, zlt_t, zlt_f, zle_t, zle_f, zeq_t, zeq_f, nle_t, nle_f, iI_cl, rA, rS, rB, wA, wS, wB, mkp, mk2, uA_s, uA_n, ud_s, ud_n, bI_0, bI_1, nor_s, ↓reduceIte, or_false, false_or, or_true, true_or, or_self, not_true_eq_false, not_false_eq_true, and_true, true_and, and_false, false_and, bI_T, bI_F, Int.reduceToNat, Nat.reduceAdd, Nat.reduceMul, Int.reduceNeg, Option.bind_some, Int.toNat_natCast, y1]) ?_
          simp (disch := first | omega | (simp (disch := omega) only [uA_n]; done) | fail) only [iI_lit, iI_add, iI_sub, iI_mul, iI_neg, iI_lt, iI_le, iI_eq, zlt_t, zlt_f, zle_t, zle_f, zeq_t, zeq_f, nle_t, nle_f, iI_cl, rA, rS, rB, wA, wS, wB, mkp, mk2, uA_s, uA_n, ud_s, ud_n, bI_0, bI_1, nor_s, ↓reduceIte, or_false, false_or, or_true, true_or, or_self, not_true_eq_false, not_false_eq_true, and_true, true_and, and_false, false_and, bI_T, bI_F, Int.reduceToNat, Nat.reduceAdd, Nat.reduceMul, Int.reduceNeg, Option.bind_some, Int.toNat_natCast]) ?_
        refine (if_neg i1n0).trans ?_
        exact obd y5 rfl
  · rw [bI_f c0] at xr
    refine cp_no F h (v := -7) (by omega) (by omega) (fun Bx => ?_) (fun Ax => ?_)
    · simp only [f_x_rate, f_x_rate_20]
      refine obd (xr Bx) ?_
      exact (if_pos rfl)
    · have ei := ei Ax
      rw [bI_f c0] at ei
      simp only [f_m_rate, f_m_rate_19]
      refine obd ei ?_
      exact (if_pos rfl)
theorem RR.town (R : RR K D A0 B0 A B) (h8 : A 17 1 < 8) : RR K D A0 B0 (uA A 17 1 (A 17 1 + 1)) (uA B 400 1 (A 17 1 + 1)) := by
  have hA : ∀ k : Nat, k ≠ 17 → uA A 17 1 (A 17 1 + 1) k = A k := fun k hk => uA_n hk
  have hB : ∀ k : Nat, k ≠ 400 → uA B 400 1 (A 17 1 + 1) k = B k := fun k hk => uA_n hk
  have h4 : ∀ j : Nat, j ≠ 1 → uA B 400 1 (A 17 1 + 1) 400 j = B 400 j := fun j hj => by rw [uA_s, ud_n hj]
  have a1 : uA A 17 1 (A 17 1 + 1) 17 1 = A 17 1 + 1 := by rw [uA_s, ud_s]
  have a2 : uA A 17 1 (A 17 1 + 1) 17 2 = A 17 2 := by rw [uA_s, ud_n (by omega)]
  refine ⟨⟨?_, ?_, (by apply R.gN.c <;> first | rfl | exact hA _ (by omega) | exact congrFun (hA _ (by omega)) _ | exact hB _ (by omega) | exact h4 _ (by omega) | (intro k hk1 hk2; exact hB k (by omega)) | (simp (disch := omega) only [uA_s, uA_n, ud_n]; done)), (by apply R.gP.c <;> first | rfl | exact hA _ (by omega) | exact congrFun (hA _ (by omega)) _ | exact hB _ (by omega) | exact h4 _ (by omega) | (intro k hk1 hk2; exact hB k (by omega)) | (simp (disch := omega) only [uA_s, uA_n, ud_n]; done)), (by apply R.gT.c <;> first | rfl | exact hA _ (by omega) | exact congrFun (hA _ (by omega)) _ | exact hB _ (by omega) | exact h4 _ (by omega) | (intro k hk1 hk2; exact hB k (by omega)) | (simp (disch := omega) only [uA_s, uA_n, ud_n]; done)), (by apply R.gS.c <;> first | rfl | exact hA _ (by omega) | exact congrFun (hA _ (by omega)) _ | exact hB _ (by omega) | exact h4 _ (by omega) | (intro k hk1 hk2; exact hB k (by omega)) | (simp (disch := omega) only [uA_s, uA_n, ud_n]; done)), (by apply R.gD.c <;> first | rfl | exact hA _ (by omega) | exact congrFun (hA _ (by omega)) _ | exact hB _ (by omega) | exact h4 _ (by omega) | (intro k hk1 hk2; exact hB k (by omega)) | (simp (disch := omega) only [uA_s, uA_n, ud_n]; done)), (by apply R.gW.c <;> first | rfl | exact hA _ (by omega) | exact congrFun (hA _ (by omega)) _ | exact hB _ (by omega) | exact h4 _ (by omega) | (intro k hk1 hk2; exact hB k (by omega)) | (simp (disch := omega) only [uA_s, uA_n, ud_n]; done)), (by apply R.gX.c <;> first | rfl | exact hA _ (by omega) | exact congrFun (hA _ (by omega)) _ | exact hB _ (by omega) | exact h4 _ (by omega) | (intro k hk1 hk2; exact hB k (by omega)) | (simp (disch := omega) only [uA_s, uA_n, ud_n]; done)), (by apply R.gG.c <;> first | rfl | exact hA _ (by omega) | exact congrFun (hA _ (by omega)) _ | exact hB _ (by omega) | exact h4 _ (by omega) | (intro k hk1 hk2; exact hB k (by omega)) | (simp (disch := omega) only [uA_s, uA_n, ud_n]; done)), (by apply R.gI.c <;> first | rfl | exact hA _ (by omega) | exact congrFun (hA _ (by omega)) _ | exact hB _ (by omega) | exact h4 _ (by omega) | (intro k hk1 hk2; exact hB k (by omega)) | (simp (disch := omega) only [uA_s, uA_n, ud_n]; done))⟩, R.sx.tr ?_, R.sb.tr (SB.st (fun k hk => hB k (by omega)))⟩
  · obtain ⟨x1, x2, x3, x4, x5, x6, x7, x8, x9, x10⟩ := R.gL
    unfold WL
    simp only [a1, a2, h4 3 (by omega), hA 18 (by omega), hB 401 (by omega), hB 402 (by omega), hB 403 (by omega), hB 404 (by omega)]
    exact ⟨by omega, by omega, by rw [uA_s, ud_s], x4, x5, x6, x7, x8, x9, x10⟩
  · obtain ⟨x1, x2, x3, x4, x5, x6, x7, x8, x9, x10, x11, x12, x13, x14, x15, x16, x17, x18, x19, x20, x21⟩ := R.gH
    unfold WH
    simp only [a1, h4 2 (by omega), hA 16 (by omega), hA 19 (by omega), hA 20 (by omega), hA 21 (by omega), hA 22 (by omega), hA 23 (by omega), hA 24 (by omega), hA 25 (by omega), hA 26 (by omega), hA 27 (by omega), hA 28 (by omega), hA 29 (by omega), hA 30 (by omega), hB 410 (by omega), hB 411 (by omega), hB 412 (by omega), hB 413 (by omega), hB 414 (by omega), hB 415 (by omega), hB 416 (by omega), hB 417 (by omega), hB 418 (by omega), hB 419 (by omega), hB 420 (by omega), hB 421 (by omega)]
    exact ⟨x1, x2, x3, x4, x5, x6, x7, x8, x9, x10, x11, x12, fun h hh => by have := x13 h hh; omega, x14, x15, x16, x17, x18, x19, x20, x21⟩
  · exact SX.st (fun k hk => hA k (by omega)) (by rw [hA 16 (by omega)]) (by rw [hA 16 (by omega)]) (by rw [hA 55 (by omega)]) (by rw [hA 55 (by omega)]) (fun c _ => by rw [hA 59 (by omega)])
theorem c_town (h : Inv i A B) : CP i A B (f_x_town F) (f_m_town F) := by
  have R := h.rr
  have t1 := R.gL.lt1
  have t2 := R.gL.lt2
  have t3 := R.gL.lt3
  by_cases c : A 17 1 < 8
  · intro Ax Bx
    have m0 : uA B 400 1 (A 17 1 + 1) 399 = B 399 := uA_n (by omega)
    have e1 : A 17 1 + 1 - 1 = A 17 1 := by omega
    refine ⟨iI (A 17 1), uA A 17 1 (A 17 1 + 1), uA B 400 1 (A 17 1 + 1), ?_, ?_, h.land (R.town c) (by rw [uA_n (by omega)])⟩
    · unfold f_x_town
      refine (if_pos (by simp (disch := first | omega | (simp (disch := omega) only [uA_n]; done) | fail) only [iI_lit, iI_add, iI_sub, iI_mul, iI_neg, iI_lt, iI_le, iI_eq, zlt_t, zlt_f, zle_t, zle_f, zeq_t, zeq_f, nle_t, nle_f, iI_cl, rA, rS, rB, wA, wS, wB, mkp, mk2, uA_s, uA_n, ud_s, ud_n, bI_0, bI_1, nor_s, ↓reduceIte, or_false, false_or, or_true, true_or, or_self, not_true_eq_false, not_false_eq_true, and_true, true_and, and_false, false_and, bI_T, bI_F, Int.reduceToNat, Nat.reduceAdd, Nat.reduceMul, Int.reduceNeg, Option.bind_some, Int.toNat_natCast])).trans ?_
      simp (disch := first | omega | (simp (disch := omega) only [uA_n]; done) | fail) only [iI_lit, iI_add, iI_sub, iI_mul, iI_neg, iI_lt, iI_le, iI_eq, zlt_t, zlt_f, zle_t, zle_f, zeq_t, zeq_f, nle_t, nle_f, iI_cl, rA, rS, rB, wA, wS, wB, mkp, mk2, uA_s, uA_n, ud_s, ud_n, bI_0, bI_1, nor_s, ↓reduceIte, or_false, false_or, or_true, true_or, or_self, not_true_eq_false, not_false_eq_true, and_true, true_and, and_false, false_and, bI_T, bI_F, Int.reduceToNat, Nat.reduceAdd, Nat.reduceMul, Int.reduceNeg, Option.bind_some, Int.toNat_natCast, e1]
    · unfold f_m_town
      refine (if_neg (by simp (disch := first | omega | (simp (disch := omega) only [uA_n]; done) | fail) only [iI_lit, iI_add, iI_sub, iI_mul, iI_neg, iI_lt, iI_le, iI_eq, zlt_t, zlt_f, zle_t, zle_f, zeq_t, zeq_f, nle_t, nle_f, iI_cl, rA, rS, rB, wA, wS, wB, mkp, mk2, uA_s, uA_n, ud_s, ud_n, bI_0, bI_1, nor_s, ↓reduceIte, or_false, false_or, or_true, true_or, or_self, not_true_eq_false, not_false_eq_true, and_true, true_and, and_false, false_and, bI_T, bI_F, Int.reduceToNat, Nat.reduceAdd, Nat.reduceMul, Int.reduceNeg, Option.bind_some, Int.toNat_natCast, dS, t3])).trans ?_
      simp (disch := first | omega | (simp (disch := omega) only [uA_n]; done) | fail) only [iI_lit, iI_add, iI_sub, iI_mul, iI_neg, iI_lt, iI_le, iI_eq, zlt_t, zlt_f, zle_t, zle_f, zeq_t, zeq_f, nle_t, nle_f, iI_cl, rA, rS, rB, wA, wS, wB, mkp, mk2, uA_s, uA_n, ud_s, ud_n, bI_0, bI_1, nor_s, ↓reduceIte, or_false, false_or, or_true, true_or, or_self, not_true_eq_false, not_false_eq_true, and_true, true_and, and_false, false_and, bI_T, bI_F, Int.reduceToNat, Nat.reduceAdd, Nat.reduceMul, Int.reduceNeg, Option.bind_some, Int.toNat_natCast, dS, t3, e1, mk2 m0]
  · refine cp_no F h (v := -8) (by omega) (by omega) (fun Bx => ?_) (fun Ax => ?_)
    · unfold f_x_town
      exact (if_neg (by simp (disch := first | omega | (simp (disch := omega) only [uA_n]; done) | fail) only [iI_lit, iI_add, iI_sub, iI_mul, iI_neg, iI_lt, iI_le, iI_eq, zlt_t, zlt_f, zle_t, zle_f, zeq_t, zeq_f, nle_t, nle_f, iI_cl, rA, rS, rB, wA, wS, wB, mkp, mk2, uA_s, uA_n, ud_s, ud_n, bI_0, bI_1, nor_s, ↓reduceIte, or_false, false_or, or_true, true_or, or_self, not_true_eq_false, not_false_eq_true, and_true, true_and, and_false, false_and, bI_T, bI_F, Int.reduceToNat, Nat.reduceAdd, Nat.reduceMul, Int.reduceNeg, Option.bind_some, Int.toNat_natCast]))
    · unfold f_m_town
      exact (if_pos (by rw [show A 17 1 = 8 by omega] at t3; simp (disch := first | omega | (simp (disch := omega) only [uA_n]; done) | fail) only [iI_lit, iI_add, iI_sub, iI_mul, iI_neg, iI_lt, iI_le, iI_eq, zlt_t, zlt_f, zle_t, zle_f, zeq_t, zeq_f, nle_t, nle_f, iI_cl, rA, rS, rB, wA, wS, wB, mkp, mk2, uA_s, uA_n, ud_s, ud_n, bI_0, bI_1, nor_s, ↓reduceIte, or_false, false_or, or_true, true_or, or_self, not_true_eq_false, not_false_eq_true, and_true, true_and, and_false, false_and, bI_T, bI_F, Int.reduceToNat, Nat.reduceAdd, Nat.reduceMul, Int.reduceNeg, Option.bind_some, Int.toNat_natCast, dS, t3]))
theorem c_far (h : Inv i A B) (v w : Int32) : CP i A B (f_x_far F v w) (f_m_far F v w) := by
  obtain ⟨z, hz1, hz2, rfl⟩ : ∃ z : Int, -2147483648 ≤ z ∧ z < 2147483648 ∧ v = iI z := ⟨_, (i32rg v).1, (i32rg v).2, iI_of v⟩
  obtain ⟨y, hy1, hy2, rfl⟩ : ∃ z : Int, -2147483648 ≤ z ∧ z < 2147483648 ∧ w = iI z := ⟨_, (i32rg w).1, (i32rg w).2, iI_of w⟩
  have R := h.rr
  have t2 := R.gL.lt2
  have xh := fun Bx => ex_isTown F R Bx z hz1 hz2
  have yh := fun Ax => em_isTown F R Ax z hz1 hz2
  have xb := fun Bx => ex_isTown F R Bx y hy1 hy2
  have yb := fun Ax => em_isTown F R Ax y hy1 hy2
  by_cases c0 : 0 ≤ z ∧ z < A 17 1
  · rw [bI_t c0] at xh yh
    by_cases c1 : 0 ≤ y ∧ y < A 17 1
    · rw [bI_t c1] at xb yb
      intro Ax Bx
      obtain ⟨f1, f2, f3⟩ := R.far (a := z.toNat) (b := y.toNat) (by omega) (by omega)
      have xf := ex_between F R Bx c0.1 c0.2 c1.1 c1.2
      have yf := em_farOf F z y Ax B (by omega) (by omega) (by omega) (by omega)
      have fd := R.gL.lds.1.2.1 z.toNat y.toNat (by omega) (by omega)
      refine ⟨iI (A 18 (8 * z.toNat + y.toNat)), A, B, ?_, ?_, h.up⟩
      · unfold f_x_far
        refine obd (xh Bx) ?_
        refine (if_neg i1n0).trans ?_
        refine obd (xb Bx) ?_
        refine (if_neg i1n0).trans ?_
        exact obd xf rfl
      · simp only [f_m_far, f_m_far_44]
        refine obd (yh Ax) ?_
        refine (if_neg i1n0).trans ?_
        refine obd (yb Ax) ?_
        refine (if_neg i1n0).trans ?_
        refine obd yf ?_
        rw [f1]
        unfold cd
        by_cases c2 : B 404 (8 * z.toNat + y.toNat) = 999999
        · refine (if_neg (by rw [c2]; exact (by decide : ¬ (iI 999999 < 999999)))).trans ?_
          rw [if_pos c2]
          rfl
        · refine (if_pos (by simp (disch := first | omega | (simp (disch := omega) only [uA_n]; done) | fail) only [iI_lit, iI_add, iI_sub, iI_mul, iI_neg, iI_lt, iI_le, iI_eq, zlt_t, zlt_f, zle_t, zle_f, zeq_t, zeq_f, nle_t, nle_f, iI_cl, rA, rS, rB, wA, wS, wB, mkp, mk2, uA_s, uA_n, ud_s, ud_n, bI_0, bI_1, nor_s, ↓reduceIte, or_false, false_or, or_true, true_or, or_self, not_true_eq_false, not_false_eq_true, and_true, true_and, and_false, false_and, bI_T, bI_F, Int.reduceToNat, Nat.reduceAdd, Nat.reduceMul, Int.reduceNeg, Option.bind_some, Int.toNat_natCast])).trans ?_
          rw [if_neg c2]
          exact obd yf rfl
    · rw [bI_f c1] at xb yb
      refine cp_no F h (v := -3) (by omega) (by omega) (fun Bx => ?_) (fun Ax => ?_)
      · simp only [f_x_far, f_x_far_28]
        refine obd (xh Bx) ?_
        refine (if_neg i1n0).trans ?_
        refine obd (xb Bx) ?_
        exact (if_pos rfl)
      · simp only [f_m_far, f_m_far_16]
        refine obd (yh Ax) ?_
        refine (if_neg i1n0).trans ?_
        refine obd (yb Ax) ?_
        exact (if_pos rfl)
  · rw [bI_f c0] at xh yh
    refine cp_no F h (v := -3) (by omega) (by omega) (fun Bx => ?_) (fun Ax => ?_)
    · simp only [f_x_far, f_x_far_28]
      refine obd (xh Bx) ?_
      exact (if_pos rfl)
    · simp only [f_m_far, f_m_far_16]
      refine obd (yh Ax) ?_
      exact (if_pos rfl)
end CAL4
