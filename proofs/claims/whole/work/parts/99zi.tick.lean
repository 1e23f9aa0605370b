/-! A DAY ENDS -/
def SHK (A B : hI) (k : Nat) : Prop := (∀ i : Nat, i < 6 → A 7 (6 * k + i) = if (iI (B 486 k) >>> (iI i &&& 31)) &&& 1 = 1 then B (480 + i) k else -1) ∧ 0 ≤ B 485 k ∧ B 485 k ≤ 999
section TICK
variable {K D : Int} {A0 B0 A B A' B' : hI} (F : Nat)
theorem RR.tick (R : RR K (A 16 9 + 1) A0 B0 A B) (hd : A 16 9 < 700) (hs : ∀ k : Nat, A 16 9 = 7 * (k : Int) + 6 → SHK A B k) : RR K (A 16 9 + 1) A0 B0 (uA A 16 9 (A 16 9 + 1)) (uA B 400 0 (A 16 9 + 1)) := by
  have hA : ∀ k : Nat, k ≠ 16 → uA A 16 9 (A 16 9 + 1) k = A k := fun k hk => uA_n hk
  have hB : ∀ k : Nat, k ≠ 400 → uA B 400 0 (A 16 9 + 1) k = B k := fun k hk => uA_n hk
  have h4 : ∀ j : Nat, j ≠ 0 → uA B 400 0 (A 16 9 + 1) 400 j = B 400 j := fun j hj => by rw [uA_s, ud_n hj]
  have a9 : uA A 16 9 (A 16 9 + 1) 16 9 = A 16 9 + 1 := by rw [uA_s, ud_s]
  have a16 : ∀ j : Nat, j ≠ 9 → uA A 16 9 (A 16 9 + 1) 16 j = A 16 j := fun j hj => by rw [uA_s, ud_n hj]
  refine ⟨⟨(by apply R.gL.c <;> first | rfl | exact hA _ (by omega) | exact congrFun (hA _ (by omega)) _ | exact hB _ (by omega) | exact h4 _ (by omega) | (intro k hk1 hk2; exact hB k (by omega)) | (simp (disch := omega) only [uA_s, uA_n, ud_n]; done)), ?_, (by apply R.gN.c <;> first | rfl | exact hA _ (by omega) | exact congrFun (hA _ (by omega)) _ | exact hB _ (by omega) | exact h4 _ (by omega) | (intro k hk1 hk2; exact hB k (by omega)) | (simp (disch := omega) only [uA_s, uA_n, ud_n]; done)), ?_, (by apply R.gT.c <;> first | rfl | exact hA _ (by omega) | exact congrFun (hA _ (by omega)) _ | exact hB _ (by omega) | exact h4 _ (by omega) | (intro k hk1 hk2; exact hB k (by omega)) | (simp (disch := omega) only [uA_s, uA_n, ud_n]; done)), (by apply R.gS.c <;> first | rfl | exact hA _ (by omega) | exact congrFun (hA _ (by omega)) _ | exact hB _ (by omega) | exact h4 _ (by omega) | (intro k hk1 hk2; exact hB k (by omega)) | (simp (disch := omega) only [uA_s, uA_n, ud_n]; done)), ?_, ?_, (by apply R.gX.c <;> first | rfl | exact hA _ (by omega) | exact congrFun (hA _ (by omega)) _ | exact hB _ (by omega) | exact h4 _ (by omega) | (intro k hk1 hk2; exact hB k (by omega)) | (simp (disch := omega) only [uA_s, uA_n, ud_n]; done)), (by apply R.gG.c <;> first | rfl | exact hA _ (by omega) | exact congrFun (hA _ (by omega)) _ | exact hB _ (by omega) | exact h4 _ (by omega) | (intro k hk1 hk2; exact hB k (by omega)) | (simp (disch := omega) only [uA_s, uA_n, ud_n]; done)), (by apply R.gI.c <;> first | rfl | exact hA _ (by omega) | exact congrFun (hA _ (by omega)) _ | exact hB _ (by omega) | exact h4 _ (by omega) | (intro k hk1 hk2; exact hB k (by omega)) | (simp (disch := omega) only [uA_s, uA_n, ud_n]; done))⟩, R.sx.tr ?_, R.sb.tr (SB.st (fun k hk => hB k (by omega)))⟩
  · obtain ⟨x1, x2, x3, x4, x5, x6, x7, x8, x9, x10, x11, x12, x13, x14, x15, x16, x17, x18, x19, x20, x21⟩ := R.gH
    unfold WH
    simp only [a9, h4 2 (by omega), hA 19 (by omega), hA 20 (by omega), hA 21 (by omega), hA 22 (by omega), hA 23 (by omega), hA 24 (by omega), hA 25 (by omega), hA 26 (by omega), hA 27 (by omega), hA 28 (by omega), hA 29 (by omega), hA 30 (by omega), hA 17 (by omega), hB 410 (by omega), hB 411 (by omega), hB 412 (by omega), hB 413 (by omega), hB 414 (by omega), hB 415 (by omega), hB 416 (by omega), hB 417 (by omega), hB 418 (by omega), hB 419 (by omega), hB 420 (by omega), hB 421 (by omega)]
    refine ⟨x1, x2, x3, x4, x5, x6, x7, x8, x9, x10, x11, x12, x13, x14, x15, x16, x17, x18, fun h hh => ?_, x20, x21⟩
    have := x19 h hh
    omega
  · obtain ⟨x1, x2, x3, x4, x5, x6, x7, x8, x9, x10, x11, x12, x13, x14, x15, x16, x17, x18, x19, x20, x21, x22, x23, x24, x25, x26, x27⟩ := R.gP
    unfold WP
    simp only [a9, hA 31 (by omega), hA 32 (by omega), hA 33 (by omega), hA 34 (by omega), hA 35 (by omega), hA 36 (by omega), hA 37 (by omega), hA 38 (by omega), hA 39 (by omega), hA 40 (by omega), hA 41 (by omega), hA 42 (by omega), hA 43 (by omega), hA 44 (by omega), hA 27 (by omega), hA 19 (by omega), hB 350 (by omega), hB 450 (by omega), hB 451 (by omega), hB 452 (by omega), hB 453 (by omega), hB 454 (by omega), hB 455 (by omega), hB 456 (by omega), hB 457 (by omega), hB 464 (by omega), hB 465 (by omega), hB 466 (by omega), hB 467 (by omega), hB 468 (by omega)]
    refine ⟨x1, x2, x3, x4, x5, x6, x7, x8, x9, x10, x11, x12, x13, x14, x15, x16, x17, x18, fun q i hq hk hi => ?_, fun q hq hk h37 h32 => ?_, x21, x22, x23, x24, fun q hq hk => ?_, x26, x27⟩
    · rw [hB (458 + i) (by omega)]
      exact x19 q i hq hk hi
    · have := x20 q hq hk h37 h32
      omega
    · have := x25 q hq hk
      omega
  · obtain ⟨x1, x2, x3, x4, x5, x6, x7, x8, x9, x10, x11, x12, x13, x14, x15⟩ := R.gD
    unfold WD
    simp only [a9, a16 10 (by omega), a16 11 (by omega), a16 12 (by omega), a16 13 (by omega), h4 10 (by omega), h4 11 (by omega), h4 8 (by omega), h4 9 (by omega)]
    exact ⟨by omega, by omega, by rw [uA_s, ud_s], by omega, by omega, x6, x7, x8, x9, x10, x11, x12, x13, x14, x15⟩
  · obtain ⟨w1, w2⟩ := R.gW
    have hb : ∀ j : Nat, 480 ≤ j → uA B 400 0 (A 16 9 + 1) j = B j := fun j hj => hB j (by omega)
    refine ⟨fun k i h1 h2 => ?_, fun k h1 => ?_⟩
    · rw [a9] at h1
      rw [hA 7 (by omega), hb 486 (by omega), hb (480 + i) (by omega)]
      by_cases e : 7 * (k : Int) + 7 ≤ A 16 9
      · exact w1 k i e h2
      · exact (hs k (by omega)).1 i h2
    · rw [a9] at h1
      rw [hb 485 (by omega)]
      by_cases e : 7 * (k : Int) + 7 ≤ A 16 9
      · exact w2 k e
      · exact (hs k (by omega)).2
  · refine ⟨fun c hc => hA c (by omega), a16 14 (by omega), ⟨by rw [hA 55 (by omega)]; exact Int.le_refl _, fun c _ => by rw [hA 59 (by omega)]; exact Int.le_refl _, by rw [hA 55 (by omega)]; exact Int.le_refl _, by rw [a9]; omega, by rw [a16 14 (by omega)]; exact Int.le_refl _⟩, ?_⟩
    unfold AGR
    rw [hA 2 (by omega), hA 3 (by omega), hA 4 (by omega), hA 5 (by omega), hA 6 (by omega), hA 7 (by omega), hA 9 (by omega), hA 10 (by omega), hA 11 (by omega), hA 12 (by omega), hA 13 (by omega), hA 14 (by omega)]
    exact ⟨fun _ _ => ⟨rfl, fun _ _ => rfl⟩, fun _ _ _ => ⟨rfl, rfl, rfl⟩, fun _ _ _ _ => rfl, fun _ _ => ⟨rfl, rfl, rfl, rfl, rfl, fun _ _ => rfl⟩⟩
theorem RR.endWeek (R : RR K D A0 B0 A B) (hF : 1000 ≤ F) (hK : K ≤ 999000000) (Ax Bx : hI) (v : Int32) (h6 : A 16 9 % 7 = 6) (hd : A 16 9 < 700) : ∃ A' B' : hI, f_World_endWeek F v (mk A Bx) = some ((), mk A' Bx) ∧ f_close_end F v (iI (A 16 9)) (mk Ax B) = f_m_close_274 F (iI (A 16 9)) (mk Ax B') ∧ RR (K + 2000) D A0 B0 A' B' ∧ A' 16 9 = A 16 9 ∧ ∀ k : Nat, A' 16 9 = 7 * (k : Int) + 6 → SHK A' B' k := by
  have hd1 := R.gD.dd1
  obtain ⟨A1, B1, x1, y1, R1, f1, g1⟩ := R.ships F hF (by omega) Ax Bx
  have e1 : A1 16 9 = A 16 9 := g1 9 (by omega)
  obtain ⟨k, hk⟩ : ∃ k : Nat, A1 16 9 / 7 = k := ⟨(A1 16 9 / 7).toNat, by omega⟩
  obtain ⟨A2, B2, x2, y2, R2, s1, s2, f2⟩ := R1.sheet F hF (by omega) Ax Bx hk (by omega)
  have e2 : A2 16 = A1 16 := f2 16 (by omega) (by omega) (by omega)
  have e7 : A 16 9 - A 16 9 / 7 * 7 = 6 := by omega
  have S2 : ∀ j : Nat, A 16 9 = 7 * (j : Int) + 6 → SHK A2 B2 j := fun j hj => by
    obtain rfl : j = k := by omega
    exact ⟨s1, s2⟩
  by_cases c : v = 0
  · refine ⟨A2, B2, ?_, ?_, R2, by rw [e2, e1], fun j hj => S2 j (by rw [e2, e1] at hj; exact hj)⟩
    · simp only [f_World_endWeek, f_World_endWeek_28]
      refine obd x1 ?_
      refine obd x2 ?_
      exact if_pos c
    · unfold f_close_end
      refine (if_pos (by simp (disch := first | omega | (simp (disch := omega) only [uA_n]; done) | fail) only [iI_lit, iI_add, iI_sub, iI_mul, iI_neg, iI_lt, iI_le, iI_eq, zlt_t, zlt_f, zle_t, zle_f, zeq_t, zeq_f, nle_t, nle_f, iI_cl, rA, rS, rB, wA, wS, wB, mkp, mk2, uA_s, uA_n, ud_s, ud_n, bI_0, bI_1, nor_s, ↓reduceIte, or_false, false_or, or_true, true_or, or_self, not_true_eq_false, not_false_eq_true, and_true, true_and, and_false, false_and, bI_T, bI_F, Int.reduceToNat, Nat.reduceAdd, Nat.reduceMul, Int.reduceNeg, Option.bind_some, Int.toNat_natCast, iI_div, e7])).trans ?_
      refine obd y1 ?_
      refine obd y2 ?_
      exact if_pos c
  · obtain ⟨A3, B3, x3, y3, R3, f3, g3, h3⟩ := R2.byRule F hF (by omega) Ax Bx
    have e3 : A3 16 9 = A 16 9 := by rw [g3 9 (by omega), e2, e1]
    refine ⟨A3, B3, ?_, ?_, R3, e3, fun j hj => ?_⟩
    · simp only [f_World_endWeek, f_World_endWeek_28]
      refine obd x1 ?_
      refine obd x2 ?_
      refine (if_neg c).trans ?_
      exact x3
    · unfold f_close_end
      refine (if_pos (by simp (disch := first | omega | (simp (disch := omega) only [uA_n]; done) | fail) only [iI_lit, iI_add, iI_sub, iI_mul, iI_neg, iI_lt, iI_le, iI_eq, zlt_t, zlt_f, zle_t, zle_f, zeq_t, zeq_f, nle_t, nle_f, iI_cl, rA, rS, rB, wA, wS, wB, mkp, mk2, uA_s, uA_n, ud_s, ud_n, bI_0, bI_1, nor_s, ↓reduceIte, or_false, false_or, or_true, true_or, or_self, not_true_eq_false, not_false_eq_true, and_true, true_and, and_false, false_and, bI_T, bI_F, Int.reduceToNat, Nat.reduceAdd, Nat.reduceMul, Int.reduceNeg, Option.bind_some, Int.toNat_natCast, iI_div, e7])).trans ?_
      refine obd y1 ?_
      refine obd y2 ?_
      refine (if_neg c).trans ?_
      exact y3 _
    · obtain ⟨u1, u2⟩ := S2 j (by rw [e3] at hj; exact hj)
      unfold SHK
      rw [f3 7 (by omega) (by omega) (by omega), h3 485 (by omega) (by omega), h3 486 (by omega) (by omega)]
      exact ⟨fun i hi => by rw [h3 (480 + i) (by omega) (by omega)]; exact u1 i hi, u2⟩
end TICK
