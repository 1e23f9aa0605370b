/-! ALL TRADES DRAW; THE RATE BY RULE -/
section DRAL
variable {K D : Int} {A0 B0 A B A' B' : hI} (F : Nat)
theorem em_drawF (R : RR K D A0 B0 A B) (hF : 1000 ≤ F) (h7 : A 16 9 % 7 = 0) (Ax : hI) (v1 : Int32) (hf : 60 ≤ A 31 14) : ∀ (r t q : Nat), (r : Int) = A 46 5 - t → r < q → f_m_close_9 F q v1 (iI (A 16 9)) (iI (t : Int)) (mk Ax B) = f_m_close_37 F v1 (iI (A 16 9)) (mk Ax B) := by
  have tn := R.gT.tn2
  have tn3 := R.gT.tn3
  have hd1 := R.gD.dd1
  have hd2 := R.gD.dd2
  intro r
  induction r with
  | zero =>
    intro t q hr hq
    obtain ⟨q, rfl⟩ : ∃ s, q = s + 1 := ⟨q - 1, by omega⟩
    rw [f_m_close_9]
    exact if_pos (by simp (disch := first | omega | (simp (disch := omega) only [uA_n]; done) | fail) only [iI_lit, iI_add, iI_sub, iI_mul, iI_neg, iI_lt, iI_le, iI_eq, zlt_t, zlt_f, zle_t, zle_f, zeq_t, zeq_f, nle_t, nle_f, iI_cl, rA, rS, rB, wA, wS, wB, mkp, mk2, uA_s, uA_n, ud_s, ud_n, bI_0, bI_1, nor_s, ↓reduceIte, or_false, false_or, or_true, true_or, or_self, not_true_eq_false, not_false_eq_true, and_true, true_and, and_false, false_and, bI_T, bI_F, Int.reduceToNat, Nat.reduceAdd, Nat.reduceMul, Int.reduceNeg, Option.bind_some, Int.toNat_natCast, dS, tn3])
  | succ r ih =>
    intro t q hr hq
    obtain ⟨q, rfl⟩ : ∃ s, q = s + 1 := ⟨q - 1, by omega⟩
    have nx := ih (t + 1) q (by omega) (by omega)
    have ht : (t : Int) < A 46 5 := by omega
    have e7 : A 16 9 - A 16 9 / 7 * 7 = 0 := by omega
    rw [f_m_close_9]
    refine (if_neg (by simp (disch := first | omega | (simp (disch := omega) only [uA_n]; done) | fail) only [iI_lit, iI_add, iI_sub, iI_mul, iI_neg, iI_lt, iI_le, iI_eq, zlt_t, zlt_f, zle_t, zle_f, zeq_t, zeq_f, nle_t, nle_f, iI_cl, rA, rS, rB, wA, wS, wB, mkp, mk2, uA_s, uA_n, ud_s, ud_n, bI_0, bI_1, nor_s, ↓reduceIte, or_false, false_or, or_true, true_or, or_self, not_true_eq_false, not_false_eq_true, and_true, true_and, and_false, false_and, bI_T, bI_F, Int.reduceToNat, Nat.reduceAdd, Nat.reduceMul, Int.reduceNeg, Option.bind_some, Int.toNat_natCast, dS, tn3])).trans ?_
    refine (if_pos (by simp (disch := first | omega | (simp (disch := omega) only [uA_n]; done) | fail) only [iI_lit, iI_add, iI_sub, iI_mul, iI_neg, iI_lt, iI_le, iI_eq, zlt_t, zlt_f, zle_t, zle_f, zeq_t, zeq_f, nle_t, nle_f, iI_cl, rA, rS, rB, wA, wS, wB, mkp, mk2, uA_s, uA_n, ud_s, ud_n, bI_0, bI_1, nor_s, ↓reduceIte, or_false, false_or, or_true, true_or, or_self, not_true_eq_false, not_false_eq_true, and_true, true_and, and_false, false_and, bI_T, bI_F, Int.reduceToNat, Nat.reduceAdd, Nat.reduceMul, Int.reduceNeg, Option.bind_some, Int.toNat_natCast, iI_div, e7])).trans ?_
    refine obd (em_draw0 F R hF Ax ht hf) ?_
    refine Eq.trans ?_ nx
    simp (disch := first | omega | (simp (disch := omega) only [uA_n]; done) | fail) only [iI_lit, iI_add, iI_sub, iI_mul, iI_neg, iI_lt, iI_le, iI_eq, zlt_t, zlt_f, zle_t, zle_f, zeq_t, zeq_f, nle_t, nle_f, iI_cl, rA, rS, rB, wA, wS, wB, mkp, mk2, uA_s, uA_n, ud_s, ud_n, bI_0, bI_1, nor_s, ↓reduceIte, or_false, false_or, or_true, true_or, or_self, not_true_eq_false, not_false_eq_true, and_true, true_and, and_false, false_and, bI_T, bI_F, Int.reduceToNat, Nat.reduceAdd, Nat.reduceMul, Int.reduceNeg, Option.bind_some, Int.toNat_natCast]
    rfl
theorem RR.drawAll (hF : 1000 ≤ F) (Ax Bx : hI) (v1 : Int32) : ∀ (r t q q2 : Nat) (B1 A B : hI), (r : Int) = A 46 5 - t → r < q → r < q2 → A 16 9 % 7 = 0 → (∀ k : Nat, k ≠ 469 → B1 k = B0 k) → RR K (A 16 9) A0 B1 A B → ∃ B2 A' B' : hI, f_World_drawTrades_2 F q (iI (t : Int)) (mk A Bx) = some ((), mk A' Bx) ∧ f_m_close_9 F q2 v1 (iI (A 16 9)) (iI (t : Int)) (mk Ax B) = f_m_close_37 F v1 (iI (A 16 9)) (mk Ax B') ∧ (∀ k : Nat, k ≠ 469 → B2 k = B0 k) ∧ RR K (A 16 9) A0 B2 A' B' ∧ drG A A' := by
  intro r
  induction r with
  | zero =>
    intro t q q2 B1 A B hr hq hq2 h7 hB1 R
    obtain ⟨q, rfl⟩ : ∃ s, q = s + 1 := ⟨q - 1, by omega⟩
    obtain ⟨q2, rfl⟩ : ∃ s, q2 = s + 1 := ⟨q2 - 1, by omega⟩
    have tn := R.gT.tn2
    have tn1 := R.gT.tn1
    have tn3 := R.gT.tn3
    refine ⟨B1, A, B, ?_, ?_, hB1, R, drG.rf A⟩
    · rw [f_World_drawTrades_2]
      simp only [f_World_drawTrades_158]
      exact if_pos (by simp (disch := first | omega | (simp (disch := omega) only [uA_n]; done) | fail) only [iI_lit, iI_add, iI_sub, iI_mul, iI_neg, iI_lt, iI_le, iI_eq, zlt_t, zlt_f, zle_t, zle_f, zeq_t, zeq_f, nle_t, nle_f, iI_cl, rA, rS, rB, wA, wS, wB, mkp, mk2, uA_s, uA_n, ud_s, ud_n, bI_0, bI_1, nor_s, ↓reduceIte, or_false, false_or, or_true, true_or, or_self, not_true_eq_false, not_false_eq_true, and_true, true_and, and_false, false_and, bI_T, bI_F, Int.reduceToNat, Nat.reduceAdd, Nat.reduceMul, Int.reduceNeg, Option.bind_some, Int.toNat_natCast])
    · rw [f_m_close_9]
      exact if_pos (by simp (disch := first | omega | (simp (disch := omega) only [uA_n]; done) | fail) only [iI_lit, iI_add, iI_sub, iI_mul, iI_neg, iI_lt, iI_le, iI_eq, zlt_t, zlt_f, zle_t, zle_f, zeq_t, zeq_f, nle_t, nle_f, iI_cl, rA, rS, rB, wA, wS, wB, mkp, mk2, uA_s, uA_n, ud_s, ud_n, bI_0, bI_1, nor_s, ↓reduceIte, or_false, false_or, or_true, true_or, or_self, not_true_eq_false, not_false_eq_true, and_true, true_and, and_false, false_and, bI_T, bI_F, Int.reduceToNat, Nat.reduceAdd, Nat.reduceMul, Int.reduceNeg, Option.bind_some, Int.toNat_natCast, dS, tn3])
  | succ r ih =>
    intro t q q2 B1 A B hr hq hq2 h7 hB1 R
    have tn := R.gT.tn2
    have tn1 := R.gT.tn1
    have tn3 := R.gT.tn3
    have hd1 := R.gD.dd1
    have hd2 := R.gD.dd2
    have ht : (t : Int) < A 46 5 := by omega
    by_cases hf : A 31 14 < 60
    · obtain ⟨q, rfl⟩ : ∃ s, q = s + 1 := ⟨q - 1, by omega⟩
      obtain ⟨q2, rfl⟩ : ∃ s, q2 = s + 1 := ⟨q2 - 1, by omega⟩
      obtain ⟨B3, A3, B4, x1, y1, z1, R3, g1⟩ := R.draw1 F hF rfl Ax Bx ht hf q
      have e16 : A3 16 9 = A 16 9 := by rw [g1.1]
      obtain ⟨B5, A5, B6, x2, y2, z2, R5, g2⟩ := ih (t + 1) q q2 B3 A3 B4 (by rw [g1.2.2.1]; omega) (by omega) (by omega) (by rw [e16]; exact h7) (fun k hk => (z1 k hk).trans (hB1 k hk)) (by rw [e16]; exact R3)
      rw [e16] at y2 R5
      refine ⟨B5, A5, B6, x1.trans x2, ?_, z2, R5, g1.tr g2⟩
      have e7 : A 16 9 - A 16 9 / 7 * 7 = 0 := by omega
      rw [f_m_close_9]
      refine (if_neg (by simp (disch := first | omega | (simp (disch := omega) only [uA_n]; done) | fail) only [iI_lit, iI_add, iI_sub, iI_mul, iI_neg, iI_lt, iI_le, iI_eq, zlt_t, zlt_f, zle_t, zle_f, zeq_t, zeq_f, nle_t, nle_f, iI_cl, rA, rS, rB, wA, wS, wB, mkp, mk2, uA_s, uA_n, ud_s, ud_n, bI_0, bI_1, nor_s, ↓reduceIte, or_false, false_or, or_true, true_or, or_self, not_true_eq_false, not_false_eq_true, and_true, true_and, and_false, false_and, bI_T, bI_F, Int.reduceToNat, Nat.reduceAdd, Nat.reduceMul, Int.reduceNeg, Option.bind_some, Int.toNat_natCast, dS, tn3])).trans ?_
      refine (if_pos (by simp (disch := first | omega | (simp (disch := omega) only [uA_n]; done) | fail) only [iI_lit, iI_add, iI_sub, iI_mul, iI_neg, iI_lt, iI_le, iI_eq, zlt_t, zlt_f, zle_t, zle_f, zeq_t, zeq_f, nle_t, nle_f, iI_cl, rA, rS, rB, wA, wS, wB, mkp, mk2, uA_s, uA_n, ud_s, ud_n, bI_0, bI_1, nor_s, ↓reduceIte, or_false, false_or, or_true, true_or, or_self, not_true_eq_false, not_false_eq_true, and_true, true_and, and_false, false_and, bI_T, bI_F, Int.reduceToNat, Nat.reduceAdd, Nat.reduceMul, Int.reduceNeg, Option.bind_some, Int.toNat_natCast, iI_div, e7])).trans ?_
      refine obd y1 ?_
      refine Eq.trans ?_ y2
      simp (disch := first | omega | (simp (disch := omega) only [uA_n]; done) | fail) only [iI_lit, iI_add, iI_sub, iI_mul, iI_neg, iI_lt, iI_le, iI_eq, zlt_t, zlt_f, zle_t, zle_f, zeq_t, zeq_f, nle_t, nle_f, iI_cl, rA, rS, rB, wA, wS, wB, mkp, mk2, uA_s, uA_n, ud_s, ud_n, bI_0, bI_1, nor_s, ↓reduceIte, or_false, false_or, or_true, true_or, or_self, not_true_eq_false, not_false_eq_true, and_true, true_and, and_false, false_and, bI_T, bI_F, Int.reduceToNat, Nat.reduceAdd, Nat.reduceMul, Int.reduceNeg, Option.bind_some, Int.toNat_natCast]
      rfl
    · have xf := ex_isFull F R Bx
      rw [bI_t (by omega)] at xf
      refine ⟨B1, A, B, ?_, em_drawF F R hF h7 Ax v1 (by omega) (r + 1) t q2 hr hq2, hB1, R, drG.rf A⟩
      obtain ⟨q, rfl⟩ : ∃ s, q = s + 1 := ⟨q - 1, by omega⟩
      rw [f_World_drawTrades_2]
      simp only [f_World_drawTrades_158]
      refine (if_neg (by simp (disch := first | omega | (simp (disch := omega) only [uA_n]; done) | fail) only [iI_lit, iI_add, iI_sub, iI_mul, iI_neg, iI_lt, iI_le, iI_eq, zlt_t, zlt_f, zle_t, zle_f, zeq_t, zeq_f, nle_t, nle_f, iI_cl, rA, rS, rB, wA, wS, wB, mkp, mk2, uA_s, uA_n, ud_s, ud_n, bI_0, bI_1, nor_s, ↓reduceIte, or_false, false_or, or_true, true_or, or_self, not_true_eq_false, not_false_eq_true, and_true, true_and, and_false, false_and, bI_T, bI_F, Int.reduceToNat, Nat.reduceAdd, Nat.reduceMul, Int.reduceNeg, Option.bind_some, Int.toNat_natCast])).trans ?_
      refine obd xf ?_
      exact if_neg i1n0
/-- another rate -/
theorem RR.rate (R : RR K D A0 B0 A B) {v : Int} (hv : 0 ≤ v ∧ v ≤ 20) : RR K D A0 B0 (uA A 16 10 v) (uA B 400 10 v) := by
  have hA : ∀ k : Nat, k ≠ 16 → uA A 16 10 v k = A k := fun k hk => uA_n hk
  have hB : ∀ k : Nat, k ≠ 400 → uA B 400 10 v k = B k := fun k hk => uA_n hk
  have h4 : ∀ j : Nat, j ≠ 10 → uA B 400 10 v 400 j = B 400 j := fun j hj => by rw [uA_s, ud_n hj]
  refine ⟨⟨(by apply R.gL.c <;> first | rfl | exact hA _ (by omega) | exact congrFun (hA _ (by omega)) _ | exact hB _ (by omega) | exact h4 _ (by omega) | (intro k hk1 hk2; exact hB k (by omega)) | (simp (disch := omega) only [uA_s, uA_n, ud_n]; done)), (by apply R.gH.c <;> first | rfl | exact hA _ (by omega) | exact congrFun (hA _ (by omega)) _ | exact hB _ (by omega) | exact h4 _ (by omega) | (intro k hk1 hk2; exact hB k (by omega)) | (simp (disch := omega) only [uA_s, uA_n, ud_n]; done)), (by apply R.gN.c <;> first | rfl | exact hA _ (by omega) | exact congrFun (hA _ (by omega)) _ | exact hB _ (by omega) | exact h4 _ (by omega) | (intro k hk1 hk2; exact hB k (by omega)) | (simp (disch := omega) only [uA_s, uA_n, ud_n]; done)), (by apply R.gP.c <;> first | rfl | exact hA _ (by omega) | exact congrFun (hA _ (by omega)) _ | exact hB _ (by omega) | exact h4 _ (by omega) | (intro k hk1 hk2; exact hB k (by omega)) | (simp (disch := omega) only [uA_s, uA_n, ud_n]; done)), (by apply R.gT.c <;> first | rfl | exact hA _ (by omega) | exact congrFun (hA _ (by omega)) _ | exact hB _ (by omega) | exact h4 _ (by omega) | (intro k hk1 hk2; exact hB k (by omega)) | (simp (disch := omega) only [uA_s, uA_n, ud_n]; done)), (by apply R.gS.c <;> first | rfl | exact hA _ (by omega) | exact congrFun (hA _ (by omega)) _ | exact hB _ (by omega) | exact h4 _ (by omega) | (intro k hk1 hk2; exact hB k (by omega)) | (simp (disch := omega) only [uA_s, uA_n, ud_n]; done)), ?_, (by apply R.gW.c <;> first | rfl | exact hA _ (by omega) | exact congrFun (hA _ (by omega)) _ | exact hB _ (by omega) | exact h4 _ (by omega) | (intro k hk1 hk2; exact hB k (by omega)) | (simp (disch := omega) only [uA_s, uA_n, ud_n]; done)), (by apply R.gX.c <;> first | rfl | exact hA _ (by omega) | exact congrFun (hA _ (by omega)) _ | exact hB _ (by omega) | exact h4 _ (by omega) | (intro k hk1 hk2; exact hB k (by omega)) | (simp (disch := omega) only [uA_s, uA_n, ud_n]; done)), (by apply R.gG.c <;> first | rfl | exact hA _ (by omega) | exact congrFun (hA _ (by omega)) _ | exact hB _ (by omega) | exact h4 _ (by omega) | (intro k hk1 hk2; exact hB k (by omega)) | (simp (disch := omega) only [uA_s, uA_n, ud_n]; done)), (by apply R.gI.c <;> first | rfl | exact hA _ (by omega) | exact congrFun (hA _ (by omega)) _ | exact hB _ (by omega) | exact h4 _ (by omega) | (intro k hk1 hk2; exact hB k (by omega)) | (simp (disch := omega) only [uA_s, uA_n, ud_n]; done))⟩, R.sx.tr ?_, R.sb.tr (SB.st (fun k hk => hB k (by omega)))⟩
  · obtain ⟨x1, x2, x3, x4, x5, x6, x7, x8, x9, x10, x11, x12, x13, x14, x15⟩ := R.gD
    unfold WD
    simp (disch := omega) only [uA_s, ud_n, ud_s]
    exact ⟨x1, x2, x3, x4, x5, hv.1, hv.2, trivial, x9, x10, x11, x12, x13, x14, x15⟩
  · exact SX.st (fun k hk => hA k (by omega)) (by rw [uA_s, ud_n (by omega)]) (by rw [uA_s, ud_n (by omega)]) (by rw [hA 55 (by omega)]) (by rw [hA 55 (by omega)]) (fun c _ => by rw [hA 59 (by omega)])
/-- the class's rule for the rate, and the reference's -/
theorem RR.byRule (R : RR K D A0 B0 A B) (hF : 1000 ≤ F) (hK : K ≤ 1000000000) (Ax Bx : hI) : ∃ A' B' : hI, ((f_World_lawSays F 1 (-1) (mk A Bx)).bind fun q3 => ((f_x_within F q3.1 0 20 q3.2).bind fun q4 => some ((), ((m_up q4.2.1 16 10 q4.1), q4.2.2)))) = some ((), mk A' Bx) ∧ (∀ v : Int32, ((f_m_rules F 1 (-1) (mk Ax B)).bind fun q15 => (if q15.1 = 0 then f_m_close_274 F v q15.2 else ((f_m_within F (q15.2.1 304 21) 0 20 q15.2).bind fun q16 => f_m_close_274 F v ((m_up q16.2.1 305 10 q16.1), q16.2.2)))) = f_m_close_274 F v (mk Ax B')) ∧ RR K D A0 B0 A' B' ∧ (∀ c : Nat, c ≠ 15 → c ≠ 54 → c ≠ 16 → A' c = A c) ∧ (∀ j : Nat, j ≠ 10 → A' 16 j = A 16 j) ∧ ∀ k : Nat, 480 ≤ k → k ≤ 486 → B' k = B k := by
  obtain ⟨A1, x1, x2⟩ := ex_lawSays F R hF hK Bx (bill := -1) (key := 1) (Or.inl rfl) (by omega) (by omega)
  obtain ⟨B1, y1, y2, y3⟩ := em_rules F Ax R hF hK (bill := -1) (key := 1) (Or.inl rfl) (by omega) (by omega)
  have R1 : RR K D A0 B0 A1 B1 := (R.xA (fun j h15 _ h54 => x2 j h15 h54)).x4 y2
  have rg := tin_rg A B (-1) 1 (A 16 14).toNat
  have hx1 := R.gX.xn1
  have hx2 := R.gX.xn2
  have hw : -1 ≤ twh A B (-1) 1 ∧ twh A B (-1) 1 < 12 := by unfold twh; omega
  obtain ⟨z, hz1, hz2, hz⟩ : ∃ z : Int, -2147483648 ≤ z ∧ z < 2147483648 ∧ say A B (-1) 1 = iI z := ⟨_, (i32rg _).1, (i32rg _).2, iI_of _⟩
  have hv : 0 ≤ wi z 0 20 ∧ wi z 0 20 ≤ 20 := by unfold wi; omega
  have R2 := R1.rate hv
  have hc : ∀ c : Nat, c ≠ 15 → c ≠ 54 → c ≠ 16 → uA A1 16 10 (wi z 0 20) c = A c := fun c h1 h2 h3 => by rw [uA_n h3, x2 c h1 h2]
  have hj : ∀ j : Nat, j ≠ 10 → uA A1 16 10 (wi z 0 20) 16 j = A 16 j := fun j h => by rw [uA_s, ud_n h, x2 16 (by omega) (by omega)]
  have X : ((f_World_lawSays F 1 (-1) (mk A Bx)).bind fun q3 => ((f_x_within F q3.1 0 20 q3.2).bind fun q4 => some ((), ((m_up q4.2.1 16 10 q4.1), q4.2.2)))) = some ((), mk (uA A1 16 10 (wi z 0 20)) Bx) := by
    refine obd (v := (iI z, mk A1 Bx)) (by rw [← hz]; simp (disch := first | omega | (simp (disch := omega) only [uA_n]; done) | fail) only [iI_lit, iI_add, iI_sub, iI_mul, iI_neg, iI_lt, iI_le, iI_eq, zlt_t, zlt_f, zle_t, zle_f, zeq_t, zeq_f, nle_t, nle_f, iI_cl, rA, rS, rB, wA, wS, wB, mkp, mk2, uA_s, uA_n, ud_s, ud_n, bI_0, bI_1, nor_s, ↓reduceIte, or_false, false_or, or_true, true_or, or_self, not_true_eq_false, not_false_eq_true, and_true, true_and, and_false, false_and, bI_T, bI_F, Int.reduceToNat, Nat.reduceAdd, Nat.reduceMul, Int.reduceNeg, Option.bind_some, Int.toNat_natCast, x1]) ?_
    refine obd (v := (iI (wi z 0 20), mk A1 Bx)) (ex_within F z 0 20 _ hz1 hz2 (by omega) (by omega) (by omega) (by omega)) ?_
    simp (disch := first | omega | (simp (disch := omega) only [uA_n]; done) | fail) only [iI_lit, iI_add, iI_sub, iI_mul, iI_neg, iI_lt, iI_le, iI_eq, zlt_t, zlt_f, zle_t, zle_f, zeq_t, zeq_f, nle_t, nle_f, iI_cl, rA, rS, rB, wA, wS, wB, mkp, mk2, uA_s, uA_n, ud_s, ud_n, bI_0, bI_1, nor_s, ↓reduceIte, or_false, false_or, or_true, true_or, or_self, not_true_eq_false, not_false_eq_true, and_true, true_and, and_false, false_and, bI_T, bI_F, Int.reduceToNat, Nat.reduceAdd, Nat.reduceMul, Int.reduceNeg, Option.bind_some, Int.toNat_natCast]
  have m0 : uA B1 400 10 (wi z 0 20) 399 = B1 399 := uA_n (by omega)
  by_cases c : twh A B (-1) 1 = -1
  · have hd : say A B (-1) 1 = iI (A 16 10) := by unfold say; rw [if_pos c]; rfl
    have r1 := R.gD.dr1
    have r2 := R.gD.dr2
    have ez : z = A 16 10 := by
      rw [hd] at hz
      have := congrArg Int32.toInt hz
      rw [iI_toInt (by omega) (by omega), iI_toInt (by omega) (by omega)] at this
      omega
    have ew : wi z 0 20 = B1 400 10 := by
      rw [R1.gD.dr3, x2 16 (by omega) (by omega)]
      unfold wi
      omega
    have eB : uA B1 400 10 (wi z 0 20) = B1 := by
      rw [ew]
      funext k
      by_cases hk : k = 400
      · subst hk
        rw [uA_s]
        funext j
        by_cases hj : j = 10
        · subst hj; rw [ud_s]
        · rw [ud_n hj]
      · rw [uA_n hk]
    rw [eB] at R2
    refine ⟨_, _, X, fun v => ?_, R2, hc, hj, fun k h1 h2 => y2.1 k (by omega) (by omega) (by omega)⟩
    refine obd (v := (iI 0, mk Ax B1)) (by
      simp only [f_m_rules, f_m_rules_15]
      refine obd (v := (iI (-1), mk Ax B1)) (by rw [← c]; simp (disch := first | omega | (simp (disch := omega) only [uA_n]; done) | fail) only [iI_lit, iI_add, iI_sub, iI_mul, iI_neg, iI_lt, iI_le, iI_eq, zlt_t, zlt_f, zle_t, zle_f, zeq_t, zeq_f, nle_t, nle_f, iI_cl, rA, rS, rB, wA, wS, wB, mkp, mk2, uA_s, uA_n, ud_s, ud_n, bI_0, bI_1, nor_s, ↓reduceIte, or_false, false_or, or_true, true_or, or_self, not_true_eq_false, not_false_eq_true, and_true, true_and, and_false, false_and, bI_T, bI_F, Int.reduceToNat, Nat.reduceAdd, Nat.reduceMul, Int.reduceNeg, Option.bind_some, Int.toNat_natCast, y1]) ?_
      simp (disch := first | omega | (simp (disch := omega) only [uA_n]; done) | fail) only [iI_lit, iI_add, iI_sub, iI_mul, iI_neg, iI_lt, iI_le, iI_eq, zlt_t, zlt_f, zle_t, zle_f, zeq_t, zeq_f, nle_t, nle_f, iI_cl, rA, rS, rB, wA, wS, wB, mkp, mk2, uA_s, uA_n, ud_s, ud_n, bI_0, bI_1, nor_s, ↓reduceIte, or_false, false_or, or_true, true_or, or_self, not_true_eq_false, not_false_eq_true, and_true, true_and, and_false, false_and, bI_T, bI_F, Int.reduceToNat, Nat.reduceAdd, Nat.reduceMul, Int.reduceNeg, Option.bind_some, Int.toNat_natCast]) ?_
    exact if_pos rfl
  · have hd : say A B (-1) 1 = tsy A B (-1) (twh A B (-1) 1).toNat := by unfold say; rw [if_neg c]
    have e21 : iI (B1 304 21) = iI z := by rw [y3 c, ← hz, hd]
    refine ⟨_, _, X, fun v => ?_, R2, hc, hj, fun k h1 h2 => by rw [uA_n (by omega)]; exact y2.1 k (by omega) (by omega) (by omega)⟩
    refine obd (v := (iI 1, mk Ax B1)) (by
      simp only [f_m_rules, f_m_rules_15]
      refine obd (v := (iI (twh A B (-1) 1), mk Ax B1)) (by simp (disch := first | omega | (simp (disch := omega) only [uA_n]; done) | fail) only [iI_lit, iI_add, iI_sub, iI_mul, iI_neg, iI_lt, iI_le, iI_eq, zlt_t, zlt_f, zle_t, zle_f, zeq_t, zeq_f, nle_t, nle_f, iI_cl, rA, rS, rB, wA, wS, wB, mkp, mk2, uA_s, uA_n, ud_s, ud_n, bI_0, bI_1, nor_s, ↓reduceIte, or_false, false_or, or_true, true_or, or_self, not_true_eq_false, not_false_eq_true, and_true, true_and, and_false, false_and, bI_T, bI_F, Int.reduceToNat, Nat.reduceAdd, Nat.reduceMul, Int.reduceNeg, Option.bind_some, Int.toNat_natCast, y1]) ?_
      simp (disch := first | omega | (simp (disch := omega) only [uA_n]; done) | fail) only [iI_lit, iI_add, iI_sub, iI_mul, iI_neg, iI_lt, iI_le, iI_eq, zlt_t, zlt_f, zle_t, zle_f, zeq_t, zeq_f, nle_t, nle_f, iI_cl, rA, rS, rB, wA, wS, wB, mkp, mk2, uA_s, uA_n, ud_s, ud_n, bI_0, bI_1, nor_s, ↓reduceIte, or_false, false_or, or_true, true_or, or_self, not_true_eq_false, not_false_eq_true, and_true, true_and, and_false, false_and, bI_T, bI_F, Int.reduceToNat, Nat.reduceAdd, Nat.reduceMul, Int.reduceNeg, Option.bind_some, Int.toNat_natCast]) ?_
    refine (if_neg i1n0).trans ?_
    refine obd (v := (iI (wi z 0 20), mk Ax B1)) (by
      refine Eq.trans ?_ (em_within F z 0 20 _ hz1 hz2 (by omega) (by omega) (by omega) (by omega) (by omega))
      simp (disch := first | omega | (simp (disch := omega) only [uA_n]; done) | fail) only [iI_lit, iI_add, iI_sub, iI_mul, iI_neg, iI_lt, iI_le, iI_eq, zlt_t, zlt_f, zle_t, zle_f, zeq_t, zeq_f, nle_t, nle_f, iI_cl, rA, rS, rB, wA, wS, wB, mkp, mk2, uA_s, uA_n, ud_s, ud_n, bI_0, bI_1, nor_s, ↓reduceIte, or_false, false_or, or_true, true_or, or_self, not_true_eq_false, not_false_eq_true, and_true, true_and, and_false, false_and, bI_T, bI_F, Int.reduceToNat, Nat.reduceAdd, Nat.reduceMul, Int.reduceNeg, Option.bind_some, Int.toNat_natCast, e21]) ?_
    simp (disch := first | omega | (simp (disch := omega) only [uA_n]; done) | fail) only [iI_lit, iI_add, iI_sub, iI_mul, iI_neg, iI_lt, iI_le, iI_eq, zlt_t, zlt_f, zle_t, zle_f, zeq_t, zeq_f, nle_t, nle_f, iI_cl, rA, rS, rB, wA, wS, wB, mkp, mk2, uA_s, uA_n, ud_s, ud_n, bI_0, bI_1, nor_s, ↓reduceIte, or_false, false_or, or_true, true_or, or_self, not_true_eq_false, not_false_eq_true, and_true, true_and, and_false, false_and, bI_T, bI_F, Int.reduceToNat, Nat.reduceAdd, Nat.reduceMul, Int.reduceNeg, Option.bind_some, Int.toNat_natCast, dS, mk2 m0]
end DRAL
