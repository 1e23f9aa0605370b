/-! SHIPS -/
theorem d130 : dec 130 = (412, 0) := by decide
section SHIP
variable {K D : Int} {A0 B0 A B A' B' : hI} (F : Nat)
theorem RR.gset (R : RR K D A0 B0 A B) {v c : Int} (hc : 0 ≤ c) (hv : 0 ≤ v) (hv2 : v ≤ A 22 0 + c) : RR (K + c) D A0 B0 (uA A 22 0 v) (uA B 412 0 v) := by
  have hn1 := R.gH.hn1
  have hn := R.gH.hn2
  have hA : ∀ k : Nat, k ≠ 22 → uA A 22 0 v k = A k := fun k hk => uA_n hk
  have hB : ∀ k : Nat, k ≠ 412 → uA B 412 0 v k = B k := fun k hk => uA_n hk
  have h4 : ∀ j : Nat, j ≠ 99 → uA B 412 0 v 400 j = B 400 j := fun j _ => by rw [hB 400 (by omega)]
  have G := R.gG
  have R := R.k (show K ≤ K + c by omega)
  refine ⟨⟨(by apply R.gL.c <;> first | rfl | exact hA _ (by omega) | exact congrFun (hA _ (by omega)) _ | exact hB _ (by omega) | exact h4 _ (by omega) | (intro k hk1 hk2; exact hB k (by omega)) | (simp (disch := omega) only [uA_s, uA_n, ud_n]; done)), ?_, (by apply R.gN.c <;> first | rfl | exact hA _ (by omega) | exact congrFun (hA _ (by omega)) _ | exact hB _ (by omega) | exact h4 _ (by omega) | (intro k hk1 hk2; exact hB k (by omega)) | (simp (disch := omega) only [uA_s, uA_n, ud_n]; done)), (by apply R.gP.c <;> first | rfl | exact hA _ (by omega) | exact congrFun (hA _ (by omega)) _ | exact hB _ (by omega) | exact h4 _ (by omega) | (intro k hk1 hk2; exact hB k (by omega)) | (simp (disch := omega) only [uA_s, uA_n, ud_n]; done)), (by apply R.gT.c <;> first | rfl | exact hA _ (by omega) | exact congrFun (hA _ (by omega)) _ | exact hB _ (by omega) | exact h4 _ (by omega) | (intro k hk1 hk2; exact hB k (by omega)) | (simp (disch := omega) only [uA_s, uA_n, ud_n]; done)), (by apply R.gS.c <;> first | rfl | exact hA _ (by omega) | exact congrFun (hA _ (by omega)) _ | exact hB _ (by omega) | exact h4 _ (by omega) | (intro k hk1 hk2; exact hB k (by omega)) | (simp (disch := omega) only [uA_s, uA_n, ud_n]; done)), (by apply R.gD.c <;> first | rfl | exact hA _ (by omega) | exact congrFun (hA _ (by omega)) _ | exact hB _ (by omega) | exact h4 _ (by omega) | (intro k hk1 hk2; exact hB k (by omega)) | (simp (disch := omega) only [uA_s, uA_n, ud_n]; done)), (by apply R.gW.c <;> first | rfl | exact hA _ (by omega) | exact congrFun (hA _ (by omega)) _ | exact hB _ (by omega) | exact h4 _ (by omega) | (intro k hk1 hk2; exact hB k (by omega)) | (simp (disch := omega) only [uA_s, uA_n, ud_n]; done)), (by apply R.gX.c <;> first | rfl | exact hA _ (by omega) | exact congrFun (hA _ (by omega)) _ | exact hB _ (by omega) | exact h4 _ (by omega) | (intro k hk1 hk2; exact hB k (by omega)) | (simp (disch := omega) only [uA_s, uA_n, ud_n]; done)), ?_, (by apply R.gI.c <;> first | rfl | exact hA _ (by omega) | exact congrFun (hA _ (by omega)) _ | exact hB _ (by omega) | exact h4 _ (by omega) | (intro k hk1 hk2; exact hB k (by omega)) | (simp (disch := omega) only [uA_s, uA_n, ud_n]; done))⟩, R.sx.tr ?_, R.sb.tr (SB.st (fun k hk => hB k (by omega)))⟩
  · obtain ⟨x1, x2, x3, x4, x5, x6, x7, x8, x9, x10, x11, x12, x13, x14, x15, x16, x17, x18, x19, x20, x21⟩ := R.gH
    unfold WH
    have e : uA A 22 0 v 22 = ud (A 22) 0 v := uA_s ..
    have f : uA B 412 0 v 412 = ud (B 412) 0 v := uA_s ..
    simp only [e, f, hA 19 (by omega), hA 20 (by omega), hA 21 (by omega), hA 23 (by omega), hA 24 (by omega), hA 25 (by omega), hA 26 (by omega), hA 27 (by omega), hA 28 (by omega), hA 29 (by omega), hA 30 (by omega), hA 17 (by omega), hA 16 (by omega), hB 400 (by omega), hB 410 (by omega), hB 411 (by omega), hB 413 (by omega), hB 414 (by omega), hB 415 (by omega), hB 416 (by omega), hB 417 (by omega), hB 418 (by omega), hB 419 (by omega), hB 420 (by omega), hB 421 (by omega)]
    refine ⟨x1, x2, x3, x4, x5, fun h hh => ?_, x7, x8, x9, x10, x11, x12, x13, x14, x15, x16, x17, x18, x19, x20, x21⟩
    by_cases q : h = 0
    · subst q; rw [ud_s, ud_s]
    · rw [ud_n q, ud_n q, x6 h hh]
  · have e : uA A 22 0 v 22 = ud (A 22) 0 v := uA_s ..
    refine ⟨fun h hh => ?_, ?_⟩
    · rw [hA 19 (by omega)] at hh
      rw [e]
      have g1 := G.gn h hh
      by_cases q : h = 0
      · subst q; rw [ud_s]; exact hv
      · rw [ud_n q]; exact g1
    · rw [e, hA 19 (by omega), sm_ud (by omega)]
      have := G.gs
      omega
  · exact SX.st (fun k hk => hA k (by omega)) (by rw [hA 16 (by omega)]) (by rw [hA 16 (by omega)]) (by rw [hA 55 (by omega)]) (by rw [hA 55 (by omega)]) (fun c _ => by rw [hA 59 (by omega)])
theorem mul_rg {a b x y : Int} (ha : 0 ≤ a) (ha2 : a ≤ x) (hb : -y ≤ b) (hb2 : b ≤ y) (hy : 0 ≤ y) : -(x * y) ≤ a * b ∧ a * b ≤ x * y := by
  have h1 : a * b ≤ a * y := Int.mul_le_mul_of_nonneg_left hb2 ha
  have h2 : a * -y ≤ a * b := Int.mul_le_mul_of_nonneg_left hb ha
  have h3 : a * y ≤ x * y := Int.mul_le_mul_of_nonneg_right ha2 hy
  rw [Int.mul_neg] at h2
  omega
theorem RR.ships (R : RR K D A0 B0 A B) (hF : 1000 ≤ F) (hK : K ≤ 1000000000) (Ax Bx : hI) : ∃ A' B' : hI, f_World_sendShips F (mk A Bx) = some ((), mk A' Bx) ∧ f_m_ships F (mk Ax B) = some ((), mk Ax B') ∧ RR (K + 2000) D A0 B0 A' B' ∧ (∀ k : Nat, k ≠ 16 → k ≠ 22 → A' k = A k) ∧ (∀ j : Nat, j ≠ 13 → A' 16 j = A 16 j) := by
  have hn1 := R.gH.hn1
  have hd1 := R.gD.dd1
  have hd2 := R.gD.dd2
  have hd3 := R.gD.dd3
  have r1 := R.gD.dr1
  have r2 := R.gD.dr2
  have r3 := R.gD.dr3
  have f1 := R.gD.df1
  have f2 := R.gD.df2
  have f3 := R.gD.df3
  have s1 := R.gD.ds1
  have s2 := R.gD.ds2
  have s3 := R.gD.ds3
  have g := R.gle (h := 0) (by omega)
  have hg := R.gH.hg 0 (by omega)
  have fv := R.flvr (w := 1) (by omega) (A 16 9 / 7)
  have xf := ex_filled F R hF Bx (w := 1) (by omega) (week := A 16 9 / 7) (by omega) (by omega)
  have yf := em_weekOf F R hF Ax (w := 1) (by omega) (week := A 16 9 / 7) (by omega) (by omega)
  have fv20 := fv.2.2 rfl
  generalize flv A 1 (A 16 9 / 7) = f at *
  have xf : f_Seasons_filled F (iI 1) (iI (A 16 9 / 7)) (mk A Bx) = some (iI f, mk A Bx) := xf
  have yf : f_m_weekOf F (iI 1) (iI (A 16 9 / 7)) (mk Ax B) = some (iI f, mk Ax B) := yf
  have xr := mul_rg (a := A 16 11) (b := A 16 10 - f) (x := 100) (y := 20) f1 f2 (by omega) (by omega) (by omega)
  generalize hx : A 16 11 * (A 16 10 - f) = x at *
  have em : ∀ m : mM, f_Math_max F (iI 0) (iI (A 22 0 + x)) m = some (iI (max 0 (A 22 0 + x)), m) := fun m => ex_max F 0 _ m (by omega) (by omega) (by omega) (by omega)
  have R1 := R.gset (v := max 0 (A 22 0 + x)) (c := 2000) (by omega) (by omega) (by omega)
  simp only [f_World_sendShips, f_World_sendShips_72, f_m_ships, f_m_ships_83, f_m_ships_84]
  by_cases hneg : 0 ≤ A 22 0 + x
  · rw [show max 0 (A 22 0 + x) = A 22 0 + x by omega] at R1 em
    refine ⟨_, _, ?_, ?_, R1, fun k h1 h2 => uA_n h2, fun j _ => by rw [uA_n (by omega)]⟩
    · simp (disch := first | omega | (simp (disch := omega) only [uA_n]; done) | fail) only [iI_lit, iI_add, iI_sub, iI_mul, iI_neg, iI_lt, iI_le, iI_eq, zlt_t, zlt_f, zle_t, zle_f, zeq_t, zeq_f, nle_t, nle_f, iI_cl, rA, rS, rB, wA, wS, wB, mkp, mk2, uA_s, uA_n, ud_s, ud_n, bI_0, bI_1, nor_s, ↓reduceIte, or_false, false_or, or_true, true_or, or_self, not_true_eq_false, not_false_eq_true, and_true, true_and, and_false, false_and, bI_T, bI_F, Int.reduceToNat, Nat.reduceAdd, Nat.reduceMul, Int.reduceNeg, Option.bind_some, Int.toNat_natCast, iI_div, xf, hx, em]
    · by_cases hx0 : 0 ≤ x
      · simp (disch := first | omega | (simp (disch := omega) only [uA_n]; done) | fail) only [iI_lit, iI_add, iI_sub, iI_mul, iI_neg, iI_lt, iI_le, iI_eq, zlt_t, zlt_f, zle_t, zle_f, zeq_t, zeq_f, nle_t, nle_f, iI_cl, rA, rS, rB, wA, wS, wB, mkp, mk2, uA_s, uA_n, ud_s, ud_n, bI_0, bI_1, nor_s, ↓reduceIte, or_false, false_or, or_true, true_or, or_self, not_true_eq_false, not_false_eq_true, and_true, true_and, and_false, false_and, bI_T, bI_F, Int.reduceToNat, Nat.reduceAdd, Nat.reduceMul, Int.reduceNeg, Option.bind_some, Int.toNat_natCast, dS, d130, hd3, r3, f3, iI_div, yf, hx, hg]
      · simp (disch := first | omega | (simp (disch := omega) only [uA_n]; done) | fail) only [iI_lit, iI_add, iI_sub, iI_mul, iI_neg, iI_lt, iI_le, iI_eq, zlt_t, zlt_f, zle_t, zle_f, zeq_t, zeq_f, nle_t, nle_f, iI_cl, rA, rS, rB, wA, wS, wB, mkp, mk2, uA_s, uA_n, ud_s, ud_n, bI_0, bI_1, nor_s, ↓reduceIte, or_false, false_or, or_true, true_or, or_self, not_true_eq_false, not_false_eq_true, and_true, true_and, and_false, false_and, bI_T, bI_F, Int.reduceToNat, Nat.reduceAdd, Nat.reduceMul, Int.reduceNeg, Option.bind_some, Int.toNat_natCast, dS, d130, hd3, r3, f3, iI_div, yf, hx, hg]
  · rw [show max 0 (A 22 0 + x) = 0 by omega] at R1 em
    have m0 : uA B 412 0 0 399 = B 399 := uA_n (by omega)
    have b400 : uA B 412 0 0 400 = B 400 := uA_n (by omega)
    have a16 : uA A 22 0 0 16 = A 16 := uA_n (by omega)
    by_cases hst : A 16 13 = -1
    · have R2 := R1.stop
      rw [a16, b400] at R2
      have m1 : uA (uA B 412 0 0) 400 9 (B 400 0) 399 = B 399 := by rw [uA_n (by omega), uA_n (by omega)]
      refine ⟨_, _, ?_, ?_, R2, fun k h1 h2 => by rw [uA_n h1, uA_n h2], fun j hj => by rw [uA_s, ud_n hj, a16]⟩
      · simp (disch := first | omega | (simp (disch := omega) only [uA_n]; done) | fail) only [iI_lit, iI_add, iI_sub, iI_mul, iI_neg, iI_lt, iI_le, iI_eq, zlt_t, zlt_f, zle_t, zle_f, zeq_t, zeq_f, nle_t, nle_f, iI_cl, rA, rS, rB, wA, wS, wB, mkp, mk2, uA_s, uA_n, ud_s, ud_n, bI_0, bI_1, nor_s, ↓reduceIte, or_false, false_or, or_true, true_or, or_self, not_true_eq_false, not_false_eq_true, and_true, true_and, and_false, false_and, bI_T, bI_F, Int.reduceToNat, Nat.reduceAdd, Nat.reduceMul, Int.reduceNeg, Option.bind_some, Int.toNat_natCast, iI_div, xf, hx, em, a16, hst]
      · rw [hd3]
        simp (disch := first | omega | (simp (disch := omega) only [uA_n]; done) | fail) only [iI_lit, iI_add, iI_sub, iI_mul, iI_neg, iI_lt, iI_le, iI_eq, zlt_t, zlt_f, zle_t, zle_f, zeq_t, zeq_f, nle_t, nle_f, iI_cl, rA, rS, rB, wA, wS, wB, mkp, mk2, uA_s, uA_n, ud_s, ud_n, bI_0, bI_1, nor_s, ↓reduceIte, or_false, false_or, or_true, true_or, or_self, not_true_eq_false, not_false_eq_true, and_true, true_and, and_false, false_and, bI_T, bI_F, Int.reduceToNat, Nat.reduceAdd, Nat.reduceMul, Int.reduceNeg, Option.bind_some, Int.toNat_natCast, dS, d130, hd3, r3, f3, iI_div, yf, hx, hg, mk2 m0, b400, s3, hst]
    · refine ⟨_, _, ?_, ?_, R1, fun k h1 h2 => uA_n h2, fun j _ => by rw [uA_n (by omega)]⟩
      · simp (disch := first | omega | (simp (disch := omega) only [uA_n]; done) | fail) only [iI_lit, iI_add, iI_sub, iI_mul, iI_neg, iI_lt, iI_le, iI_eq, zlt_t, zlt_f, zle_t, zle_f, zeq_t, zeq_f, nle_t, nle_f, iI_cl, rA, rS, rB, wA, wS, wB, mkp, mk2, uA_s, uA_n, ud_s, ud_n, bI_0, bI_1, nor_s, ↓reduceIte, or_false, false_or, or_true, true_or, or_self, not_true_eq_false, not_false_eq_true, and_true, true_and, and_false, false_and, bI_T, bI_F, Int.reduceToNat, Nat.reduceAdd, Nat.reduceMul, Int.reduceNeg, Option.bind_some, Int.toNat_natCast, iI_div, xf, hx, em, a16]
      · simp (disch := first | omega | (simp (disch := omega) only [uA_n]; done) | fail) only [iI_lit, iI_add, iI_sub, iI_mul, iI_neg, iI_lt, iI_le, iI_eq, zlt_t, zlt_f, zle_t, zle_f, zeq_t, zeq_f, nle_t, nle_f, iI_cl, rA, rS, rB, wA, wS, wB, mkp, mk2, uA_s, uA_n, ud_s, ud_n, bI_0, bI_1, nor_s, ↓reduceIte, or_false, false_or, or_true, true_or, or_self, not_true_eq_false, not_false_eq_true, and_true, true_and, and_false, false_and, bI_T, bI_F, Int.reduceToNat, Nat.reduceAdd, Nat.reduceMul, Int.reduceNeg, Option.bind_some, Int.toNat_natCast, dS, d130, hd3, r3, f3, iI_div, yf, hx, hg, mk2 m0, b400, s3]
end SHIP
