/-! THE CALL THAT LETS DAYS PASS -/
section RUN
variable {K D : Int} {A0 B0 A B A' B' : hI} (F : Nat)
theorem RR.days (hG : ∀ q, B0 350 q = 0) (hF : 1000 ≤ F) (Ax Bx : hI) (v : Nat) (hv : v ≤ 1000) (w : Int32) : ∀ (r j q q2 : Nat) (K : Int) (B1 A B : hI), r + j = v → r < q → r < q2 → A 16 9 + r ≤ 700 → K + 1330000 * r ≤ 998000000 → (∀ k : Nat, k ≠ 469 → B1 k = B0 k) → RR K (A 16 9) A0 B1 A B → ∃ B2 A' B' : hI, f_World_passDays_2 F q (iI (v : Int)) 1 (iI (j : Int)) (mk A Bx) = some ((), mk A' Bx) ∧ f_m_run_56 F q2 (iI (v : Int)) w (iI (j : Int)) (mk Ax B) = ((f_m_downMany F (mk Ax B')).bind fun q6 => some ((q6.1 - w), q6.2)) ∧ (∀ k : Nat, k ≠ 469 → B2 k = B0 k) ∧ RR (K + 1330000 * r) (A' 16 9) A0 B2 A' B' ∧ A' 16 9 = A 16 9 + r := by
  intro r
  induction r with
  | zero =>
    intro j q q2 K B1 A B hj hq hq2 hd hK hB1 R
    obtain ⟨q, rfl⟩ : ∃ s, q = s + 1 := ⟨q - 1, by omega⟩
    obtain ⟨q2, rfl⟩ : ∃ s, q2 = s + 1 := ⟨q2 - 1, by omega⟩
    refine ⟨B1, A, B, ?_, ?_, hB1, R.k (by omega), by omega⟩
    · rw [f_World_passDays_2]
      simp only [f_World_passDays_80]
      exact if_pos (by simp (disch := first | omega | (simp (disch := omega) only [uA_n]; done) | fail) only [iI_lit, iI_add, iI_sub, iI_mul, iI_neg, iI_lt, iI_le, iI_eq, zlt_t, zlt_f, zle_t, zle_f, zeq_t, zeq_f, nle_t, nle_f, iI_cl, rA, rS, rB, wA, wS, wB, mkp, mk2, uA_s, uA_n, ud_s, ud_n, bI_0, bI_1, nor_s, ↓reduceIte, or_false, false_or, or_true, true_or, or_self, not_true_eq_false, not_false_eq_true, and_true, true_and, and_false, false_and, bI_T, bI_F, Int.reduceToNat, Nat.reduceAdd, Nat.reduceMul, Int.reduceNeg, Option.bind_some, Int.toNat_natCast])
    · rw [f_m_run_56]
      exact if_pos (by simp (disch := first | omega | (simp (disch := omega) only [uA_n]; done) | fail) only [iI_lit, iI_add, iI_sub, iI_mul, iI_neg, iI_lt, iI_le, iI_eq, zlt_t, zlt_f, zle_t, zle_f, zeq_t, zeq_f, nle_t, nle_f, iI_cl, rA, rS, rB, wA, wS, wB, mkp, mk2, uA_s, uA_n, ud_s, ud_n, bI_0, bI_1, nor_s, ↓reduceIte, or_false, false_or, or_true, true_or, or_self, not_true_eq_false, not_false_eq_true, and_true, true_and, and_false, false_and, bI_T, bI_F, Int.reduceToNat, Nat.reduceAdd, Nat.reduceMul, Int.reduceNeg, Option.bind_some, Int.toNat_natCast])
  | succ r ih =>
    intro j q q2 K B1 A B hj hq hq2 hd hK hB1 R
    obtain ⟨q, rfl⟩ : ∃ s, q = s + 1 := ⟨q - 1, by omega⟩
    obtain ⟨q2, rfl⟩ : ∃ s, q2 = s + 1 := ⟨q2 - 1, by omega⟩
    have hlt : ¬ (iI (v : Int) ≤ iI (j : Int)) := by
      rw [iI_le (by omega) (by omega) (by omega) (by omega)]
      omega
    obtain ⟨B3, A3, B4, x1, y1, z1, R3, e1⟩ := R.day F hB1 hG hF (by omega) (by omega) Ax Bx 1 (iI (v : Int)) (iI (j : Int)) hlt q
    obtain ⟨B5, A5, B6, x2, y2, z2, R5, e2⟩ := ih (j + 1) q q2 (K + 1330000) B3 A3 B4 (by omega) (by omega) (by omega) (by omega) (by omega) z1 R3
    have en : iI (j : Int) + 1 = iI ((j + 1 : Nat) : Int) := iI_add (j : Int) 1
    refine ⟨B5, A5, B6, ?_, ?_, z2, R5.k (by omega), by omega⟩
    · rw [x1, en]; exact x2
    · rw [f_m_run_56]
      refine (if_neg hlt).trans ?_
      refine obd y1 ?_
      rw [en]; exact y2
theorem em_down4 (R : RR K D A0 B0 A B) (Ax : hI) : ∀ (r i q : Nat), (r : Int) = A 19 11 - i → 1 ≤ i → r < q → f_m_downMany_4 F q (iI (sm i (fun h => bI (A 27 h ≠ -1)))) (iI (i : Int)) (mk Ax B) = some (iI (sm (A 19 11).toNat (fun h => bI (A 27 h ≠ -1))), mk Ax B) := by
  have hn3 := R.gH.hn3
  have hn2 := R.gH.hn2
  intro r
  induction r with
  | zero =>
    intro i q hr hi hq
    obtain ⟨q, rfl⟩ : ∃ s, q = s + 1 := ⟨q - 1, by omega⟩
    rw [f_m_downMany_4]
    refine (if_pos (by simp (disch := first | omega | (simp (disch := omega) only [uA_n]; done) | fail) only [iI_lit, iI_add, iI_sub, iI_mul, iI_neg, iI_lt, iI_le, iI_eq, zlt_t, zlt_f, zle_t, zle_f, zeq_t, zeq_f, nle_t, nle_f, iI_cl, rA, rS, rB, wA, wS, wB, mkp, mk2, uA_s, uA_n, ud_s, ud_n, bI_0, bI_1, nor_s, ↓reduceIte, or_false, false_or, or_true, true_or, or_self, not_true_eq_false, not_false_eq_true, and_true, true_and, and_false, false_and, bI_T, bI_F, Int.reduceToNat, Nat.reduceAdd, Nat.reduceMul, Int.reduceNeg, Option.bind_some, Int.toNat_natCast, dS, hn3])).trans ?_
    rw [show (A 19 11).toNat = i by omega]
  | succ r ih =>
    intro i q hr hi hq
    obtain ⟨q, rfl⟩ : ∃ s, q = s + 1 := ⟨q - 1, by omega⟩
    have nx := ih (i + 1) q (by omega) (by omega) (by omega)
    have u := em_isUp F R Ax (i : Int) (by omega) (by omega)
    rw [Int.toNat_natCast] at u
    have en : iI (i : Int) + 1 = iI ((i + 1 : Nat) : Int) := iI_add (i : Int) 1
    rw [f_m_downMany_4]
    refine (if_neg (by simp (disch := first | omega | (simp (disch := omega) only [uA_n]; done) | fail) only [iI_lit, iI_add, iI_sub, iI_mul, iI_neg, iI_lt, iI_le, iI_eq, zlt_t, zlt_f, zle_t, zle_f, zeq_t, zeq_f, nle_t, nle_f, iI_cl, rA, rS, rB, wA, wS, wB, mkp, mk2, uA_s, uA_n, ud_s, ud_n, bI_0, bI_1, nor_s, ↓reduceIte, or_false, false_or, or_true, true_or, or_self, not_true_eq_false, not_false_eq_true, and_true, true_and, and_false, false_and, bI_T, bI_F, Int.reduceToNat, Nat.reduceAdd, Nat.reduceMul, Int.reduceNeg, Option.bind_some, Int.toNat_natCast, dS, hn3])).trans ?_
    refine obd u ?_
    simp only [f_m_downMany_28]
    have ss : sm (i + 1) (fun h => bI (A 27 h ≠ -1)) = sm i (fun h => bI (A 27 h ≠ -1)) + bI (A 27 i ≠ -1) := rfl
    rw [ss] at nx
    by_cases c : A 27 i = -1
    · rw [bI_f (fun z => z c)] at nx
      refine (if_neg (by rw [bI_t c]; exact i1n0)).trans ?_
      rw [en]
      refine Eq.trans ?_ nx
      exact congrArg (fun z => f_m_downMany_4 F q z (iI ((i + 1 : Nat) : Int)) (mk Ax B)) (iI_add _ 0)
    · rw [bI_t c] at nx
      refine (if_pos (by rw [bI_f c]; rfl)).trans ?_
      rw [en]
      refine Eq.trans ?_ nx
      exact congrArg (fun z => f_m_downMany_4 F q z (iI ((i + 1 : Nat) : Int)) (mk Ax B)) (iI_add _ 1)
theorem em_downMany (R : RR K D A0 B0 A B) (hF : 1000 ≤ F) (Ax : hI) : f_m_downMany F (mk Ax B) = some (iI (A 19 12), mk Ax B) := by
  have hn1 := R.gH.hn1
  have hn2 := R.gH.hn2
  have h0 : sm 1 (fun h => bI (A 27 h ≠ -1)) = 0 := by
    show 0 + bI (A 27 0 ≠ -1) = 0
    rw [bI_f (fun z => z R.gH.hd0)]
    rfl
  have e := em_down4 F R Ax (A 19 11 - 1).toNat 1 F (by omega) (by omega) (by omega)
  rw [h0, ← R.gH.hfa] at e
  exact e
/-- run -/
theorem c_run {i : Nat} (h : Inv i A B) (hi : i < 512) (hF : 1000 ≤ F) (v : Int32) : ∃ (r : Int32) (m1 : mM) (A' B' : hI), f_x_run F v (mk A B) = some (r, m1) ∧ f_m_run F v m1 = some (r, mk A' B') ∧ Inv (i + 1) A' B' := by
  obtain ⟨z, hz1, hz2, rfl⟩ : ∃ z : Int, -2147483648 ≤ z ∧ z < 2147483648 ∧ v = iI z := ⟨_, (i32rg v).1, (i32rg v).2, iI_of v⟩
  apply pc_of
  intro Ax Bx
  have R := h.rr
  have hd1 := R.gD.dd1
  have hd2 := R.gD.dd2
  have hd3 := R.gD.dd3
  have hK := h.kmx (by omega)
  have ei := em_in F z 1 70 (mk Ax B) hz1 hz2 (by omega) (by omega) (by omega) (by omega)
  by_cases c0 : 0 ≤ z
  · by_cases c1 : 1 ≤ z ∧ z ≤ 70
    · rw [bI_t c1] at ei
      by_cases c2 : A 16 9 + z ≤ 700
      · obtain ⟨n, rfl⟩ : ∃ n : Nat, z = n := ⟨z.toNat, by omega⟩
        obtain ⟨B2, A2, B3, x1, y1, z1, R1, e1⟩ := RR.days F (fun q => (h.2.2.2.2.2 q).1) hF Ax Bx n (by omega) (iI (A 19 12)) n 0 F F (KMX i (A 16 9)) B A B (by omega) (by omega) (by omega) (by omega) (by unfold KMX at hK ⊢; omega) (fun _ _ => rfl) R
        have d1 := em_downMany F R hF Ax
        have d2 := em_downMany F R1 hF Ax
        refine ⟨iI (A2 19 12) - iI (A 19 12), A2, B3, ?_, ?_, h.step R1 z1 (by unfold KMX; omega)⟩
        · unfold f_x_run
          refine (if_pos (by simp (disch := first | omega | (simp (disch := omega) only [uA_n]; done) | fail) only [iI_lit, iI_add, iI_sub, iI_mul, iI_neg, iI_lt, iI_le, iI_eq, zlt_t, zlt_f, zle_t, zle_f, zeq_t, zeq_f, nle_t, nle_f, iI_cl, rA, rS, rB, wA, wS, wB, mkp, mk2, uA_s, uA_n, ud_s, ud_n, bI_0, bI_1, nor_s, ↓reduceIte, or_false, false_or, or_true, true_or, or_self, not_true_eq_false, not_false_eq_true, and_true, true_and, and_false, false_and, bI_T, bI_F, Int.reduceToNat, Nat.reduceAdd, Nat.reduceMul, Int.reduceNeg, Option.bind_some, Int.toNat_natCast])).trans ?_
          refine (if_neg (by simp (disch := first | omega | (simp (disch := omega) only [uA_n]; done) | fail) only [iI_lit, iI_add, iI_sub, iI_mul, iI_neg, iI_lt, iI_le, iI_eq, zlt_t, zlt_f, zle_t, zle_f, zeq_t, zeq_f, nle_t, nle_f, iI_cl, rA, rS, rB, wA, wS, wB, mkp, mk2, uA_s, uA_n, ud_s, ud_n, bI_0, bI_1, nor_s, ↓reduceIte, or_false, false_or, or_true, true_or, or_self, not_true_eq_false, not_false_eq_true, and_true, true_and, and_false, false_and, bI_T, bI_F, Int.reduceToNat, Nat.reduceAdd, Nat.reduceMul, Int.reduceNeg, Option.bind_some, Int.toNat_natCast])).trans ?_
          refine (if_pos (by simp (disch := first | omega | (simp (disch := omega) only [uA_n]; done) | fail) only [iI_lit, iI_add, iI_sub, iI_mul, iI_neg, iI_lt, iI_le, iI_eq, zlt_t, zlt_f, zle_t, zle_f, zeq_t, zeq_f, nle_t, nle_f, iI_cl, rA, rS, rB, wA, wS, wB, mkp, mk2, uA_s, uA_n, ud_s, ud_n, bI_0, bI_1, nor_s, ↓reduceIte, or_false, false_or, or_true, true_or, or_self, not_true_eq_false, not_false_eq_true, and_true, true_and, and_false, false_and, bI_T, bI_F, Int.reduceToNat, Nat.reduceAdd, Nat.reduceMul, Int.reduceNeg, Option.bind_some, Int.toNat_natCast])).trans ?_
          refine (if_pos (by simp (disch := first | omega | (simp (disch := omega) only [uA_n]; done) | fail) only [iI_lit, iI_add, iI_sub, iI_mul, iI_neg, iI_lt, iI_le, iI_eq, zlt_t, zlt_f, zle_t, zle_f, zeq_t, zeq_f, nle_t, nle_f, iI_cl, rA, rS, rB, wA, wS, wB, mkp, mk2, uA_s, uA_n, ud_s, ud_n, bI_0, bI_1, nor_s, ↓reduceIte, or_false, false_or, or_true, true_or, or_self, not_true_eq_false, not_false_eq_true, and_true, true_and, and_false, false_and, bI_T, bI_F, Int.reduceToNat, Nat.reduceAdd, Nat.reduceMul, Int.reduceNeg, Option.bind_some, Int.toNat_natCast])).trans ?_
          refine obd (v := ((), mk A2 Bx)) x1 ?_
          rfl
        · unfold f_m_run
          refine (if_pos (by simp (disch := first | omega | (simp (disch := omega) only [uA_n]; done) | fail) only [iI_lit, iI_add, iI_sub, iI_mul, iI_neg, iI_lt, iI_le, iI_eq, zlt_t, zlt_f, zle_t, zle_f, zeq_t, zeq_f, nle_t, nle_f, iI_cl, rA, rS, rB, wA, wS, wB, mkp, mk2, uA_s, uA_n, ud_s, ud_n, bI_0, bI_1, nor_s, ↓reduceIte, or_false, false_or, or_true, true_or, or_self, not_true_eq_false, not_false_eq_true, and_true, true_and, and_false, false_and, bI_T, bI_F, Int.reduceToNat, Nat.reduceAdd, Nat.reduceMul, Int.reduceNeg, Option.bind_some, Int.toNat_natCast])).trans ?_
          refine obd ei ?_
          refine (if_neg i1n0).trans ?_
          refine (if_pos (by simp (disch := first | omega | (simp (disch := omega) only [uA_n]; done) | fail) only [iI_lit, iI_add, iI_sub, iI_mul, iI_neg, iI_lt, iI_le, iI_eq, zlt_t, zlt_f, zle_t, zle_f, zeq_t, zeq_f, nle_t, nle_f, iI_cl, rA, rS, rB, wA, wS, wB, mkp, mk2, uA_s, uA_n, ud_s, ud_n, bI_0, bI_1, nor_s, ↓reduceIte, or_false, false_or, or_true, true_or, or_self, not_true_eq_false, not_false_eq_true, and_true, true_and, and_false, false_and, bI_T, bI_F, Int.reduceToNat, Nat.reduceAdd, Nat.reduceMul, Int.reduceNeg, Option.bind_some, Int.toNat_natCast, dS, hd3])).trans ?_
          refine obd d1 ?_
          refine Eq.trans y1 ?_
          refine obd d2 ?_
          rfl
      · obtain ⟨A2, B2, x1, y1, I1⟩ := both_refuse F h (v := -8) (by omega) (by omega) Ax Bx
        refine ⟨iI (-8), A2, B2, ?_, ?_, I1⟩
        · unfold f_x_run
          refine (if_pos (by simp (disch := first | omega | (simp (disch := omega) only [uA_n]; done) | fail) only [iI_lit, iI_add, iI_sub, iI_mul, iI_neg, iI_lt, iI_le, iI_eq, zlt_t, zlt_f, zle_t, zle_f, zeq_t, zeq_f, nle_t, nle_f, iI_cl, rA, rS, rB, wA, wS, wB, mkp, mk2, uA_s, uA_n, ud_s, ud_n, bI_0, bI_1, nor_s, ↓reduceIte, or_false, false_or, or_true, true_or, or_self, not_true_eq_false, not_false_eq_true, and_true, true_and, and_false, false_and, bI_T, bI_F, Int.reduceToNat, Nat.reduceAdd, Nat.reduceMul, Int.reduceNeg, Option.bind_some, Int.toNat_natCast])).trans ?_
          refine (if_neg (by simp (disch := first | omega | (simp (disch := omega) only [uA_n]; done) | fail) only [iI_lit, iI_add, iI_sub, iI_mul, iI_neg, iI_lt, iI_le, iI_eq, zlt_t, zlt_f, zle_t, zle_f, zeq_t, zeq_f, nle_t, nle_f, iI_cl, rA, rS, rB, wA, wS, wB, mkp, mk2, uA_s, uA_n, ud_s, ud_n, bI_0, bI_1, nor_s, ↓reduceIte, or_false, false_or, or_true, true_or, or_self, not_true_eq_false, not_false_eq_true, and_true, true_and, and_false, false_and, bI_T, bI_F, Int.reduceToNat, Nat.reduceAdd, Nat.reduceMul, Int.reduceNeg, Option.bind_some, Int.toNat_natCast])).trans ?_
          refine (if_pos (by simp (disch := first | omega | (simp (disch := omega) only [uA_n]; done) | fail) only [iI_lit, iI_add, iI_sub, iI_mul, iI_neg, iI_lt, iI_le, iI_eq, zlt_t, zlt_f, zle_t, zle_f, zeq_t, zeq_f, nle_t, nle_f, iI_cl, rA, rS, rB, wA, wS, wB, mkp, mk2, uA_s, uA_n, ud_s, ud_n, bI_0, bI_1, nor_s, ↓reduceIte, or_false, false_or, or_true, true_or, or_self, not_true_eq_false, not_false_eq_true, and_true, true_and, and_false, false_and, bI_T, bI_F, Int.reduceToNat, Nat.reduceAdd, Nat.reduceMul, Int.reduceNeg, Option.bind_some, Int.toNat_natCast])).trans ?_
          refine (if_neg (by simp (disch := first | omega | (simp (disch := omega) only [uA_n]; done) | fail) only [iI_lit, iI_add, iI_sub, iI_mul, iI_neg, iI_lt, iI_le, iI_eq, zlt_t, zlt_f, zle_t, zle_f, zeq_t, zeq_f, nle_t, nle_f, iI_cl, rA, rS, rB, wA, wS, wB, mkp, mk2, uA_s, uA_n, ud_s, ud_n, bI_0, bI_1, nor_s, ↓reduceIte, or_false, false_or, or_true, true_or, or_self, not_true_eq_false, not_false_eq_true, and_true, true_and, and_false, false_and, bI_T, bI_F, Int.reduceToNat, Nat.reduceAdd, Nat.reduceMul, Int.reduceNeg, Option.bind_some, Int.toNat_natCast])).trans ?_
          exact obd x1 rfl
        · unfold f_m_run
          refine (if_pos (by simp (disch := first | omega | (simp (disch := omega) only [uA_n]; done) | fail) only [iI_lit, iI_add, iI_sub, iI_mul, iI_neg, iI_lt, iI_le, iI_eq, zlt_t, zlt_f, zle_t, zle_f, zeq_t, zeq_f, nle_t, nle_f, iI_cl, rA, rS, rB, wA, wS, wB, mkp, mk2, uA_s, uA_n, ud_s, ud_n, bI_0, bI_1, nor_s, ↓reduceIte, or_false, false_or, or_true, true_or, or_self, not_true_eq_false, not_false_eq_true, and_true, true_and, and_false, false_and, bI_T, bI_F, Int.reduceToNat, Nat.reduceAdd, Nat.reduceMul, Int.reduceNeg, Option.bind_some, Int.toNat_natCast])).trans ?_
          refine obd ei ?_
          refine (if_neg i1n0).trans ?_
          refine (if_neg (by simp (disch := first | omega | (simp (disch := omega) only [uA_n]; done) | fail) only [iI_lit, iI_add, iI_sub, iI_mul, iI_neg, iI_lt, iI_le, iI_eq, zlt_t, zlt_f, zle_t, zle_f, zeq_t, zeq_f, nle_t, nle_f, iI_cl, rA, rS, rB, wA, wS, wB, mkp, mk2, uA_s, uA_n, ud_s, ud_n, bI_0, bI_1, nor_s, ↓reduceIte, or_false, false_or, or_true, true_or, or_self, not_true_eq_false, not_false_eq_true, and_true, true_and, and_false, false_and, bI_T, bI_F, Int.reduceToNat, Nat.reduceAdd, Nat.reduceMul, Int.reduceNeg, Option.bind_some, Int.toNat_natCast, dS, hd3])).trans ?_
          exact obd y1 rfl
    · rw [bI_f c1] at ei
      obtain ⟨A2, B2, x1, y1, I1⟩ := both_refuse F h (v := -7) (by omega) (by omega) Ax Bx
      refine ⟨iI (-7), A2, B2, ?_, ?_, I1⟩
      · simp only [f_x_run, f_x_run_22]
        refine (if_pos (by simp (disch := first | omega | (simp (disch := omega) only [uA_n]; done) | fail) only [iI_lit, iI_add, iI_sub, iI_mul, iI_neg, iI_lt, iI_le, iI_eq, zlt_t, zlt_f, zle_t, zle_f, zeq_t, zeq_f, nle_t, nle_f, iI_cl, rA, rS, rB, wA, wS, wB, mkp, mk2, uA_s, uA_n, ud_s, ud_n, bI_0, bI_1, nor_s, ↓reduceIte, or_false, false_or, or_true, true_or, or_self, not_true_eq_false, not_false_eq_true, and_true, true_and, and_false, false_and, bI_T, bI_F, Int.reduceToNat, Nat.reduceAdd, Nat.reduceMul, Int.reduceNeg, Option.bind_some, Int.toNat_natCast])).trans ?_
        by_cases c3 : z < 1
        · refine (if_pos (by simp (disch := first | omega | (simp (disch := omega) only [uA_n]; done) | fail) only [iI_lit, iI_add, iI_sub, iI_mul, iI_neg, iI_lt, iI_le, iI_eq, zlt_t, zlt_f, zle_t, zle_f, zeq_t, zeq_f, nle_t, nle_f, iI_cl, rA, rS, rB, wA, wS, wB, mkp, mk2, uA_s, uA_n, ud_s, ud_n, bI_0, bI_1, nor_s, ↓reduceIte, or_false, false_or, or_true, true_or, or_self, not_true_eq_false, not_false_eq_true, and_true, true_and, and_false, false_and, bI_T, bI_F, Int.reduceToNat, Nat.reduceAdd, Nat.reduceMul, Int.reduceNeg, Option.bind_some, Int.toNat_natCast])).trans ?_
          exact obd x1 rfl
        · refine (if_neg (by simp (disch := first | omega | (simp (disch := omega) only [uA_n]; done) | fail) only [iI_lit, iI_add, iI_sub, iI_mul, iI_neg, iI_lt, iI_le, iI_eq, zlt_t, zlt_f, zle_t, zle_f, zeq_t, zeq_f, nle_t, nle_f, iI_cl, rA, rS, rB, wA, wS, wB, mkp, mk2, uA_s, uA_n, ud_s, ud_n, bI_0, bI_1, nor_s, ↓reduceIte, or_false, false_or, or_true, true_or, or_self, not_true_eq_false, not_false_eq_true, and_true, true_and, and_false, false_and, bI_T, bI_F, Int.reduceToNat, Nat.reduceAdd, Nat.reduceMul, Int.reduceNeg, Option.bind_some, Int.toNat_natCast])).trans ?_
          refine (if_neg (by simp (disch := first | omega | (simp (disch := omega) only [uA_n]; done) | fail) only [iI_lit, iI_add, iI_sub, iI_mul, iI_neg, iI_lt, iI_le, iI_eq, zlt_t, zlt_f, zle_t, zle_f, zeq_t, zeq_f, nle_t, nle_f, iI_cl, rA, rS, rB, wA, wS, wB, mkp, mk2, uA_s, uA_n, ud_s, ud_n, bI_0, bI_1, nor_s, ↓reduceIte, or_false, false_or, or_true, true_or, or_self, not_true_eq_false, not_false_eq_true, and_true, true_and, and_false, false_and, bI_T, bI_F, Int.reduceToNat, Nat.reduceAdd, Nat.reduceMul, Int.reduceNeg, Option.bind_some, Int.toNat_natCast])).trans ?_
          exact obd x1 rfl
      · unfold f_m_run
        refine (if_pos (by simp (disch := first | omega | (simp (disch := omega) only [uA_n]; done) | fail) only [iI_lit, iI_add, iI_sub, iI_mul, iI_neg, iI_lt, iI_le, iI_eq, zlt_t, zlt_f, zle_t, zle_f, zeq_t, zeq_f, nle_t, nle_f, iI_cl, rA, rS, rB, wA, wS, wB, mkp, mk2, uA_s, uA_n, ud_s, ud_n, bI_0, bI_1, nor_s, ↓reduceIte, or_false, false_or, or_true, true_or, or_self, not_true_eq_false, not_false_eq_true, and_true, true_and, and_false, false_and, bI_T, bI_F, Int.reduceToNat, Nat.reduceAdd, Nat.reduceMul, Int.reduceNeg, Option.bind_some, Int.toNat_natCast])).trans ?_
        refine obd ei ?_
        refine (if_pos rfl).trans ?_
        exact obd y1 rfl
  · obtain ⟨A2, B2, x1, y1, I1⟩ := both_refuse F h (v := -4) (by omega) (by omega) Ax Bx
    refine ⟨iI (-4), A2, B2, ?_, ?_, I1⟩
    · unfold f_x_run
      refine (if_neg (by simp (disch := first | omega | (simp (disch := omega) only [uA_n]; done) | fail) only [iI_lit, iI_add, iI_sub, iI_mul, iI_neg, iI_lt, iI_le, iI_eq, zlt_t, zlt_f, zle_t, zle_f, zeq_t, zeq_f, nle_t, nle_f, iI_cl, rA, rS, rB, wA, wS, wB, mkp, mk2, uA_s, uA_n, ud_s, ud_n, bI_0, bI_1, nor_s, ↓reduceIte, or_false, false_or, or_true, true_or, or_self, not_true_eq_false, not_false_eq_true, and_true, true_and, and_false, false_and, bI_T, bI_F, Int.reduceToNat, Nat.reduceAdd, Nat.reduceMul, Int.reduceNeg, Option.bind_some, Int.toNat_natCast])).trans ?_
      exact obd x1 rfl
    · unfold f_m_run
      refine (if_neg (by simp (disch := first | omega | (simp (disch := omega) only [uA_n]; done) | fail) only [iI_lit, iI_add, iI_sub, iI_mul, iI_neg, iI_lt, iI_le, iI_eq, zlt_t, zlt_f, zle_t, zle_f, zeq_t, zeq_f, nle_t, nle_f, iI_cl, rA, rS, rB, wA, wS, wB, mkp, mk2, uA_s, uA_n, ud_s, ud_n, bI_0, bI_1, nor_s, ↓reduceIte, or_false, false_or, or_true, true_or, or_self, not_true_eq_false, not_false_eq_true, and_true, true_and, and_false, false_and, bI_T, bI_F, Int.reduceToNat, Nat.reduceAdd, Nat.reduceMul, Int.reduceNeg, Option.bind_some, Int.toNat_natCast])).trans ?_
      exact obd y1 rfl
end RUN
