/-! ONE DAY -/
section DAY
variable {K D : Int} {A0 B0 A B A' B' : hI} (F : Nat)
theorem RR.day0 {B1 : hI} (R : RR K (A 16 9) A0 B1 A B) (hB1 : ∀ k : Nat, k ≠ 469 → B1 k = B0 k) (hF : 1000 ≤ F) (hd : A 16 9 < 700) (Ax Bx : hI) (v v1 v3 : Int32) (hv : ¬ v1 ≤ v3) (q : Nat) : ∃ B2 A' B' : hI, f_World_passDays_2 F (q + 1) v1 v v3 (mk A Bx) = f_World_passDays_31 F (f_World_passDays_2 F q) v1 v v3 (mk A' Bx) ∧ f_m_close F v (mk Ax B) = f_m_close_37 F v (iI (A 16 9)) (mk Ax B') ∧ (∀ k : Nat, k ≠ 469 → B2 k = B0 k) ∧ RR K (A 16 9) A0 B2 A' B' ∧ drG A A' := by
  have hd1 := R.gD.dd1
  have hd3 := R.gD.dd3
  have tn := R.gT.tn2
  have tn1 := R.gT.tn1
  have tn3 := R.gT.tn3
  have y0 : ∀ X, f_m_close_9 F F v (iI (A 16 9)) (iI ((0 : Nat) : Int)) (mk Ax B) = X → f_m_close F v (mk Ax B) = X := fun X h => by
    unfold f_m_close
    refine Eq.trans ?_ h
    simp (disch := first | omega | (simp (disch := omega) only [uA_n]; done) | fail) only [iI_lit, iI_add, iI_sub, iI_mul, iI_neg, iI_lt, iI_le, iI_eq, zlt_t, zlt_f, zle_t, zle_f, zeq_t, zeq_f, nle_t, nle_f, iI_cl, rA, rS, rB, wA, wS, wB, mkp, mk2, uA_s, uA_n, ud_s, ud_n, bI_0, bI_1, nor_s, ↓reduceIte, or_false, false_or, or_true, true_or, or_self, not_true_eq_false, not_false_eq_true, and_true, true_and, and_false, false_and, bI_T, bI_F, Int.reduceToNat, Nat.reduceAdd, Nat.reduceMul, Int.reduceNeg, Option.bind_some, Int.toNat_natCast, dS, hd3]
    rfl
  by_cases h7 : A 16 9 % 7 = 0
  · have e7 : A 16 9 - A 16 9 / 7 * 7 = 0 := by omega
    obtain ⟨B2, A2, B3, x1, y1, z1, R1, g1⟩ := RR.drawAll F hF Ax Bx v (A 46 5).toNat 0 F F B1 A B (by omega) (by omega) (by omega) h7 hB1 R
    refine ⟨B2, A2, B3, ?_, y0 _ y1, z1, R1, g1⟩
    rw [f_World_passDays_2]
    refine (if_neg hv).trans ?_
    refine (if_neg (by simp (disch := first | omega | (simp (disch := omega) only [uA_n]; done) | fail) only [iI_lit, iI_add, iI_sub, iI_mul, iI_neg, iI_lt, iI_le, iI_eq, zlt_t, zlt_f, zle_t, zle_f, zeq_t, zeq_f, nle_t, nle_f, iI_cl, rA, rS, rB, wA, wS, wB, mkp, mk2, uA_s, uA_n, ud_s, ud_n, bI_0, bI_1, nor_s, ↓reduceIte, or_false, false_or, or_true, true_or, or_self, not_true_eq_false, not_false_eq_true, and_true, true_and, and_false, false_and, bI_T, bI_F, Int.reduceToNat, Nat.reduceAdd, Nat.reduceMul, Int.reduceNeg, Option.bind_some, Int.toNat_natCast])).trans ?_
    refine (if_pos (by simp (disch := first | omega | (simp (disch := omega) only [uA_n]; done) | fail) only [iI_lit, iI_add, iI_sub, iI_mul, iI_neg, iI_lt, iI_le, iI_eq, zlt_t, zlt_f, zle_t, zle_f, zeq_t, zeq_f, nle_t, nle_f, iI_cl, rA, rS, rB, wA, wS, wB, mkp, mk2, uA_s, uA_n, ud_s, ud_n, bI_0, bI_1, nor_s, ↓reduceIte, or_false, false_or, or_true, true_or, or_self, not_true_eq_false, not_false_eq_true, and_true, true_and, and_false, false_and, bI_T, bI_F, Int.reduceToNat, Nat.reduceAdd, Nat.reduceMul, Int.reduceNeg, Option.bind_some, Int.toNat_natCast, iI_div, e7])).trans ?_
    exact obd (v := ((), mk A2 Bx)) x1 rfl
  · have e7 : A 16 9 - A 16 9 / 7 * 7 ≠ 0 := by omega
    refine ⟨B1, A, B, ?_, y0 _ ?_, hB1, R, drG.rf A⟩
    · rw [f_World_passDays_2]
      refine (if_neg hv).trans ?_
      refine (if_neg (by simp (disch := first | omega | (simp (disch := omega) only [uA_n]; done) | fail) only [iI_lit, iI_add, iI_sub, iI_mul, iI_neg, iI_lt, iI_le, iI_eq, zlt_t, zlt_f, zle_t, zle_f, zeq_t, zeq_f, nle_t, nle_f, iI_cl, rA, rS, rB, wA, wS, wB, mkp, mk2, uA_s, uA_n, ud_s, ud_n, bI_0, bI_1, nor_s, ↓reduceIte, or_false, false_or, or_true, true_or, or_self, not_true_eq_false, not_false_eq_true, and_true, true_and, and_false, false_and, bI_T, bI_F, Int.reduceToNat, Nat.reduceAdd, Nat.reduceMul, Int.reduceNeg, Option.bind_some, Int.toNat_natCast])).trans ?_
      exact (if_neg (by simp (disch := first | omega | (simp (disch := omega) only [uA_n]; done) | fail) only [iI_lit, iI_add, iI_sub, iI_mul, iI_neg, iI_lt, iI_le, iI_eq, zlt_t, zlt_f, zle_t, zle_f, zeq_t, zeq_f, nle_t, nle_f, iI_cl, rA, rS, rB, wA, wS, wB, mkp, mk2, uA_s, uA_n, ud_s, ud_n, bI_0, bI_1, nor_s, ↓reduceIte, or_false, false_or, or_true, true_or, or_self, not_true_eq_false, not_false_eq_true, and_true, true_and, and_false, false_and, bI_T, bI_F, Int.reduceToNat, Nat.reduceAdd, Nat.reduceMul, Int.reduceNeg, Option.bind_some, Int.toNat_natCast, iI_div]))
    · obtain ⟨s, hs⟩ : ∃ s, F = s + 1 := ⟨F - 1, by omega⟩
      have hh : ∀ s, f_m_close_9 F (s + 1) v (iI (A 16 9)) (iI ((0 : Nat) : Int)) (mk Ax B) = f_m_close_37 F v (iI (A 16 9)) (mk Ax B) := fun s => by
        rw [f_m_close_9]
        by_cases c : A 46 5 ≤ 0
        · exact if_pos (by simp (disch := first | omega | (simp (disch := omega) only [uA_n]; done) | fail) only [iI_lit, iI_add, iI_sub, iI_mul, iI_neg, iI_lt, iI_le, iI_eq, zlt_t, zlt_f, zle_t, zle_f, zeq_t, zeq_f, nle_t, nle_f, iI_cl, rA, rS, rB, wA, wS, wB, mkp, mk2, uA_s, uA_n, ud_s, ud_n, bI_0, bI_1, nor_s, ↓reduceIte, or_false, false_or, or_true, true_or, or_self, not_true_eq_false, not_false_eq_true, and_true, true_and, and_false, false_and, bI_T, bI_F, Int.reduceToNat, Nat.reduceAdd, Nat.reduceMul, Int.reduceNeg, Option.bind_some, Int.toNat_natCast, dS, tn3])
        · refine (if_neg (by simp (disch := first | omega | (simp (disch := omega) only [uA_n]; done) | fail) only [iI_lit, iI_add, iI_sub, iI_mul, iI_neg, iI_lt, iI_le, iI_eq, zlt_t, zlt_f, zle_t, zle_f, zeq_t, zeq_f, nle_t, nle_f, iI_cl, rA, rS, rB, wA, wS, wB, mkp, mk2, uA_s, uA_n, ud_s, ud_n, bI_0, bI_1, nor_s, ↓reduceIte, or_false, false_or, or_true, true_or, or_self, not_true_eq_false, not_false_eq_true, and_true, true_and, and_false, false_and, bI_T, bI_F, Int.reduceToNat, Nat.reduceAdd, Nat.reduceMul, Int.reduceNeg, Option.bind_some, Int.toNat_natCast, dS, tn3])).trans ?_
          exact if_neg (by simp (disch := first | omega | (simp (disch := omega) only [uA_n]; done) | fail) only [iI_lit, iI_add, iI_sub, iI_mul, iI_neg, iI_lt, iI_le, iI_eq, zlt_t, zlt_f, zle_t, zle_f, zeq_t, zeq_f, nle_t, nle_f, iI_cl, rA, rS, rB, wA, wS, wB, mkp, mk2, uA_s, uA_n, ud_s, ud_n, bI_0, bI_1, nor_s, ↓reduceIte, or_false, false_or, or_true, true_or, or_self, not_true_eq_false, not_false_eq_true, and_true, true_and, and_false, false_and, bI_T, bI_F, Int.reduceToNat, Nat.reduceAdd, Nat.reduceMul, Int.reduceNeg, Option.bind_some, Int.toNat_natCast, iI_div])
      have := hh s
      rw [← hs] at this
      exact this
theorem RR.day {B1 : hI} (R : RR K (A 16 9) A0 B1 A B) (hB1 : ∀ k : Nat, k ≠ 469 → B1 k = B0 k) (hG : ∀ q, B0 350 q = 0) (hF : 1000 ≤ F) (hK : K + 1330000 ≤ 998000000) (hd : A 16 9 < 700) (Ax Bx : hI) (v v1 v3 : Int32) (hv : ¬ v1 ≤ v3) (q : Nat) : ∃ B2 A' B' : hI, f_World_passDays_2 F (q + 1) v1 v v3 (mk A Bx) = f_World_passDays_2 F q v1 v (v3 + 1) (mk A' Bx) ∧ f_m_close F v (mk Ax B) = some ((), mk Ax B') ∧ (∀ k : Nat, k ≠ 469 → B2 k = B0 k) ∧ RR (K + 1330000) (A' 16 9) A0 B2 A' B' ∧ A' 16 9 = A 16 9 + 1 := by
  have hd1 := R.gD.dd1
  obtain ⟨Bb, A1, C1, x1, y1, z1, R1, g1⟩ := R.day0 F hB1 hF hd Ax Bx v v1 v3 hv q
  have e1 : A1 16 9 = A 16 9 := by rw [g1.1]
  rw [← e1] at R1 y1
  have p1 := R1.gP.pe1
  have p2 := R1.gP.pe2
  obtain ⟨A2, C2, x2, y2, R2, g2, n2⟩ := RR.payDue F hF Ax Bx v (A1 31 15).toNat 0 F F K A1 C1 (by omega) (by omega) (by omega) (by omega) (by omega) R1 (fun p hp => absurd hp (by omega))
  have e2 : A2 16 9 = A 16 9 := by rw [g2.1, e1]
  have R2' : RR (K + 1320000) (A 16 9 + 1) A0 Bb A2 C2 := by
    refine RR.nD (R2.k (by omega)) (by omega) (by omega) (fun p hp h1 h2 h3 => ?_)
    have u1 := R2.gP.pli p hp h1 h2 h3
    have u2 := n2 p hp h2 h3
    omega
  have q1 := R2'.gP.pe1
  have q2 := R2'.gP.pe2
  obtain ⟨B3, A3, C3, x3, y3, z3, R3, g3, n3⟩ := RR.askAll F hG hF (by omega) Ax Bx v (A2 31 15).toNat 0 F F Bb A2 C2 (by omega) (by omega) (by omega) (by omega) z1 R2' (fun p hp => absurd hp (by omega))
  have e3 : A3 16 9 = A 16 9 := by rw [g3.2.1, e2]
  have hn1 := R3.gH.hn1
  have hn2 := R3.gH.hn2
  obtain ⟨B4, A4, C4, x4, y4, z4, R4, g4⟩ := RR.sellAll F hF (by omega) Ax Bx v (iI (A 16 9)) (A3 19 11 - 1).toNat 1 F F B3 A3 C3 (by omega) (by omega) (by omega) (by omega) z3 R3 (fun s hs => by rw [n3 s hs]; omega) (fun s hs _ h => absurd (n3 s hs) h)
  have e4 : A4 16 9 = A 16 9 := by rw [g4.2.1 9 (by omega), e3]
  have hm1 := R4.gH.hn1
  have hm2 := R4.gH.hn2
  obtain ⟨A5, C5, x5, y5, R5, g5⟩ := RR.runAll F hF (by omega) Ax Bx v (iI (A 16 9)) (A4 19 11 - 1).toNat 1 F F A4 C4 (by omega) (by omega) (by omega) (by omega) R4
  have e5 : A5 16 9 = A 16 9 := by rw [g5.2.1 9 (by omega), e4]
  rw [e1] at y1 y2
  rw [e2] at y3
  have Y : f_m_close F v (mk Ax B) = f_close_end F v (iI (A 16 9)) (mk Ax C5) := y1.trans (y2.trans (y3.trans (y4.trans y5)))
  have X : ∀ r, (if ((mk A5 Bx).1 16 9 - (mk A5 Bx).1 16 9 / 7 * 7) = 6 then ((f_World_endWeek F v (mk A5 Bx)).bind fun q6 => f_World_passDays_64 F (f_World_passDays_2 F q) v1 v v3 q6.2) else f_World_passDays_64 F (f_World_passDays_2 F q) v1 v v3 (mk A5 Bx)) = r → f_World_passDays_2 F (q + 1) v1 v v3 (mk A Bx) = r := fun r h => by
    refine x1.trans ?_
    unfold f_World_passDays_31
    refine obd (v := ((), mk A2 Bx)) x2 ?_
    refine obd (v := ((), mk A3 Bx)) x3 ?_
    refine obd (v := ((), mk A4 Bx)) x4 ?_
    refine obd (v := ((), mk A5 Bx)) x5 ?_
    exact h
  have T : ∀ A6 C6 : hI, A6 16 9 = A 16 9 → RR (K + 1330000) (A 16 9 + 1) A0 B4 A6 C6 → (∀ k : Nat, A6 16 9 = 7 * (k : Int) + 6 → SHK A6 C6 k) → f_World_passDays_64 F (f_World_passDays_2 F q) v1 v v3 (mk A6 Bx) = f_World_passDays_2 F q v1 v (v3 + 1) (mk (uA A6 16 9 (A6 16 9 + 1)) Bx) ∧ f_m_close_274 F (iI (A 16 9)) (mk Ax C6) = some ((), mk Ax (uA C6 400 0 (A6 16 9 + 1))) ∧ RR (K + 1330000) (uA A6 16 9 (A6 16 9 + 1) 16 9) A0 B4 (uA A6 16 9 (A6 16 9 + 1)) (uA C6 400 0 (A6 16 9 + 1)) ∧ uA A6 16 9 (A6 16 9 + 1) 16 9 = A 16 9 + 1 := fun A6 C6 h1 h2 h3 => by
    have a9 : uA A6 16 9 (A6 16 9 + 1) 16 9 = A6 16 9 + 1 := by rw [uA_s, ud_s]
    rw [← h1] at h2 ⊢
    refine ⟨?_, ?_, ?_, a9⟩
    · unfold f_World_passDays_64
      simp (disch := first | omega | (simp (disch := omega) only [uA_n]; done) | fail) only [iI_lit, iI_add, iI_sub, iI_mul, iI_neg, iI_lt, iI_le, iI_eq, zlt_t, zlt_f, zle_t, zle_f, zeq_t, zeq_f, nle_t, nle_f, iI_cl, rA, rS, rB, wA, wS, wB, mkp, mk2, uA_s, uA_n, ud_s, ud_n, bI_0, bI_1, nor_s, ↓reduceIte, or_false, false_or, or_true, true_or, or_self, not_true_eq_false, not_false_eq_true, and_true, true_and, and_false, false_and, bI_T, bI_F, Int.reduceToNat, Nat.reduceAdd, Nat.reduceMul, Int.reduceNeg, Option.bind_some, Int.toNat_natCast]
    · have m0 : uA C6 400 0 (A6 16 9 + 1) 399 = C6 399 := uA_n (by omega)
      unfold f_m_close_274
      simp (disch := first | omega | (simp (disch := omega) only [uA_n]; done) | fail) only [iI_lit, iI_add, iI_sub, iI_mul, iI_neg, iI_lt, iI_le, iI_eq, zlt_t, zlt_f, zle_t, zle_f, zeq_t, zeq_f, nle_t, nle_f, iI_cl, rA, rS, rB, wA, wS, wB, mkp, mk2, uA_s, uA_n, ud_s, ud_n, bI_0, bI_1, nor_s, ↓reduceIte, or_false, false_or, or_true, true_or, or_self, not_true_eq_false, not_false_eq_true, and_true, true_and, and_false, false_and, bI_T, bI_F, Int.reduceToNat, Nat.reduceAdd, Nat.reduceMul, Int.reduceNeg, Option.bind_some, Int.toNat_natCast, dS, mk2 m0]
    · rw [a9]
      exact h2.tick (by omega) h3
  by_cases h6 : A 16 9 % 7 = 6
  · have e7 : A5 16 9 - A5 16 9 / 7 * 7 = 6 := by omega
    obtain ⟨A6, C6, x6, y6, R6, e6, s6⟩ := R5.endWeek F hF (by omega) Ax Bx v (by omega) (by omega)
    rw [e5] at y6 e6
    obtain ⟨t1, t2, t3, t4⟩ := T A6 C6 e6 (R6.k (by omega)) s6
    refine ⟨B4, _, _, X _ ?_, Y.trans (y6.trans t2), z4, t3, t4⟩
    refine (if_pos (by simp (disch := first | omega | (simp (disch := omega) only [uA_n]; done) | fail) only [iI_lit, iI_add, iI_sub, iI_mul, iI_neg, iI_lt, iI_le, iI_eq, zlt_t, zlt_f, zle_t, zle_f, zeq_t, zeq_f, nle_t, nle_f, iI_cl, rA, rS, rB, wA, wS, wB, mkp, mk2, uA_s, uA_n, ud_s, ud_n, bI_0, bI_1, nor_s, ↓reduceIte, or_false, false_or, or_true, true_or, or_self, not_true_eq_false, not_false_eq_true, and_true, true_and, and_false, false_and, bI_T, bI_F, Int.reduceToNat, Nat.reduceAdd, Nat.reduceMul, Int.reduceNeg, Option.bind_some, Int.toNat_natCast, iI_div, e7])).trans ?_
    refine obd x6 ?_
    exact t1
  · have e7 : A5 16 9 - A5 16 9 / 7 * 7 ≠ 6 := by omega
    have e8 : A 16 9 - A 16 9 / 7 * 7 ≠ 6 := by omega
    obtain ⟨t1, t2, t3, t4⟩ := T A5 C5 e5 (R5.k (by omega)) (fun k hk => absurd hk (by omega))
    refine ⟨B4, _, _, X _ ?_, Y.trans (Eq.trans ?_ t2), z4, t3, t4⟩
    · refine (if_neg (by simp (disch := first | omega | (simp (disch := omega) only [uA_n]; done) | fail) only [iI_lit, iI_add, iI_sub, iI_mul, iI_neg, iI_lt, iI_le, iI_eq, zlt_t, zlt_f, zle_t, zle_f, zeq_t, zeq_f, nle_t, nle_f, iI_cl, rA, rS, rB, wA, wS, wB, mkp, mk2, uA_s, uA_n, ud_s, ud_n, bI_0, bI_1, nor_s, ↓reduceIte, or_false, false_or, or_true, true_or, or_self, not_true_eq_false, not_false_eq_true, and_true, true_and, and_false, false_and, bI_T, bI_F, Int.reduceToNat, Nat.reduceAdd, Nat.reduceMul, Int.reduceNeg, Option.bind_some, Int.toNat_natCast, iI_div])).trans ?_
      exact t1
    · unfold f_close_end
      exact if_neg (by simp (disch := first | omega | (simp (disch := omega) only [uA_n]; done) | fail) only [iI_lit, iI_add, iI_sub, iI_mul, iI_neg, iI_lt, iI_le, iI_eq, zlt_t, zlt_f, zle_t, zle_f, zeq_t, zeq_f, nle_t, nle_f, iI_cl, rA, rS, rB, wA, wS, wB, mkp, mk2, uA_s, uA_n, ud_s, ud_n, bI_0, bI_1, nor_s, ↓reduceIte, or_false, false_or, or_true, true_or, or_self, not_true_eq_false, not_false_eq_true, and_true, true_and, and_false, false_and, bI_T, bI_F, Int.reduceToNat, Nat.reduceAdd, Nat.reduceMul, Int.reduceNeg, Option.bind_some, Int.toNat_natCast, iI_div])
end DAY
