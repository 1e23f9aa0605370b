/-! A WEEK OF A TRY; all as before -/
section
variable {K D : Int} {A0 B0 A B A' B' : hI} (F : Nat)
theorem RR.endWeekT (R : RR K D A0 B0 A B) (hF : 1000 ≤ F) (hK : K ≤ 999000000) (Ax Bx : hI) (h6 : A 16 9 % 7 = 6) (hd : A 16 9 < 700) : ∃ A' B' : hI, f_World_endWeek F 0 (mk A Bx) = some ((), mk A' Bx) ∧ f_close_end F 0 (iI (A 16 9)) (mk Ax B) = f_m_close_274 F (iI (A 16 9)) (mk Ax B') ∧ RR (K + 2000) D A0 B0 A' B' ∧ (∀ j : Nat, j ≠ 13 → A' 16 j = A 16 j) ∧ ∀ k : Nat, A' 16 9 = 7 * (k : Int) + 6 → SHK A' B' k := by
  have hd1 := R.gD.dd1
  obtain ⟨A1, B1, x1, y1, R1, f1, g1⟩ := R.ships F hF (by omega) Ax Bx
  have e1 : A1 16 9 = A 16 9 := g1 9 (by omega)
  obtain ⟨k, hk⟩ : ∃ k : Nat, A1 16 9 / 7 = k := ⟨(A1 16 9 / 7).toNat, by omega⟩
  obtain ⟨A2, B2, x2, y2, R2, s1, s2, f2⟩ := R1.sheet F hF (by omega) Ax Bx hk (by omega)
  have e2 : A2 16 = A1 16 := f2 16 (by omega) (by omega) (by omega)
  have e7 : A 16 9 - A 16 9 / 7 * 7 = 6 := by omega
  have S2 : ∀ j : Nat, A 16 9 = 7 * (j : Int) + 6 → SHK A2 B2 j := fun j hj => by
    obtain rfl : j = k := by omega
    exact ⟨s1, s2⟩
  refine ⟨A2, B2, ?_, ?_, R2, fun j hj => by rw [e2, g1 j hj], fun j hj => S2 j (by rw [e2, e1] at hj; exact hj)⟩
  · unfold f_World_endWeek
    refine obd x1 ?_
    refine obd x2 ?_
    exact (if_pos rfl).trans rfl
  · unfold f_close_end
    refine (if_pos (by simp (disch := first | omega | (simp (disch := omega) only [uA_n]; done) | fail) only [iI_lit, iI_add, iI_sub, iI_mul, iI_neg, iI_lt, iI_le, iI_eq, zlt_t, zlt_f, zle_t, zle_f, zeq_t, zeq_f, nle_t, nle_f, iI_cl, rA, rS, rB, wA, wS, wB, mkp, mk2, uA_s, uA_n, ud_s, ud_n, bI_0, bI_1, nor_s, ↓reduceIte, or_false, false_or, or_true, true_or, or_self, not_true_eq_false, not_false_eq_true, and_true, true_and, and_false, false_and, bI_T, bI_F, Int.reduceToNat, Nat.reduceAdd, Nat.reduceMul, Int.reduceNeg, Option.bind_some, Int.toNat_natCast, iI_div, e7])).trans ?_
    refine obd y1 ?_
    refine obd y2 ?_
    exact if_pos rfl
theorem RR.dayT {B1 : hI} (R : RR K (A 16 9) A0 B1 A B) (hB1 : ∀ k : Nat, k ≠ 469 → B1 k = B0 k) (hG : ∀ q, B0 350 q = 0) (hF : 1000 ≤ F) (hK : K + 1330000 ≤ 998000000) (hd : A 16 9 < 700) (Ax Bx : hI) (v1 v3 : Int32) (hv : ¬ v1 ≤ v3) (q : Nat) : ∃ B2 A' B' : hI, f_World_passDays_2 F (q + 1) v1 0 v3 (mk A Bx) = f_World_passDays_2 F q v1 0 (v3 + 1) (mk A' Bx) ∧ f_m_close F 0 (mk Ax B) = some ((), mk Ax B') ∧ (∀ k : Nat, k ≠ 469 → B2 k = B0 k) ∧ RR (K + 1330000) (A' 16 9) A0 B2 A' B' ∧ A' 16 9 = A 16 9 + 1 ∧ A' 16 10 = A 16 10 ∧ A 16 12 ≤ A' 16 12 ∧ A' 16 12 ≤ A 16 12 + 900 := by
  have hd1 := R.gD.dd1
  obtain ⟨Bb, A1, C1, x1, y1, z1, R1, g1⟩ := R.day0 F hB1 hF hd Ax Bx 0 v1 v3 hv q
  have e1 : A1 16 9 = A 16 9 := by rw [g1.1]
  rw [← e1] at R1 y1
  have p1 := R1.gP.pe1
  have p2 := R1.gP.pe2
  obtain ⟨A2, C2, x2, y2, R2, g2, n2⟩ := RR.payDue F hF Ax Bx 0 (A1 31 15).toNat 0 F F K A1 C1 (by omega) (by omega) (by omega) (by omega) (by omega) R1 (fun p hp => absurd hp (by omega))
  have e2 : A2 16 9 = A 16 9 := by rw [g2.1, e1]
  have R2' : RR (K + 1320000) (A 16 9 + 1) A0 Bb A2 C2 := by
    refine RR.nD (R2.k (by omega)) (by omega) (by omega) (fun p hp h1 h2 h3 => ?_)
    have u1 := R2.gP.pli p hp h1 h2 h3
    have u2 := n2 p hp h2 h3
    omega
  have q1 := R2'.gP.pe1
  have q2 := R2'.gP.pe2
  obtain ⟨B3, A3, C3, x3, y3, z3, R3, g3, n3⟩ := RR.askAll F hG hF (by omega) Ax Bx 0 (A2 31 15).toNat 0 F F Bb A2 C2 (by omega) (by omega) (by omega) (by omega) z1 R2' (fun p hp => absurd hp (by omega))
  have e3 : A3 16 9 = A 16 9 := by rw [g3.2.1, e2]
  have hn1 := R3.gH.hn1
  have hn2 := R3.gH.hn2
  obtain ⟨B4, A4, C4, x4, y4, z4, R4, g4⟩ := RR.sellAll F hF (by omega) Ax Bx 0 (iI (A 16 9)) (A3 19 11 - 1).toNat 1 F F B3 A3 C3 (by omega) (by omega) (by omega) (by omega) z3 R3 (fun s hs => by rw [n3 s hs]; omega) (fun s hs _ h => absurd (n3 s hs) h)
  have e4 : A4 16 9 = A 16 9 := by rw [g4.2.1 9 (by omega), e3]
  have hm1 := R4.gH.hn1
  have hm2 := R4.gH.hn2
  obtain ⟨A5, C5, x5, y5, R5, g5⟩ := RR.runAll F hF (by omega) Ax Bx 0 (iI (A 16 9)) (A4 19 11 - 1).toNat 1 F F A4 C4 (by omega) (by omega) (by omega) (by omega) R4
  have e5 : A5 16 9 = A 16 9 := by rw [g5.2.1 9 (by omega), e4]
  rw [e1] at y1 y2
  rw [e2] at y3
  have k10 : A5 16 10 = A 16 10 := by rw [g5.2.1 10 (by omega), g4.2.1 10 (by omega), g3.2.1, g2.1, g1.1]
  have k12 : A 16 12 ≤ A5 16 12 ∧ A5 16 12 ≤ A 16 12 + 900 := by
    have u1 := g4.2.2
    have u2 : A3 16 12 = A 16 12 := by rw [g3.2.1, g2.1, g1.1]
    have u3 : A5 16 12 = A4 16 12 := g5.2.1 12 (by omega)
    omega
  have Y : f_m_close F 0 (mk Ax B) = f_close_end F 0 (iI (A 16 9)) (mk Ax C5) := y1.trans (y2.trans (y3.trans (y4.trans y5)))
  have X : ∀ r, (if ((mk A5 Bx).1 16 9 - (mk A5 Bx).1 16 9 / 7 * 7) = 6 then ((f_World_endWeek F 0 (mk A5 Bx)).bind fun q6 => f_World_passDays_64 F (f_World_passDays_2 F q) v1 0 v3 q6.2) else f_World_passDays_64 F (f_World_passDays_2 F q) v1 0 v3 (mk A5 Bx)) = r → f_World_passDays_2 F (q + 1) v1 0 v3 (mk A Bx) = r := fun r h => by
    refine x1.trans ?_
    unfold f_World_passDays_31
    refine obd (v := ((), mk A2 Bx)) x2 ?_
    refine obd (v := ((), mk A3 Bx)) x3 ?_
    refine obd (v := ((), mk A4 Bx)) x4 ?_
    refine obd (v := ((), mk A5 Bx)) x5 ?_
    exact h
  have T : ∀ A6 C6 : hI, A6 16 9 = A 16 9 → RR (K + 1330000) (A 16 9 + 1) A0 B4 A6 C6 → (∀ k : Nat, A6 16 9 = 7 * (k : Int) + 6 → SHK A6 C6 k) → f_World_passDays_64 F (f_World_passDays_2 F q) v1 0 v3 (mk A6 Bx) = f_World_passDays_2 F q v1 0 (v3 + 1) (mk (uA A6 16 9 (A6 16 9 + 1)) Bx) ∧ f_m_close_274 F (iI (A 16 9)) (mk Ax C6) = some ((), mk Ax (uA C6 400 0 (A6 16 9 + 1))) ∧ RR (K + 1330000) (uA A6 16 9 (A6 16 9 + 1) 16 9) A0 B4 (uA A6 16 9 (A6 16 9 + 1)) (uA C6 400 0 (A6 16 9 + 1)) ∧ uA A6 16 9 (A6 16 9 + 1) 16 9 = A 16 9 + 1 ∧ uA A6 16 9 (A6 16 9 + 1) 16 10 = A6 16 10 ∧ uA A6 16 9 (A6 16 9 + 1) 16 12 = A6 16 12 := fun A6 C6 h1 h2 h3 => by
    have a9 : uA A6 16 9 (A6 16 9 + 1) 16 9 = A6 16 9 + 1 := by rw [uA_s, ud_s]
    rw [← h1] at h2 ⊢
    refine ⟨?_, ?_, ?_, a9, by rw [uA_s, ud_n (by omega)], by rw [uA_s, ud_n (by omega)]⟩
    · unfold f_World_passDays_64
      simp (disch := first | omega | (simp (disch := omega) only [uA_n]; done) | fail) only [iI_lit, iI_add, iI_sub, iI_mul, iI_neg, iI_lt, iI_le, iI_eq, zlt_t, zlt_f, zle_t, zle_f, zeq_t, zeq_f, nle_t, nle_f, iI_cl, rA, rS, rB, wA, wS, wB, mkp, mk2, uA_s, uA_n, ud_s, ud_n, bI_0, bI_1, nor_s, ↓reduceIte, or_false, false_or, or_true, true_or, or_self, not_true_eq_false, not_false_eq_true, and_true, true_and, and_false, false_and, bI_T, bI_F, Int.reduceToNat, Nat.reduceAdd, Nat.reduceMul, Int.reduceNeg, Option.bind_some, Int.toNat_natCast]
    · have m0 : uA C6 400 0 (A6 16 9 + 1) 399 = C6 399 := uA_n (by omega)
      unfold f_m_close_274
      simp (disch := first | omega | (simp (disch := omega) only [uA_n]; done) | fail) only [iI_lit, iI_add, iI_sub, iI_mul, iI_neg, iI_lt, iI_le, iI_eq, zlt_t, zlt_f, zle_t, zle_f, zeq_t, zeq_f, nle_t, nle_f, iI_cl, rA, rS, rB, wA, wS, wB, mkp, mk2, uA_s, uA_n, ud_s, ud_n, bI_0, bI_1, nor_s, ↓reduceIte, or_false, false_or, or_true, true_or, or_self, not_true_eq_false, not_false_eq_true, and_true, true_and, and_false, false_and, bI_T, bI_F, Int.reduceToNat, Nat.reduceAdd, Nat.reduceMul, Int.reduceNeg, Option.bind_some, Int.toNat_natCast, dS, mk2 m0]
    · rw [a9]
      exact h2.tick (by omega) h3
  by_cases h6 : A 16 9 % 7 = 6
  · have e7 : A5 16 9 - A5 16 9 / 7 * 7 = 6 := by omega
    obtain ⟨A6, C6, x6, y6, R6, e6, s6⟩ := R5.endWeekT F hF (by omega) Ax Bx (by omega) (by omega)
    rw [e5] at y6
    have e6b : A6 16 9 = A 16 9 := by rw [e6 9 (by omega), e5]
    obtain ⟨t1, t2, t3, t4, t5, t6⟩ := T A6 C6 e6b (R6.k (by omega)) s6
    refine ⟨B4, _, _, X _ ?_, Y.trans (y6.trans t2), z4, t3, t4, by rw [t5, e6 10 (by omega), k10], by rw [t6, e6 12 (by omega)]; omega, by rw [t6, e6 12 (by omega)]; omega⟩
    refine (if_pos (by simp (disch := first | omega | (simp (disch := omega) only [uA_n]; done) | fail) only [iI_lit, iI_add, iI_sub, iI_mul, iI_neg, iI_lt, iI_le, iI_eq, zlt_t, zlt_f, zle_t, zle_f, zeq_t, zeq_f, nle_t, nle_f, iI_cl, rA, rS, rB, wA, wS, wB, mkp, mk2, uA_s, uA_n, ud_s, ud_n, bI_0, bI_1, nor_s, ↓reduceIte, or_false, false_or, or_true, true_or, or_self, not_true_eq_false, not_false_eq_true, and_true, true_and, and_false, false_and, bI_T, bI_F, Int.reduceToNat, Nat.reduceAdd, Nat.reduceMul, Int.reduceNeg, Option.bind_some, Int.toNat_natCast, iI_div, e7])).trans ?_
    refine obd x6 ?_
    exact t1
  · have e7 : A5 16 9 - A5 16 9 / 7 * 7 ≠ 6 := by omega
    have e8 : A 16 9 - A 16 9 / 7 * 7 ≠ 6 := by omega
    obtain ⟨t1, t2, t3, t4, t5, t6⟩ := T A5 C5 e5 (R5.k (by omega)) (fun k hk => absurd hk (by omega))
    refine ⟨B4, _, _, X _ ?_, Y.trans (Eq.trans ?_ t2), z4, t3, t4, by rw [t5, k10], by rw [t6]; omega, by rw [t6]; omega⟩
    · refine (if_neg (by simp (disch := first | omega | (simp (disch := omega) only [uA_n]; done) | fail) only [iI_lit, iI_add, iI_sub, iI_mul, iI_neg, iI_lt, iI_le, iI_eq, zlt_t, zlt_f, zle_t, zle_f, zeq_t, zeq_f, nle_t, nle_f, iI_cl, rA, rS, rB, wA, wS, wB, mkp, mk2, uA_s, uA_n, ud_s, ud_n, bI_0, bI_1, nor_s, ↓reduceIte, or_false, false_or, or_true, true_or, or_self, not_true_eq_false, not_false_eq_true, and_true, true_and, and_false, false_and, bI_T, bI_F, Int.reduceToNat, Nat.reduceAdd, Nat.reduceMul, Int.reduceNeg, Option.bind_some, Int.toNat_natCast, iI_div])).trans ?_
      exact t1
    · unfold f_close_end
      exact if_neg (by simp (disch := first | omega | (simp (disch := omega) only [uA_n]; done) | fail) only [iI_lit, iI_add, iI_sub, iI_mul, iI_neg, iI_lt, iI_le, iI_eq, zlt_t, zlt_f, zle_t, zle_f, zeq_t, zeq_f, nle_t, nle_f, iI_cl, rA, rS, rB, wA, wS, wB, mkp, mk2, uA_s, uA_n, ud_s, ud_n, bI_0, bI_1, nor_s, ↓reduceIte, or_false, false_or, or_true, true_or, or_self, not_true_eq_false, not_false_eq_true, and_true, true_and, and_false, false_and, bI_T, bI_F, Int.reduceToNat, Nat.reduceAdd, Nat.reduceMul, Int.reduceNeg, Option.bind_some, Int.toNat_natCast, iI_div])
theorem RR.daysT (hG : ∀ q, B0 350 q = 0) (hF : 1000 ≤ F) (Ax Bx : hI) : ∀ (r j q q2 : Nat) (K : Int) (B1 A B : hI), r + j = 7 → r < q → r < q2 → A 16 9 + r ≤ 700 → K + 1330000 * r ≤ 998000000 → (∀ k : Nat, k ≠ 469 → B1 k = B0 k) → RR K (A 16 9) A0 B1 A B → ∃ B2 A' B' : hI, f_World_passDays_2 F q 7 0 (iI (j : Int)) (mk A Bx) = some ((), mk A' Bx) ∧ f_m_goesWeek_10 F q2 (iI (j : Int)) (mk Ax B) = some ((), mk Ax B') ∧ (∀ k : Nat, k ≠ 469 → B2 k = B0 k) ∧ RR (K + 1330000 * r) (A' 16 9) A0 B2 A' B' ∧ A' 16 9 = A 16 9 + r ∧ A' 16 10 = A 16 10 ∧ A 16 12 ≤ A' 16 12 ∧ A' 16 12 ≤ A 16 12 + 900 * r := by
  intro r
  induction r with
  | zero =>
    intro j q q2 K B1 A B hj hq hq2 hd hK hB1 R
    obtain ⟨q, rfl⟩ : ∃ s, q = s + 1 := ⟨q - 1, by omega⟩
    obtain ⟨q2, rfl⟩ : ∃ s, q2 = s + 1 := ⟨q2 - 1, by omega⟩
    obtain rfl : j = 7 := by omega
    refine ⟨B1, A, B, ?_, ?_, hB1, R.k (by omega), by omega, rfl, by omega, by omega⟩
    · rw [f_World_passDays_2]
      simp only [f_World_passDays_80]
      exact if_pos (by decide)
    · rw [f_m_goesWeek_10]
      exact if_pos (by decide)
  | succ r ih =>
    intro j q q2 K B1 A B hj hq hq2 hd hK hB1 R
    obtain ⟨q, rfl⟩ : ∃ s, q = s + 1 := ⟨q - 1, by omega⟩
    obtain ⟨q2, rfl⟩ : ∃ s, q2 = s + 1 := ⟨q2 - 1, by omega⟩
    have hlt : ¬ ((7 : Int32) ≤ iI (j : Int)) := by
      rw [show (7 : Int32) = iI 7 from rfl, iI_le (by omega) (by omega) (by omega) (by omega)]
      omega
    obtain ⟨B3, A3, B4, x1, y1, z1, R3, e1, e2, e3, e4⟩ := R.dayT F hB1 hG hF (by omega) (by omega) Ax Bx 7 (iI (j : Int)) hlt q
    obtain ⟨B5, A5, B6, x2, y2, z2, R5, u1, u2, u3, u4⟩ := ih (j + 1) q q2 (K + 1330000) B3 A3 B4 (by omega) (by omega) (by omega) (by omega) (by omega) z1 R3
    have en : iI (j : Int) + 1 = iI ((j + 1 : Nat) : Int) := iI_add (j : Int) 1
    refine ⟨B5, A5, B6, ?_, ?_, z2, R5.k (by omega), by omega, by rw [u2, e2], by omega, by omega⟩
    · rw [x1, en]; exact x2
    · rw [f_m_goesWeek_10]
      refine (if_neg hlt).trans ?_
      refine obd y1 ?_
      rw [en]; exact y2
/-- what a week leaves of the reference -/
def sbW (B B' : hI) : Prop := (∀ k : Nat, k = 306 ∨ k = 311 ∨ (315 ≤ k ∧ k < 318) ∨ k = 350 ∨ 1000 ≤ k → B' k = B k) ∧ B' 304 9 = B 304 9 ∧ B' 304 24 = B 304 24 ∧ B' 304 29 = B 304 29 ∧ B' 304 30 = B 304 30
theorem sbW.rf (B : hI) : sbW B B := ⟨fun _ _ => rfl, rfl, rfl, rfl, rfl⟩
theorem sbW.tr {a b c : hI} (h : sbW a b) (g : sbW b c) : sbW a c := ⟨fun k hk => (g.1 k hk).trans (h.1 k hk), g.2.1.trans h.2.1, g.2.2.1.trans h.2.2.1, g.2.2.2.1.trans h.2.2.2.1, g.2.2.2.2.trans h.2.2.2.2⟩
/-- a week of a try -/
theorem wkT (W : WR A A B K (A 16 9)) (hG : ∀ q, B 350 q = 0) (hF : 1000 ≤ F) (hd : A 16 9 + 7 ≤ 700) (hK : K + 9310000 ≤ 998000000) {r : Int} (hr : 0 ≤ r ∧ r ≤ 20) (Ax Bx : hI) : ∃ A' B' : hI, f_World_passDays F 7 0 (mk (uA A 16 10 r) Bx) = some ((), mk A' Bx) ∧ f_m_goesWeek F (iI r) (mk Ax B) = some ((), mk Ax B') ∧ WR A' A' B' (K + 9310000) (A' 16 9) ∧ A' 16 9 = A 16 9 + 7 ∧ A' 16 10 = r ∧ (A 16 12 ≤ A' 16 12 ∧ A' 16 12 ≤ A 16 12 + 6300) ∧ SX A A' ∧ sbW B B' := by
  have R : RR K (A 16 9) A B A B := ⟨W, SX.rf A, SB.rf B⟩
  have R1 := R.rate (v := r) hr
  have e9 : uA A 16 10 r 16 9 = A 16 9 := by rw [uA_s, ud_n (by omega)]
  have e12 : uA A 16 10 r 16 12 = A 16 12 := by rw [uA_s, ud_n (by omega)]
  rw [← e9] at R1
  obtain ⟨B2, A', B', x, y, z, R2, u1, u2, u3, u4⟩ := RR.daysT F (A0 := A) (B0 := B) hG hF Ax Bx 7 0 F F K B (uA A 16 10 r) (uA B 400 10 r) (by omega) (by omega) (by omega) (by rw [e9]; omega) (by omega) (fun _ _ => rfl) R1
  rw [e9] at u1
  rw [e12] at u3 u4
  refine ⟨A', B', x, ?_, R2.wr, u1, by rw [u2, uA_s, ud_s], ⟨u3, by omega⟩, R2.sx, ?_⟩
  · unfold f_m_goesWeek
    refine Eq.trans ?_ y
    have m0 : uA B 400 10 r 399 = B 399 := uA_n (by omega)
    simp (disch := first | omega | (simp (disch := omega) only [uA_n]; done) | fail) only [iI_lit, iI_add, iI_sub, iI_mul, iI_neg, iI_lt, iI_le, iI_eq, zlt_t, zlt_f, zle_t, zle_f, zeq_t, zeq_f, nle_t, nle_f, iI_cl, rA, rS, rB, wA, wS, wB, mkp, mk2, uA_s, uA_n, ud_s, ud_n, bI_0, bI_1, nor_s, ↓reduceIte, or_false, false_or, or_true, true_or, or_self, not_true_eq_false, not_false_eq_true, and_true, true_and, and_false, false_and, bI_T, bI_F, Int.reduceToNat, Nat.reduceAdd, Nat.reduceMul, Int.reduceNeg, Option.bind_some, Int.toNat_natCast, dS, mk2 m0]
    rfl
  · obtain ⟨t1, t2, t3, t4, t5⟩ := R2.sb
    have z4 := z 304 (by omega)
    rw [z4] at t2 t3 t4 t5
    exact ⟨fun k hk => (t1 k (by omega)).trans (z k (by omega)), t2, t3, t4, t5⟩
/-- all as before -/
theorem Inv.rest {i : Nat} {A3 B3 : hI} (h : Inv i A B) (hi : i ≤ 512) (e : ∀ k j : Nat, inSz k j → A3 k j = A k j) (g : AGR A A A3) (o : ∀ k : Nat, k < 2 ∨ (62 ≤ k ∧ k < 108) ∨ k = 114 ∨ k = 115 ∨ k = 117 ∨ k = 119 → A3 k = A k) (b : ∀ k : Nat, k = 306 ∨ k = 311 ∨ k = 317 ∨ k = 350 ∨ (400 ≤ k ∧ k < 490) ∨ (600 ≤ k ∧ k < 724) ∨ (1000 ≤ k ∧ k < 2000) → B3 k = B k) (b4 : B3 304 9 = B 304 9 ∧ B3 304 24 = B 304 24 ∧ B3 304 29 = B 304 29 ∧ B3 304 30 = B 304 30) : Inv i A3 B3 := by
  obtain ⟨h1, h2, h3, h4, h5, h6⟩ := h
  have hK : KMX i (A 16 9) < 2147483648 := by
    have d2 := h1.gD.dd2
    have d1 := h1.gD.dd1
    unfold KMX
    omega
  have e9 := e 16 9 (by omega)
  refine ⟨?_, fun j hj => ?_, ?_, ?_, ?_, fun q => ?_⟩
  · rw [e9]
    exact (h1.rc g).sz hK e (fun c hc => b c (by omega)) (b 350 (by omega))
  · rw [o 119 (by omega), b 306 (by omega)]; exact h2 j hj
  · unfold tpI
    rw [o 114 (by omega), o 115 (by omega), b4.1, b 311 (by omega)]; exact h3
  · unfold rwI
    rw [o 0 (by omega), o 117 (by omega), b4.2.2.2, b4.2.2.1, b 317 (by omega)]; exact h4
  · have sh : ∀ k : Nat, 16 ≤ k ∧ k < 62 → shA A3 k = shA A k := fun k hk => by
      unfold shA
      rw [if_pos hk.1, if_pos hk.1]
      exact o (k + 46) (by omega)
    have n2 := h1.gN.nc2
    unfold kpI
    rw [o 0 (by omega), o 62 (by omega), b4.2.1]
    rcases h5 with z | ⟨u1, u2, u3, u4⟩
    · exact Or.inl z
    · refine Or.inr ⟨u1, u2, (u3.rc (g.lo u4)).cg sh (fun _ _ => rfl) (fun k hk => b (1000 + k) (by omega)), ?_⟩
      unfold MON at u4 ⊢
      rw [sh 55 (by omega), sh 59 (by omega), sh 16 (by omega), e 55 7 (by omega), e 55 12 (by omega), e9, e 16 14 (by omega)]
      refine ⟨u4.1, fun c hc => ?_, u4.2.2⟩
      have := u4.1
      rw [e 59 c (by omega)]
      exact u4.2.1 c hc
  · rw [b 350 (by omega), b 1350 (by omega)]; exact h6 q
end
