/-! THE CALL THAT LETS DAYS PASS -/
section RUN
variable {K D : Int} {A0 B0 A B A' B' : hI} (F : Nat)
theorem RR.days (hG : ∀ q, B0 350 q = 0) (hF : 1000 ≤ F) (Ax Bx : hI) (v : Nat) (hv : v ≤ 1000) (w : Int32) : ∀ (r j q q2 : Nat) (K : Int) (B1 A B : hI), r + j = v → r < q → r < q2 → A 16 9 + r ≤ 700 → K + 1330000 * r ≤ 998000000 → (∀ k : Nat, k ≠ 469 → B1 k = B0 k) → RR K (A 16 9) A0 B1 A B → ∃ B2 A' B' : hI, f_World_passDays_2 F q (iI (v : Int)) 1 (iI (j : Int)) (mk A Bx) = some ((), mk A' Bx) ∧ f_m_run_56 F q2 (iI (v : Int)) w (iI (j : Int)) (mk Ax B) = ((f_m_downMany F (mk Ax B')).bind fun q6 => some ((q6.1 - w), q6.2)) ∧ (∀ k : Nat, k ≠ 469 → B2 k = B0 k) ∧ RR (K + 1330000 * r) (A' 16 9) A0 B2 A' B' ∧ A' 16 9 = A 16 9 + r := by
  intro r
  induction r with
  | zero =>
    intro j q q2 K B1 A B hj hq hq2 hd hK hB1 R
    obtain ⟨q, rfl⟩ : ∃ s, q = s + 1 := ⟨q - 1, by omega⟩
    obtain ⟨q2, rfl⟩ : ∃ s, q2 = s + 1 := ⟨q2 - 1, by omega⟩
    refine ⟨B1, A, B, ?_, ?_, hB1, R.k (by omega), by omega⟩
    · rw [f_World_passDays_2]
      simp only [f_World_passDays_80]
      exact if_pos (by simp (disch := first | omega | (simp (disch := omega) only [uA_n]; done) | fail) only [iI_lit, iI_add, iI_sub, iI_mul, iI_neg, iI_lt, iI_le, iI_eq, zlt_t, zlt_f, zle_t, zle_f, zeq_t, zeq_f, nle_t, nle_f, iI_cl, rA, rS, rB, wA, wS, wB, mkp, mk2, uA_s, uA_n, ud_s, ud_n, bI_0, bI_1, nor_s, ↓reduceIte, or_false, false_or, or_true, true_or, or_self, not_true_eq_false, not_false_eq_true, and_true, true_and, and_false, false_and, bI_T, bI_F, Int.reduceToNat, Nat.reduceAdd, Nat.reduceMul, Int.reduceNeg, Option.bind_some, Int.toNat_natCast])
    · rw [f_m_run_56]
      exact if_pos (by simp (disch := first | omega | (simp (disch := omega) only [uA_n]; done) | fail) only [iI_lit, iI_add, iI_sub, iI_mul, iI_neg, iI_lt, iI_le, iI_eq, zlt_t, zlt_f, zle_t, zle_f, zeq_t, zeq_f, nle_t, nle_f, iI_cl, rA, rS, rB, wA, wS, wB, mkp, mk2, uA_s, uA_n, ud_s, ud_n, bI_0, bI_1, nor_s, ↓reduceIte, or_false, false_or, or_true, true_or, or_self, not_true_eq_false, not_false_eq_true, and_true, true_and, and_false, false_and, bI_T, bI_F, Int.reduceToNat, Nat.reduceAdd, Nat.reduceMul, Int.reduceNeg, Option.bind_some, Int.toNat_natCast])
  | succ r ih =>
    intro j q q2 K B1 A B hj hq hq2 hd hK hB1 R
    obtain ⟨q, rfl⟩ : ∃ s, q = s + 1 := ⟨q - 1, by omega⟩
    obtain ⟨q2, rfl⟩ : ∃ s, q2 = s + 1 := ⟨q2 - 1, by omega⟩
    have hlt : ¬ (iI (v : Int) ≤ iI (j : Int)) := by
      rw [iI_le (by omega) (by omega) (by omega) (by omega)]
      omega
    obtain ⟨B3, A3, B4, x1, y1, z1, R3, e1⟩ := R.day F hB1 hG hF (by omega) (by omega) Ax Bx 1 (iI (v : Int)) (iI (j : Int)) hlt q
    obtain ⟨B5, A5, B6, x2, y2, z2, R5, e2⟩ := ih (j + 1) q q2 (K + 1330000) B3 A3 B4 (by omega) (by omega) (by omega) (by omega) (by omega) z1 R3
    have en : iI (j : Int) + 1 = iI ((j + 1 : Nat) : Int) := iI_add (j : Int) 1
    refine ⟨B5, A5, B6, ?_, ?_, z2, R5.k (by omega), by omega⟩
    · rw [x1, en]; exact x2
    · rw [f_m_run_56]
      refine (if_neg hlt).trans ?_
      refine obd y1 ?_
      rw [en]; exact y2
end RUN
