/-! one turn of the class's work -/
section WKST
variable {A : hI} (F : Nat) (Bx : hI)
theorem wk_step {q n k E n' : Nat} (hn : n ≤ 120) (hk : k < E) (hE : E ≤ 1440) {c : Int} (hc : A 14 k = c) (hc1 : -22 ≤ c) (hc2 : c < 100000) (hd : dp1 c n = some n') : ∃ A' : hI, f_Texts_work_8_54_54 F (q + 1) (iI E) (iI n) (iI k) (mk A Bx) = f_Texts_work_8_54_54 F q (iI E) (iI n') (iI ((k : Int) + 1)) (mk A' Bx) ∧ skl A' n' = ev1 (fun j => A 54 j) c (skl A n) ∧ ∀ j : Nat, j ≠ 15 → A' j = A j := by
  rw [f_Texts_work_8_54_54]
  unfold dp1 at hd
  by_cases h1 : -11 < c
  · rw [if_pos h1] at hd
    obtain rfl : n + 1 = n' := Option.some.inj hd
    by_cases h0 : 0 ≤ c
    · refine ⟨uA A 15 n c, ?_, ?_, fun j hj => uA_n hj⟩
      · rw [show ((n + 1 : Nat) : Int) = (n : Int) + 1 by omega, ← wk_push F Bx hn (by omega) c]
        simp (disch := first | omega | (simp (disch := omega) only [uA_n]; done) | fail) only [iI_lit, iI_add, iI_sub, iI_mul, iI_neg, iI_lt, iI_le, iI_eq, zlt_t, zlt_f, zle_t, zle_f, zeq_t, zeq_f, nle_t, nle_f, iI_cl, rA, rS, rB, wA, wS, wB, mkp, mk2, uA_s, uA_n, ud_s, ud_n, bI_0, bI_1, nor_s, ↓reduceIte, or_false, false_or, or_true, true_or, or_self, not_true_eq_false, not_false_eq_true, and_true, true_and, and_false, false_and, bI_T, bI_F, Int.reduceToNat, Nat.reduceAdd, Nat.reduceMul, Int.reduceNeg, Option.bind_some, Int.toNat_natCast, hc]
      · show iI (uA A 15 n c 15 n) :: skl (uA A 15 n c) n = _
        rw [uA_s, ud_s, skl_c n (fun j hj => by rw [uA_s, ud_n (by omega)])]
        exact (if_pos h0).symm
    · refine ⟨uA A 15 n (A 54 (-1 - c).toNat), ?_, ?_, fun j hj => uA_n hj⟩
      · rw [show ((n + 1 : Nat) : Int) = (n : Int) + 1 by omega, ← wk_push F Bx hn (by omega) (A 54 (-1 - c).toNat)]
        simp (disch := first | omega | (simp (disch := omega) only [uA_n]; done) | fail) only [iI_lit, iI_add, iI_sub, iI_mul, iI_neg, iI_lt, iI_le, iI_eq, zlt_t, zlt_f, zle_t, zle_f, zeq_t, zeq_f, nle_t, nle_f, iI_cl, rA, rS, rB, wA, wS, wB, mkp, mk2, uA_s, uA_n, ud_s, ud_n, bI_0, bI_1, nor_s, ↓reduceIte, or_false, false_or, or_true, true_or, or_self, not_true_eq_false, not_false_eq_true, and_true, true_and, and_false, false_and, bI_T, bI_F, Int.reduceToNat, Nat.reduceAdd, Nat.reduceMul, Int.reduceNeg, Option.bind_some, Int.toNat_natCast, hc]
      · show iI (uA A 15 n (A 54 (-1 - c).toNat) 15 n) :: skl (uA A 15 n (A 54 (-1 - c).toNat)) n = _
        rw [uA_s, ud_s, skl_c n (fun j hj => by rw [uA_s, ud_n (by omega)])]
        unfold ev1
        rw [if_neg h0, if_pos h1]
  · rw [if_neg h1] at hd
    by_cases h2 : -13 < c
    · rw [if_pos h2] at hd
      by_cases h3 : 1 ≤ n
      · rw [if_pos h3] at hd
        obtain rfl : n = n' := Option.some.inj hd
        obtain ⟨p, rfl⟩ : ∃ p, n = p + 1 := ⟨n - 1, by omega⟩
        refine ⟨uA A 15 p (if c = -11 then (if iI (A 15 p) = 0 then 1 else 0) else -iI (A 15 p) : Int32).toInt, ?_, ?_, fun j hj => uA_n hj⟩
        · rw [show ((p + 1 : Nat) : Int) = (p : Int) + 1 by omega, ← wk_un F Bx (A := A) (c := c) (by omega) (by omega) (by omega)]
          simp (disch := first | omega | (simp (disch := omega) only [uA_n]; done) | fail) only [iI_lit, iI_add, iI_sub, iI_mul, iI_neg, iI_lt, iI_le, iI_eq, zlt_t, zlt_f, zle_t, zle_f, zeq_t, zeq_f, nle_t, nle_f, iI_cl, rA, rS, rB, wA, wS, wB, mkp, mk2, uA_s, uA_n, ud_s, ud_n, bI_0, bI_1, nor_s, ↓reduceIte, or_false, false_or, or_true, true_or, or_self, not_true_eq_false, not_false_eq_true, and_true, true_and, and_false, false_and, bI_T, bI_F, Int.reduceToNat, Nat.reduceAdd, Nat.reduceMul, Int.reduceNeg, Option.bind_some, Int.toNat_natCast, hc]
        · rw [skl_p]
          unfold ev1
          rw [if_neg (show ¬ 0 ≤ c by omega), if_neg h1]
          by_cases h4 : c = -11
          · rw [if_pos h4, if_pos h4]; rfl
          · rw [if_neg h4, if_neg h4, if_pos (show c = -12 by omega)]; rfl
      · rw [if_neg h3] at hd; cases hd
    · rw [if_neg h2] at hd
      by_cases h3 : 2 ≤ n
      · rw [if_pos h3] at hd
        obtain ⟨p, rfl⟩ : ∃ p, n = p + 1 + 1 := ⟨n - 2, by omega⟩
        obtain rfl : p + 1 = n' := Option.some.inj hd
        refine ⟨uA A 15 p (bop c (iI (A 15 p)) (iI (A 15 (p + 1)))).toInt, ?_, ?_, fun j hj => uA_n hj⟩
        · rw [show ((p + 1 : Nat) : Int) = (p : Int) + 1 by omega, ← wk_bin F Bx (A := A) (c := c) (by omega) (by omega) (by omega)]
          have e1 : ((p + 1 + 1 : Nat) : Int) + -1 = (p : Int) + 1 := by omega
          simp (disch := first | omega | (simp (disch := omega) only [uA_n]; done) | fail) only [iI_lit, iI_add, iI_sub, iI_mul, iI_neg, iI_lt, iI_le, iI_eq, zlt_t, zlt_f, zle_t, zle_f, zeq_t, zeq_f, nle_t, nle_f, iI_cl, rA, rS, rB, wA, wS, wB, mkp, mk2, uA_s, uA_n, ud_s, ud_n, bI_0, bI_1, nor_s, ↓reduceIte, or_false, false_or, or_true, true_or, or_self, not_true_eq_false, not_false_eq_true, and_true, true_and, and_false, false_and, bI_T, bI_F, Int.reduceToNat, Nat.reduceAdd, Nat.reduceMul, Int.reduceNeg, Option.bind_some, Int.toNat_natCast, hc, e1]
        · rw [skl_p]
          unfold ev1
          rw [if_neg (by omega), if_neg h1, if_neg (by omega), if_neg (by omega)]
          rfl
      · rw [if_neg h3] at hd; cases hd
end WKST
