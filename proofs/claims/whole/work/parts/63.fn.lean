/-! SMALL METHODS, both sides -/
theorem e_m_in (F : Nat) (a b c : Int) (m : mM) (ha : -2147483648 ≤ a) (ha2 : a < 2147483648) (hb : -2147483648 ≤ b) (hb2 : b < 2147483648) (hc : -2147483648 ≤ c) (hc2 : c < 2147483648) : f_m_in F (iI a) (iI b) (iI c) m = some (iI (bI (b ≤ a ∧ a ≤ c)), m) := by
  unfold f_m_in f_m_in_14 f_m_in_15
  rw [iI_lt ha ha2 hb hb2, iI_lt hc hc2 ha ha2]
  by_cases h1 : a < b
  · rw [if_pos h1, bI_f (by omega)]; rfl
  · rw [if_neg h1]
    by_cases h2 : c < a
    · rw [if_pos h2, bI_f (by omega)]; rfl
    · rw [if_neg h2, bI_t (by omega)]; rfl
section FN
variable {K D : Int} {A0 B0 A B : hI} (R : RR K D A0 B0 A B) (F : Nat)
theorem e_x_isHouse (a : Int) (ha : -2147483648 ≤ a) (ha2 : a < 2147483648) (hn : 0 ≤ A 19 11) (hn2 : A 19 11 ≤ 16) : f_Houses_isHouse F (iI a) (mk A B) = some (iI (bI (0 ≤ a ∧ a < A 19 11)), mk A B) := by
  unfold f_Houses_isHouse f_Houses_isHouse_16 f_Houses_isHouse_17
  by_cases h1 : a < 0
  · rw [bI_f (by omega)]
    simp (disch := omega) only [iI_lit, iI_add, iI_sub, iI_mul, iI_neg, iI_lt, iI_le, iI_eq, zlt_t, zlt_f, zle_t, zle_f, zeq_t, zeq_f, nle_t, nle_f, iI_cl, rA, rS, rB, wA, wS, wB, mkp, mkS, bI_0, bI_1, bI_01, reduceIte, or_false, false_or, or_true, true_or, or_self, not_true_eq_false, not_false_eq_true, Option.bind_some, Int.toNat_natCast]
  · by_cases h2 : A 19 11 ≤ a
    · rw [bI_f (by omega)]
      simp (disch := omega) only [iI_lit, iI_add, iI_sub, iI_mul, iI_neg, iI_lt, iI_le, iI_eq, zlt_t, zlt_f, zle_t, zle_f, zeq_t, zeq_f, nle_t, nle_f, iI_cl, rA, rS, rB, wA, wS, wB, mkp, mkS, bI_0, bI_1, bI_01, reduceIte, or_false, false_or, or_true, true_or, or_self, not_true_eq_false, not_false_eq_true, Option.bind_some, Int.toNat_natCast]
    · rw [bI_t (by omega)]
      simp (disch := omega) only [iI_lit, iI_add, iI_sub, iI_mul, iI_neg, iI_lt, iI_le, iI_eq, zlt_t, zlt_f, zle_t, zle_f, zeq_t, zeq_f, nle_t, nle_f, iI_cl, rA, rS, rB, wA, wS, wB, mkp, mkS, bI_0, bI_1, bI_01, reduceIte, or_false, false_or, or_true, true_or, or_self, not_true_eq_false, not_false_eq_true, Option.bind_some, Int.toNat_natCast]
end FN
