/-! the class works a text's codes -/
def skl (A : hI) : Nat → List Int32
  | 0 => []
  | n + 1 => iI (A 15 n) :: skl A n
theorem skl_c {A A' : hI} : ∀ n : Nat, (∀ j, j < n → A' 15 j = A 15 j) → skl A' n = skl A n
  | 0, _ => rfl
  | n + 1, h => by
    show iI (A' 15 n) :: skl A' n = iI (A 15 n) :: skl A n
    rw [h n (by omega), skl_c n (fun j hj => h j (by omega))]
theorem iI_tI (v : Int32) : iI v.toInt = v := Int32.ofInt_toInt v
theorem skl_p {A : hI} (n : Nat) (v : Int32) : skl (uA A 15 n v.toInt) (n + 1) = v :: skl A n := by
  show iI (uA A 15 n v.toInt 15 n) :: skl (uA A 15 n v.toInt) n = _
  rw [uA_s, ud_s, iI_tI, skl_c n (fun j hj => by rw [uA_s, ud_n (by omega)])]
section WORK
variable {A : hI} (F : Nat) (Bx : hI)
theorem wk_push {q n k : Nat} {e : Int32} (hn : n ≤ 120) (hk : k ≤ 1440) (x : Int) : f_Texts_work_8_54_99 F (f_Texts_work_8_54_54 F q) e (iI n) (iI k) (iI n) (iI x) (mk A Bx) = f_Texts_work_8_54_54 F q e (iI ((n : Int) + 1)) (iI ((k : Int) + 1)) (mk (uA A 15 n x) Bx) := by
  simp only [f_Texts_work_8_54_99, f_Texts_work_8_54_394]
  simp (disch := first | omega | (simp (disch := omega) only [uA_n]; done) | fail) only [iI_lit, iI_add, iI_sub, iI_mul, iI_neg, iI_lt, iI_le, iI_eq, zlt_t, zlt_f, zle_t, zle_f, zeq_t, zeq_f, nle_t, nle_f, iI_cl, rA, rS, rB, wA, wS, wB, mkp, mk2, uA_s, uA_n, ud_s, ud_n, bI_0, bI_1, nor_s, ↓reduceIte, or_false, false_or, or_true, true_or, or_self, not_true_eq_false, not_false_eq_true, and_true, true_and, and_false, false_and, bI_T, bI_F, Int.reduceToNat, Nat.reduceAdd, Nat.reduceMul, Int.reduceNeg, Option.bind_some, Int.toNat_natCast]
theorem wk_put {q n k : Nat} {e : Int32} (hn : n ≤ 120) (hk : k ≤ 1440) (v : Int32) : f_Texts_work_8_54_383 F (f_Texts_work_8_54_54 F q) e (iI ((n : Int) + 1)) (iI k) v (mk A Bx) = f_Texts_work_8_54_54 F q e (iI ((n : Int) + 1)) (iI ((k : Int) + 1)) (mk (uA A 15 n v.toInt) Bx) := by
  simp only [f_Texts_work_8_54_383, f_Texts_work_8_54_394]
  have e1 : (n : Int) + 1 - 1 = n := by omega
  generalize hx : v.toInt = x
  have hv : v = iI x := by rw [← hx]; exact (iI_tI v).symm
  subst hv
  simp (disch := first | omega | (simp (disch := omega) only [uA_n]; done) | fail) only [iI_lit, iI_add, iI_sub, iI_mul, iI_neg, iI_lt, iI_le, iI_eq, zlt_t, zlt_f, zle_t, zle_f, zeq_t, zeq_f, nle_t, nle_f, iI_cl, rA, rS, rB, wA, wS, wB, mkp, mk2, uA_s, uA_n, ud_s, ud_n, bI_0, bI_1, nor_s, ↓reduceIte, or_false, false_or, or_true, true_or, or_self, not_true_eq_false, not_false_eq_true, and_true, true_and, and_false, false_and, bI_T, bI_F, Int.reduceToNat, Nat.reduceAdd, Nat.reduceMul, Int.reduceNeg, Option.bind_some, Int.toNat_natCast, e1]
theorem wk_un {q n k : Nat} {e : Int32} (hn : n ≤ 119) (hk : k ≤ 1440) {c : Int} (hc : c = -11 ∨ c = -12) : f_Texts_work_8_54_116 F (f_Texts_work_8_54_54 F q) e (iI ((n : Int) + 1)) (iI k) (iI c) (mk A Bx) = f_Texts_work_8_54_54 F q e (iI ((n : Int) + 1)) (iI ((k : Int) + 1)) (mk (uA A 15 n (if c = -11 then (if iI (A 15 n) = 0 then 1 else 0) else -iI (A 15 n) : Int32).toInt) Bx) := by
  rw [← wk_put F Bx (by omega) hk]
  simp only [f_Texts_work_8_54_116, f_Texts_work_8_54_214]
  have e1 : (n : Int) + 1 - 1 = n := by omega
  have e2 : ((n : Int) + 1).toNat = n + 1 := by omega
  rcases hc with rfl | rfl
  · rw [if_pos rfl]
    by_cases h : iI (A 15 n) = 0
    · rw [if_pos h]
      simp (disch := first | omega | (simp (disch := omega) only [uA_n]; done) | fail) only [iI_lit, iI_add, iI_sub, iI_mul, iI_neg, iI_lt, iI_le, iI_eq, zlt_t, zlt_f, zle_t, zle_f, zeq_t, zeq_f, nle_t, nle_f, iI_cl, rA, rS, rB, wA, wS, wB, mkp, mk2, uA_s, uA_n, ud_s, ud_n, bI_0, bI_1, nor_s, ↓reduceIte, or_false, false_or, or_true, true_or, or_self, not_true_eq_false, not_false_eq_true, and_true, true_and, and_false, false_and, bI_T, bI_F, Int.reduceToNat, Nat.reduceAdd, Nat.reduceMul, Int.reduceNeg, Option.bind_some, Int.toNat_natCast, e1, e2]
      exact if_pos (c := iI (A 15 n) = iI 0) h
    · rw [if_neg h]
      simp (disch := first | omega | (simp (disch := omega) only [uA_n]; done) | fail) only [iI_lit, iI_add, iI_sub, iI_mul, iI_neg, iI_lt, iI_le, iI_eq, zlt_t, zlt_f, zle_t, zle_f, zeq_t, zeq_f, nle_t, nle_f, iI_cl, rA, rS, rB, wA, wS, wB, mkp, mk2, uA_s, uA_n, ud_s, ud_n, bI_0, bI_1, nor_s, ↓reduceIte, or_false, false_or, or_true, true_or, or_self, not_true_eq_false, not_false_eq_true, and_true, true_and, and_false, false_and, bI_T, bI_F, Int.reduceToNat, Nat.reduceAdd, Nat.reduceMul, Int.reduceNeg, Option.bind_some, Int.toNat_natCast, e1, e2]
      exact if_neg (c := iI (A 15 n) = iI 0) h
  · rw [if_neg (show ¬ ((-12 : Int) = -11) by decide)]
    generalize hx : iI (A 15 n) = x
    simp (disch := first | omega | (simp (disch := omega) only [uA_n]; done) | fail) only [iI_lit, iI_add, iI_sub, iI_mul, iI_neg, iI_lt, iI_le, iI_eq, zlt_t, zlt_f, zle_t, zle_f, zeq_t, zeq_f, nle_t, nle_f, iI_cl, rA, rS, rB, wA, wS, wB, mkp, mk2, uA_s, uA_n, ud_s, ud_n, bI_0, bI_1, nor_s, ↓reduceIte, or_false, false_or, or_true, true_or, or_self, not_true_eq_false, not_false_eq_true, and_true, true_and, and_false, false_and, bI_T, bI_F, Int.reduceToNat, Nat.reduceAdd, Nat.reduceMul, Int.reduceNeg, Option.bind_some, Int.toNat_natCast, e1, e2, hx]
end WORK
