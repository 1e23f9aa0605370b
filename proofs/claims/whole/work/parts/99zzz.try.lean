/-! CALLS: attempt -/
section TRYS
variable {K D : Int} {A0 B0 A B A' B' : hI} {i : Nat} (F : Nat)
theorem and31 (x : Int32) : 0 ≤ (x &&& 31).toInt ∧ (x &&& 31).toInt ≤ 31 := by
  have t : (x &&& 31).toBitVec.toNat ≤ 31 := by
    show (x.toBitVec &&& 31#32).toNat ≤ 31
    rw [BitVec.toNat_and]
    exact Nat.and_le_right
  have e : (x &&& 31).toInt = ((x &&& 31).toBitVec.toNat : Int) := by
    show (x &&& 31).toBitVec.toInt = _
    exact BitVec.toInt_eq_toNat_of_lt (by omega)
  omega
def dig (v : Int32) (k : Nat) : Int := ((v >>> (((5 : Int32) * iI (k : Int)) &&& 31)) &&& 31).toInt
theorem ex_rateAt (v : Int32) (k : Nat) (m : mM) : f_x_rateAt F v (iI (k : Int)) m = some (iI (dig v k), m) := by
  unfold f_x_rateAt dig
  rw [← iI_of]
theorem em_digit (v : Int32) (k : Nat) (m : mM) : f_m_digit F v (iI (k : Int)) m = some (iI (dig v k), m) := by
  unfold f_m_digit dig
  rw [← iI_of]
theorem dig_rg (v : Int32) (k : Nat) : 0 ≤ dig v k ∧ dig v k ≤ 31 := and31 _
/-- the rates may be told so -/
def rok (v : Int32) (W : Nat) : Prop := ¬ v < 0 ∧ v >>> (((5 : Int32) * iI (W : Int)) &&& 31) = 0 ∧ ∀ k, k < W → dig v k ≤ 20
theorem ex_rts1 (v : Int32) {W : Nat} (hW : W ≤ 5) (m : mM) : ∀ (r k q : Nat), r + k = W → r < q → (∀ j, k ≤ j → j < W → dig v j ≤ 20) → f_x_areRates_16 F q v (iI (W : Int)) (iI (k : Int)) m = some (iI 1, m) ∧ f_m_areRates_22 F q v (iI (W : Int)) (iI (k : Int)) m = some (iI 1, m) := by
  intro r
  induction r with
  | zero =>
    intro k q e hq h
    obtain ⟨q, rfl⟩ : ∃ s, q = s + 1 := ⟨q - 1, by omega⟩
    obtain rfl : k = W := by omega
    rw [f_x_areRates_16, f_m_areRates_22]
    exact ⟨if_pos (by simp (disch := first | omega | (simp (disch := omega) only [uA_n]; done) | fail) only [iI_lit, iI_add, iI_sub, iI_mul, iI_neg, iI_lt, iI_le, iI_eq, zlt_t, zlt_f, zle_t, zle_f, zeq_t, zeq_f, nle_t, nle_f, iI_cl, rA, rS, rB, wA, wS, wB, mkp, mk2, uA_s, uA_n, ud_s, ud_n, bI_0, bI_1, nor_s, ↓reduceIte, or_false, false_or, or_true, true_or, or_self, not_true_eq_false, not_false_eq_true, and_true, true_and, and_false, false_and, bI_T, bI_F, Int.reduceToNat, Nat.reduceAdd, Nat.reduceMul, Int.reduceNeg, Option.bind_some, Int.toNat_natCast]), if_pos (by simp (disch := first | omega | (simp (disch := omega) only [uA_n]; done) | fail) only [iI_lit, iI_add, iI_sub, iI_mul, iI_neg, iI_lt, iI_le, iI_eq, zlt_t, zlt_f, zle_t, zle_f, zeq_t, zeq_f, nle_t, nle_f, iI_cl, rA, rS, rB, wA, wS, wB, mkp, mk2, uA_s, uA_n, ud_s, ud_n, bI_0, bI_1, nor_s, ↓reduceIte, or_false, false_or, or_true, true_or, or_self, not_true_eq_false, not_false_eq_true, and_true, true_and, and_false, false_and, bI_T, bI_F, Int.reduceToNat, Nat.reduceAdd, Nat.reduceMul, Int.reduceNeg, Option.bind_some, Int.toNat_natCast])⟩
  | succ r ih =>
    intro k q e hq h
    obtain ⟨q, rfl⟩ : ∃ s, q = s + 1 := ⟨q - 1, by omega⟩
    have I := ih (k + 1) q (by omega) (by omega) (fun j h1 h2 => h j (by omega) h2)
    have d := dig_rg v k
    have d2 := h k (Nat.le_refl _) (by omega)
    rw [f_x_areRates_16, f_m_areRates_22]
    refine ⟨?_, ?_⟩
    · refine (if_neg (by simp (disch := first | omega | (simp (disch := omega) only [uA_n]; done) | fail) only [iI_lit, iI_add, iI_sub, iI_mul, iI_neg, iI_lt, iI_le, iI_eq, zlt_t, zlt_f, zle_t, zle_f, zeq_t, zeq_f, nle_t, nle_f, iI_cl, rA, rS, rB, wA, wS, wB, mkp, mk2, uA_s, uA_n, ud_s, ud_n, bI_0, bI_1, nor_s, ↓reduceIte, or_false, false_or, or_true, true_or, or_self, not_true_eq_false, not_false_eq_true, and_true, true_and, and_false, false_and, bI_T, bI_F, Int.reduceToNat, Nat.reduceAdd, Nat.reduceMul, Int.reduceNeg, Option.bind_some, Int.toNat_natCast])).trans ?_
      refine obd (ex_rateAt F v k m) ?_
      refine (askT (ex_isRate F (dig v k) m (by omega) (by omega)) (by omega)).trans ?_
      exact Eq.trans (by rw [← iI_s]; rfl) I.1
    · refine (if_neg (by simp (disch := first | omega | (simp (disch := omega) only [uA_n]; done) | fail) only [iI_lit, iI_add, iI_sub, iI_mul, iI_neg, iI_lt, iI_le, iI_eq, zlt_t, zlt_f, zle_t, zle_f, zeq_t, zeq_f, nle_t, nle_f, iI_cl, rA, rS, rB, wA, wS, wB, mkp, mk2, uA_s, uA_n, ud_s, ud_n, bI_0, bI_1, nor_s, ↓reduceIte, or_false, false_or, or_true, true_or, or_self, not_true_eq_false, not_false_eq_true, and_true, true_and, and_false, false_and, bI_T, bI_F, Int.reduceToNat, Nat.reduceAdd, Nat.reduceMul, Int.reduceNeg, Option.bind_some, Int.toNat_natCast])).trans ?_
      refine obd (em_digit F v k m) ?_
      refine (if_pos (by simp (disch := first | omega | (simp (disch := omega) only [uA_n]; done) | fail) only [iI_lit, iI_add, iI_sub, iI_mul, iI_neg, iI_lt, iI_le, iI_eq, zlt_t, zlt_f, zle_t, zle_f, zeq_t, zeq_f, nle_t, nle_f, iI_cl, rA, rS, rB, wA, wS, wB, mkp, mk2, uA_s, uA_n, ud_s, ud_n, bI_0, bI_1, nor_s, ↓reduceIte, or_false, false_or, or_true, true_or, or_self, not_true_eq_false, not_false_eq_true, and_true, true_and, and_false, false_and, bI_T, bI_F, Int.reduceToNat, Nat.reduceAdd, Nat.reduceMul, Int.reduceNeg, Option.bind_some, Int.toNat_natCast])).trans ?_
      exact Eq.trans (by rw [← iI_s]; rfl) I.2
theorem ex_rts0 (v : Int32) {W : Nat} (hW : W ≤ 5) (m : mM) : ∀ (r k q : Nat), r + k = W → r < q → (∃ j, k ≤ j ∧ j < W ∧ ¬ dig v j ≤ 20) → f_x_areRates_16 F q v (iI (W : Int)) (iI (k : Int)) m = some (iI 0, m) ∧ f_m_areRates_22 F q v (iI (W : Int)) (iI (k : Int)) m = some (iI 0, m) := by
  intro r
  induction r with
  | zero =>
    intro k q e hq ⟨j, h1, h2, _⟩
    omega
  | succ r ih =>
    intro k q e hq ⟨j, h1, h2, h3⟩
    obtain ⟨q, rfl⟩ : ∃ s, q = s + 1 := ⟨q - 1, by omega⟩
    have d := dig_rg v k
    rw [f_x_areRates_16, f_m_areRates_22]
    by_cases c : dig v k ≤ 20
    · have I := ih (k + 1) q (by omega) (by omega) ⟨j, Nat.lt_of_le_of_ne h1 (fun z => h3 (z ▸ c)), h2, h3⟩
      refine ⟨?_, ?_⟩
      · refine (if_neg (by simp (disch := first | omega | (simp (disch := omega) only [uA_n]; done) | fail) only [iI_lit, iI_add, iI_sub, iI_mul, iI_neg, iI_lt, iI_le, iI_eq, zlt_t, zlt_f, zle_t, zle_f, zeq_t, zeq_f, nle_t, nle_f, iI_cl, rA, rS, rB, wA, wS, wB, mkp, mk2, uA_s, uA_n, ud_s, ud_n, bI_0, bI_1, nor_s, ↓reduceIte, or_false, false_or, or_true, true_or, or_self, not_true_eq_false, not_false_eq_true, and_true, true_and, and_false, false_and, bI_T, bI_F, Int.reduceToNat, Nat.reduceAdd, Nat.reduceMul, Int.reduceNeg, Option.bind_some, Int.toNat_natCast])).trans ?_
        refine obd (ex_rateAt F v k m) ?_
        refine (askT (ex_isRate F (dig v k) m (by omega) (by omega)) (by omega)).trans ?_
        exact Eq.trans (by rw [← iI_s]; rfl) I.1
      · refine (if_neg (by simp (disch := first | omega | (simp (disch := omega) only [uA_n]; done) | fail) only [iI_lit, iI_add, iI_sub, iI_mul, iI_neg, iI_lt, iI_le, iI_eq, zlt_t, zlt_f, zle_t, zle_f, zeq_t, zeq_f, nle_t, nle_f, iI_cl, rA, rS, rB, wA, wS, wB, mkp, mk2, uA_s, uA_n, ud_s, ud_n, bI_0, bI_1, nor_s, ↓reduceIte, or_false, false_or, or_true, true_or, or_self, not_true_eq_false, not_false_eq_true, and_true, true_and, and_false, false_and, bI_T, bI_F, Int.reduceToNat, Nat.reduceAdd, Nat.reduceMul, Int.reduceNeg, Option.bind_some, Int.toNat_natCast])).trans ?_
        refine obd (em_digit F v k m) ?_
        refine (if_pos (by simp (disch := first | omega | (simp (disch := omega) only [uA_n]; done) | fail) only [iI_lit, iI_add, iI_sub, iI_mul, iI_neg, iI_lt, iI_le, iI_eq, zlt_t, zlt_f, zle_t, zle_f, zeq_t, zeq_f, nle_t, nle_f, iI_cl, rA, rS, rB, wA, wS, wB, mkp, mk2, uA_s, uA_n, ud_s, ud_n, bI_0, bI_1, nor_s, ↓reduceIte, or_false, false_or, or_true, true_or, or_self, not_true_eq_false, not_false_eq_true, and_true, true_and, and_false, false_and, bI_T, bI_F, Int.reduceToNat, Nat.reduceAdd, Nat.reduceMul, Int.reduceNeg, Option.bind_some, Int.toNat_natCast])).trans ?_
        exact Eq.trans (by rw [← iI_s]; rfl) I.2
    · refine ⟨?_, ?_⟩
      · refine (if_neg (by simp (disch := first | omega | (simp (disch := omega) only [uA_n]; done) | fail) only [iI_lit, iI_add, iI_sub, iI_mul, iI_neg, iI_lt, iI_le, iI_eq, zlt_t, zlt_f, zle_t, zle_f, zeq_t, zeq_f, nle_t, nle_f, iI_cl, rA, rS, rB, wA, wS, wB, mkp, mk2, uA_s, uA_n, ud_s, ud_n, bI_0, bI_1, nor_s, ↓reduceIte, or_false, false_or, or_true, true_or, or_self, not_true_eq_false, not_false_eq_true, and_true, true_and, and_false, false_and, bI_T, bI_F, Int.reduceToNat, Nat.reduceAdd, Nat.reduceMul, Int.reduceNeg, Option.bind_some, Int.toNat_natCast])).trans ?_
        refine obd (ex_rateAt F v k m) ?_
        exact (askF (ex_isRate F (dig v k) m (by omega) (by omega)) (by omega)).trans rfl
      · refine (if_neg (by simp (disch := first | omega | (simp (disch := omega) only [uA_n]; done) | fail) only [iI_lit, iI_add, iI_sub, iI_mul, iI_neg, iI_lt, iI_le, iI_eq, zlt_t, zlt_f, zle_t, zle_f, zeq_t, zeq_f, nle_t, nle_f, iI_cl, rA, rS, rB, wA, wS, wB, mkp, mk2, uA_s, uA_n, ud_s, ud_n, bI_0, bI_1, nor_s, ↓reduceIte, or_false, false_or, or_true, true_or, or_self, not_true_eq_false, not_false_eq_true, and_true, true_and, and_false, false_and, bI_T, bI_F, Int.reduceToNat, Nat.reduceAdd, Nat.reduceMul, Int.reduceNeg, Option.bind_some, Int.toNat_natCast])).trans ?_
        refine obd (em_digit F v k m) ?_
        exact (if_neg (by simp (disch := first | omega | (simp (disch := omega) only [uA_n]; done) | fail) only [iI_lit, iI_add, iI_sub, iI_mul, iI_neg, iI_lt, iI_le, iI_eq, zlt_t, zlt_f, zle_t, zle_f, zeq_t, zeq_f, nle_t, nle_f, iI_cl, rA, rS, rB, wA, wS, wB, mkp, mk2, uA_s, uA_n, ud_s, ud_n, bI_0, bI_1, nor_s, ↓reduceIte, or_false, false_or, or_true, true_or, or_self, not_true_eq_false, not_false_eq_true, and_true, true_and, and_false, false_and, bI_T, bI_F, Int.reduceToNat, Nat.reduceAdd, Nat.reduceMul, Int.reduceNeg, Option.bind_some, Int.toNat_natCast])).trans rfl
theorem rates (hF : 1000 ≤ F) (v : Int32) {W : Nat} (hW : W ≤ 5) : (rok v W ∧ ∀ m, f_x_areRates F v (iI (W : Int)) m = some (iI 1, m) ∧ f_m_areRates F v (iI (W : Int)) m = some (iI 1, m)) ∨ (¬ rok v W ∧ ∀ m, f_x_areRates F v (iI (W : Int)) m = some (iI 0, m) ∧ f_m_areRates F v (iI (W : Int)) m = some (iI 0, m)) := by
  by_cases c0 : v < 0
  · refine Or.inr ⟨fun z => z.1 c0, fun m => ⟨?_, ?_⟩⟩
    · unfold f_x_areRates; exact (if_pos c0).trans rfl
    · unfold f_m_areRates; exact (if_pos c0).trans rfl
  have y0 : ∀ m, f_m_areRates F v (iI (W : Int)) m = (if (v >>> (((5 : Int32) * (iI (W : Int))) &&& 31)) = 0 then f_m_areRates_20 F v (iI (W : Int)) m else f_m_areRates_18 F m) := fun m => by
    unfold f_m_areRates
    refine (if_neg c0).trans ?_
    exact if_neg (by simp (disch := first | omega | (simp (disch := omega) only [uA_n]; done) | fail) only [iI_lit, iI_add, iI_sub, iI_mul, iI_neg, iI_lt, iI_le, iI_eq, zlt_t, zlt_f, zle_t, zle_f, zeq_t, zeq_f, nle_t, nle_f, iI_cl, rA, rS, rB, wA, wS, wB, mkp, mk2, uA_s, uA_n, ud_s, ud_n, bI_0, bI_1, nor_s, ↓reduceIte, or_false, false_or, or_true, true_or, or_self, not_true_eq_false, not_false_eq_true, and_true, true_and, and_false, false_and, bI_T, bI_F, Int.reduceToNat, Nat.reduceAdd, Nat.reduceMul, Int.reduceNeg, Option.bind_some, Int.toNat_natCast])
  by_cases c1 : (v >>> (((5 : Int32) * (iI (W : Int))) &&& 31)) = 0
  · by_cases c2 : ∀ k, k < W → dig v k ≤ 20
    · refine Or.inl ⟨⟨c0, c1, c2⟩, fun m => ?_⟩
      have L := ex_rts1 F v hW m W 0 F (by omega) (by omega) (fun j _ h => c2 j h)
      refine ⟨?_, ?_⟩
      · unfold f_x_areRates; exact (if_neg c0).trans ((if_pos c1).trans L.1)
      · rw [y0]; exact (if_pos c1).trans L.2
    · refine Or.inr ⟨fun z => c2 z.2.2, fun m => ?_⟩
      obtain ⟨j, hj⟩ := Classical.not_forall.mp c2
      obtain ⟨j1, j2⟩ := Classical.not_imp.mp hj
      have L := ex_rts0 F v hW m W 0 F (by omega) (by omega) ⟨j, Nat.zero_le _, j1, j2⟩
      refine ⟨?_, ?_⟩
      · unfold f_x_areRates; exact (if_neg c0).trans ((if_pos c1).trans L.1)
      · rw [y0]; exact (if_pos c1).trans L.2
  · refine Or.inr ⟨fun z => c1 z.2.1, fun m => ⟨?_, ?_⟩⟩
    · unfold f_x_areRates; exact (if_neg c0).trans ((if_neg c1).trans rfl)
    · rw [y0]; exact (if_neg c1).trans rfl
theorem ex_tryLen (w : Int) (m : mM) (h1 : -2147483648 ≤ w) (h2 : w < 2147483648) : f_x_isTryLength F (iI w) m = some (iI (bI (1 ≤ w ∧ w ≤ 4)), m) := by
  simp only [f_x_isTryLength, f_x_isTryLength_14]
  by_cases c1 : w < 1
  · refine (if_pos (by simp (disch := first | omega | (simp (disch := omega) only [uA_n]; done) | fail) only [iI_lit, iI_add, iI_sub, iI_mul, iI_neg, iI_lt, iI_le, iI_eq, zlt_t, zlt_f, zle_t, zle_f, zeq_t, zeq_f, nle_t, nle_f, iI_cl, rA, rS, rB, wA, wS, wB, mkp, mk2, uA_s, uA_n, ud_s, ud_n, bI_0, bI_1, nor_s, ↓reduceIte, or_false, false_or, or_true, true_or, or_self, not_true_eq_false, not_false_eq_true, and_true, true_and, and_false, false_and, bI_T, bI_F, Int.reduceToNat, Nat.reduceAdd, Nat.reduceMul, Int.reduceNeg, Option.bind_some, Int.toNat_natCast])).trans ?_
    rw [bI_f (by omega)]
    exact if_pos (Or.inl rfl)
  · refine (if_neg (by simp (disch := first | omega | (simp (disch := omega) only [uA_n]; done) | fail) only [iI_lit, iI_add, iI_sub, iI_mul, iI_neg, iI_lt, iI_le, iI_eq, zlt_t, zlt_f, zle_t, zle_f, zeq_t, zeq_f, nle_t, nle_f, iI_cl, rA, rS, rB, wA, wS, wB, mkp, mk2, uA_s, uA_n, ud_s, ud_n, bI_0, bI_1, nor_s, ↓reduceIte, or_false, false_or, or_true, true_or, or_self, not_true_eq_false, not_false_eq_true, and_true, true_and, and_false, false_and, bI_T, bI_F, Int.reduceToNat, Nat.reduceAdd, Nat.reduceMul, Int.reduceNeg, Option.bind_some, Int.toNat_natCast])).trans ?_
    by_cases c2 : 4 < w
    · refine (if_pos (by simp (disch := first | omega | (simp (disch := omega) only [uA_n]; done) | fail) only [iI_lit, iI_add, iI_sub, iI_mul, iI_neg, iI_lt, iI_le, iI_eq, zlt_t, zlt_f, zle_t, zle_f, zeq_t, zeq_f, nle_t, nle_f, iI_cl, rA, rS, rB, wA, wS, wB, mkp, mk2, uA_s, uA_n, ud_s, ud_n, bI_0, bI_1, nor_s, ↓reduceIte, or_false, false_or, or_true, true_or, or_self, not_true_eq_false, not_false_eq_true, and_true, true_and, and_false, false_and, bI_T, bI_F, Int.reduceToNat, Nat.reduceAdd, Nat.reduceMul, Int.reduceNeg, Option.bind_some, Int.toNat_natCast])).trans ?_
      rw [bI_f (by omega)]
      exact if_pos (Or.inl rfl)
    · refine (if_neg (by simp (disch := first | omega | (simp (disch := omega) only [uA_n]; done) | fail) only [iI_lit, iI_add, iI_sub, iI_mul, iI_neg, iI_lt, iI_le, iI_eq, zlt_t, zlt_f, zle_t, zle_f, zeq_t, zeq_f, nle_t, nle_f, iI_cl, rA, rS, rB, wA, wS, wB, mkp, mk2, uA_s, uA_n, ud_s, ud_n, bI_0, bI_1, nor_s, ↓reduceIte, or_false, false_or, or_true, true_or, or_self, not_true_eq_false, not_false_eq_true, and_true, true_and, and_false, false_and, bI_T, bI_F, Int.reduceToNat, Nat.reduceAdd, Nat.reduceMul, Int.reduceNeg, Option.bind_some, Int.toNat_natCast])).trans ?_
      rw [bI_t (by omega)]
      exact if_pos (Or.inr rfl)
theorem ex_tooLate (Bx : hI) {w : Int} (hw : 1 ≤ w ∧ w ≤ 4) (hd : 0 ≤ A 16 9 ∧ A 16 9 ≤ 700) : f_x_isTooLate F (iI w) (mk A Bx) = some (iI (bI (700 < A 16 9 + 7 * w)), mk A Bx) := by
  unfold f_x_isTooLate
  by_cases c : A 16 9 + 7 * w ≤ 700
  · refine (if_pos (by simp (disch := first | omega | (simp (disch := omega) only [uA_n]; done) | fail) only [iI_lit, iI_add, iI_sub, iI_mul, iI_neg, iI_lt, iI_le, iI_eq, zlt_t, zlt_f, zle_t, zle_f, zeq_t, zeq_f, nle_t, nle_f, iI_cl, rA, rS, rB, wA, wS, wB, mkp, mk2, uA_s, uA_n, ud_s, ud_n, bI_0, bI_1, nor_s, ↓reduceIte, or_false, false_or, or_true, true_or, or_self, not_true_eq_false, not_false_eq_true, and_true, true_and, and_false, false_and, bI_T, bI_F, Int.reduceToNat, Nat.reduceAdd, Nat.reduceMul, Int.reduceNeg, Option.bind_some, Int.toNat_natCast])).trans ?_
    rw [bI_f (by omega)]
    exact if_pos (Or.inl rfl)
  · refine (if_neg (by simp (disch := first | omega | (simp (disch := omega) only [uA_n]; done) | fail) only [iI_lit, iI_add, iI_sub, iI_mul, iI_neg, iI_lt, iI_le, iI_eq, zlt_t, zlt_f, zle_t, zle_f, zeq_t, zeq_f, nle_t, nle_f, iI_cl, rA, rS, rB, wA, wS, wB, mkp, mk2, uA_s, uA_n, ud_s, ud_n, bI_0, bI_1, nor_s, ↓reduceIte, or_false, false_or, or_true, true_or, or_self, not_true_eq_false, not_false_eq_true, and_true, true_and, and_false, false_and, bI_T, bI_F, Int.reduceToNat, Nat.reduceAdd, Nat.reduceMul, Int.reduceNeg, Option.bind_some, Int.toNat_natCast])).trans ?_
    rw [bI_t (by omega)]
    exact if_pos (Or.inr rfl)
theorem em_bgn (m : mM) : ∀ (r n q : Nat), r + n = 9732 → r < q → f_m_begin_2 F q (iI (n : Int)) (imM m.1 314 305 n, m.2) = some ((), (imM m.1 314 305 9732, m.2)) := by
  intro r
  induction r with
  | zero =>
    intro n q e hq
    obtain ⟨q, rfl⟩ : ∃ k, q = k + 1 := ⟨q - 1, by omega⟩
    obtain rfl : n = 9732 := by omega
    rw [f_m_begin_2]
    exact (if_pos (by simp (disch := first | omega | (simp (disch := omega) only [uA_n]; done) | fail) only [iI_lit, iI_add, iI_sub, iI_mul, iI_neg, iI_lt, iI_le, iI_eq, zlt_t, zlt_f, zle_t, zle_f, zeq_t, zeq_f, nle_t, nle_f, iI_cl, rA, rS, rB, wA, wS, wB, mkp, mk2, uA_s, uA_n, ud_s, ud_n, bI_0, bI_1, nor_s, ↓reduceIte, or_false, false_or, or_true, true_or, or_self, not_true_eq_false, not_false_eq_true, and_true, true_and, and_false, false_and, bI_T, bI_F, Int.reduceToNat, Nat.reduceAdd, Nat.reduceMul, Int.reduceNeg, Option.bind_some, Int.toNat_natCast])).trans rfl
  | succ r ih =>
    intro n q e hq
    obtain ⟨q, rfl⟩ : ∃ k, q = k + 1 := ⟨q - 1, by omega⟩
    have I := ih (n + 1) q (by omega) (by omega)
    rw [← imM_u m.1 (by omega)] at I
    rw [f_m_begin_2]
    refine (if_neg (by simp (disch := first | omega | (simp (disch := omega) only [uA_n]; done) | fail) only [iI_lit, iI_add, iI_sub, iI_mul, iI_neg, iI_lt, iI_le, iI_eq, zlt_t, zlt_f, zle_t, zle_f, zeq_t, zeq_f, nle_t, nle_f, iI_cl, rA, rS, rB, wA, wS, wB, mkp, mk2, uA_s, uA_n, ud_s, ud_n, bI_0, bI_1, nor_s, ↓reduceIte, or_false, false_or, or_true, true_or, or_self, not_true_eq_false, not_false_eq_true, and_true, true_and, and_false, false_and, bI_T, bI_F, Int.reduceToNat, Nat.reduceAdd, Nat.reduceMul, Int.reduceNeg, Option.bind_some, Int.toNat_natCast])).trans ?_
    refine (if_neg (by simp (disch := first | omega | (simp (disch := omega) only [uA_n]; done) | fail) only [iI_lit, iI_add, iI_sub, iI_mul, iI_neg, iI_lt, iI_le, iI_eq, zlt_t, zlt_f, zle_t, zle_f, zeq_t, zeq_f, nle_t, nle_f, iI_cl, rA, rS, rB, wA, wS, wB, mkp, mk2, uA_s, uA_n, ud_s, ud_n, bI_0, bI_1, nor_s, ↓reduceIte, or_false, false_or, or_true, true_or, or_self, not_true_eq_false, not_false_eq_true, and_true, true_and, and_false, false_and, bI_T, bI_F, Int.reduceToNat, Nat.reduceAdd, Nat.reduceMul, Int.reduceNeg, Option.bind_some, Int.toNat_natCast])).trans ?_
    refine Eq.trans ?_ I
    rw [← iI_s, iI_cl (by omega) (by omega), Int.toNat_natCast]
    rfl
theorem em_endL (m : mM) : ∀ (r n q : Nat), r + n = 9732 → r < q → f_m_end_2 F q (iI (n : Int)) (imM m.1 305 314 n, m.2) = some ((), (imM m.1 305 314 9732, m.2)) := by
  intro r
  induction r with
  | zero =>
    intro n q e hq
    obtain ⟨q, rfl⟩ : ∃ k, q = k + 1 := ⟨q - 1, by omega⟩
    obtain rfl : n = 9732 := by omega
    rw [f_m_end_2]
    exact (if_pos (by simp (disch := first | omega | (simp (disch := omega) only [uA_n]; done) | fail) only [iI_lit, iI_add, iI_sub, iI_mul, iI_neg, iI_lt, iI_le, iI_eq, zlt_t, zlt_f, zle_t, zle_f, zeq_t, zeq_f, nle_t, nle_f, iI_cl, rA, rS, rB, wA, wS, wB, mkp, mk2, uA_s, uA_n, ud_s, ud_n, bI_0, bI_1, nor_s, ↓reduceIte, or_false, false_or, or_true, true_or, or_self, not_true_eq_false, not_false_eq_true, and_true, true_and, and_false, false_and, bI_T, bI_F, Int.reduceToNat, Nat.reduceAdd, Nat.reduceMul, Int.reduceNeg, Option.bind_some, Int.toNat_natCast])).trans rfl
  | succ r ih =>
    intro n q e hq
    obtain ⟨q, rfl⟩ : ∃ k, q = k + 1 := ⟨q - 1, by omega⟩
    have I := ih (n + 1) q (by omega) (by omega)
    rw [← imM_u m.1 (by omega)] at I
    rw [f_m_end_2]
    refine (if_neg (by simp (disch := first | omega | (simp (disch := omega) only [uA_n]; done) | fail) only [iI_lit, iI_add, iI_sub, iI_mul, iI_neg, iI_lt, iI_le, iI_eq, zlt_t, zlt_f, zle_t, zle_f, zeq_t, zeq_f, nle_t, nle_f, iI_cl, rA, rS, rB, wA, wS, wB, mkp, mk2, uA_s, uA_n, ud_s, ud_n, bI_0, bI_1, nor_s, ↓reduceIte, or_false, false_or, or_true, true_or, or_self, not_true_eq_false, not_false_eq_true, and_true, true_and, and_false, false_and, bI_T, bI_F, Int.reduceToNat, Nat.reduceAdd, Nat.reduceMul, Int.reduceNeg, Option.bind_some, Int.toNat_natCast])).trans ?_
    refine (if_neg (by simp (disch := first | omega | (simp (disch := omega) only [uA_n]; done) | fail) only [iI_lit, iI_add, iI_sub, iI_mul, iI_neg, iI_lt, iI_le, iI_eq, zlt_t, zlt_f, zle_t, zle_f, zeq_t, zeq_f, nle_t, nle_f, iI_cl, rA, rS, rB, wA, wS, wB, mkp, mk2, uA_s, uA_n, ud_s, ud_n, bI_0, bI_1, nor_s, ↓reduceIte, or_false, false_or, or_true, true_or, or_self, not_true_eq_false, not_false_eq_true, and_true, true_and, and_false, false_and, bI_T, bI_F, Int.reduceToNat, Nat.reduceAdd, Nat.reduceMul, Int.reduceNeg, Option.bind_some, Int.toNat_natCast])).trans ?_
    refine Eq.trans ?_ I
    rw [← iI_s, iI_cl (by omega) (by omega), Int.toNat_natCast]
    rfl
theorem em_begin (hF : 10000 ≤ F) (Ax B : hI) : f_m_begin F (mk Ax B) = some ((), mk Ax (imB B 2000 0)) := by
  have L := em_bgn F (mk Ax B) 9732 0 F (by omega) (by omega)
  rw [imM_0, imB_mk Ax B (a := 314) (b := 305) (d := 2000) (s := 0) (Or.inr (Or.inr (Or.inl ⟨rfl, rfl, rfl, rfl⟩)))] at L
  exact L
theorem em_end (hF : 10000 ≤ F) (Ax B : hI) : f_m_end F (mk Ax B) = some ((), mk Ax (imB B 0 2000)) := by
  have L := em_endL F (mk Ax B) 9732 0 F (by omega) (by omega)
  rw [imM_0, imB_mk Ax B (a := 305) (b := 314) (d := 0) (s := 2000) (Or.inr (Or.inr (Or.inr ⟨rfl, rfl, rfl, rfl⟩)))] at L
  exact L
/-- the reference's land as it was at the begin -/
theorem imB_back {B B2 : hI} (h : ∀ k : Nat, 2400 ≤ k → k < 2724 → B2 k = imB B 2000 0 k) {c : Nat} (h1 : 400 ≤ c) (h2 : c < 724) (h3 : c ≠ 498) : imB B2 0 2000 c = B c := by
  have z := imB_i (B := B2) (d := 0) (s := 2000) h1 h2 h3
  rw [Nat.add_zero] at z
  rw [z, h _ (by omega) (by omega), imB_i h1 h2 h3, Nat.add_zero]
/-- weeks of an attempt -/
theorem att_loop (hF : 1000 ≤ F) (v : Int32) (u : Int32) {W : Nat} (hW : W ≤ 4) (hr : ∀ k, k < W → dig v k ≤ 20) {d0 : Int} (hd : d0 + 7 * W ≤ 700) (Ax Bx : hI) {A1 B1 : hI} : ∀ (r w q q2 : Nat) (K : Int) (A B : hI), r + w = W → r < q → r < q2 → WR A A B K (A 16 9) → A 16 9 = d0 + 7 * w → K + 9310000 * r ≤ 998000000 → (∀ q, B 350 q = 0) → SX A1 A → sbW B1 B → (A1 16 12 ≤ A 16 12 ∧ A 16 12 ≤ A1 16 12 + 6300 * w) → ∃ (p p2 : Nat) (A' B' : hI), f_x_attempt_69 F q v (iI (W : Int)) u (iI (w : Int)) (mk A Bx) = f_x_attempt_69 F (p + 1) v (iI (W : Int)) u (iI (W : Int)) (mk A' Bx) ∧ f_m_attempt_71 F q2 v (iI (W : Int)) u (iI (w : Int)) (mk Ax B) = f_m_attempt_71 F (p2 + 1) v (iI (W : Int)) u (iI (W : Int)) (mk Ax B') ∧ WR A' A' B' (K + 9310000 * r) (A' 16 9) ∧ SX A1 A' ∧ sbW B1 B' ∧ (A1 16 12 ≤ A' 16 12 ∧ A' 16 12 ≤ A1 16 12 + 6300 * W) := by
  intro r
  induction r with
  | zero =>
    intro w q q2 K A B e hq hq2 hR h9 hK hG hs ht h12
    obtain rfl : w = W := by omega
    exact ⟨q - 1, q2 - 1, A, B, by rw [show q - 1 + 1 = q by omega], by rw [show q2 - 1 + 1 = q2 by omega], hR.k (by omega), hs, ht, h12⟩
  | succ r ih =>
    intro w q q2 K A B e hq hq2 hR h9 hK hG hs ht h12
    obtain ⟨q, rfl⟩ : ∃ k, q = k + 1 := ⟨q - 1, by omega⟩
    obtain ⟨q2, rfl⟩ : ∃ k, q2 = k + 1 := ⟨q2 - 1, by omega⟩
    have d := dig_rg v w
    obtain ⟨A2, B2, x, y, R2, e9, e10, e12, s2, t2⟩ := wkT F hR hG hF (by omega) (by omega) (r := dig v w) ⟨d.1, hr w (by omega)⟩ Ax Bx
    obtain ⟨p, p2, A', B', x3, y3, R3, s3, t3, u3⟩ := ih (w + 1) q q2 (K + 9310000) A2 B2 (by omega) (by omega) (by omega) R2 (by omega) (by omega) (fun q => by rw [t2.1 350 (by omega)]; exact hG q) (hs.tr s2) (ht.tr t2) (by omega)
    refine ⟨p, p2, A', B', Eq.trans ?_ x3, Eq.trans ?_ y3, R3.k (by omega), s3, t3, u3⟩
    · rw [f_x_attempt_69]
      refine (if_neg (by simp (disch := first | omega | (simp (disch := omega) only [uA_n]; done) | fail) only [iI_lit, iI_add, iI_sub, iI_mul, iI_neg, iI_lt, iI_le, iI_eq, zlt_t, zlt_f, zle_t, zle_f, zeq_t, zeq_f, nle_t, nle_f, iI_cl, rA, rS, rB, wA, wS, wB, mkp, mk2, uA_s, uA_n, ud_s, ud_n, bI_0, bI_1, nor_s, ↓reduceIte, or_false, false_or, or_true, true_or, or_self, not_true_eq_false, not_false_eq_true, and_true, true_and, and_false, false_and, bI_T, bI_F, Int.reduceToNat, Nat.reduceAdd, Nat.reduceMul, Int.reduceNeg, Option.bind_some, Int.toNat_natCast])).trans ?_
      refine obd (ex_rateAt F v w _) ?_
      refine obd (v := ((), mk A2 Bx)) (Eq.trans (by simp (disch := first | omega | (simp (disch := omega) only [uA_n]; done) | fail) only [iI_lit, iI_add, iI_sub, iI_mul, iI_neg, iI_lt, iI_le, iI_eq, zlt_t, zlt_f, zle_t, zle_f, zeq_t, zeq_f, nle_t, nle_f, iI_cl, rA, rS, rB, wA, wS, wB, mkp, mk2, uA_s, uA_n, ud_s, ud_n, bI_0, bI_1, nor_s, ↓reduceIte, or_false, false_or, or_true, true_or, or_self, not_true_eq_false, not_false_eq_true, and_true, true_and, and_false, false_and, bI_T, bI_F, Int.reduceToNat, Nat.reduceAdd, Nat.reduceMul, Int.reduceNeg, Option.bind_some, Int.toNat_natCast]) x) ?_
      rw [← iI_s]; rfl
    · rw [f_m_attempt_71]
      refine (if_neg (by simp (disch := first | omega | (simp (disch := omega) only [uA_n]; done) | fail) only [iI_lit, iI_add, iI_sub, iI_mul, iI_neg, iI_lt, iI_le, iI_eq, zlt_t, zlt_f, zle_t, zle_f, zeq_t, zeq_f, nle_t, nle_f, iI_cl, rA, rS, rB, wA, wS, wB, mkp, mk2, uA_s, uA_n, ud_s, ud_n, bI_0, bI_1, nor_s, ↓reduceIte, or_false, false_or, or_true, true_or, or_self, not_true_eq_false, not_false_eq_true, and_true, true_and, and_false, false_and, bI_T, bI_F, Int.reduceToNat, Nat.reduceAdd, Nat.reduceMul, Int.reduceNeg, Option.bind_some, Int.toNat_natCast])).trans ?_
      refine obd (em_digit F v w _) ?_
      refine obd y ?_
      rw [← iI_s]; rfl
theorem AGR.of {w w2 a b a2 b2 : hI} (h : AGR w a b) (h1 : w2 55 7 = w 55 7) (h2 : w2 59 = w 59) (h3 : w2 55 12 = w 55 12) (h4 : w2 16 9 = w 16 9) (h5 : w2 16 14 = w 16 14) (ea : ∀ k : Nat, 2 ≤ k → k < 15 → a2 k = a k) (eb : ∀ k : Nat, 2 ≤ k → k < 15 → b2 k = b k) : AGR w2 a2 b2 := by
  unfold AGR at h ⊢
  simp (disch := omega) only [h1, h2, h3, h4, h5, ea, eb]
  exact h
theorem c_attempt (h : Inv i A B) (hi : i < 512) (hF : 10000 ≤ F) (v1 v2 v3 : Int32) : CP i A B (f_x_attempt F v1 v2 v3) (f_m_attempt F v1 v2 v3) := by
  obtain ⟨w, wa, wb, rfl⟩ : ∃ z : Int, -2147483648 ≤ z ∧ z < 2147483648 ∧ v2 = iI z := ⟨_, (i32rg v2).1, (i32rg v2).2, iI_of v2⟩
  obtain ⟨u, ua, ub, rfl⟩ : ∃ z : Int, -2147483648 ≤ z ∧ z < 2147483648 ∧ v3 = iI z := ⟨_, (i32rg v3).1, (i32rg v3).2, iI_of v3⟩
  have R := h.rr
  have hK := h.kmx (by omega)
  have d1 := R.gD.dd1
  have d2 := R.gD.dd2
  have d3 := R.gD.dd3
  have yu := fun Ax : hI => em_in F u 0 4 (mk Ax B) ua ub (by omega) (by omega) (by omega) (by omega)
  have yw := fun Ax : hI => em_in F w 1 4 (mk Ax B) wa wb (by omega) (by omega) (by omega) (by omega)
  have xw := fun Bx : hI => ex_tryLen F w (mk A Bx) wa wb
  by_cases c0 : 0 ≤ u ∧ u ≤ 4
  rotate_left
  · refine cp_no F h (v := -3) (by omega) (by omega) (fun Bx => ?_) (fun Ax => ?_)
    · unfold f_x_attempt
      by_cases e : u < 0
      · exact (if_pos (by simp (disch := first | omega | (simp (disch := omega) only [uA_n]; done) | fail) only [iI_lit, iI_add, iI_sub, iI_mul, iI_neg, iI_lt, iI_le, iI_eq, zlt_t, zlt_f, zle_t, zle_f, zeq_t, zeq_f, nle_t, nle_f, iI_cl, rA, rS, rB, wA, wS, wB, mkp, mk2, uA_s, uA_n, ud_s, ud_n, bI_0, bI_1, nor_s, ↓reduceIte, or_false, false_or, or_true, true_or, or_self, not_true_eq_false, not_false_eq_true, and_true, true_and, and_false, false_and, bI_T, bI_F, Int.reduceToNat, Nat.reduceAdd, Nat.reduceMul, Int.reduceNeg, Option.bind_some, Int.toNat_natCast])).trans rfl
      · refine (if_neg (by simp (disch := first | omega | (simp (disch := omega) only [uA_n]; done) | fail) only [iI_lit, iI_add, iI_sub, iI_mul, iI_neg, iI_lt, iI_le, iI_eq, zlt_t, zlt_f, zle_t, zle_f, zeq_t, zeq_f, nle_t, nle_f, iI_cl, rA, rS, rB, wA, wS, wB, mkp, mk2, uA_s, uA_n, ud_s, ud_n, bI_0, bI_1, nor_s, ↓reduceIte, or_false, false_or, or_true, true_or, or_self, not_true_eq_false, not_false_eq_true, and_true, true_and, and_false, false_and, bI_T, bI_F, Int.reduceToNat, Nat.reduceAdd, Nat.reduceMul, Int.reduceNeg, Option.bind_some, Int.toNat_natCast])).trans ?_
        exact (if_neg (by simp (disch := first | omega | (simp (disch := omega) only [uA_n]; done) | fail) only [iI_lit, iI_add, iI_sub, iI_mul, iI_neg, iI_lt, iI_le, iI_eq, zlt_t, zlt_f, zle_t, zle_f, zeq_t, zeq_f, nle_t, nle_f, iI_cl, rA, rS, rB, wA, wS, wB, mkp, mk2, uA_s, uA_n, ud_s, ud_n, bI_0, bI_1, nor_s, ↓reduceIte, or_false, false_or, or_true, true_or, or_self, not_true_eq_false, not_false_eq_true, and_true, true_and, and_false, false_and, bI_T, bI_F, Int.reduceToNat, Nat.reduceAdd, Nat.reduceMul, Int.reduceNeg, Option.bind_some, Int.toNat_natCast])).trans rfl
    · unfold f_m_attempt
      exact (askF (yu Ax) c0).trans rfl
  by_cases c1 : 1 ≤ w ∧ w ≤ 4
  rotate_left
  · refine cp_no F h (v := -7) (by omega) (by omega) (fun Bx => ?_) (fun Ax => ?_)
    · unfold f_x_attempt
      refine (if_neg (by simp (disch := first | omega | (simp (disch := omega) only [uA_n]; done) | fail) only [iI_lit, iI_add, iI_sub, iI_mul, iI_neg, iI_lt, iI_le, iI_eq, zlt_t, zlt_f, zle_t, zle_f, zeq_t, zeq_f, nle_t, nle_f, iI_cl, rA, rS, rB, wA, wS, wB, mkp, mk2, uA_s, uA_n, ud_s, ud_n, bI_0, bI_1, nor_s, ↓reduceIte, or_false, false_or, or_true, true_or, or_self, not_true_eq_false, not_false_eq_true, and_true, true_and, and_false, false_and, bI_T, bI_F, Int.reduceToNat, Nat.reduceAdd, Nat.reduceMul, Int.reduceNeg, Option.bind_some, Int.toNat_natCast])).trans ?_
      refine (if_pos (by simp (disch := first | omega | (simp (disch := omega) only [uA_n]; done) | fail) only [iI_lit, iI_add, iI_sub, iI_mul, iI_neg, iI_lt, iI_le, iI_eq, zlt_t, zlt_f, zle_t, zle_f, zeq_t, zeq_f, nle_t, nle_f, iI_cl, rA, rS, rB, wA, wS, wB, mkp, mk2, uA_s, uA_n, ud_s, ud_n, bI_0, bI_1, nor_s, ↓reduceIte, or_false, false_or, or_true, true_or, or_self, not_true_eq_false, not_false_eq_true, and_true, true_and, and_false, false_and, bI_T, bI_F, Int.reduceToNat, Nat.reduceAdd, Nat.reduceMul, Int.reduceNeg, Option.bind_some, Int.toNat_natCast])).trans ?_
      exact (askF (xw Bx) c1).trans rfl
    · unfold f_m_attempt
      refine (askT (yu Ax) c0).trans ?_
      exact (askF (yw Ax) c1).trans rfl
  obtain ⟨W, rfl⟩ : ∃ n : Nat, w = n := ⟨w.toNat, by omega⟩
  have hW : W ≤ 4 := by omega
  rcases rates F (by omega) v1 (W := W) (by omega) with ⟨rk, rs⟩ | ⟨rk, rs⟩
  rotate_left
  · refine cp_no F h (v := -7) (by omega) (by omega) (fun Bx => ?_) (fun Ax => ?_)
    · unfold f_x_attempt
      refine (if_neg (by simp (disch := first | omega | (simp (disch := omega) only [uA_n]; done) | fail) only [iI_lit, iI_add, iI_sub, iI_mul, iI_neg, iI_lt, iI_le, iI_eq, zlt_t, zlt_f, zle_t, zle_f, zeq_t, zeq_f, nle_t, nle_f, iI_cl, rA, rS, rB, wA, wS, wB, mkp, mk2, uA_s, uA_n, ud_s, ud_n, bI_0, bI_1, nor_s, ↓reduceIte, or_false, false_or, or_true, true_or, or_self, not_true_eq_false, not_false_eq_true, and_true, true_and, and_false, false_and, bI_T, bI_F, Int.reduceToNat, Nat.reduceAdd, Nat.reduceMul, Int.reduceNeg, Option.bind_some, Int.toNat_natCast])).trans ?_
      refine (if_pos (by simp (disch := first | omega | (simp (disch := omega) only [uA_n]; done) | fail) only [iI_lit, iI_add, iI_sub, iI_mul, iI_neg, iI_lt, iI_le, iI_eq, zlt_t, zlt_f, zle_t, zle_f, zeq_t, zeq_f, nle_t, nle_f, iI_cl, rA, rS, rB, wA, wS, wB, mkp, mk2, uA_s, uA_n, ud_s, ud_n, bI_0, bI_1, nor_s, ↓reduceIte, or_false, false_or, or_true, true_or, or_self, not_true_eq_false, not_false_eq_true, and_true, true_and, and_false, false_and, bI_T, bI_F, Int.reduceToNat, Nat.reduceAdd, Nat.reduceMul, Int.reduceNeg, Option.bind_some, Int.toNat_natCast])).trans ?_
      refine (askT (xw Bx) c1).trans ?_
      refine obd (rs _).1 ?_
      exact (if_pos rfl).trans rfl
    · unfold f_m_attempt
      refine (askT (yu Ax) c0).trans ?_
      refine (askT (yw Ax) c1).trans ?_
      refine obd (rs _).2 ?_
      exact (if_pos rfl).trans rfl
  by_cases c2 : 700 < A 16 9 + 7 * (W : Int)
  · refine cp_no F h (v := -8) (by omega) (by omega) (fun Bx => ?_) (fun Ax => ?_)
    · unfold f_x_attempt
      refine (if_neg (by simp (disch := first | omega | (simp (disch := omega) only [uA_n]; done) | fail) only [iI_lit, iI_add, iI_sub, iI_mul, iI_neg, iI_lt, iI_le, iI_eq, zlt_t, zlt_f, zle_t, zle_f, zeq_t, zeq_f, nle_t, nle_f, iI_cl, rA, rS, rB, wA, wS, wB, mkp, mk2, uA_s, uA_n, ud_s, ud_n, bI_0, bI_1, nor_s, ↓reduceIte, or_false, false_or, or_true, true_or, or_self, not_true_eq_false, not_false_eq_true, and_true, true_and, and_false, false_and, bI_T, bI_F, Int.reduceToNat, Nat.reduceAdd, Nat.reduceMul, Int.reduceNeg, Option.bind_some, Int.toNat_natCast])).trans ?_
      refine (if_pos (by simp (disch := first | omega | (simp (disch := omega) only [uA_n]; done) | fail) only [iI_lit, iI_add, iI_sub, iI_mul, iI_neg, iI_lt, iI_le, iI_eq, zlt_t, zlt_f, zle_t, zle_f, zeq_t, zeq_f, nle_t, nle_f, iI_cl, rA, rS, rB, wA, wS, wB, mkp, mk2, uA_s, uA_n, ud_s, ud_n, bI_0, bI_1, nor_s, ↓reduceIte, or_false, false_or, or_true, true_or, or_self, not_true_eq_false, not_false_eq_true, and_true, true_and, and_false, false_and, bI_T, bI_F, Int.reduceToNat, Nat.reduceAdd, Nat.reduceMul, Int.reduceNeg, Option.bind_some, Int.toNat_natCast])).trans ?_
      refine (askT (xw Bx) c1).trans ?_
      refine obd (rs _).1 ?_
      refine (if_neg i1n0).trans ?_
      exact (askT (ex_tooLate F Bx c1 ⟨d1, d2⟩) c2).trans rfl
    · unfold f_m_attempt
      refine (askT (yu Ax) c0).trans ?_
      refine (askT (yw Ax) c1).trans ?_
      refine obd (rs _).2 ?_
      refine (if_neg i1n0).trans ?_
      exact (if_neg (by simp (disch := first | omega | (simp (disch := omega) only [uA_n]; done) | fail) only [iI_lit, iI_add, iI_sub, iI_mul, iI_neg, iI_lt, iI_le, iI_eq, zlt_t, zlt_f, zle_t, zle_f, zeq_t, zeq_f, nle_t, nle_f, iI_cl, rA, rS, rB, wA, wS, wB, mkp, mk2, uA_s, uA_n, ud_s, ud_n, bI_0, bI_1, nor_s, ↓reduceIte, or_false, false_or, or_true, true_or, or_self, not_true_eq_false, not_false_eq_true, and_true, true_and, and_false, false_and, bI_T, bI_F, Int.reduceToNat, Nat.reduceAdd, Nat.reduceMul, Int.reduceNeg, Option.bind_some, Int.toNat_natCast, dS, d3])).trans rfl
  intro Ax Bx
  have hA1 : ∀ k : Nat, ¬ (120 ≤ k ∧ k < 166) → bec A 0 104 k = A k := fun k hk => bec_o (by omega)
  have hB1 : ∀ k : Nat, ¬ (2400 ≤ k ∧ k < 2724) → imB B 2000 0 k = B k := fun k hk => imB_o (by omega)
  have W1 : WR (bec A 0 104) (bec A 0 104) (imB B 2000 0) (KMX i (A 16 9)) (A 16 9) := h.1.cg (fun k hk => hA1 k (by omega)) (fun k hk => hA1 k (by omega)) (fun k hk => hB1 k (by omega))
  have e9 : bec A 0 104 16 9 = A 16 9 := by rw [hA1 16 (by omega)]
  rw [← e9] at W1
  obtain ⟨p, p2, A2, B2, x, y, R2, s2, t2, u12⟩ := att_loop F (by omega) v1 (iI u) (W := W) hW rk.2.2 (d0 := A 16 9) (by omega) Ax Bx (A1 := bec A 0 104) (B1 := imB B 2000 0) W 0 F F (KMX i (bec A 0 104 16 9)) (bec A 0 104) (imB B 2000 0) (by omega) (by omega) (by omega) W1 (by rw [e9]; omega) (by rw [e9]; unfold KMX; omega) (fun q => by rw [hB1 350 (by omega)]; exact (h.2.2.2.2.2 q).1) (SX.rf _) (sbW.rf _) (by omega)
  obtain ⟨s21, s22, s23, s24⟩ := s2
  -- what stands where the try began
  have a120 : A2 120 12 = A 16 12 := by
    rw [s21 120 (by omega)]
    exact bec_i A (s := 0) (t := 104) (k := 16) (j := 12) (by omega)
  have b2400 : B2 2400 8 = A 16 12 := by
    rw [t2.1 2400 (by omega), show 2400 = 400 + 2000 from rfl, imB_i (by omega) (by omega) (by omega)]
    exact R.gD.de3
  have xe := ex_bc_16_120 F A2 Bx
  have ye := em_end F hF Ax B2
  have inv : Inv (i + 1) (bec A2 104 0) (imB B2 0 2000) := by
    refine (h.rest (by omega) (fun k j hz => ?_) ?_ (fun k hk => ?_) (fun k hk => ?_) ?_).up
    · have z := bec_i A2 (s := 104) (t := 0) (k := k) (j := j) hz
      rw [Nat.add_zero] at z
      rw [z, s21 (k + 104) (by omega)]
      exact bec_i A (s := 0) (t := 104) hz
    · exact s24.of (by rw [hA1 55 (by omega)]) (by rw [hA1 59 (by omega)]) (by rw [hA1 55 (by omega)]) (by rw [hA1 16 (by omega)]) (by rw [hA1 16 (by omega)]) (fun k h1 h2 => (hA1 k (by omega)).symm) (fun k h1 h2 => bec_o (by omega))
    · rw [bec_o (by omega), s21 k (by omega), hA1 k (by omega)]
    · by_cases q : 400 ≤ k ∧ k < 724 ∧ k ≠ 498
      · exact imB_back (fun k h1 h2 => t2.1 k (by omega)) q.1 q.2.1 q.2.2
      · rw [imB_o (by omega), t2.1 k (by omega), hB1 k (by omega)]
    · rw [imB_o (by omega), t2.2.1, t2.2.2.1, t2.2.2.2.1, t2.2.2.2.2, hB1 304 (by omega)]
      exact ⟨rfl, rfl, rfl, rfl⟩
  have R3 : RR (KMX i (bec A 0 104 16 9) + 9310000 * W) (A2 16 9) A2 B2 A2 B2 := ⟨R2, SX.rf _, SB.rf _⟩
  have kb : KMX i (bec A 0 104 16 9) + 9310000 * W ≤ 1000000000 := by rw [e9]; unfold KMX; omega
  have X : ∀ o : Int, f_x_outcome F (iI u) (mk A2 Bx) = some (iI o, mk A2 Bx) → f_x_attempt F v1 (iI (W : Int)) (iI u) (mk A Bx) = some (iI o, mk (bec A2 104 0) Bx) := fun o ho => by
    unfold f_x_attempt
    refine (if_neg (by simp (disch := first | omega | (simp (disch := omega) only [uA_n]; done) | fail) only [iI_lit, iI_add, iI_sub, iI_mul, iI_neg, iI_lt, iI_le, iI_eq, zlt_t, zlt_f, zle_t, zle_f, zeq_t, zeq_f, nle_t, nle_f, iI_cl, rA, rS, rB, wA, wS, wB, mkp, mk2, uA_s, uA_n, ud_s, ud_n, bI_0, bI_1, nor_s, ↓reduceIte, or_false, false_or, or_true, true_or, or_self, not_true_eq_false, not_false_eq_true, and_true, true_and, and_false, false_and, bI_T, bI_F, Int.reduceToNat, Nat.reduceAdd, Nat.reduceMul, Int.reduceNeg, Option.bind_some, Int.toNat_natCast])).trans ?_
    refine (if_pos (by simp (disch := first | omega | (simp (disch := omega) only [uA_n]; done) | fail) only [iI_lit, iI_add, iI_sub, iI_mul, iI_neg, iI_lt, iI_le, iI_eq, zlt_t, zlt_f, zle_t, zle_f, zeq_t, zeq_f, nle_t, nle_f, iI_cl, rA, rS, rB, wA, wS, wB, mkp, mk2, uA_s, uA_n, ud_s, ud_n, bI_0, bI_1, nor_s, ↓reduceIte, or_false, false_or, or_true, true_or, or_self, not_true_eq_false, not_false_eq_true, and_true, true_and, and_false, false_and, bI_T, bI_F, Int.reduceToNat, Nat.reduceAdd, Nat.reduceMul, Int.reduceNeg, Option.bind_some, Int.toNat_natCast])).trans ?_
    refine (askT (xw Bx) c1).trans ?_
    refine obd (rs _).1 ?_
    refine (if_neg i1n0).trans ?_
    refine (askF (ex_tooLate F Bx c1 ⟨d1, d2⟩) c2).trans ?_
    refine (if_pos rfl).trans ?_
    refine obd (ex_bc_120_16 F A Bx) ?_
    refine x.trans ?_
    rw [f_x_attempt_69]
    refine (if_pos (by simp (disch := first | omega | (simp (disch := omega) only [uA_n]; done) | fail) only [iI_lit, iI_add, iI_sub, iI_mul, iI_neg, iI_lt, iI_le, iI_eq, zlt_t, zlt_f, zle_t, zle_f, zeq_t, zeq_f, nle_t, nle_f, iI_cl, rA, rS, rB, wA, wS, wB, mkp, mk2, uA_s, uA_n, ud_s, ud_n, bI_0, bI_1, nor_s, ↓reduceIte, or_false, false_or, or_true, true_or, or_self, not_true_eq_false, not_false_eq_true, and_true, true_and, and_false, false_and, bI_T, bI_F, Int.reduceToNat, Nat.reduceAdd, Nat.reduceMul, Int.reduceNeg, Option.bind_some, Int.toNat_natCast])).trans ?_
    refine obd ho ?_
    refine (if_pos rfl).trans ?_
    exact obd xe rfl
  have Y : ∀ o : Int, (if iI u = 0 then ((f_m_hs F (0 : Int32) (2 : Int32) (mk Ax B2)).bind fun q8 => f_m_attempt_169 F q8.1 q8.2) else (if iI u = (1 : Int32) then ((f_m_out F (mk Ax B2)).bind fun q9 => f_m_attempt_169 F q9.1 q9.2) else (if iI u = (2 : Int32) then ((f_m_downMany F (mk Ax B2)).bind fun q10 => f_m_attempt_169 F q10.1 q10.2) else (if iI u = (3 : Int32) then f_m_attempt_169 F (((mk Ax B2).1 305 (8 : Int32).toNatClampNeg) - ((mk Ax B2).1 314 (8 : Int32).toNatClampNeg)) (mk Ax B2) else (if ((mk Ax B2).1 305 (9 : Int32).toNatClampNeg) = (-1 : Int32) then f_m_attempt_169 F (0 : Int32) (mk Ax B2) else f_m_attempt_169 F (1 : Int32) (mk Ax B2)))))) = f_m_attempt_169 F (iI o) (mk Ax B2) → f_m_attempt F v1 (iI (W : Int)) (iI u) (mk Ax B) = some (iI o, mk Ax (imB B2 0 2000)) := fun o ho => by
    unfold f_m_attempt
    refine (askT (yu Ax) c0).trans ?_
    refine (askT (yw Ax) c1).trans ?_
    refine obd (rs _).2 ?_
    refine (if_neg i1n0).trans ?_
    refine (if_pos (by simp (disch := first | omega | (simp (disch := omega) only [uA_n]; done) | fail) only [iI_lit, iI_add, iI_sub, iI_mul, iI_neg, iI_lt, iI_le, iI_eq, zlt_t, zlt_f, zle_t, zle_f, zeq_t, zeq_f, nle_t, nle_f, iI_cl, rA, rS, rB, wA, wS, wB, mkp, mk2, uA_s, uA_n, ud_s, ud_n, bI_0, bI_1, nor_s, ↓reduceIte, or_false, false_or, or_true, true_or, or_self, not_true_eq_false, not_false_eq_true, and_true, true_and, and_false, false_and, bI_T, bI_F, Int.reduceToNat, Nat.reduceAdd, Nat.reduceMul, Int.reduceNeg, Option.bind_some, Int.toNat_natCast, dS, d3])).trans ?_
    refine obd (em_begin F hF Ax B) ?_
    refine y.trans ?_
    rw [f_m_attempt_71]
    refine (if_pos (by simp (disch := first | omega | (simp (disch := omega) only [uA_n]; done) | fail) only [iI_lit, iI_add, iI_sub, iI_mul, iI_neg, iI_lt, iI_le, iI_eq, zlt_t, zlt_f, zle_t, zle_f, zeq_t, zeq_f, nle_t, nle_f, iI_cl, rA, rS, rB, wA, wS, wB, mkp, mk2, uA_s, uA_n, ud_s, ud_n, bI_0, bI_1, nor_s, ↓reduceIte, or_false, false_or, or_true, true_or, or_self, not_true_eq_false, not_false_eq_true, and_true, true_and, and_false, false_and, bI_T, bI_F, Int.reduceToNat, Nat.reduceAdd, Nat.reduceMul, Int.reduceNeg, Option.bind_some, Int.toNat_natCast])).trans ?_
    refine ho.trans ?_
    unfold f_m_attempt_169
    exact obd ye rfl
  rcases (show u = 0 ∨ u = 1 ∨ u = 2 ∨ u = 3 ∨ u = 4 by omega) with rfl | rfl | rfl | rfl | rfl
  · refine ⟨iI (A2 22 0), bec A2 104 0, imB B2 0 2000, X _ ?_, Y _ ?_, inv⟩
    · unfold f_x_outcome
      refine (if_pos rfl).trans ?_
      simp (disch := first | omega | (simp (disch := omega) only [uA_n]; done) | fail) only [iI_lit, iI_add, iI_sub, iI_mul, iI_neg, iI_lt, iI_le, iI_eq, zlt_t, zlt_f, zle_t, zle_f, zeq_t, zeq_f, nle_t, nle_f, iI_cl, rA, rS, rB, wA, wS, wB, mkp, mk2, uA_s, uA_n, ud_s, ud_n, bI_0, bI_1, nor_s, ↓reduceIte, or_false, false_or, or_true, true_or, or_self, not_true_eq_false, not_false_eq_true, and_true, true_and, and_false, false_and, bI_T, bI_F, Int.reduceToNat, Nat.reduceAdd, Nat.reduceMul, Int.reduceNeg, Option.bind_some, Int.toNat_natCast]
    · refine (if_pos rfl).trans ?_
      have hg := R3.gH.hg 0 (by omega)
      refine obd (em_hs F 0 2 Ax B2 (by omega) (by omega) (by omega) (by omega)) ?_
      exact congrArg (fun z => f_m_attempt_169 F (iI z) (mk Ax B2)) hg
  · refine ⟨iI (10 * A2 55 9), bec A2 104 0, imB B2 0 2000, X _ ?_, Y _ ?_, inv⟩
    · unfold f_x_outcome
      refine (if_neg (by decide)).trans ?_
      refine (if_pos rfl).trans ?_
      simp (disch := first | omega | (simp (disch := omega) only [uA_n]; done) | fail) only [iI_lit, iI_add, iI_sub, iI_mul, iI_neg, iI_lt, iI_le, iI_eq, zlt_t, zlt_f, zle_t, zle_f, zeq_t, zeq_f, nle_t, nle_f, iI_cl, rA, rS, rB, wA, wS, wB, mkp, mk2, uA_s, uA_n, ud_s, ud_n, bI_0, bI_1, nor_s, ↓reduceIte, or_false, false_or, or_true, true_or, or_self, not_true_eq_false, not_false_eq_true, and_true, true_and, and_false, false_and, bI_T, bI_F, Int.reduceToNat, Nat.reduceAdd, Nat.reduceMul, Int.reduceNeg, Option.bind_some, Int.toNat_natCast]
    · refine (if_neg (by decide)).trans ?_
      refine (if_pos rfl).trans ?_
      exact obd (em_out F R3 (by omega) Ax) rfl
  · refine ⟨iI (A2 19 12), bec A2 104 0, imB B2 0 2000, X _ ?_, Y _ ?_, inv⟩
    · unfold f_x_outcome
      refine (if_neg (by decide)).trans ?_
      refine (if_neg (by decide)).trans ?_
      refine (if_pos rfl).trans ?_
      simp (disch := first | omega | (simp (disch := omega) only [uA_n]; done) | fail) only [iI_lit, iI_add, iI_sub, iI_mul, iI_neg, iI_lt, iI_le, iI_eq, zlt_t, zlt_f, zle_t, zle_f, zeq_t, zeq_f, nle_t, nle_f, iI_cl, rA, rS, rB, wA, wS, wB, mkp, mk2, uA_s, uA_n, ud_s, ud_n, bI_0, bI_1, nor_s, ↓reduceIte, or_false, false_or, or_true, true_or, or_self, not_true_eq_false, not_false_eq_true, and_true, true_and, and_false, false_and, bI_T, bI_F, Int.reduceToNat, Nat.reduceAdd, Nat.reduceMul, Int.reduceNeg, Option.bind_some, Int.toNat_natCast]
    · refine (if_neg (by decide)).trans ?_
      refine (if_neg (by decide)).trans ?_
      refine (if_pos rfl).trans ?_
      exact obd (em_downMany F R3 (by omega) Ax) rfl
  · refine ⟨iI (A2 16 12 - A 16 12), bec A2 104 0, imB B2 0 2000, X _ ?_, Y _ ?_, inv⟩
    · unfold f_x_outcome
      refine (if_neg (by decide)).trans ?_
      refine (if_neg (by decide)).trans ?_
      refine (if_neg (by decide)).trans ?_
      refine (if_pos rfl).trans ?_
      unfold f_x_refusedInTry
      refine (congrArg (fun z => Option.bind z _) (if_pos rfl)).trans ?_
      simp (disch := first | omega | (simp (disch := omega) only [uA_n]; done) | fail) only [iI_lit, iI_add, iI_sub, iI_mul, iI_neg, iI_lt, iI_le, iI_eq, zlt_t, zlt_f, zle_t, zle_f, zeq_t, zeq_f, nle_t, nle_f, iI_cl, rA, rS, rB, wA, wS, wB, mkp, mk2, uA_s, uA_n, ud_s, ud_n, bI_0, bI_1, nor_s, ↓reduceIte, or_false, false_or, or_true, true_or, or_self, not_true_eq_false, not_false_eq_true, and_true, true_and, and_false, false_and, bI_T, bI_F, Int.reduceToNat, Nat.reduceAdd, Nat.reduceMul, Int.reduceNeg, Option.bind_some, Int.toNat_natCast, a120]
    · refine (if_neg (by decide)).trans ?_
      refine (if_neg (by decide)).trans ?_
      refine (if_neg (by decide)).trans ?_
      refine (if_pos rfl).trans ?_
      have z8 := R3.gD.de3
      have r314 : (mk Ax B2).1 314 8 = iI (A 16 12) := (congrArg iI b2400 : _)
      have e8 : (8 : Int32).toNatClampNeg = 8 := rfl
      rw [e8, r314]
      refine congrArg (fun z => f_m_attempt_169 F z (mk Ax B2)) ?_
      simp (disch := first | omega | (simp (disch := omega) only [uA_n]; done) | fail) only [iI_lit, iI_add, iI_sub, iI_mul, iI_neg, iI_lt, iI_le, iI_eq, zlt_t, zlt_f, zle_t, zle_f, zeq_t, zeq_f, nle_t, nle_f, iI_cl, rA, rS, rB, wA, wS, wB, mkp, mk2, uA_s, uA_n, ud_s, ud_n, bI_0, bI_1, nor_s, ↓reduceIte, or_false, false_or, or_true, true_or, or_self, not_true_eq_false, not_false_eq_true, and_true, true_and, and_false, false_and, bI_T, bI_F, Int.reduceToNat, Nat.reduceAdd, Nat.reduceMul, Int.reduceNeg, Option.bind_some, Int.toNat_natCast, dS, z8]
  · have z9 := R3.gD.ds3
    have s1 := R3.gD.ds1
    have s2 := R3.gD.ds2
    refine ⟨iI (if A2 16 13 = -1 then 0 else 1), bec A2 104 0, imB B2 0 2000, X _ ?_, Y _ ?_, inv⟩
    · unfold f_x_outcome
      refine (if_neg (by decide)).trans ?_
      refine (if_neg (by decide)).trans ?_
      refine (if_neg (by decide)).trans ?_
      refine (if_neg (by decide)).trans ?_
      unfold f_x_outcome_91
      by_cases c : A2 16 13 = -1
      · rw [if_pos c]
        exact if_pos (by simp (disch := first | omega | (simp (disch := omega) only [uA_n]; done) | fail) only [iI_lit, iI_add, iI_sub, iI_mul, iI_neg, iI_lt, iI_le, iI_eq, zlt_t, zlt_f, zle_t, zle_f, zeq_t, zeq_f, nle_t, nle_f, iI_cl, rA, rS, rB, wA, wS, wB, mkp, mk2, uA_s, uA_n, ud_s, ud_n, bI_0, bI_1, nor_s, ↓reduceIte, or_false, false_or, or_true, true_or, or_self, not_true_eq_false, not_false_eq_true, and_true, true_and, and_false, false_and, bI_T, bI_F, Int.reduceToNat, Nat.reduceAdd, Nat.reduceMul, Int.reduceNeg, Option.bind_some, Int.toNat_natCast, c])
      · rw [if_neg c]
        exact if_neg (by simp (disch := first | omega | (simp (disch := omega) only [uA_n]; done) | fail) only [iI_lit, iI_add, iI_sub, iI_mul, iI_neg, iI_lt, iI_le, iI_eq, zlt_t, zlt_f, zle_t, zle_f, zeq_t, zeq_f, nle_t, nle_f, iI_cl, rA, rS, rB, wA, wS, wB, mkp, mk2, uA_s, uA_n, ud_s, ud_n, bI_0, bI_1, nor_s, ↓reduceIte, or_false, false_or, or_true, true_or, or_self, not_true_eq_false, not_false_eq_true, and_true, true_and, and_false, false_and, bI_T, bI_F, Int.reduceToNat, Nat.reduceAdd, Nat.reduceMul, Int.reduceNeg, Option.bind_some, Int.toNat_natCast])
    · refine (if_neg (by decide)).trans ?_
      refine (if_neg (by decide)).trans ?_
      refine (if_neg (by decide)).trans ?_
      refine (if_neg (by decide)).trans ?_
      by_cases c : A2 16 13 = -1
      · rw [if_pos c]
        exact if_pos (by rw [c] at z9; simp (disch := first | omega | (simp (disch := omega) only [uA_n]; done) | fail) only [iI_lit, iI_add, iI_sub, iI_mul, iI_neg, iI_lt, iI_le, iI_eq, zlt_t, zlt_f, zle_t, zle_f, zeq_t, zeq_f, nle_t, nle_f, iI_cl, rA, rS, rB, wA, wS, wB, mkp, mk2, uA_s, uA_n, ud_s, ud_n, bI_0, bI_1, nor_s, ↓reduceIte, or_false, false_or, or_true, true_or, or_self, not_true_eq_false, not_false_eq_true, and_true, true_and, and_false, false_and, bI_T, bI_F, Int.reduceToNat, Nat.reduceAdd, Nat.reduceMul, Int.reduceNeg, Option.bind_some, Int.toNat_natCast, dS, z9])
      · rw [if_neg c]
        exact if_neg (by simp (disch := first | omega | (simp (disch := omega) only [uA_n]; done) | fail) only [iI_lit, iI_add, iI_sub, iI_mul, iI_neg, iI_lt, iI_le, iI_eq, zlt_t, zlt_f, zle_t, zle_f, zeq_t, zeq_f, nle_t, nle_f, iI_cl, rA, rS, rB, wA, wS, wB, mkp, mk2, uA_s, uA_n, ud_s, ud_n, bI_0, bI_1, nor_s, ↓reduceIte, or_false, false_or, or_true, true_or, or_self, not_true_eq_false, not_false_eq_true, and_true, true_and, and_false, false_and, bI_T, bI_F, Int.reduceToNat, Nat.reduceAdd, Nat.reduceMul, Int.reduceNeg, Option.bind_some, Int.toNat_natCast, dS, z9])
end TRYS
