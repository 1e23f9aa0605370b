/-! CALLS: judge -/
section JUDG
variable {K D : Int} {A0 B0 A B A' B' : hI} {i : Nat} (F : Nat)
/-- a week's numbers, noted -/
def nwk (A : hI) (w : Nat) : hI := uA (uA (uA (uA A 118 (4 * w) (A 16 10)) 118 (4 * w + 1) (A 22 0)) 118 (4 * w + 2) (10 * A 55 9)) 118 (4 * w + 3) (A 19 12)
theorem nwk_o (A : hI) (w : Nat) {k : Nat} (hk : k ≠ 118) : nwk A w k = A k := by
  unfold nwk
  rw [uA_n hk, uA_n hk, uA_n hk, uA_n hk]
theorem ex_noteWeek (A Bx : hI) {w : Nat} (hw : w ≤ 3) : f_x_noteWeek F (iI (w : Int)) (mk A Bx) = some ((), mk (nwk A w) Bx) := by
  unfold nwk
  rcases (show w = 0 ∨ w = 1 ∨ w = 2 ∨ w = 3 by omega) with rfl | rfl | rfl | rfl
  · unfold f_x_noteWeek f_x_noteWeek_37 f_x_noteWeek_76
    simp (disch := first | omega | (simp (disch := omega) only [uA_n]; done) | fail) only [iI_lit, iI_add, iI_sub, iI_mul, iI_neg, iI_lt, iI_le, iI_eq, zlt_t, zlt_f, zle_t, zle_f, zeq_t, zeq_f, nle_t, nle_f, iI_cl, rA, rS, rB, wA, wS, wB, mkp, mk2, uA_s, uA_n, ud_s, ud_n, bI_0, bI_1, nor_s, ↓reduceIte, or_false, false_or, or_true, true_or, or_self, not_true_eq_false, not_false_eq_true, and_true, true_and, and_false, false_and, bI_T, bI_F, Int.reduceToNat, Nat.reduceAdd, Nat.reduceMul, Int.reduceNeg, Option.bind_some, Int.toNat_natCast, Int.cast_ofNat_Int]
    rfl
  · unfold f_x_noteWeek f_x_noteWeek_37 f_x_noteWeek_76
    simp (disch := first | omega | (simp (disch := omega) only [uA_n]; done) | fail) only [iI_lit, iI_add, iI_sub, iI_mul, iI_neg, iI_lt, iI_le, iI_eq, zlt_t, zlt_f, zle_t, zle_f, zeq_t, zeq_f, nle_t, nle_f, iI_cl, rA, rS, rB, wA, wS, wB, mkp, mk2, uA_s, uA_n, ud_s, ud_n, bI_0, bI_1, nor_s, ↓reduceIte, or_false, false_or, or_true, true_or, or_self, not_true_eq_false, not_false_eq_true, and_true, true_and, and_false, false_and, bI_T, bI_F, Int.reduceToNat, Nat.reduceAdd, Nat.reduceMul, Int.reduceNeg, Option.bind_some, Int.toNat_natCast, Int.cast_ofNat_Int]
    rfl
  · unfold f_x_noteWeek f_x_noteWeek_37 f_x_noteWeek_76
    simp (disch := first | omega | (simp (disch := omega) only [uA_n]; done) | fail) only [iI_lit, iI_add, iI_sub, iI_mul, iI_neg, iI_lt, iI_le, iI_eq, zlt_t, zlt_f, zle_t, zle_f, zeq_t, zeq_f, nle_t, nle_f, iI_cl, rA, rS, rB, wA, wS, wB, mkp, mk2, uA_s, uA_n, ud_s, ud_n, bI_0, bI_1, nor_s, ↓reduceIte, or_false, false_or, or_true, true_or, or_self, not_true_eq_false, not_false_eq_true, and_true, true_and, and_false, false_and, bI_T, bI_F, Int.reduceToNat, Nat.reduceAdd, Nat.reduceMul, Int.reduceNeg, Option.bind_some, Int.toNat_natCast, Int.cast_ofNat_Int]
    rfl
  · unfold f_x_noteWeek f_x_noteWeek_37 f_x_noteWeek_76
    simp (disch := first | omega | (simp (disch := omega) only [uA_n]; done) | fail) only [iI_lit, iI_add, iI_sub, iI_mul, iI_neg, iI_lt, iI_le, iI_eq, zlt_t, zlt_f, zle_t, zle_f, zeq_t, zeq_f, nle_t, nle_f, iI_cl, rA, rS, rB, wA, wS, wB, mkp, mk2, uA_s, uA_n, ud_s, ud_n, bI_0, bI_1, nor_s, ↓reduceIte, or_false, false_or, or_true, true_or, or_self, not_true_eq_false, not_false_eq_true, and_true, true_and, and_false, false_and, bI_T, bI_F, Int.reduceToNat, Nat.reduceAdd, Nat.reduceMul, Int.reduceNeg, Option.bind_some, Int.toNat_natCast, Int.cast_ofNat_Int]
    rfl
theorem fw_end {w : Nat} (hw : w ≤ 3) (q : Nat) (m : mM) : f_x_firstWrong_6 F (q + 1) (iI (4 * w)) (iI ((4 * w + 4 : Nat) : Int)) m = some (-1, m) := by
  rw [f_x_firstWrong_6]
  exact if_pos (by simp (disch := first | omega | (simp (disch := omega) only [uA_n]; done) | fail) only [iI_lit, iI_add, iI_sub, iI_mul, iI_neg, iI_lt, iI_le, iI_eq, zlt_t, zlt_f, zle_t, zle_f, zeq_t, zeq_f, nle_t, nle_f, iI_cl, rA, rS, rB, wA, wS, wB, mkp, mk2, uA_s, uA_n, ud_s, ud_n, bI_0, bI_1, nor_s, ↓reduceIte, or_false, false_or, or_true, true_or, or_self, not_true_eq_false, not_false_eq_true, and_true, true_and, and_false, false_and, bI_T, bI_F, Int.reduceToNat, Nat.reduceAdd, Nat.reduceMul, Int.reduceNeg, Option.bind_some, Int.toNat_natCast])
theorem fw_step (A Bx : hI) {w : Nat} (hw : w ≤ 3) (q k : Nat) (h1 : 4 * w ≤ k) (h2 : k < 4 * w + 4) : f_x_firstWrong_6 F (q + 1) (iI (4 * w)) (iI (k : Int)) (mk A Bx) = if iI (A 117 k) = iI (A 118 k) then f_x_firstWrong_6 F q (iI (4 * w)) (iI ((k + 1 : Nat) : Int)) (mk A Bx) else some (iI (k : Int), mk A Bx) := by
  rw [f_x_firstWrong_6]
  refine (if_neg (by simp (disch := first | omega | (simp (disch := omega) only [uA_n]; done) | fail) only [iI_lit, iI_add, iI_sub, iI_mul, iI_neg, iI_lt, iI_le, iI_eq, zlt_t, zlt_f, zle_t, zle_f, zeq_t, zeq_f, nle_t, nle_f, iI_cl, rA, rS, rB, wA, wS, wB, mkp, mk2, uA_s, uA_n, ud_s, ud_n, bI_0, bI_1, nor_s, ↓reduceIte, or_false, false_or, or_true, true_or, or_self, not_true_eq_false, not_false_eq_true, and_true, true_and, and_false, false_and, bI_T, bI_F, Int.reduceToNat, Nat.reduceAdd, Nat.reduceMul, Int.reduceNeg, Option.bind_some, Int.toNat_natCast])).trans ?_
  refine (if_neg (by simp (disch := first | omega | (simp (disch := omega) only [uA_n]; done) | fail) only [iI_lit, iI_add, iI_sub, iI_mul, iI_neg, iI_lt, iI_le, iI_eq, zlt_t, zlt_f, zle_t, zle_f, zeq_t, zeq_f, nle_t, nle_f, iI_cl, rA, rS, rB, wA, wS, wB, mkp, mk2, uA_s, uA_n, ud_s, ud_n, bI_0, bI_1, nor_s, ↓reduceIte, or_false, false_or, or_true, true_or, or_self, not_true_eq_false, not_false_eq_true, and_true, true_and, and_false, false_and, bI_T, bI_F, Int.reduceToNat, Nat.reduceAdd, Nat.reduceMul, Int.reduceNeg, Option.bind_some, Int.toNat_natCast])).trans ?_
  refine (if_neg (by simp (disch := first | omega | (simp (disch := omega) only [uA_n]; done) | fail) only [iI_lit, iI_add, iI_sub, iI_mul, iI_neg, iI_lt, iI_le, iI_eq, zlt_t, zlt_f, zle_t, zle_f, zeq_t, zeq_f, nle_t, nle_f, iI_cl, rA, rS, rB, wA, wS, wB, mkp, mk2, uA_s, uA_n, ud_s, ud_n, bI_0, bI_1, nor_s, ↓reduceIte, or_false, false_or, or_true, true_or, or_self, not_true_eq_false, not_false_eq_true, and_true, true_and, and_false, false_and, bI_T, bI_F, Int.reduceToNat, Nat.reduceAdd, Nat.reduceMul, Int.reduceNeg, Option.bind_some, Int.toNat_natCast])).trans ?_
  have e : (iI (k : Int)).toNatClampNeg = k := by rw [iI_cl (by omega) (by omega), Int.toNat_natCast]
  rw [e, ← iI_s]
  rfl
/-- where three numbers part from three others -/
def fwr (w : Nat) (p q : Nat → Int) : Int32 := if iI (p (4 * w + 1)) = iI (q (4 * w + 1)) then (if iI (p (4 * w + 2)) = iI (q (4 * w + 2)) then (if iI (p (4 * w + 3)) = iI (q (4 * w + 3)) then -1 else iI ((4 * w + 3 : Nat) : Int)) else iI ((4 * w + 2 : Nat) : Int)) else iI ((4 * w + 1 : Nat) : Int)
theorem ex_firstWrong (hF : 1000 ≤ F) (A Bx : hI) {w : Nat} (hw : w ≤ 3) (h0 : iI (A 117 (4 * w)) = iI (A 118 (4 * w))) : f_x_firstWrong F (iI (w : Int)) (mk A Bx) = some (fwr w (A 117) (A 118), mk A Bx) := by
  obtain ⟨q, hq⟩ : ∃ q, F = q + 5 := ⟨F - 5, by omega⟩
  have e4 : iI (w : Int) * 4 = iI (4 * w) := by simp (disch := first | omega | (simp (disch := omega) only [uA_n]; done) | fail) only [iI_lit, iI_add, iI_sub, iI_mul, iI_neg, iI_lt, iI_le, iI_eq, zlt_t, zlt_f, zle_t, zle_f, zeq_t, zeq_f, nle_t, nle_f, iI_cl, rA, rS, rB, wA, wS, wB, mkp, mk2, uA_s, uA_n, ud_s, ud_n, bI_0, bI_1, nor_s, ↓reduceIte, or_false, false_or, or_true, true_or, or_self, not_true_eq_false, not_false_eq_true, and_true, true_and, and_false, false_and, bI_T, bI_F, Int.reduceToNat, Nat.reduceAdd, Nat.reduceMul, Int.reduceNeg, Option.bind_some, Int.toNat_natCast]
  have e5 : iI (4 * (w : Int)) = iI ((4 * w : Nat) : Int) := congrArg iI (by omega)
  unfold f_x_firstWrong
  rw [e4]
  have S := fw_step F A Bx hw
  have G : ∀ r, f_x_firstWrong_6 F (q + 1 + 1 + 1 + 1 + 1) (iI (4 * w)) (iI ((4 * w : Nat) : Int)) (mk A Bx) = r → f_x_firstWrong_6 F F (iI (4 * w)) (iI (4 * w)) (mk A Bx) = r := fun r h => by
    rw [← h, e5]
    exact congrArg (fun n => f_x_firstWrong_6 F n (iI ((4 * w : Nat) : Int)) (iI ((4 * w : Nat) : Int)) (mk A Bx)) hq
  refine G _ ?_
  rw [S _ _ (Nat.le_refl _) (by omega), if_pos h0]
  unfold fwr
  rw [S _ (4 * w + 1) (by omega) (by omega)]
  by_cases c1 : iI (A 117 (4 * w + 1)) = iI (A 118 (4 * w + 1))
  rotate_left
  · rw [if_neg c1, if_neg c1]
  rw [if_pos c1, if_pos c1, S _ (4 * w + 1 + 1) (by omega) (by omega)]
  by_cases c2 : iI (A 117 (4 * w + 2)) = iI (A 118 (4 * w + 2))
  rotate_left
  · rw [if_neg c2, if_neg c2]
  rw [if_pos c2, if_pos c2, S _ (4 * w + 2 + 1) (by omega) (by omega)]
  by_cases c3 : iI (A 117 (4 * w + 3)) = iI (A 118 (4 * w + 3))
  rotate_left
  · rw [if_neg c3, if_neg c3]
  rw [if_pos c3, if_pos c3]
  exact fw_end F hw q _
/-- cell 118 aside -/
def r118 (A : hI) (f : Nat → Int) : hI := fun k => if k = 118 then f else A k
theorem r118_i (A : hI) : r118 A (A 118) = A := by
  funext k
  unfold r118
  by_cases e : k = 118
  · rw [if_pos e, e]
  · rw [if_neg e]
theorem r118_n (A : hI) (w : Nat) (f : Nat → Int) : r118 (nwk A w) f = r118 A f := by
  funext k
  unfold r118
  by_cases e : k = 118
  · rw [if_pos e, if_pos e]
  · rw [if_neg e, if_neg e, nwk_o A w e]
theorem r118_o (A : hI) (f : Nat → Int) {k : Nat} (e : k ≠ 118) : r118 A f k = A k := if_neg e
theorem SX.no118 (h : SX A A') (f : Nat → Int) : SX (r118 A f) (r118 A' f) := by
  obtain ⟨a, b, c, d⟩ := h
  refine ⟨fun k hk => ?_, b, c, d⟩
  by_cases e : k = 118
  · unfold r118; rw [if_pos e, if_pos e]
  · unfold r118; rw [if_neg e, if_neg e]; exact a k hk
theorem WR.nwk (h : WR A A B K D) (w : Nat) : WR (nwk A w) (nwk A w) B K D := h.cg (fun k hk => nwk_o A w (by omega)) (fun k hk => nwk_o A w (by omega)) (fun _ _ => rfl)
/-- weeks of a judging -/
theorem jdg_loop (hF : 1000 ≤ F) {W : Nat} (hW : W ≤ 4) {d0 : Int} (hd : d0 + 7 * W ≤ 700) (Ax Bx : hI) {A1 B1 : hI} (h29 : B1 304 29 = 4 * (W : Int)) (hrow : ∀ t : Nat, t < 4 * W → A1 117 t = B1 317 t ∧ -2147483648 ≤ A1 117 t ∧ A1 117 t < 2147483648) : ∀ (r w q q2 : Nat) (K : Int) (A B : hI) (u : Int32), r + w = W → r < q → r < q2 → WR A A B K (A 16 9) → A 16 9 = d0 + 7 * w → K + 9310000 * r ≤ 998000000 → (∀ q, B 350 q = 0) → SX A1 (r118 A (A1 118)) → sbW B1 B → ∃ (u' : Int32) (A' B' : hI), f_x_judge_78 F q (iI (W : Int)) u (iI (w : Int)) (mk A Bx) = f_x_judge_149 F u' (mk A' Bx) ∧ f_m_judge_81 F q2 u (iI (w : Int)) (mk Ax B) = f_m_judge_203 F u' (mk Ax B') ∧ SX A1 (r118 A' (A1 118)) ∧ sbW B1 B' := by
  intro r
  induction r with
  | zero =>
    intro w q q2 K A B u e hq hq2 hR h9 hK hG hs ht
    obtain ⟨q, rfl⟩ : ∃ k, q = k + 1 := ⟨q - 1, by omega⟩
    obtain ⟨q2, rfl⟩ : ∃ k, q2 = k + 1 := ⟨q2 - 1, by omega⟩
    obtain rfl : w = W := by omega
    have z29 : B 304 29 = 4 * (w : Int) := by rw [ht.2.2.2.1]; exact h29
    refine ⟨u, A, B, ?_, ?_, hs, ht⟩
    · rw [f_x_judge_78]
      exact if_pos (by simp (disch := first | omega | (simp (disch := omega) only [uA_n]; done) | fail) only [iI_lit, iI_add, iI_sub, iI_mul, iI_neg, iI_lt, iI_le, iI_eq, zlt_t, zlt_f, zle_t, zle_f, zeq_t, zeq_f, nle_t, nle_f, iI_cl, rA, rS, rB, wA, wS, wB, mkp, mk2, uA_s, uA_n, ud_s, ud_n, bI_0, bI_1, nor_s, ↓reduceIte, or_false, false_or, or_true, true_or, or_self, not_true_eq_false, not_false_eq_true, and_true, true_and, and_false, false_and, bI_T, bI_F, Int.reduceToNat, Nat.reduceAdd, Nat.reduceMul, Int.reduceNeg, Option.bind_some, Int.toNat_natCast])
    · rw [f_m_judge_81]
      exact if_pos (by simp (disch := first | omega | (simp (disch := omega) only [uA_n]; done) | fail) only [iI_lit, iI_add, iI_sub, iI_mul, iI_neg, iI_lt, iI_le, iI_eq, zlt_t, zlt_f, zle_t, zle_f, zeq_t, zeq_f, nle_t, nle_f, iI_cl, rA, rS, rB, wA, wS, wB, mkp, mk2, uA_s, uA_n, ud_s, ud_n, bI_0, bI_1, nor_s, ↓reduceIte, or_false, false_or, or_true, true_or, or_self, not_true_eq_false, not_false_eq_true, and_true, true_and, and_false, false_and, bI_T, bI_F, Int.reduceToNat, Nat.reduceAdd, Nat.reduceMul, Int.reduceNeg, Option.bind_some, Int.toNat_natCast, z29, iI_div, show 4 * (w : Int) / 4 = w by omega])
  | succ r ih =>
    intro w q q2 K A B u e hq hq2 hR h9 hK hG hs ht
    obtain ⟨q, rfl⟩ : ∃ k, q = k + 1 := ⟨q - 1, by omega⟩
    obtain ⟨q2, rfl⟩ : ∃ k, q2 = k + 1 := ⟨q2 - 1, by omega⟩
    have z29 : B 304 29 = 4 * (W : Int) := by rw [ht.2.2.2.1]; exact h29
    have x0 : ¬ iI (W : Int) ≤ iI (w : Int) := by simp (disch := first | omega | (simp (disch := omega) only [uA_n]; done) | fail) only [iI_lit, iI_add, iI_sub, iI_mul, iI_neg, iI_lt, iI_le, iI_eq, zlt_t, zlt_f, zle_t, zle_f, zeq_t, zeq_f, nle_t, nle_f, iI_cl, rA, rS, rB, wA, wS, wB, mkp, mk2, uA_s, uA_n, ud_s, ud_n, bI_0, bI_1, nor_s, ↓reduceIte, or_false, false_or, or_true, true_or, or_self, not_true_eq_false, not_false_eq_true, and_true, true_and, and_false, false_and, bI_T, bI_F, Int.reduceToNat, Nat.reduceAdd, Nat.reduceMul, Int.reduceNeg, Option.bind_some, Int.toNat_natCast]
    have y0 : ¬ (mk Ax B).1 304 29 / 4 ≤ iI (w : Int) := by simp (disch := first | omega | (simp (disch := omega) only [uA_n]; done) | fail) only [iI_lit, iI_add, iI_sub, iI_mul, iI_neg, iI_lt, iI_le, iI_eq, zlt_t, zlt_f, zle_t, zle_f, zeq_t, zeq_f, nle_t, nle_f, iI_cl, rA, rS, rB, wA, wS, wB, mkp, mk2, uA_s, uA_n, ud_s, ud_n, bI_0, bI_1, nor_s, ↓reduceIte, or_false, false_or, or_true, true_or, or_self, not_true_eq_false, not_false_eq_true, and_true, true_and, and_false, false_and, bI_T, bI_F, Int.reduceToNat, Nat.reduceAdd, Nat.reduceMul, Int.reduceNeg, Option.bind_some, Int.toNat_natCast, z29, iI_div, show 4 * (W : Int) / 4 = W by omega]
    by_cases hu : u = -1
    rotate_left
    · refine ⟨u, A, B, ?_, ?_, hs, ht⟩
      · rw [f_x_judge_78]
        exact (if_neg x0).trans (if_neg hu)
      · rw [f_m_judge_81]
        exact (if_neg y0).trans (if_neg hu)
    subst hu
    have hw : w ≤ 3 := by omega
    have i4 : (iI (w : Int) * 4).toNatClampNeg = 4 * w := by
      simp (disch := first | omega | (simp (disch := omega) only [uA_n]; done) | fail) only [iI_lit, iI_add, iI_sub, iI_mul, iI_neg, iI_lt, iI_le, iI_eq, zlt_t, zlt_f, zle_t, zle_f, zeq_t, zeq_f, nle_t, nle_f, iI_cl, rA, rS, rB, wA, wS, wB, mkp, mk2, uA_s, uA_n, ud_s, ud_n, bI_0, bI_1, nor_s, ↓reduceIte, or_false, false_or, or_true, true_or, or_self, not_true_eq_false, not_false_eq_true, and_true, true_and, and_false, false_and, bI_T, bI_F, Int.reduceToNat, Nat.reduceAdd, Nat.reduceMul, Int.reduceNeg, Option.bind_some, Int.toNat_natCast]
      omega
    have j4 : ∀ j : Nat, j ≤ 3 → (4 * iI (w : Int) + iI (j : Int)).toNatClampNeg = 4 * w + j := fun j hj => by
      simp (disch := first | omega | (simp (disch := omega) only [uA_n]; done) | fail) only [iI_lit, iI_add, iI_sub, iI_mul, iI_neg, iI_lt, iI_le, iI_eq, zlt_t, zlt_f, zle_t, zle_f, zeq_t, zeq_f, nle_t, nle_f, iI_cl, rA, rS, rB, wA, wS, wB, mkp, mk2, uA_s, uA_n, ud_s, ud_n, bI_0, bI_1, nor_s, ↓reduceIte, or_false, false_or, or_true, true_or, or_self, not_true_eq_false, not_false_eq_true, and_true, true_and, and_false, false_and, bI_T, bI_F, Int.reduceToNat, Nat.reduceAdd, Nat.reduceMul, Int.reduceNeg, Option.bind_some, Int.toNat_natCast]
      omega
    have k4 : (4 * iI (w : Int)).toNatClampNeg = 4 * w := by
      simp (disch := first | omega | (simp (disch := omega) only [uA_n]; done) | fail) only [iI_lit, iI_add, iI_sub, iI_mul, iI_neg, iI_lt, iI_le, iI_eq, zlt_t, zlt_f, zle_t, zle_f, zeq_t, zeq_f, nle_t, nle_f, iI_cl, rA, rS, rB, wA, wS, wB, mkp, mk2, uA_s, uA_n, ud_s, ud_n, bI_0, bI_1, nor_s, ↓reduceIte, or_false, false_or, or_true, true_or, or_self, not_true_eq_false, not_false_eq_true, and_true, true_and, and_false, false_and, bI_T, bI_F, Int.reduceToNat, Nat.reduceAdd, Nat.reduceMul, Int.reduceNeg, Option.bind_some, Int.toNat_natCast]
      omega
    have n117 : ∀ t, A 117 t = A1 117 t := fun t => congrFun (hs.1 117 (by omega)) t
    have n317 : B 317 = B1 317 := ht.1 317 (by omega)
    obtain ⟨r0, r1, r2⟩ := hrow (4 * w) (by omega)
    have xr : (mk A Bx).1 117 (iI (w : Int) * 4).toNatClampNeg = iI (A1 117 (4 * w)) := by
      rw [i4, ← n117]; rfl
    have yr : (mk Ax B).1 317 (4 * iI (w : Int)).toNatClampNeg = iI (A1 117 (4 * w)) := by
      rw [k4, r0, ← n317]; rfl
    have X0 : ∀ z, (f_x_isRate F (iI (A1 117 (4 * w))) (mk A Bx)).bind (fun q10 => if q10.1 = 0 then f_x_judge_143 F (f_x_judge_78 F q) (iI (W : Int)) (iI (w : Int) * 4) (iI (w : Int)) q10.2 else (f_World_passDays F 7 0 (m_up q10.2.1 16 10 (iI (A1 117 (4 * w))), q10.2.2)).bind fun q11 => (f_x_noteWeek F (iI (w : Int)) q11.2).bind fun q12 => (f_x_firstWrong F (iI (w : Int)) q12.2).bind fun q13 => f_x_judge_143 F (f_x_judge_78 F q) (iI (W : Int)) q13.1 (iI (w : Int)) q13.2) = z → f_x_judge_78 F (q + 1) (iI (W : Int)) (-1) (iI (w : Int)) (mk A Bx) = z := fun z h => by
      rw [f_x_judge_78]
      refine (if_neg x0).trans ?_
      refine (if_pos rfl).trans ?_
      refine (if_neg (by simp (disch := first | omega | (simp (disch := omega) only [uA_n]; done) | fail) only [iI_lit, iI_add, iI_sub, iI_mul, iI_neg, iI_lt, iI_le, iI_eq, zlt_t, zlt_f, zle_t, zle_f, zeq_t, zeq_f, nle_t, nle_f, iI_cl, rA, rS, rB, wA, wS, wB, mkp, mk2, uA_s, uA_n, ud_s, ud_n, bI_0, bI_1, nor_s, ↓reduceIte, or_false, false_or, or_true, true_or, or_self, not_true_eq_false, not_false_eq_true, and_true, true_and, and_false, false_and, bI_T, bI_F, Int.reduceToNat, Nat.reduceAdd, Nat.reduceMul, Int.reduceNeg, Option.bind_some, Int.toNat_natCast])).trans ?_
      rw [xr]
      exact h
    have Y0 : ∀ z, (f_m_in F (iI (A1 117 (4 * w))) 0 20 (mk Ax B)).bind (fun q6 => if q6.1 = 0 then f_m_judge_197 F (f_m_judge_81 F q2) (4 * iI (w : Int)) (iI (w : Int)) q6.2 else (f_m_goesWeek F (q6.2.1 317 (4 * iI (w : Int)).toNatClampNeg) q6.2).bind fun q7 => (if (4 * iI (w : Int) + 1) < 0 ∨ 60 ≤ (4 * iI (w : Int) + 1).toNatClampNeg then none else ((f_m_hs F (0 : Int32) (2 : Int32) q7.2).bind fun q8 => (if (q7.2.1 317 (4 * iI (w : Int) + 1).toNatClampNeg) = q8.1 then (if (4 * iI (w : Int) + 2) < 0 ∨ 60 ≤ (4 * iI (w : Int) + 2).toNatClampNeg then none else ((f_m_out F q8.2).bind fun q9 => (if (q8.2.1 317 (4 * iI (w : Int) + 2).toNatClampNeg) = q9.1 then (if (4 * iI (w : Int) + 3) < 0 ∨ 60 ≤ (4 * iI (w : Int) + 3).toNatClampNeg then none else ((f_m_downMany F q9.2).bind fun q10 => (if (q9.2.1 317 (4 * iI (w : Int) + 3).toNatClampNeg) = q10.1 then f_m_judge_196 F (f_m_judge_81 F q2) (iI (w : Int)) (-1 : Int32) q10.2 else f_m_judge_196 F (f_m_judge_81 F q2) (iI (w : Int)) (4 * iI (w : Int) + 3) q10.2))) else f_m_judge_196 F (f_m_judge_81 F q2) (iI (w : Int)) (4 * iI (w : Int) + 2) q9.2))) else f_m_judge_196 F (f_m_judge_81 F q2) (iI (w : Int)) (4 * iI (w : Int) + 1) q8.2)))) = z → f_m_judge_81 F (q2 + 1) (-1) (iI (w : Int)) (mk Ax B) = z := fun z h => by
      rw [f_m_judge_81]
      refine (if_neg y0).trans ?_
      refine (if_pos rfl).trans ?_
      refine (if_neg (by simp (disch := first | omega | (simp (disch := omega) only [uA_n]; done) | fail) only [iI_lit, iI_add, iI_sub, iI_mul, iI_neg, iI_lt, iI_le, iI_eq, zlt_t, zlt_f, zle_t, zle_f, zeq_t, zeq_f, nle_t, nle_f, iI_cl, rA, rS, rB, wA, wS, wB, mkp, mk2, uA_s, uA_n, ud_s, ud_n, bI_0, bI_1, nor_s, ↓reduceIte, or_false, false_or, or_true, true_or, or_self, not_true_eq_false, not_false_eq_true, and_true, true_and, and_false, false_and, bI_T, bI_F, Int.reduceToNat, Nat.reduceAdd, Nat.reduceMul, Int.reduceNeg, Option.bind_some, Int.toNat_natCast])).trans ?_
      rw [yr]
      exact h
    have n1 : iI (w : Int) + 1 = iI ((w + 1 : Nat) : Int) := by rw [← iI_s]; rfl
    by_cases c : 0 ≤ A1 117 (4 * w) ∧ A1 117 (4 * w) ≤ 20
    rotate_left
    · -- no rate at all: both give the place, and both end
      have eu : iI (w : Int) * 4 = 4 * iI (w : Int) := by simp (disch := first | omega | (simp (disch := omega) only [uA_n]; done) | fail) only [iI_lit, iI_add, iI_sub, iI_mul, iI_neg, iI_lt, iI_le, iI_eq, zlt_t, zlt_f, zle_t, zle_f, zeq_t, zeq_f, nle_t, nle_f, iI_cl, rA, rS, rB, wA, wS, wB, mkp, mk2, uA_s, uA_n, ud_s, ud_n, bI_0, bI_1, nor_s, ↓reduceIte, or_false, false_or, or_true, true_or, or_self, not_true_eq_false, not_false_eq_true, and_true, true_and, and_false, false_and, bI_T, bI_F, Int.reduceToNat, Nat.reduceAdd, Nat.reduceMul, Int.reduceNeg, Option.bind_some, Int.toNat_natCast]
      obtain ⟨u', A', B', x, y, s2, t2⟩ : ∃ (u' : Int32) (A' B' : hI), f_x_judge_78 F q (iI (W : Int)) (4 * iI (w : Int)) (iI ((w + 1 : Nat) : Int)) (mk A Bx) = f_x_judge_149 F u' (mk A' Bx) ∧ f_m_judge_81 F q2 (4 * iI (w : Int)) (iI ((w + 1 : Nat) : Int)) (mk Ax B) = f_m_judge_203 F u' (mk Ax B') ∧ SX A1 (r118 A' (A1 118)) ∧ sbW B1 B' := by
        have hne : ¬ (4 * iI (w : Int)) = -1 := by simp (disch := first | omega | (simp (disch := omega) only [uA_n]; done) | fail) only [iI_lit, iI_add, iI_sub, iI_mul, iI_neg, iI_lt, iI_le, iI_eq, zlt_t, zlt_f, zle_t, zle_f, zeq_t, zeq_f, nle_t, nle_f, iI_cl, rA, rS, rB, wA, wS, wB, mkp, mk2, uA_s, uA_n, ud_s, ud_n, bI_0, bI_1, nor_s, ↓reduceIte, or_false, false_or, or_true, true_or, or_self, not_true_eq_false, not_false_eq_true, and_true, true_and, and_false, false_and, bI_T, bI_F, Int.reduceToNat, Nat.reduceAdd, Nat.reduceMul, Int.reduceNeg, Option.bind_some, Int.toNat_natCast]
        obtain ⟨q, rfl⟩ : ∃ k, q = k + 1 := ⟨q - 1, by omega⟩
        obtain ⟨q2, rfl⟩ : ∃ k, q2 = k + 1 := ⟨q2 - 1, by omega⟩
        refine ⟨4 * iI (w : Int), A, B, ?_, ?_, hs, ht⟩
        · rw [f_x_judge_78]
          by_cases c2 : iI (W : Int) ≤ iI ((w + 1 : Nat) : Int)
          · exact if_pos c2
          · exact (if_neg c2).trans (if_neg hne)
        · rw [f_m_judge_81]
          by_cases c2 : (mk Ax B).1 304 29 / 4 ≤ iI ((w + 1 : Nat) : Int)
          · exact if_pos c2
          · exact (if_neg c2).trans (if_neg hne)
      refine ⟨u', A', B', X0 _ ?_, Y0 _ ?_, s2, t2⟩
      · refine (askF (ex_isRate F _ _ r1 r2) c).trans ?_
        unfold f_x_judge_143
        rw [n1, eu]
        exact x
      · refine (askF (em_in F _ 0 20 _ r1 r2 (by omega) (by omega) (by omega) (by omega)) c).trans ?_
        unfold f_m_judge_197
        rw [n1]
        exact y
    obtain ⟨A2, B2, x, y, R2, e9, e10, -, s2, t2⟩ := wkT F hR hG hF (by omega) (by omega) (r := A1 117 (4 * w)) c Ax Bx
    have R2r : RR (K + 9310000) (A2 16 9) A2 B2 A2 B2 := ⟨R2, SX.rf _, SB.rf _⟩
    have s3 : SX A1 (r118 A2 (A1 118)) := hs.tr (s2.no118 _)
    have m117 : A2 117 = A1 117 := by
      have z := s3.1 117 (by omega)
      rw [r118_o _ _ (by omega)] at z
      exact z
    have m317 : B2 317 = B1 317 := (t2.1 317 (by omega)).trans n317
    have hg := R2r.gH.hg 0 (by omega)
    have w117 : nwk A2 w 117 = A1 117 := (nwk_o A2 w (by omega)).trans m117
    have v0 : nwk A2 w 118 (4 * w) = A2 16 10 := by
      unfold nwk
      rw [uA_s, ud_n (by omega), uA_s, ud_n (by omega), uA_s, ud_n (by omega), uA_s, ud_s]
    have v1 : nwk A2 w 118 (4 * w + 1) = A2 22 0 := by
      unfold nwk
      rw [uA_s, ud_n (by omega), uA_s, ud_n (by omega), uA_s, ud_s]
    have v2 : nwk A2 w 118 (4 * w + 2) = 10 * A2 55 9 := by
      unfold nwk
      rw [uA_s, ud_n (by omega), uA_s, ud_s]
    have v3 : nwk A2 w 118 (4 * w + 3) = A2 19 12 := by
      unfold nwk
      rw [uA_s, ud_s]
    obtain ⟨u', A', B', x3, y3, s4, t4⟩ := ih (w + 1) q q2 (K + 9310000) (nwk A2 w) B2 (fwr w (nwk A2 w 117) (nwk A2 w 118)) (by omega) (by omega) (by omega) (by rw [nwk_o A2 w (show 16 ≠ 118 by omega)]; exact R2.nwk w) (by rw [nwk_o A2 w (show 16 ≠ 118 by omega)]; omega) (by omega) (fun q => by rw [t2.1 350 (by omega)]; exact hG q) (by rw [r118_n]; exact s3) (ht.tr t2)
    refine ⟨u', A', B', X0 _ ?_, Y0 _ ?_, s4, t4⟩
    · refine (askT (ex_isRate F _ _ r1 r2) c).trans ?_
      refine obd (v := ((), mk A2 Bx)) (Eq.trans (by simp (disch := first | omega | (simp (disch := omega) only [uA_n]; done) | fail) only [iI_lit, iI_add, iI_sub, iI_mul, iI_neg, iI_lt, iI_le, iI_eq, zlt_t, zlt_f, zle_t, zle_f, zeq_t, zeq_f, nle_t, nle_f, iI_cl, rA, rS, rB, wA, wS, wB, mkp, mk2, uA_s, uA_n, ud_s, ud_n, bI_0, bI_1, nor_s, ↓reduceIte, or_false, false_or, or_true, true_or, or_self, not_true_eq_false, not_false_eq_true, and_true, true_and, and_false, false_and, bI_T, bI_F, Int.reduceToNat, Nat.reduceAdd, Nat.reduceMul, Int.reduceNeg, Option.bind_some, Int.toNat_natCast]) x) ?_
      refine obd (ex_noteWeek F A2 Bx hw) ?_
      refine obd (ex_firstWrong F hF (nwk A2 w) Bx hw (by rw [w117, v0, e10])) ?_
      unfold f_x_judge_143
      rw [n1]
      exact x3
    · refine (askT (em_in F _ 0 20 _ r1 r2 (by omega) (by omega) (by omega) (by omega)) c).trans ?_
      refine obd (v := ((), mk Ax B2)) (Eq.trans (congrArg (fun z => f_m_goesWeek F z (mk Ax B)) yr) y) ?_
      refine (if_neg (by simp (disch := first | omega | (simp (disch := omega) only [uA_n]; done) | fail) only [iI_lit, iI_add, iI_sub, iI_mul, iI_neg, iI_lt, iI_le, iI_eq, zlt_t, zlt_f, zle_t, zle_f, zeq_t, zeq_f, nle_t, nle_f, iI_cl, rA, rS, rB, wA, wS, wB, mkp, mk2, uA_s, uA_n, ud_s, ud_n, bI_0, bI_1, nor_s, ↓reduceIte, or_false, false_or, or_true, true_or, or_self, not_true_eq_false, not_false_eq_true, and_true, true_and, and_false, false_and, bI_T, bI_F, Int.reduceToNat, Nat.reduceAdd, Nat.reduceMul, Int.reduceNeg, Option.bind_some, Int.toNat_natCast])).trans ?_
      have yh := em_hs F 0 2 Ax B2 (by omega) (by omega) (by omega) (by omega)
      rw [show B2 (410 + (2 : Int).toNat) (0 : Int).toNat = A2 22 0 from hg] at yh
      refine obd yh ?_
      have rd : ∀ j : Nat, j ≤ 3 → (mk Ax B2).1 317 (4 * iI (w : Int) + iI (j : Int)).toNatClampNeg = iI (nwk A2 w 117 (4 * w + j)) := fun j hj => by
        rw [j4 j hj, w117, (hrow (4 * w + j) (by omega)).1, ← m317]; rfl
      have d1 : (mk Ax B2).1 317 (4 * iI (w : Int) + 1).toNatClampNeg = iI (nwk A2 w 117 (4 * w + 1)) := rd 1 (by omega)
      have d2 : (mk Ax B2).1 317 (4 * iI (w : Int) + 2).toNatClampNeg = iI (nwk A2 w 117 (4 * w + 2)) := rd 2 (by omega)
      have d3 : (mk Ax B2).1 317 (4 * iI (w : Int) + 3).toNatClampNeg = iI (nwk A2 w 117 (4 * w + 3)) := rd 3 (by omega)
      have g1 : 4 * iI (w : Int) + 1 = iI ((4 * w + 1 : Nat) : Int) := by simp (disch := first | omega | (simp (disch := omega) only [uA_n]; done) | fail) only [iI_lit, iI_add, iI_sub, iI_mul, iI_neg, iI_lt, iI_le, iI_eq, zlt_t, zlt_f, zle_t, zle_f, zeq_t, zeq_f, nle_t, nle_f, iI_cl, rA, rS, rB, wA, wS, wB, mkp, mk2, uA_s, uA_n, ud_s, ud_n, bI_0, bI_1, nor_s, ↓reduceIte, or_false, false_or, or_true, true_or, or_self, not_true_eq_false, not_false_eq_true, and_true, true_and, and_false, false_and, bI_T, bI_F, Int.reduceToNat, Nat.reduceAdd, Nat.reduceMul, Int.reduceNeg, Option.bind_some, Int.toNat_natCast]
      have g2 : 4 * iI (w : Int) + 2 = iI ((4 * w + 2 : Nat) : Int) := by simp (disch := first | omega | (simp (disch := omega) only [uA_n]; done) | fail) only [iI_lit, iI_add, iI_sub, iI_mul, iI_neg, iI_lt, iI_le, iI_eq, zlt_t, zlt_f, zle_t, zle_f, zeq_t, zeq_f, nle_t, nle_f, iI_cl, rA, rS, rB, wA, wS, wB, mkp, mk2, uA_s, uA_n, ud_s, ud_n, bI_0, bI_1, nor_s, ↓reduceIte, or_false, false_or, or_true, true_or, or_self, not_true_eq_false, not_false_eq_true, and_true, true_and, and_false, false_and, bI_T, bI_F, Int.reduceToNat, Nat.reduceAdd, Nat.reduceMul, Int.reduceNeg, Option.bind_some, Int.toNat_natCast]
      have g3 : 4 * iI (w : Int) + 3 = iI ((4 * w + 3 : Nat) : Int) := by simp (disch := first | omega | (simp (disch := omega) only [uA_n]; done) | fail) only [iI_lit, iI_add, iI_sub, iI_mul, iI_neg, iI_lt, iI_le, iI_eq, zlt_t, zlt_f, zle_t, zle_f, zeq_t, zeq_f, nle_t, nle_f, iI_cl, rA, rS, rB, wA, wS, wB, mkp, mk2, uA_s, uA_n, ud_s, ud_n, bI_0, bI_1, nor_s, ↓reduceIte, or_false, false_or, or_true, true_or, or_self, not_true_eq_false, not_false_eq_true, and_true, true_and, and_false, false_and, bI_T, bI_F, Int.reduceToNat, Nat.reduceAdd, Nat.reduceMul, Int.reduceNeg, Option.bind_some, Int.toNat_natCast]
      rw [← n1] at y3
      unfold fwr at y3
      rw [v1, v2, v3] at y3
      by_cases c1 : iI (nwk A2 w 117 (4 * w + 1)) = iI (A2 22 0)
      rotate_left
      · rw [if_neg c1] at y3
        refine (if_neg (fun z => c1 (d1.symm.trans z))).trans ?_
        unfold f_m_judge_196 f_m_judge_197
        rw [g1]
        exact y3
      rw [if_pos c1] at y3
      refine (if_pos (d1.trans c1)).trans ?_
      refine (if_neg (by simp (disch := first | omega | (simp (disch := omega) only [uA_n]; done) | fail) only [iI_lit, iI_add, iI_sub, iI_mul, iI_neg, iI_lt, iI_le, iI_eq, zlt_t, zlt_f, zle_t, zle_f, zeq_t, zeq_f, nle_t, nle_f, iI_cl, rA, rS, rB, wA, wS, wB, mkp, mk2, uA_s, uA_n, ud_s, ud_n, bI_0, bI_1, nor_s, ↓reduceIte, or_false, false_or, or_true, true_or, or_self, not_true_eq_false, not_false_eq_true, and_true, true_and, and_false, false_and, bI_T, bI_F, Int.reduceToNat, Nat.reduceAdd, Nat.reduceMul, Int.reduceNeg, Option.bind_some, Int.toNat_natCast])).trans ?_
      refine obd (em_out F R2r hF Ax) ?_
      by_cases c2 : iI (nwk A2 w 117 (4 * w + 2)) = iI (10 * A2 55 9)
      rotate_left
      · rw [if_neg c2] at y3
        refine (if_neg (fun z => c2 (d2.symm.trans z))).trans ?_
        unfold f_m_judge_196 f_m_judge_197
        rw [g2]
        exact y3
      rw [if_pos c2] at y3
      refine (if_pos (d2.trans c2)).trans ?_
      refine (if_neg (by simp (disch := first | omega | (simp (disch := omega) only [uA_n]; done) | fail) only [iI_lit, iI_add, iI_sub, iI_mul, iI_neg, iI_lt, iI_le, iI_eq, zlt_t, zlt_f, zle_t, zle_f, zeq_t, zeq_f, nle_t, nle_f, iI_cl, rA, rS, rB, wA, wS, wB, mkp, mk2, uA_s, uA_n, ud_s, ud_n, bI_0, bI_1, nor_s, ↓reduceIte, or_false, false_or, or_true, true_or, or_self, not_true_eq_false, not_false_eq_true, and_true, true_and, and_false, false_and, bI_T, bI_F, Int.reduceToNat, Nat.reduceAdd, Nat.reduceMul, Int.reduceNeg, Option.bind_some, Int.toNat_natCast])).trans ?_
      refine obd (em_downMany F R2r hF Ax) ?_
      by_cases c3 : iI (nwk A2 w 117 (4 * w + 3)) = iI (A2 19 12)
      rotate_left
      · rw [if_neg c3] at y3
        refine (if_neg (fun z => c3 (d3.symm.trans z))).trans ?_
        unfold f_m_judge_196 f_m_judge_197
        rw [g3]
        exact y3
      rw [if_pos c3] at y3
      refine (if_pos (d3.trans c3)).trans ?_
      unfold f_m_judge_196 f_m_judge_197
      exact y3
theorem c_judge (h : Inv i A B) (hi : i < 512) (hF : 10000 ≤ F) : CP i A B (f_x_judge F) (f_m_judge F) := by
  have R := h.rr
  have hK := h.kmx (by omega)
  have d1 := R.gD.dd1
  have d2 := R.gD.dd2
  have d3 := R.gD.dd3
  rcases h.2.2.2.1 with ⟨z1, z2⟩ | ⟨z1, z2, z3, z4, z5⟩
  · refine cp_no F h (v := -2) (by omega) (by omega) (fun Bx => ?_) (fun Ax => ?_)
    · unfold f_x_judge
      exact (if_pos (by simp (disch := first | omega | (simp (disch := omega) only [uA_n]; done) | fail) only [iI_lit, iI_add, iI_sub, iI_mul, iI_neg, iI_lt, iI_le, iI_eq, zlt_t, zlt_f, zle_t, zle_f, zeq_t, zeq_f, nle_t, nle_f, iI_cl, rA, rS, rB, wA, wS, wB, mkp, mk2, uA_s, uA_n, ud_s, ud_n, bI_0, bI_1, nor_s, ↓reduceIte, or_false, false_or, or_true, true_or, or_self, not_true_eq_false, not_false_eq_true, and_true, true_and, and_false, false_and, bI_T, bI_F, Int.reduceToNat, Nat.reduceAdd, Nat.reduceMul, Int.reduceNeg, Option.bind_some, Int.toNat_natCast, z1])).trans rfl
    · unfold f_m_judge
      exact (if_pos (by simp (disch := first | omega | (simp (disch := omega) only [uA_n]; done) | fail) only [iI_lit, iI_add, iI_sub, iI_mul, iI_neg, iI_lt, iI_le, iI_eq, zlt_t, zlt_f, zle_t, zle_f, zeq_t, zeq_f, nle_t, nle_f, iI_cl, rA, rS, rB, wA, wS, wB, mkp, mk2, uA_s, uA_n, ud_s, ud_n, bI_0, bI_1, nor_s, ↓reduceIte, or_false, false_or, or_true, true_or, or_self, not_true_eq_false, not_false_eq_true, and_true, true_and, and_false, false_and, bI_T, bI_F, Int.reduceToNat, Nat.reduceAdd, Nat.reduceMul, Int.reduceNeg, Option.bind_some, Int.toNat_natCast, z2])).trans rfl
  have x0 : ∀ Bx, ¬ (mk A Bx).1 0 10 = -1 := fun Bx => by simp (disch := first | omega | (simp (disch := omega) only [uA_n]; done) | fail) only [iI_lit, iI_add, iI_sub, iI_mul, iI_neg, iI_lt, iI_le, iI_eq, zlt_t, zlt_f, zle_t, zle_f, zeq_t, zeq_f, nle_t, nle_f, iI_cl, rA, rS, rB, wA, wS, wB, mkp, mk2, uA_s, uA_n, ud_s, ud_n, bI_0, bI_1, nor_s, ↓reduceIte, or_false, false_or, or_true, true_or, or_self, not_true_eq_false, not_false_eq_true, and_true, true_and, and_false, false_and, bI_T, bI_F, Int.reduceToNat, Nat.reduceAdd, Nat.reduceMul, Int.reduceNeg, Option.bind_some, Int.toNat_natCast]
  have y0 : ∀ Ax, ¬ (mk Ax B).1 304 30 = 0 := fun Ax => by simp (disch := first | omega | (simp (disch := omega) only [uA_n]; done) | fail) only [iI_lit, iI_add, iI_sub, iI_mul, iI_neg, iI_lt, iI_le, iI_eq, zlt_t, zlt_f, zle_t, zle_f, zeq_t, zeq_f, nle_t, nle_f, iI_cl, rA, rS, rB, wA, wS, wB, mkp, mk2, uA_s, uA_n, ud_s, ud_n, bI_0, bI_1, nor_s, ↓reduceIte, or_false, false_or, or_true, true_or, or_self, not_true_eq_false, not_false_eq_true, and_true, true_and, and_false, false_and, bI_T, bI_F, Int.reduceToNat, Nat.reduceAdd, Nat.reduceMul, Int.reduceNeg, Option.bind_some, Int.toNat_natCast, z3]
  by_cases c1 : A 0 10 / 4 * 4 = A 0 10
  rotate_left
  · refine cp_no F h (v := -5) (by omega) (by omega) (fun Bx => ?_) (fun Ax => ?_)
    · unfold f_x_judge f_x_judge_39
      refine (if_neg (x0 Bx)).trans ?_
      exact (if_neg (by simp (disch := first | omega | (simp (disch := omega) only [uA_n]; done) | fail) only [iI_lit, iI_add, iI_sub, iI_mul, iI_neg, iI_lt, iI_le, iI_eq, zlt_t, zlt_f, zle_t, zle_f, zeq_t, zeq_f, nle_t, nle_f, iI_cl, rA, rS, rB, wA, wS, wB, mkp, mk2, uA_s, uA_n, ud_s, ud_n, bI_0, bI_1, nor_s, ↓reduceIte, or_false, false_or, or_true, true_or, or_self, not_true_eq_false, not_false_eq_true, and_true, true_and, and_false, false_and, bI_T, bI_F, Int.reduceToNat, Nat.reduceAdd, Nat.reduceMul, Int.reduceNeg, Option.bind_some, Int.toNat_natCast, iI_div])).trans rfl
    · unfold f_m_judge f_m_judge_37
      refine (if_neg (y0 Ax)).trans ?_
      exact (if_neg (by simp (disch := first | omega | (simp (disch := omega) only [uA_n]; done) | fail) only [iI_lit, iI_add, iI_sub, iI_mul, iI_neg, iI_lt, iI_le, iI_eq, zlt_t, zlt_f, zle_t, zle_f, zeq_t, zeq_f, nle_t, nle_f, iI_cl, rA, rS, rB, wA, wS, wB, mkp, mk2, uA_s, uA_n, ud_s, ud_n, bI_0, bI_1, nor_s, ↓reduceIte, or_false, false_or, or_true, true_or, or_self, not_true_eq_false, not_false_eq_true, and_true, true_and, and_false, false_and, bI_T, bI_F, Int.reduceToNat, Nat.reduceAdd, Nat.reduceMul, Int.reduceNeg, Option.bind_some, Int.toNat_natCast, z4, iI_div])).trans rfl
  obtain ⟨W, hWe⟩ : ∃ n : Nat, A 0 10 / 4 = n := ⟨(A 0 10 / 4).toNat, by omega⟩
  have xW : ∀ Bx, (mk A Bx).1 0 10 / 4 = iI (W : Int) := fun Bx => by simp (disch := first | omega | (simp (disch := omega) only [uA_n]; done) | fail) only [iI_lit, iI_add, iI_sub, iI_mul, iI_neg, iI_lt, iI_le, iI_eq, zlt_t, zlt_f, zle_t, zle_f, zeq_t, zeq_f, nle_t, nle_f, iI_cl, rA, rS, rB, wA, wS, wB, mkp, mk2, uA_s, uA_n, ud_s, ud_n, bI_0, bI_1, nor_s, ↓reduceIte, or_false, false_or, or_true, true_or, or_self, not_true_eq_false, not_false_eq_true, and_true, true_and, and_false, false_and, bI_T, bI_F, Int.reduceToNat, Nat.reduceAdd, Nat.reduceMul, Int.reduceNeg, Option.bind_some, Int.toNat_natCast, iI_div, hWe]
  have yW : ∀ Ax, (mk Ax B).1 304 29 / 4 = iI (W : Int) := fun Ax => by simp (disch := first | omega | (simp (disch := omega) only [uA_n]; done) | fail) only [iI_lit, iI_add, iI_sub, iI_mul, iI_neg, iI_lt, iI_le, iI_eq, zlt_t, zlt_f, zle_t, zle_f, zeq_t, zeq_f, nle_t, nle_f, iI_cl, rA, rS, rB, wA, wS, wB, mkp, mk2, uA_s, uA_n, ud_s, ud_n, bI_0, bI_1, nor_s, ↓reduceIte, or_false, false_or, or_true, true_or, or_self, not_true_eq_false, not_false_eq_true, and_true, true_and, and_false, false_and, bI_T, bI_F, Int.reduceToNat, Nat.reduceAdd, Nat.reduceMul, Int.reduceNeg, Option.bind_some, Int.toNat_natCast, z4, iI_div, hWe]
  have xt := fun Bx : hI => ex_tryLen F (W : Int) (mk A Bx) (by omega) (by omega)
  have yt := fun Ax : hI => em_in F (W : Int) 1 4 (mk Ax B) (by omega) (by omega) (by omega) (by omega) (by omega) (by omega)
  have XG : ∀ (Bx : hI) z, (f_x_isTryLength F (iI (W : Int)) (mk A Bx)).bind (fun q2 => if q2.1 = 0 then f_x_judge_39 F q2.2 else (f_x_isTooLate F (iI (W : Int)) q2.2).bind fun q3 => (if q3.1 = 0 then (f_World_become_120_16 F q3.2).bind fun q4 => f_x_judge_78 F F (iI (W : Int)) (-1) 0 q4.2 else (f_x_refuse F (-8) q3.2).bind fun q8 => some (q8.1, q8.2))) = z → f_x_judge F (mk A Bx) = z := fun Bx z h => by
    unfold f_x_judge
    refine (if_neg (x0 Bx)).trans ?_
    refine (if_pos (by simp (disch := first | omega | (simp (disch := omega) only [uA_n]; done) | fail) only [iI_lit, iI_add, iI_sub, iI_mul, iI_neg, iI_lt, iI_le, iI_eq, zlt_t, zlt_f, zle_t, zle_f, zeq_t, zeq_f, nle_t, nle_f, iI_cl, rA, rS, rB, wA, wS, wB, mkp, mk2, uA_s, uA_n, ud_s, ud_n, bI_0, bI_1, nor_s, ↓reduceIte, or_false, false_or, or_true, true_or, or_self, not_true_eq_false, not_false_eq_true, and_true, true_and, and_false, false_and, bI_T, bI_F, Int.reduceToNat, Nat.reduceAdd, Nat.reduceMul, Int.reduceNeg, Option.bind_some, Int.toNat_natCast, iI_div, c1])).trans ?_
    rw [xW]
    exact h
  have YG : ∀ (Ax : hI) z, (f_m_in F (iI (W : Int)) 1 4 (mk Ax B)).bind (fun q2 => if q2.1 = 0 then f_m_judge_37 F q2.2 else (if ((q2.2.1 305 (0 : Int32).toNatClampNeg) + (7 : Int32) * (q2.2.1 304 29 / 4)) ≤ 700 then (f_m_begin F q2.2).bind fun q3 => f_m_judge_81 F F (-1) 0 q3.2 else (f_m_refuse F (-8) q2.2).bind fun q4 => some (q4.1, q4.2))) = z → f_m_judge F (mk Ax B) = z := fun Ax z h => by
    unfold f_m_judge
    refine (if_neg (y0 Ax)).trans ?_
    refine (if_pos (by simp (disch := first | omega | (simp (disch := omega) only [uA_n]; done) | fail) only [iI_lit, iI_add, iI_sub, iI_mul, iI_neg, iI_lt, iI_le, iI_eq, zlt_t, zlt_f, zle_t, zle_f, zeq_t, zeq_f, nle_t, nle_f, iI_cl, rA, rS, rB, wA, wS, wB, mkp, mk2, uA_s, uA_n, ud_s, ud_n, bI_0, bI_1, nor_s, ↓reduceIte, or_false, false_or, or_true, true_or, or_self, not_true_eq_false, not_false_eq_true, and_true, true_and, and_false, false_and, bI_T, bI_F, Int.reduceToNat, Nat.reduceAdd, Nat.reduceMul, Int.reduceNeg, Option.bind_some, Int.toNat_natCast, z4, iI_div, c1])).trans ?_
    rw [yW]
    exact h
  by_cases c2 : 1 ≤ (W : Int) ∧ (W : Int) ≤ 4
  rotate_left
  · refine cp_no F h (v := -5) (by omega) (by omega) (fun Bx => ?_) (fun Ax => ?_)
    · exact XG Bx _ ((askF (xt Bx) c2).trans rfl)
    · exact YG Ax _ ((askF (yt Ax) c2).trans rfl)
  have hW : W ≤ 4 := by omega
  by_cases c3 : 700 < A 16 9 + 7 * (W : Int)
  · refine cp_no F h (v := -8) (by omega) (by omega) (fun Bx => ?_) (fun Ax => ?_)
    · exact XG Bx _ ((askT (xt Bx) c2).trans ((askT (ex_tooLate F Bx c2 ⟨d1, d2⟩) c3).trans rfl))
    · refine YG Ax _ ((askT (yt Ax) c2).trans ?_)
      refine (if_neg ?_).trans rfl
      show ¬ ((mk Ax B).1 305 0 + 7 * ((mk Ax B).1 304 29 / 4)) ≤ 700
      rw [yW]
      simp (disch := first | omega | (simp (disch := omega) only [uA_n]; done) | fail) only [iI_lit, iI_add, iI_sub, iI_mul, iI_neg, iI_lt, iI_le, iI_eq, zlt_t, zlt_f, zle_t, zle_f, zeq_t, zeq_f, nle_t, nle_f, iI_cl, rA, rS, rB, wA, wS, wB, mkp, mk2, uA_s, uA_n, ud_s, ud_n, bI_0, bI_1, nor_s, ↓reduceIte, or_false, false_or, or_true, true_or, or_self, not_true_eq_false, not_false_eq_true, and_true, true_and, and_false, false_and, bI_T, bI_F, Int.reduceToNat, Nat.reduceAdd, Nat.reduceMul, Int.reduceNeg, Option.bind_some, Int.toNat_natCast, dS, d3]
  intro Ax Bx
  have hA1 : ∀ k : Nat, ¬ (120 ≤ k ∧ k < 166) → bec A 0 104 k = A k := fun k hk => bec_o (by omega)
  have hB1 : ∀ k : Nat, ¬ (2400 ≤ k ∧ k < 2724) → imB B 2000 0 k = B k := fun k hk => imB_o (by omega)
  have W1 : WR (bec A 0 104) (bec A 0 104) (imB B 2000 0) (KMX i (A 16 9)) (A 16 9) := h.1.cg (fun k hk => hA1 k (by omega)) (fun k hk => hA1 k (by omega)) (fun k hk => hB1 k (by omega))
  have e9 : bec A 0 104 16 9 = A 16 9 := by rw [hA1 16 (by omega)]
  rw [← e9] at W1
  have row : ∀ t : Nat, t < 4 * W → bec A 0 104 117 t = imB B 2000 0 317 t ∧ -2147483648 ≤ bec A 0 104 117 t ∧ bec A 0 104 117 t < 2147483648 := fun t ht => by
    rw [hA1 117 (by omega), hB1 317 (by omega)]
    exact z5 t (by omega)
  obtain ⟨u', A2, B2, x, y, s2', t2⟩ := jdg_loop F (by omega) (W := W) hW (d0 := A 16 9) (by omega) Ax Bx (A1 := bec A 0 104) (B1 := imB B 2000 0) (by rw [hB1 304 (by omega)]; omega) row W 0 F F (KMX i (bec A 0 104 16 9)) (bec A 0 104) (imB B 2000 0) (-1) (by omega) (by omega) (by omega) W1 (by rw [e9]; omega) (by rw [e9]; unfold KMX; omega) (fun q => by rw [hB1 350 (by omega)]; exact (h.2.2.2.2.2 q).1) (by rw [r118_i]; exact SX.rf _) (sbW.rf _)
  obtain ⟨s21', s22, s23, s24'⟩ := s2'
  have s21 : ∀ k : Nat, k ≠ 118 → (k < 2 ∨ (8 ≤ k ∧ k < 15) ∨ 62 ≤ k) → A2 k = bec A 0 104 k := fun k h1 h2 => by
    have z := s21' k h2
    rw [r118_o _ _ h1] at z
    exact z
  have s24 : AGR (bec A 0 104) (bec A 0 104) A2 := s24'
  have xe := ex_bc_16_120 F A2 Bx
  have ye := em_end F hF Ax B2
  have inv : Inv (i + 1) (bec A2 104 0) (imB B2 0 2000) := by
    refine (h.rest (by omega) (fun k j hz => ?_) ?_ (fun k hk => ?_) (fun k hk => ?_) ?_).up
    · have z := bec_i A2 (s := 104) (t := 0) (k := k) (j := j) hz
      rw [Nat.add_zero] at z
      rw [z, s21 (k + 104) (by omega) (by omega)]
      exact bec_i A (s := 0) (t := 104) hz
    · exact s24.of (by rw [hA1 55 (by omega)]) (by rw [hA1 59 (by omega)]) (by rw [hA1 55 (by omega)]) (by rw [hA1 16 (by omega)]) (by rw [hA1 16 (by omega)]) (fun k h1 h2 => (hA1 k (by omega)).symm) (fun k h1 h2 => bec_o (by omega))
    · rw [bec_o (by omega), s21 k (by omega) (by omega), hA1 k (by omega)]
    · by_cases q : 400 ≤ k ∧ k < 724 ∧ k ≠ 498
      · exact imB_back (fun k h1 h2 => t2.1 k (by omega)) q.1 q.2.1 q.2.2
      · rw [imB_o (by omega), t2.1 k (by omega), hB1 k (by omega)]
    · rw [imB_o (by omega), t2.2.1, t2.2.2.1, t2.2.2.2.1, t2.2.2.2.2, hB1 304 (by omega)]
      exact ⟨rfl, rfl, rfl, rfl⟩
  refine ⟨u', bec A2 104 0, imB B2 0 2000, XG Bx _ ?_, YG Ax _ ?_, inv⟩
  · refine (askT (xt Bx) c2).trans ?_
    refine (askF (ex_tooLate F Bx c2 ⟨d1, d2⟩) c3).trans ?_
    refine obd (ex_bc_120_16 F A Bx) ?_
    refine x.trans ?_
    unfold f_x_judge_149
    refine (if_pos rfl).trans ?_
    exact obd xe rfl
  · refine (askT (yt Ax) c2).trans ?_
    refine (if_pos ?_).trans ?_
    · show ((mk Ax B).1 305 0 + 7 * ((mk Ax B).1 304 29 / 4)) ≤ 700
      rw [yW]
      simp (disch := first | omega | (simp (disch := omega) only [uA_n]; done) | fail) only [iI_lit, iI_add, iI_sub, iI_mul, iI_neg, iI_lt, iI_le, iI_eq, zlt_t, zlt_f, zle_t, zle_f, zeq_t, zeq_f, nle_t, nle_f, iI_cl, rA, rS, rB, wA, wS, wB, mkp, mk2, uA_s, uA_n, ud_s, ud_n, bI_0, bI_1, nor_s, ↓reduceIte, or_false, false_or, or_true, true_or, or_self, not_true_eq_false, not_false_eq_true, and_true, true_and, and_false, false_and, bI_T, bI_F, Int.reduceToNat, Nat.reduceAdd, Nat.reduceMul, Int.reduceNeg, Option.bind_some, Int.toNat_natCast, dS, d3]
    refine obd (em_begin F hF Ax B) ?_
    refine y.trans ?_
    unfold f_m_judge_203
    exact obd ye rfl
end JUDG
