/-! NOTES ISSUED, on both sides -/
def isA (to : Int) : Nat → Nat → Nat → hI → hI × Nat
  | 0, _, left, A => (A, left)
  | f + 1, k, left, A => if left = 0 then (A, 0) else if A 56 k = 2 then isA to f (k + 1) (left - 1) (xIs A k to) else isA to f (k + 1) left A
def isB (to : Int) : Nat → Nat → Nat → hI → hI × Nat
  | 0, _, left, B => (B, left)
  | f + 1, k, left, B => if left = 0 then (B, 0) else if B 422 k = 2 then isB to f (k + 1) (left - 1) (mIs B k to) else isB to f (k + 1) left B
def nwA (to : Int) : Nat → hI → hI
  | 0, A => A
  | n + 1, A => nwA to n (xNw A to)
def nwB (to : Int) : Nat → Nat → hI → hI
  | 0, _, B => B
  | n + 1, k, B => nwB to n (k + 1) (mNw B k to)
theorem isA_0 (to : Int) (f k : Nat) (A : hI) : isA to f k 0 A = (A, 0) := by cases f with | zero => rfl | succ f => exact if_pos rfl
theorem isB_0 (to : Int) (f k : Nat) (A : hI) : isB to f k 0 A = (A, 0) := by cases f with | zero => rfl | succ f => exact if_pos rfl
theorem xIs_c (A : hI) (k : Nat) (to : Int) : xIs A k to 56 = ud (A 56) k 1 ∧ xIs A k to 55 7 = A 55 7 ∧ xIs A k to 55 8 = A 55 8 ∧ xIs A k to 55 10 = A 55 10 - 1 ∧ ∀ q : Nat, ¬ (q = 3) ∧ ¬ (55 ≤ q ∧ q ≤ 61) → xIs A k to q = A q := by
  unfold xIs
  refine ⟨?_, ?_, ?_, ?_, fun q hq => ?_⟩
  · rw [xMv_o _ _ _ (by omega)]; simp (disch := first | omega | (simp (disch := omega) only [uA_n]; done) | fail) only [iI_lit, iI_add, iI_sub, iI_mul, iI_neg, iI_lt, iI_le, iI_eq, zlt_t, zlt_f, zle_t, zle_f, zeq_t, zeq_f, nle_t, nle_f, iI_cl, rA, rS, rB, wA, wS, wB, mkp, mk2, uA_s, uA_n, ud_s, ud_n, bI_0, bI_1, nor_s, reduceIte, or_false, false_or, or_true, true_or, or_self, not_true_eq_false, not_false_eq_true, and_true, true_and, and_false, false_and, bI_T, bI_F, Int.reduceToNat, Nat.reduceAdd, Nat.reduceMul, Int.reduceNeg, Option.bind_some, Int.toNat_natCast]
  · rw [xMv_o _ _ _ (by omega)]; simp (disch := first | omega | (simp (disch := omega) only [uA_n]; done) | fail) only [iI_lit, iI_add, iI_sub, iI_mul, iI_neg, iI_lt, iI_le, iI_eq, zlt_t, zlt_f, zle_t, zle_f, zeq_t, zeq_f, nle_t, nle_f, iI_cl, rA, rS, rB, wA, wS, wB, mkp, mk2, uA_s, uA_n, ud_s, ud_n, bI_0, bI_1, nor_s, reduceIte, or_false, false_or, or_true, true_or, or_self, not_true_eq_false, not_false_eq_true, and_true, true_and, and_false, false_and, bI_T, bI_F, Int.reduceToNat, Nat.reduceAdd, Nat.reduceMul, Int.reduceNeg, Option.bind_some, Int.toNat_natCast]
  · rw [xMv_o _ _ _ (by omega)]; simp (disch := first | omega | (simp (disch := omega) only [uA_n]; done) | fail) only [iI_lit, iI_add, iI_sub, iI_mul, iI_neg, iI_lt, iI_le, iI_eq, zlt_t, zlt_f, zle_t, zle_f, zeq_t, zeq_f, nle_t, nle_f, iI_cl, rA, rS, rB, wA, wS, wB, mkp, mk2, uA_s, uA_n, ud_s, ud_n, bI_0, bI_1, nor_s, reduceIte, or_false, false_or, or_true, true_or, or_self, not_true_eq_false, not_false_eq_true, and_true, true_and, and_false, false_and, bI_T, bI_F, Int.reduceToNat, Nat.reduceAdd, Nat.reduceMul, Int.reduceNeg, Option.bind_some, Int.toNat_natCast]
  · rw [xMv_o _ _ _ (by omega)]; simp (disch := first | omega | (simp (disch := omega) only [uA_n]; done) | fail) only [iI_lit, iI_add, iI_sub, iI_mul, iI_neg, iI_lt, iI_le, iI_eq, zlt_t, zlt_f, zle_t, zle_f, zeq_t, zeq_f, nle_t, nle_f, iI_cl, rA, rS, rB, wA, wS, wB, mkp, mk2, uA_s, uA_n, ud_s, ud_n, bI_0, bI_1, nor_s, reduceIte, or_false, false_or, or_true, true_or, or_self, not_true_eq_false, not_false_eq_true, and_true, true_and, and_false, false_and, bI_T, bI_F, Int.reduceToNat, Nat.reduceAdd, Nat.reduceMul, Int.reduceNeg, Option.bind_some, Int.toNat_natCast]
  · rw [xMv_o _ _ _ (by omega)]; simp (disch := first | omega | (simp (disch := omega) only [uA_n]; done) | fail) only [iI_lit, iI_add, iI_sub, iI_mul, iI_neg, iI_lt, iI_le, iI_eq, zlt_t, zlt_f, zle_t, zle_f, zeq_t, zeq_f, nle_t, nle_f, iI_cl, rA, rS, rB, wA, wS, wB, mkp, mk2, uA_s, uA_n, ud_s, ud_n, bI_0, bI_1, nor_s, reduceIte, or_false, false_or, or_true, true_or, or_self, not_true_eq_false, not_false_eq_true, and_true, true_and, and_false, false_and, bI_T, bI_F, Int.reduceToNat, Nat.reduceAdd, Nat.reduceMul, Int.reduceNeg, Option.bind_some, Int.toNat_natCast]
section ISSU
variable {K D : Int} {A0 B0 A B A' B' : hI}
theorem RR.isL {to : Int} (ht0 : 1 ≤ to) : ∀ (f k left : Nat) (A1 B1 : hI), f + k = 300 → RR K D A0 B0 A1 B1 → to < A1 19 11 → RR K D A0 B0 (isA to f k left A1).1 (isB to f k left B1).1 ∧ (isA to f k left A1).2 = (isB to f k left B1).2 ∧ (isA to f k left A1).2 ≤ left ∧ (isA to f k left A1).1 55 10 = A1 55 10 - ((left : Int) - (isA to f k left A1).2) ∧ (isA to f k left A1).1 55 7 = A1 55 7 ∧ (isA to f k left A1).1 55 8 = A1 55 8 ∧ (∀ q : Nat, ¬ (q = 3) ∧ ¬ (55 ≤ q ∧ q ≤ 61) → (isA to f k left A1).1 q = A1 q) ∧ ((isA to f k left A1).2 ≠ 0 → ∀ j, k ≤ j → j < 300 → (isA to f k left A1).1 56 j ≠ 2) ∧ (∀ j, j < k → (isA to f k left A1).1 56 j = A1 56 j) := by
  intro f
  induction f with
  | zero => intro k left A1 B1 hf R ht; exact ⟨R, rfl, Nat.le_refl _, by show _ = _; simp only [isA]; omega, rfl, rfl, fun _ _ => rfl, fun _ j h1 h2 => by omega, fun _ _ => rfl⟩
  | succ f ih =>
    intro k left A1 B1 hf R ht
    by_cases h0 : left = 0
    · subst h0
      rw [isA_0, isB_0]
      exact ⟨R, rfl, Nat.le_refl _, by simp only []; omega, rfl, rfl, fun _ _ => rfl, fun z => absurd rfl z, fun _ _ => rfl⟩
    · have hs := R.gN.nst k (by omega)
      unfold isA isB
      rw [if_neg h0, if_neg h0, hs]
      by_cases h2 : A1 56 k = 2
      · rw [if_pos h2, if_pos h2]
        have R1 := R.iss (k := k) (to := to) (by omega) h2 ht0 ht
        obtain ⟨c1, c2, c3, c4, c5⟩ := xIs_c A1 k to
        obtain ⟨r1, r2, r3, r4, r5, r6, r7, r8, r9⟩ := ih (k + 1) (left - 1) _ _ (by omega) R1 (by rw [c5 19 (by omega)]; exact ht)
        refine ⟨r1, r2, by omega, by rw [r4, c4]; omega, by rw [r5, c2], by rw [r6, c3], fun q hq => (r7 q hq).trans (c5 q hq), fun z j h3 h4 => ?_, fun j hj => by rw [r9 j (by omega), c1, ud_n (by omega)]⟩
        by_cases e : j = k
        · subst e; rw [r9 j (by omega), c1, ud_s]; omega
        · exact r8 z j (by omega) h4
      · rw [if_neg h2, if_neg h2]
        obtain ⟨r1, r2, r3, r4, r5, r6, r7, r8, r9⟩ := ih (k + 1) left A1 B1 (by omega) R ht
        refine ⟨r1, r2, r3, r4, r5, r6, r7, fun z j h3 h4 => ?_, fun j hj => r9 j (by omega)⟩
        by_cases e : j = k
        · subst e; rw [r9 j (by omega)]; exact h2
        · exact r8 z j (by omega) h4
theorem isA_new {to : Int} : ∀ (f k left : Nat) (A1 : hI), (∀ j, k ≤ j → j < k + f → A1 56 j ≠ 2) → isA to f k left A1 = (A1, left) := by
  intro f
  induction f with
  | zero => intro k left A1 _; rfl
  | succ f ih =>
    intro k left A1 h
    by_cases h0 : left = 0
    · subst h0; exact isA_0 _ _ _ _
    · unfold isA
      rw [if_neg h0, if_neg (h k (by omega) (by omega))]
      exact ih (k + 1) left A1 (fun j h1 h2 => h j (by omega) (by omega))
theorem ex_issue1 (F : Nat) (Bx : hI) {to : Int} (ht0 : 1 ≤ to) : ∀ (q k left : Nat) (A1 B1 : hI), 301 - k < q → k ≤ 300 → left ≤ 100000 → RR K D A0 B0 A1 B1 → to < A1 19 11 → f_Notes_issue_11 F q (iI to) (iI left) (iI (A1 55 8)) (iI k) (mk A1 Bx) = f_Notes_issue_82 F F (iI to) (iI (isA to (300 - k) k left A1).2) (mk (isA to (300 - k) k left A1).1 Bx) := by
  intro q
  induction q with
  | zero => intro k left A1 B1 hq; omega
  | succ q ih =>
    intro k left A1 B1 hq hk hl R ht
    have N := R.gN
    have hf := N.nf2
    have hf1 := N.nf1
    have hn := R.gH.hn2
    have hC := N.nc2
    rw [f_Notes_issue_11]
    simp only [f_Notes_issue_76, f_Notes_issue_61]
    by_cases hkn : A1 55 8 ≤ k
    · rw [isA_new _ _ _ _ (fun j h1 h2 => by have := (N.nsn j (by omega)).mpr (by omega); omega)]
      simp (disch := first | omega | (simp (disch := omega) only [uA_n]; done) | fail) only [iI_lit, iI_add, iI_sub, iI_mul, iI_neg, iI_lt, iI_le, iI_eq, zlt_t, zlt_f, zle_t, zle_f, zeq_t, zeq_f, nle_t, nle_f, iI_cl, rA, rS, rB, wA, wS, wB, mkp, mk2, uA_s, uA_n, ud_s, ud_n, bI_0, bI_1, nor_s, reduceIte, or_false, false_or, or_true, true_or, or_self, not_true_eq_false, not_false_eq_true, and_true, true_and, and_false, false_and, bI_T, bI_F, Int.reduceToNat, Nat.reduceAdd, Nat.reduceMul, Int.reduceNeg, Option.bind_some, Int.toNat_natCast]
    · by_cases h0 : left = 0
      · subst h0
        rw [isA_0]
        simp (disch := first | omega | (simp (disch := omega) only [uA_n]; done) | fail) only [iI_lit, iI_add, iI_sub, iI_mul, iI_neg, iI_lt, iI_le, iI_eq, zlt_t, zlt_f, zle_t, zle_f, zeq_t, zeq_f, nle_t, nle_f, iI_cl, rA, rS, rB, wA, wS, wB, mkp, mk2, uA_s, uA_n, ud_s, ud_n, bI_0, bI_1, nor_s, reduceIte, or_false, false_or, or_true, true_or, or_self, not_true_eq_false, not_false_eq_true, and_true, true_and, and_false, false_and, bI_T, bI_F, Int.reduceToNat, Nat.reduceAdd, Nat.reduceMul, Int.reduceNeg, Option.bind_some, Int.toNat_natCast]
      · have sr := N.nsr k (by omega)
        rw [show 300 - k = (300 - (k + 1)) + 1 by omega]
        unfold isA
        rw [if_neg h0]
        by_cases h2 : A1 56 k = 2
        · rw [if_pos h2]
          have R1 := R.iss (k := k) (to := to) (by omega) h2 ht0 ht
          obtain ⟨c1, c2, c3, c4, c5⟩ := xIs_c A1 k to
          obtain ⟨i1, i2, i3, i4, i5⟩ := R.gI k (by omega) h2
          have tl := N.ntl (A1 57 k).toNat (by omega)
          have nx := ih (k + 1) (left - 1) _ _ (by omega) (by omega) (by omega) R1 (by rw [c5 19 (by omega)]; exact ht)
          rw [c3] at nx
          refine Eq.trans ?_ nx
          have e2 := ex_moveTo (A := uA (uA (uA A1 56 k 1) 55 10 (A1 55 10 - 1)) 55 9 (A1 55 9 + 1)) F Bx (A1 57 k) to i1 (by omega) (by simp (disch := first | omega | (simp (disch := omega) only [uA_n]; done) | fail) only [iI_lit, iI_add, iI_sub, iI_mul, iI_neg, iI_lt, iI_le, iI_eq, zlt_t, zlt_f, zle_t, zle_f, zeq_t, zeq_f, nle_t, nle_f, iI_cl, rA, rS, rB, wA, wS, wB, mkp, mk2, uA_s, uA_n, ud_s, ud_n, bI_0, bI_1, nor_s, reduceIte, or_false, false_or, or_true, true_or, or_self, not_true_eq_false, not_false_eq_true, and_true, true_and, and_false, false_and, bI_T, bI_F, Int.reduceToNat, Nat.reduceAdd, Nat.reduceMul, Int.reduceNeg, Option.bind_some, Int.toNat_natCast]) (by simp (disch := first | omega | (simp (disch := omega) only [uA_n]; done) | fail) only [iI_lit, iI_add, iI_sub, iI_mul, iI_neg, iI_lt, iI_le, iI_eq, zlt_t, zlt_f, zle_t, zle_f, zeq_t, zeq_f, nle_t, nle_f, iI_cl, rA, rS, rB, wA, wS, wB, mkp, mk2, uA_s, uA_n, ud_s, ud_n, bI_0, bI_1, nor_s, reduceIte, or_false, false_or, or_true, true_or, or_self, not_true_eq_false, not_false_eq_true, and_true, true_and, and_false, false_and, bI_T, bI_F, Int.reduceToNat, Nat.reduceAdd, Nat.reduceMul, Int.reduceNeg, Option.bind_some, Int.toNat_natCast]) (by omega)
          have e3 : xMv (uA (uA (uA A1 56 k 1) 55 10 (A1 55 10 - 1)) 55 9 (A1 55 9 + 1)) (A1 57 k).toNat to = xIs A1 k to := rfl
          rw [e3] at e2
          simp (disch := first | omega | (simp (disch := omega) only [uA_n]; done) | fail) only [iI_lit, iI_add, iI_sub, iI_mul, iI_neg, iI_lt, iI_le, iI_eq, zlt_t, zlt_f, zle_t, zle_f, zeq_t, zeq_f, nle_t, nle_f, iI_cl, rA, rS, rB, wA, wS, wB, mkp, mk2, uA_s, uA_n, ud_s, ud_n, bI_0, bI_1, nor_s, reduceIte, or_false, false_or, or_true, true_or, or_self, not_true_eq_false, not_false_eq_true, and_true, true_and, and_false, false_and, bI_T, bI_F, Int.reduceToNat, Nat.reduceAdd, Nat.reduceMul, Int.reduceNeg, Option.bind_some, Int.toNat_natCast, e2]
          rw [show (left : Int) + -1 = ((left - 1 : Nat) : Int) by omega]
          rfl
        · rw [if_neg h2]
          refine Eq.trans ?_ (ih (k + 1) left A1 B1 (by omega) (by omega) hl R ht)
          simp (disch := first | omega | (simp (disch := omega) only [uA_n]; done) | fail) only [iI_lit, iI_add, iI_sub, iI_mul, iI_neg, iI_lt, iI_le, iI_eq, zlt_t, zlt_f, zle_t, zle_f, zeq_t, zeq_f, nle_t, nle_f, iI_cl, rA, rS, rB, wA, wS, wB, mkp, mk2, uA_s, uA_n, ud_s, ud_n, bI_0, bI_1, nor_s, reduceIte, or_false, false_or, or_true, true_or, or_self, not_true_eq_false, not_false_eq_true, and_true, true_and, and_false, false_and, bI_T, bI_F, Int.reduceToNat, Nat.reduceAdd, Nat.reduceMul, Int.reduceNeg, Option.bind_some, Int.toNat_natCast]
          rfl
theorem em_issue1 (F : Nat) (Ax : hI) {to : Int} (ht0 : 1 ≤ to) : ∀ (q k left : Nat) (A1 B1 : hI), 301 - k < q → k ≤ 300 → left ≤ 100000 → RR K D A0 B0 A1 B1 → to < A1 19 11 → f_m_issue_5 F q (iI to) (iI left) (iI k) (mk Ax B1) = f_m_issue_103 F (iI to) (iI (isB to (300 - k) k left B1).2) (mk Ax (isB to (300 - k) k left B1).1) := by
  intro q
  induction q with
  | zero => intro k left A1 B1 hq; omega
  | succ q ih =>
    intro k left A1 B1 hq hk hl R ht
    have N := R.gN
    have hn := R.gH.hn2
    have hC := N.nc2
    rw [f_m_issue_5]
    simp only [f_m_issue_97, f_m_issue_74]
    by_cases hkn : k = 300
    · subst hkn
      rw [show 300 - 300 = 0 from rfl]
      unfold isB
      simp (disch := first | omega | (simp (disch := omega) only [uA_n]; done) | fail) only [iI_lit, iI_add, iI_sub, iI_mul, iI_neg, iI_lt, iI_le, iI_eq, zlt_t, zlt_f, zle_t, zle_f, zeq_t, zeq_f, nle_t, nle_f, iI_cl, rA, rS, rB, wA, wS, wB, mkp, mk2, uA_s, uA_n, ud_s, ud_n, bI_0, bI_1, nor_s, reduceIte, or_false, false_or, or_true, true_or, or_self, not_true_eq_false, not_false_eq_true, and_true, true_and, and_false, false_and, bI_T, bI_F, Int.reduceToNat, Nat.reduceAdd, Nat.reduceMul, Int.reduceNeg, Option.bind_some, Int.toNat_natCast]
    · by_cases h0 : left = 0
      · subst h0
        rw [isB_0]
        simp (disch := first | omega | (simp (disch := omega) only [uA_n]; done) | fail) only [iI_lit, iI_add, iI_sub, iI_mul, iI_neg, iI_lt, iI_le, iI_eq, zlt_t, zlt_f, zle_t, zle_f, zeq_t, zeq_f, nle_t, nle_f, iI_cl, rA, rS, rB, wA, wS, wB, mkp, mk2, uA_s, uA_n, ud_s, ud_n, bI_0, bI_1, nor_s, reduceIte, or_false, false_or, or_true, true_or, or_self, not_true_eq_false, not_false_eq_true, and_true, true_and, and_false, false_and, bI_T, bI_F, Int.reduceToNat, Nat.reduceAdd, Nat.reduceMul, Int.reduceNeg, Option.bind_some, Int.toNat_natCast]
      · have sr := N.nsr k (by omega)
        have hs := N.nst k (by omega)
        rw [show 300 - k = (300 - (k + 1)) + 1 by omega]
        unfold isB
        rw [if_neg h0, hs]
        by_cases h2 : A1 56 k = 2
        · rw [if_pos h2]
          have R1 := R.iss (k := k) (to := to) (by omega) h2 ht0 ht
          obtain ⟨c1, c2, c3, c4, c5⟩ := xIs_c A1 k to
          obtain ⟨i1, i2, i3, i4, i5⟩ := R.gI k (by omega) h2
          have tl := N.ntl (A1 57 k).toNat (by omega)
          have nx := ih (k + 1) (left - 1) _ _ (by omega) (by omega) (by omega) R1 (by rw [c5 19 (by omega)]; exact ht)
          refine Eq.trans ?_ nx
          have e2 := em_trails (B := uA (uA B1 422 k 1) 432 (A1 57 k).toNat to) F Ax (A1 57 k) to i1 (by omega) (by simp (disch := first | omega | (simp (disch := omega) only [uA_n]; done) | fail) only [iI_lit, iI_add, iI_sub, iI_mul, iI_neg, iI_lt, iI_le, iI_eq, zlt_t, zlt_f, zle_t, zle_f, zeq_t, zeq_f, nle_t, nle_f, iI_cl, rA, rS, rB, wA, wS, wB, mkp, mk2, uA_s, uA_n, ud_s, ud_n, bI_0, bI_1, nor_s, reduceIte, or_false, false_or, or_true, true_or, or_self, not_true_eq_false, not_false_eq_true, and_true, true_and, and_false, false_and, bI_T, bI_F, Int.reduceToNat, Nat.reduceAdd, Nat.reduceMul, Int.reduceNeg, Option.bind_some, Int.toNat_natCast])
          have e3 : mTr (uA (uA B1 422 k 1) 432 (A1 57 k).toNat to) (A1 57 k).toNat to = mIs B1 k to := by unfold mIs; rw [i5]
          rw [e3] at e2
          simp (disch := first | omega | (simp (disch := omega) only [uA_n]; done) | fail) only [iI_lit, iI_add, iI_sub, iI_mul, iI_neg, iI_lt, iI_le, iI_eq, zlt_t, zlt_f, zle_t, zle_f, zeq_t, zeq_f, nle_t, nle_f, iI_cl, rA, rS, rB, wA, wS, wB, mkp, mk2, uA_s, uA_n, ud_s, ud_n, bI_0, bI_1, nor_s, reduceIte, or_false, false_or, or_true, true_or, or_self, not_true_eq_false, not_false_eq_true, and_true, true_and, and_false, false_and, bI_T, bI_F, Int.reduceToNat, Nat.reduceAdd, Nat.reduceMul, Int.reduceNeg, Option.bind_some, Int.toNat_natCast, em_stateOf, hs, zN0, zN, zC, i5, e2]
          rw [show (left : Int) + -1 = ((left - 1 : Nat) : Int) by omega]
          rfl
        · rw [if_neg h2]
          refine Eq.trans ?_ (ih (k + 1) left A1 B1 (by omega) (by omega) hl R ht)
          simp (disch := first | omega | (simp (disch := omega) only [uA_n]; done) | fail) only [iI_lit, iI_add, iI_sub, iI_mul, iI_neg, iI_lt, iI_le, iI_eq, zlt_t, zlt_f, zle_t, zle_f, zeq_t, zeq_f, nle_t, nle_f, iI_cl, rA, rS, rB, wA, wS, wB, mkp, mk2, uA_s, uA_n, ud_s, ud_n, bI_0, bI_1, nor_s, reduceIte, or_false, false_or, or_true, true_or, or_self, not_true_eq_false, not_false_eq_true, and_true, true_and, and_false, false_and, bI_T, bI_F, Int.reduceToNat, Nat.reduceAdd, Nat.reduceMul, Int.reduceNeg, Option.bind_some, Int.toNat_natCast, em_stateOf, hs]
          rfl
theorem xNw_c (R : RR K D A0 B0 A B) {to : Int} (hC4 : A 55 7 < 400) (hk : A 55 8 < 300) : xNw A to 55 7 = A 55 7 + 1 ∧ xNw A to 55 8 = A 55 8 + 1 ∧ ∀ q : Nat, ¬ (2 ≤ q ∧ q ≤ 3) ∧ ¬ (55 ≤ q ∧ q ≤ 61) → xNw A to q = A q := by
  have hc1 := R.gN.nc1
  obtain ⟨a2, a58, a59, a55, ao⟩ := xAd_c A (A 55 8).toNat (A 55 7).toNat (C := (A 55 7).toNat) (by omega)
  unfold xNw
  refine ⟨?_, ?_, fun q hq => ?_⟩
  · rw [xMv_o _ _ _ (by omega), xMv_o _ _ _ (by omega)]; simp (disch := first | omega | (simp (disch := omega) only [uA_n]; done) | fail) only [iI_lit, iI_add, iI_sub, iI_mul, iI_neg, iI_lt, iI_le, iI_eq, zlt_t, zlt_f, zle_t, zle_f, zeq_t, zeq_f, nle_t, nle_f, iI_cl, rA, rS, rB, wA, wS, wB, mkp, mk2, uA_s, uA_n, ud_s, ud_n, bI_0, bI_1, nor_s, reduceIte, or_false, false_or, or_true, true_or, or_self, not_true_eq_false, not_false_eq_true, and_true, true_and, and_false, false_and, bI_T, bI_F, Int.reduceToNat, Nat.reduceAdd, Nat.reduceMul, Int.reduceNeg, Option.bind_some, Int.toNat_natCast, a55]
  · rw [xMv_o _ _ _ (by omega), xMv_o _ _ _ (by omega)]; simp (disch := first | omega | (simp (disch := omega) only [uA_n]; done) | fail) only [iI_lit, iI_add, iI_sub, iI_mul, iI_neg, iI_lt, iI_le, iI_eq, zlt_t, zlt_f, zle_t, zle_f, zeq_t, zeq_f, nle_t, nle_f, iI_cl, rA, rS, rB, wA, wS, wB, mkp, mk2, uA_s, uA_n, ud_s, ud_n, bI_0, bI_1, nor_s, reduceIte, or_false, false_or, or_true, true_or, or_self, not_true_eq_false, not_false_eq_true, and_true, true_and, and_false, false_and, bI_T, bI_F, Int.reduceToNat, Nat.reduceAdd, Nat.reduceMul, Int.reduceNeg, Option.bind_some, Int.toNat_natCast, a55]
  · rw [xMv_o _ _ _ (by omega), xMv_o _ _ _ (by omega)]; simp (disch := first | omega | (simp (disch := omega) only [uA_n]; done) | fail) only [iI_lit, iI_add, iI_sub, iI_mul, iI_neg, iI_lt, iI_le, iI_eq, zlt_t, zlt_f, zle_t, zle_f, zeq_t, zeq_f, nle_t, nle_f, iI_cl, rA, rS, rB, wA, wS, wB, mkp, mk2, uA_s, uA_n, ud_s, ud_n, bI_0, bI_1, nor_s, reduceIte, or_false, false_or, or_true, true_or, or_self, not_true_eq_false, not_false_eq_true, and_true, true_and, and_false, false_and, bI_T, bI_F, Int.reduceToNat, Nat.reduceAdd, Nat.reduceMul, Int.reduceNeg, Option.bind_some, Int.toNat_natCast, ao]
theorem ex_issue2 (F : Nat) (hF : 1000 ≤ F) (Bx : hI) {to : Int} (ht0 : 1 ≤ to) : ∀ (left q : Nat) (A1 B1 : hI), left < q → RR K D A0 B0 A1 B1 → to < A1 19 11 → (left : Int) ≤ 300 - A1 55 8 → (left : Int) ≤ 400 - A1 55 7 → f_Notes_issue_82 F q (iI to) (iI left) (mk A1 Bx) = some ((), mk (nwA to left A1) Bx) := by
  intro left
  induction left with
  | zero =>
    intro q A1 B1 hq R ht h1 h2
    obtain ⟨q, rfl⟩ : ∃ p, q = p + 1 := ⟨q - 1, by omega⟩
    rw [f_Notes_issue_82]
    simp only [f_Notes_issue_170, nwA]
    simp (disch := first | omega | (simp (disch := omega) only [uA_n]; done) | fail) only [iI_lit, iI_add, iI_sub, iI_mul, iI_neg, iI_lt, iI_le, iI_eq, zlt_t, zlt_f, zle_t, zle_f, zeq_t, zeq_f, nle_t, nle_f, iI_cl, rA, rS, rB, wA, wS, wB, mkp, mk2, uA_s, uA_n, ud_s, ud_n, bI_0, bI_1, nor_s, reduceIte, or_false, false_or, or_true, true_or, or_self, not_true_eq_false, not_false_eq_true, and_true, true_and, and_false, false_and, bI_T, bI_F, Int.reduceToNat, Nat.reduceAdd, Nat.reduceMul, Int.reduceNeg, Option.bind_some, Int.toNat_natCast, show ((0 : Nat) : Int) = 0 from rfl]
  | succ left ih =>
    intro q A1 B1 hq R ht h1 h2
    obtain ⟨q, rfl⟩ : ∃ p, q = p + 1 := ⟨q - 1, by omega⟩
    have N := R.gN
    have hc1 := N.nc1
    have hf1 := N.nf1
    have hn := R.gH.hn2
    have R1 := R.nw (to := to) (by omega) (by omega) ⟨ht0, ht⟩
    obtain ⟨c1, c2, c3⟩ := xNw_c R (to := to) (by omega) (by omega)
    refine Eq.trans ?_ (ih q (xNw A1 to) _ (by omega) R1 (by rw [c3 19 (by omega)]; exact ht) (by omega) (by omega))
    obtain ⟨a2, a58, a59, a55, ao⟩ := xAd_c A1 (A1 55 8).toNat (A1 55 7).toNat (C := (A1 55 7).toNat) (by omega)
    have e1 := ex_addCopy (A := A1) F Bx (A1 55 8) (A1 55 7) hF hc1 (by omega) hf1 hc1 (Int.le_refl _)
    generalize hX : uA (uA (uA (xAd A1 (A1 55 8).toNat (A1 55 7).toNat) 56 (A1 55 8).toNat 1) 55 8 (A1 55 8 + 1)) 55 9 (A1 55 9 + 1) = X
    have x58 : X 58 (A1 55 7).toNat = -1 := by rw [← hX]; simp (disch := first | omega | (simp (disch := omega) only [uA_n]; done) | fail) only [iI_lit, iI_add, iI_sub, iI_mul, iI_neg, iI_lt, iI_le, iI_eq, zlt_t, zlt_f, zle_t, zle_f, zeq_t, zeq_f, nle_t, nle_f, iI_cl, rA, rS, rB, wA, wS, wB, mkp, mk2, uA_s, uA_n, ud_s, ud_n, bI_0, bI_1, nor_s, reduceIte, or_false, false_or, or_true, true_or, or_self, not_true_eq_false, not_false_eq_true, and_true, true_and, and_false, false_and, bI_T, bI_F, Int.reduceToNat, Nat.reduceAdd, Nat.reduceMul, Int.reduceNeg, Option.bind_some, Int.toNat_natCast, a58]
    have x59 : X 59 (A1 55 7).toNat = 0 := by rw [← hX]; simp (disch := first | omega | (simp (disch := omega) only [uA_n]; done) | fail) only [iI_lit, iI_add, iI_sub, iI_mul, iI_neg, iI_lt, iI_le, iI_eq, zlt_t, zlt_f, zle_t, zle_f, zeq_t, zeq_f, nle_t, nle_f, iI_cl, rA, rS, rB, wA, wS, wB, mkp, mk2, uA_s, uA_n, ud_s, ud_n, bI_0, bI_1, nor_s, reduceIte, or_false, false_or, or_true, true_or, or_self, not_true_eq_false, not_false_eq_true, and_true, true_and, and_false, false_and, bI_T, bI_F, Int.reduceToNat, Nat.reduceAdd, Nat.reduceMul, Int.reduceNeg, Option.bind_some, Int.toNat_natCast, a59]
    have e2 := ex_moveTo (A := X) F Bx (A1 55 7) 0 hc1 (by omega) (by omega) (by omega) (by omega)
    have y58 : xMv X (A1 55 7).toNat 0 58 (A1 55 7).toNat = 0 := by rw [xMv_58, ud_s]
    have y59 : xMv X (A1 55 7).toNat 0 59 (A1 55 7).toNat = 1 := by rw [xMv_59, x59, if_neg (by omega), ud_s]; rfl
    have e3 := ex_moveTo (A := xMv X (A1 55 7).toNat 0) F Bx (A1 55 7) to hc1 (by omega) (by omega) (by omega) (by omega)
    have e4 : xMv (xMv X (A1 55 7).toNat 0) (A1 55 7).toNat to = xNw A1 to := by rw [← hX]; rfl
    rw [e4] at e3
    have f8 : xAd A1 (A1 55 8).toNat (A1 55 7).toNat 55 8 = A1 55 8 := by rw [a55, ud_n (by omega)]
    have f9 : xAd A1 (A1 55 8).toNat (A1 55 7).toNat 55 9 = A1 55 9 := by rw [a55, ud_n (by omega)]
    rw [f_Notes_issue_82]
    simp only [f_Notes_issue_150]
    simp (disch := first | omega | (simp (disch := omega) only [uA_n]; done) | fail) only [iI_lit, iI_add, iI_sub, iI_mul, iI_neg, iI_lt, iI_le, iI_eq, zlt_t, zlt_f, zle_t, zle_f, zeq_t, zeq_f, nle_t, nle_f, iI_cl, rA, rS, rB, wA, wS, wB, mkp, mk2, uA_s, uA_n, ud_s, ud_n, bI_0, bI_1, nor_s, reduceIte, or_false, false_or, or_true, true_or, or_self, not_true_eq_false, not_false_eq_true, and_true, true_and, and_false, false_and, bI_T, bI_F, Int.reduceToNat, Nat.reduceAdd, Nat.reduceMul, Int.reduceNeg, Option.bind_some, Int.toNat_natCast, e1, f8, f9, hX, e2, e3]
    rw [show ((left + 1 : Nat) : Int) + -1 = (left : Int) by omega]
theorem em_issue2 (F : Nat) (hF : 1000 ≤ F) (Ax : hI) {to : Int} (ht0 : 1 ≤ to) : ∀ (q k left : Nat) (A1 B1 : hI), 301 - k < q → k ≤ 300 → (k : Int) ≤ A1 55 8 → RR K D A0 B0 A1 B1 → to < A1 19 11 → (left : Int) ≤ 300 - A1 55 8 → (left : Int) ≤ 400 - A1 55 7 → f_m_issue_106 F q (iI to) (iI left) (iI k) (mk Ax B1) = some ((), mk Ax (nwB to left (A1 55 8).toNat B1)) := by
  intro q
  induction q with
  | zero => intro k left A1 B1 hq; omega
  | succ q ih =>
    intro k left A1 B1 hq hk hkf R ht h1 h2
    have N := R.gN
    have hc1 := N.nc1
    have hc3 := N.nc3
    have hf1 := N.nf1
    have hf2 := N.nf2
    have hn := R.gH.hn2
    rw [f_m_issue_106]
    simp only [f_m_issue_186, f_m_issue_180]
    by_cases h0 : left = 0
    · subst h0
      unfold nwB
      simp (disch := first | omega | (simp (disch := omega) only [uA_n]; done) | fail) only [iI_lit, iI_add, iI_sub, iI_mul, iI_neg, iI_lt, iI_le, iI_eq, zlt_t, zlt_f, zle_t, zle_f, zeq_t, zeq_f, nle_t, nle_f, iI_cl, rA, rS, rB, wA, wS, wB, mkp, mk2, uA_s, uA_n, ud_s, ud_n, bI_0, bI_1, nor_s, reduceIte, or_false, false_or, or_true, true_or, or_self, not_true_eq_false, not_false_eq_true, and_true, true_and, and_false, false_and, bI_T, bI_F, Int.reduceToNat, Nat.reduceAdd, Nat.reduceMul, Int.reduceNeg, Option.bind_some, Int.toNat_natCast, show ((0 : Nat) : Int) = 0 from rfl]
      by_cases h3 : 300 ≤ k <;> simp (disch := first | omega | (simp (disch := omega) only [uA_n]; done) | fail) only [iI_lit, iI_add, iI_sub, iI_mul, iI_neg, iI_lt, iI_le, iI_eq, zlt_t, zlt_f, zle_t, zle_f, zeq_t, zeq_f, nle_t, nle_f, iI_cl, rA, rS, rB, wA, wS, wB, mkp, mk2, uA_s, uA_n, ud_s, ud_n, bI_0, bI_1, nor_s, reduceIte, or_false, false_or, or_true, true_or, or_self, not_true_eq_false, not_false_eq_true, and_true, true_and, and_false, false_and, bI_T, bI_F, Int.reduceToNat, Nat.reduceAdd, Nat.reduceMul, Int.reduceNeg, Option.bind_some, Int.toNat_natCast]
    · have hk3 : k < 300 := by omega
      have sr := N.nsr k hk3
      have hs := N.nst k hk3
      by_cases hz : A1 56 k = 0
      · have hke : (k : Int) = A1 55 8 := by have := (N.nsn k hk3).mp hz; omega
        have R1 := R.nw (to := to) (by omega) (by omega) ⟨ht0, ht⟩
        obtain ⟨c1, c2, c3⟩ := xNw_c R (to := to) (by omega) (by omega)
        have nx := ih (k + 1) (left - 1) (xNw A1 to) _ (by omega) (by omega) (by omega) R1 (by rw [c3 19 (by omega)]; exact ht) (by omega) (by omega)
        rw [show (A1 55 8).toNat = k by omega] at nx ⊢
        rw [show left = (left - 1) + 1 by omega]
        unfold nwB
        rw [show (xNw A1 to 55 8).toNat = k + 1 by omega] at nx
        refine Eq.trans ?_ nx
        have b6 : uA B1 422 k 1 400 6 = A1 55 7 := by rw [uA_n (by omega), hc3]
        obtain ⟨b430, b431, b432, b433, b424, b400, bo⟩ := mCp_c (uA B1 422 k 1) k 0 (C := (A1 55 7).toNat) (by rw [b6]; omega)
        have e1 := em_copied (B := uA B1 422 k 1) F Ax k 0 (by omega) (by omega) (by omega) (by omega)
        rw [b6, Int.toNat_natCast] at e1
        have w0 : mCp (uA B1 422 k 1) k 0 433 (A1 55 7).toNat = 0 := by rw [b433, ud_s]
        have w1 : mTr (mCp (uA B1 422 k 1) k 0) (A1 55 7).toNat 0 433 (A1 55 7).toNat = 1 := by rw [mTr_433, w0, if_neg (by omega), ud_s]; rfl
        have w9 : mTr (mCp (uA B1 422 k 1) k 0) (A1 55 7).toNat 0 399 = B1 399 := by rw [mTr_o _ _ _ (by omega) (by omega), bo 399 (by omega), uA_n (by omega)]
        have e2 := em_trails (B := uA (mTr (mCp (uA B1 422 k 1) k 0) (A1 55 7).toNat 0) 432 (A1 55 7).toNat to) F Ax (A1 55 7) to hc1 (by omega) (by rw [uA_n (by omega)]; omega)
        have e3 : mTr (uA (mTr (mCp (uA B1 422 k 1) k 0) (A1 55 7).toNat 0) 432 (A1 55 7).toNat to) (A1 55 7).toNat to = mNw B1 k to := by unfold mNw; rw [hc3]
        rw [e3] at e2
        simp (disch := first | omega | (simp (disch := omega) only [uA_n]; done) | fail) only [iI_lit, iI_add, iI_sub, iI_mul, iI_neg, iI_lt, iI_le, iI_eq, zlt_t, zlt_f, zle_t, zle_f, zeq_t, zeq_f, nle_t, nle_f, iI_cl, rA, rS, rB, wA, wS, wB, mkp, mk2, uA_s, uA_n, ud_s, ud_n, bI_0, bI_1, nor_s, reduceIte, or_false, false_or, or_true, true_or, or_self, not_true_eq_false, not_false_eq_true, and_true, true_and, and_false, false_and, bI_T, bI_F, Int.reduceToNat, Nat.reduceAdd, Nat.reduceMul, Int.reduceNeg, Option.bind_some, Int.toNat_natCast, em_stateOf, hs, zN0, e1, zC, e2]
        rw [show ((left - 1 + 1 : Nat) : Int) + -1 = ((left - 1 : Nat) : Int) by omega]
        rfl
      · have hne : (k : Int) ≠ A1 55 8 := fun z => hz ((N.nsn k hk3).mpr (by omega))
        refine Eq.trans ?_ (ih (k + 1) left A1 B1 (by omega) (by omega) (by omega) R ht h1 h2)
        simp (disch := first | omega | (simp (disch := omega) only [uA_n]; done) | fail) only [iI_lit, iI_add, iI_sub, iI_mul, iI_neg, iI_lt, iI_le, iI_eq, zlt_t, zlt_f, zle_t, zle_f, zeq_t, zeq_f, nle_t, nle_f, iI_cl, rA, rS, rB, wA, wS, wB, mkp, mk2, uA_s, uA_n, ud_s, ud_n, bI_0, bI_1, nor_s, reduceIte, or_false, false_or, or_true, true_or, or_self, not_true_eq_false, not_false_eq_true, and_true, true_and, and_false, false_and, bI_T, bI_F, Int.reduceToNat, Nat.reduceAdd, Nat.reduceMul, Int.reduceNeg, Option.bind_some, Int.toNat_natCast, em_stateOf, hs]
        rfl
theorem RR.nwL {to : Int} (ht0 : 1 ≤ to) : ∀ (left : Nat) (A1 B1 : hI), RR K D A0 B0 A1 B1 → to < A1 19 11 → (left : Int) ≤ 300 - A1 55 8 → (left : Int) ≤ 400 - A1 55 7 → RR K D A0 B0 (nwA to left A1) (nwB to left (A1 55 8).toNat B1) ∧ (∀ q : Nat, ¬ (2 ≤ q ∧ q ≤ 3) ∧ ¬ (55 ≤ q ∧ q ≤ 61) → nwA to left A1 q = A1 q) := by
  intro left
  induction left with
  | zero => intro A1 B1 R _ _ _; exact ⟨R, fun _ _ => rfl⟩
  | succ left ih =>
    intro A1 B1 R ht h1 h2
    have hf1 := R.gN.nf1
    have R1 := R.nw (to := to) (by omega) (by omega) ⟨ht0, ht⟩
    obtain ⟨c1, c2, c3⟩ := xNw_c R (to := to) (by omega) (by omega)
    obtain ⟨r1, r2⟩ := ih _ _ R1 (by rw [c3 19 (by omega)]; exact ht) (by omega) (by omega)
    rw [show (xNw A1 to 55 8).toNat = (A1 55 8).toNat + 1 by omega] at r1
    exact ⟨r1, fun q hq => (r2 q hq).trans (c3 q hq)⟩
/-- THE BANK gives -/
theorem RR.bxfer (R : RR K D A0 B0 A B) (F : Nat) (hF : 1000 ≤ F) (Ax Bx : hI) {to s : Int} (ht0 : 1 ≤ to) (ht : to < A 19 11) (hs : 0 ≤ s) (hs2 : s ≤ 100000) (hK : K ≤ 1000000000) (h1 : s - 10 * (s / 10) ≤ A 22 0) (h2 : s / 10 - A 55 10 ≤ 300 - A 55 8) (h3 : s / 10 - A 55 10 ≤ 400 - A 55 7) : ∃ A' B' : hI, f_World_transfer F (iI 0) (iI to) (iI s) (mk A Bx) = some ((), mk A' Bx) ∧ f_m_gives F (iI 0) (iI to) (iI s) (mk Ax B) = some ((), mk Ax B') ∧ RR K D A0 B0 A' B' ∧ (∀ k : Nat, ¬ (2 ≤ k ∧ k ≤ 6) ∧ k ≠ 22 ∧ ¬ (55 ≤ k ∧ k ≤ 61) → A' k = A k) := by
  have hn := R.gH.hn2
  have N := R.gN
  have hf1 := N.nf1
  have hf2 := N.nf2
  have hc2 := N.nc2
  have in0 : 0 ≤ A 55 10 := by rw [N.nin]; exact (sm_cnt 300 (fun k => A 56 k = 2)).1
  obtain ⟨n, hn1⟩ : ∃ n : Nat, (n : Int) = s / 10 := ⟨(s / 10).toNat, by omega⟩
  have x := ex_issue1 F Bx ht0 F 0 n A B (by omega) (by omega) (by omega) R ht
  have y := em_issue1 F Ax ht0 F 0 n A B (by omega) (by omega) (by omega) R ht
  obtain ⟨r1, r2, r3, r4, r5, r6, r7, r8, r9⟩ := RR.isL (to := to) ht0 300 0 n A B (by omega) R ht
  rw [show 300 - 0 = 300 from rfl] at x y
  generalize hX : (isA to 300 0 n A).1 = X at *
  generalize hY : (isB to 300 0 n B).1 = Y at *
  rw [← r2] at y
  generalize hl : (isA to 300 0 n A).2 = left at *
  have hleft : left ≠ 0 → (left : Int) = s / 10 - A 55 10 := fun z => by
    have h0 : X 55 10 = 0 := by
      rw [r1.gN.nin]
      exact sm_0 fun i hi => bI_f (r8 z i (by omega) hi)
    omega
  have l1 : (left : Int) ≤ 300 - X 55 8 := by rw [r6]; by_cases z : left = 0; omega; have := hleft z; omega
  have l2 : (left : Int) ≤ 400 - X 55 7 := by rw [r5]; by_cases z : left = 0; omega; have := hleft z; omega
  have x19 : X 19 = A 19 := r7 19 (by omega)
  have x22 : X 22 = A 22 := r7 22 (by omega)
  have hX1 := r1.gN.nf1
  have x2 := ex_issue2 F hF Bx ht0 left F X Y (by have := r1.gN.nc2; have := r1.gN.nc1; omega) r1 (by rw [x19]; exact ht) l1 l2
  have y2 := em_issue2 F hF Ax ht0 F 0 left X Y (by omega) (by omega) (by omega) r1 (by rw [x19]; exact ht) l1 l2
  obtain ⟨q1, q2⟩ := RR.nwL ht0 left X Y r1 (by rw [x19]; exact ht) l1 l2
  generalize hU : nwA to left X = U at *
  generalize hV : nwB to left (X 55 8).toNat Y = V at *
  have u19 : U 19 = A 19 := by rw [q2 19 (by omega), x19]
  have u22 : U 22 = A 22 := by rw [q2 22 (by omega), x22]
  have hg := q1.gold (a := 0) (b := to.toNat) (v := s - 10 * (s / 10)) (A' := uA (uA U 22 0 (U 22 0 - (s - 10 * (s / 10)))) 22 to.toNat (uA U 22 0 (U 22 0 - (s - 10 * (s / 10))) 22 to.toNat + (s - 10 * (s / 10)))) (B' := uA (uA V 412 0 (V 412 0 - (s - 10 * (s / 10)))) 412 to.toNat (uA V 412 0 (V 412 0 - (s - 10 * (s / 10))) 412 to.toNat + (s - 10 * (s / 10)))) (by rw [u19]; omega) (by rw [u19]; omega) (by omega) (by omega) (by rw [u22]; exact h1) (by unfold gM; rw [uA_s, uA_s]) (by unfold gM; rw [uA_s, uA_s]) (fun k hk => by rw [uA_n hk, uA_n hk]) (fun k hk => by rw [uA_n hk, uA_n hk])
  refine ⟨_, _, ?_, ?_, hg, fun k hk => by rw [uA_n (by omega), uA_n (by omega), q2 k (by omega), r7 k (by omega)]⟩
  · have x' : f_Notes_issue_11 F F (iI to) (iI (s / 10)) (iI (A 55 8)) (iI 0) (mk A Bx) = some ((), mk U Bx) := by rw [← hn1]; exact x.trans x2
    unfold f_World_transfer f_Notes_issue
    simp only [f_World_transfer_72, f_World_transfer_110]
    simp (disch := first | omega | (simp (disch := omega) only [uA_n]; done) | fail) only [iI_lit, iI_add, iI_sub, iI_mul, iI_neg, iI_lt, iI_le, iI_eq, zlt_t, zlt_f, zle_t, zle_f, zeq_t, zeq_f, nle_t, nle_f, iI_cl, rA, rS, rB, wA, wS, wB, mkp, mk2, uA_s, uA_n, ud_s, ud_n, bI_0, bI_1, nor_s, reduceIte, or_false, false_or, or_true, true_or, or_self, not_true_eq_false, not_false_eq_true, and_true, true_and, and_false, false_and, bI_T, bI_F, Int.reduceToNat, Nat.reduceAdd, Nat.reduceMul, Int.reduceNeg, Option.bind_some, Int.toNat_natCast, iI_div, x']
  · have y' : f_m_issue_5 F F (iI to) (iI (s / 10)) (iI 0) (mk Ax B) = some ((), mk Ax V) := by rw [← hn1]; refine y.trans ?_; unfold f_m_issue_103; exact y2
    unfold f_m_gives f_m_issue
    simp only [f_m_gives_87, f_m_gives_127]
    simp (disch := first | omega | (simp (disch := omega) only [uA_n]; done) | fail) only [iI_lit, iI_add, iI_sub, iI_mul, iI_neg, iI_lt, iI_le, iI_eq, zlt_t, zlt_f, zle_t, zle_f, zeq_t, zeq_f, nle_t, nle_f, iI_cl, rA, rS, rB, wA, wS, wB, mkp, mk2, uA_s, uA_n, ud_s, ud_n, bI_0, bI_1, nor_s, reduceIte, or_false, false_or, or_true, true_or, or_self, not_true_eq_false, not_false_eq_true, and_true, true_and, and_false, false_and, bI_T, bI_F, Int.reduceToNat, Nat.reduceAdd, Nat.reduceMul, Int.reduceNeg, Option.bind_some, Int.toNat_natCast, iI_div, y', zH, show s - s / 10 * 10 = s - 10 * (s / 10) by omega]
end ISSU
