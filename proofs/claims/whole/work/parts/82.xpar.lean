/-! THE CLASS'S READER, by levels -/
def Px (Bx : hI) (b : Nat → Int) (L : Nat) (f : mM → Option (Unit × mM)) (p : PS → PS) : Prop := ∀ (s : PS) (A : hI), rRel A b L s → PI L s → ∃ A' : hI, f (mk A Bx) = some ((), mk A' Bx) ∧ rRel A' b L (p s) ∧ frR A A'
section XPAR
variable {A A' : hI} {b : Nat → Int} {L : Nat}
theorem ex_addCode (F : Nat) (Bx : hI) {s : PS} {c : Int} (hr : rRel A b L s) (hl : s.2.2.2.2.2.length < 120) : ∃ A' : hI, f_Reader_addCode F (iI c) (mk A Bx) = some ((), mk A' Bx) ∧ rRel A' b L (pac c s) ∧ frR A A' := by
  obtain ⟨r1, r2, r3, r4, r5, r6, r7, r8, r9⟩ := hr
  generalize hn : s.2.2.2.2.2.length = n at *
  refine ⟨uA (uA A 116 n c) 114 3 (n + 1), ?_, ⟨by simp (disch := first | omega | (simp (disch := omega) only [uA_n]; done) | fail) only [iI_lit, iI_add, iI_sub, iI_mul, iI_neg, iI_lt, iI_le, iI_eq, zlt_t, zlt_f, zle_t, zle_f, zeq_t, zeq_f, nle_t, nle_f, iI_cl, rA, rS, rB, wA, wS, wB, mkp, mk2, uA_s, uA_n, ud_s, ud_n, bI_0, bI_1, nor_s, reduceIte, or_false, false_or, or_true, true_or, or_self, not_true_eq_false, not_false_eq_true, and_true, true_and, and_false, false_and, bI_T, bI_F, Int.reduceToNat, Nat.reduceAdd, Nat.reduceMul, Int.reduceNeg, Option.bind_some, Int.toNat_natCast], fun i hi => by rw [uA_n (by omega), uA_n (by omega)]; exact r2 i hi, by simp (disch := first | omega | (simp (disch := omega) only [uA_n]; done) | fail) only [iI_lit, iI_add, iI_sub, iI_mul, iI_neg, iI_lt, iI_le, iI_eq, zlt_t, zlt_f, zle_t, zle_f, zeq_t, zeq_f, nle_t, nle_f, iI_cl, rA, rS, rB, wA, wS, wB, mkp, mk2, uA_s, uA_n, ud_s, ud_n, bI_0, bI_1, nor_s, reduceIte, or_false, false_or, or_true, true_or, or_self, not_true_eq_false, not_false_eq_true, and_true, true_and, and_false, false_and, bI_T, bI_F, Int.reduceToNat, Nat.reduceAdd, Nat.reduceMul, Int.reduceNeg, Option.bind_some, Int.toNat_natCast]; exact r3, fun z => by simp (disch := first | omega | (simp (disch := omega) only [uA_n]; done) | fail) only [iI_lit, iI_add, iI_sub, iI_mul, iI_neg, iI_lt, iI_le, iI_eq, zlt_t, zlt_f, zle_t, zle_f, zeq_t, zeq_f, nle_t, nle_f, iI_cl, rA, rS, rB, wA, wS, wB, mkp, mk2, uA_s, uA_n, ud_s, ud_n, bI_0, bI_1, nor_s, reduceIte, or_false, false_or, or_true, true_or, or_self, not_true_eq_false, not_false_eq_true, and_true, true_and, and_false, false_and, bI_T, bI_F, Int.reduceToNat, Nat.reduceAdd, Nat.reduceMul, Int.reduceNeg, Option.bind_some, Int.toNat_natCast]; exact r4 z, by simp (disch := first | omega | (simp (disch := omega) only [uA_n]; done) | fail) only [iI_lit, iI_add, iI_sub, iI_mul, iI_neg, iI_lt, iI_le, iI_eq, zlt_t, zlt_f, zle_t, zle_f, zeq_t, zeq_f, nle_t, nle_f, iI_cl, rA, rS, rB, wA, wS, wB, mkp, mk2, uA_s, uA_n, ud_s, ud_n, bI_0, bI_1, nor_s, reduceIte, or_false, false_or, or_true, true_or, or_self, not_true_eq_false, not_false_eq_true, and_true, true_and, and_false, false_and, bI_T, bI_F, Int.reduceToNat, Nat.reduceAdd, Nat.reduceMul, Int.reduceNeg, Option.bind_some, Int.toNat_natCast]; exact r5, by simp (disch := first | omega | (simp (disch := omega) only [uA_n]; done) | fail) only [iI_lit, iI_add, iI_sub, iI_mul, iI_neg, iI_lt, iI_le, iI_eq, zlt_t, zlt_f, zle_t, zle_f, zeq_t, zeq_f, nle_t, nle_f, iI_cl, rA, rS, rB, wA, wS, wB, mkp, mk2, uA_s, uA_n, ud_s, ud_n, bI_0, bI_1, nor_s, reduceIte, or_false, false_or, or_true, true_or, or_self, not_true_eq_false, not_false_eq_true, and_true, true_and, and_false, false_and, bI_T, bI_F, Int.reduceToNat, Nat.reduceAdd, Nat.reduceMul, Int.reduceNeg, Option.bind_some, Int.toNat_natCast]; exact r6, by simp (disch := first | omega | (simp (disch := omega) only [uA_n]; done) | fail) only [iI_lit, iI_add, iI_sub, iI_mul, iI_neg, iI_lt, iI_le, iI_eq, zlt_t, zlt_f, zle_t, zle_f, zeq_t, zeq_f, nle_t, nle_f, iI_cl, rA, rS, rB, wA, wS, wB, mkp, mk2, uA_s, uA_n, ud_s, ud_n, bI_0, bI_1, nor_s, reduceIte, or_false, false_or, or_true, true_or, or_self, not_true_eq_false, not_false_eq_true, and_true, true_and, and_false, false_and, bI_T, bI_F, Int.reduceToNat, Nat.reduceAdd, Nat.reduceMul, Int.reduceNeg, Option.bind_some, Int.toNat_natCast]; exact r7, ?_, fun i hi => ?_⟩, ⟨fun k h1 h2 => by rw [uA_n h1, uA_n h2], fun j hj => by simp (disch := first | omega | (simp (disch := omega) only [uA_n]; done) | fail) only [iI_lit, iI_add, iI_sub, iI_mul, iI_neg, iI_lt, iI_le, iI_eq, zlt_t, zlt_f, zle_t, zle_f, zeq_t, zeq_f, nle_t, nle_f, iI_cl, rA, rS, rB, wA, wS, wB, mkp, mk2, uA_s, uA_n, ud_s, ud_n, bI_0, bI_1, nor_s, reduceIte, or_false, false_or, or_true, true_or, or_self, not_true_eq_false, not_false_eq_true, and_true, true_and, and_false, false_and, bI_T, bI_F, Int.reduceToNat, Nat.reduceAdd, Nat.reduceMul, Int.reduceNeg, Option.bind_some, Int.toNat_natCast]⟩⟩
  · simp only [f_Reader_addCode, f_Reader_addCode_32]
    rw [show Int32.ofNat 120 = iI 120 from rfl]
    simp (disch := first | omega | (simp (disch := omega) only [uA_n]; done) | fail) only [iI_lit, iI_add, iI_sub, iI_mul, iI_neg, iI_lt, iI_le, iI_eq, zlt_t, zlt_f, zle_t, zle_f, zeq_t, zeq_f, nle_t, nle_f, iI_cl, rA, rS, rB, wA, wS, wB, mkp, mk2, uA_s, uA_n, ud_s, ud_n, bI_0, bI_1, nor_s, reduceIte, or_false, false_or, or_true, true_or, or_self, not_true_eq_false, not_false_eq_true, and_true, true_and, and_false, false_and, bI_T, bI_F, Int.reduceToNat, Nat.reduceAdd, Nat.reduceMul, Int.reduceNeg, Option.bind_some, Int.toNat_natCast, r8]
  · rw [uA_s, ud_s]
    show _ = ((s.2.2.2.2.2 ++ [c]).length : Int)
    rw [List.length_append, hn]; rfl
  · have hi2 : i < n + 1 := by
      have : i < (s.2.2.2.2.2 ++ [c]).length := hi
      rw [List.length_append, hn] at this
      exact this
    show _ = (s.2.2.2.2.2 ++ [c]).getD i 0
    rw [uA_n (by omega), uA_s, List.getD_eq_getElem?_getD]
    by_cases e : i = n
    · subst e
      rw [ud_s, ← hn, List.getElem?_append_right (Nat.le_refl _), Nat.sub_self]
      rfl
    · rw [ud_n e, List.getElem?_append_left (by omega), ← List.getD_eq_getElem?_getD]
      exact r9 i (by omega)
theorem ex_stopR (F : Nat) (Bx : hI) {s : PS} (hr : rRel A b L s) (hp : PI L s) (hL : L ≤ 120) : ∃ A' : hI, f_Reader_stop F (mk A Bx) = some ((), mk A' Bx) ∧ rRel A' b L (pst s) ∧ frR A A' := by
  obtain ⟨r1, r2, r3, r4, r5, r6, r7, r8, r9⟩ := hr
  have h3 := hp.2.2.1
  simp only [f_Reader_stop, f_Reader_stop_16]
  by_cases h : s.2.2.2.2.1 = -1
  · refine ⟨uA (uA A 114 7 s.2.2.1) 114 8 1, by simp (disch := first | omega | (simp (disch := omega) only [uA_n]; done) | fail) only [iI_lit, iI_add, iI_sub, iI_mul, iI_neg, iI_lt, iI_le, iI_eq, zlt_t, zlt_f, zle_t, zle_f, zeq_t, zeq_f, nle_t, nle_f, iI_cl, rA, rS, rB, wA, wS, wB, mkp, mk2, uA_s, uA_n, ud_s, ud_n, bI_0, bI_1, nor_s, reduceIte, or_false, false_or, or_true, true_or, or_self, not_true_eq_false, not_false_eq_true, and_true, true_and, and_false, false_and, bI_T, bI_F, Int.reduceToNat, Nat.reduceAdd, Nat.reduceMul, Int.reduceNeg, Option.bind_some, Int.toNat_natCast, r5], ⟨by simp (disch := first | omega | (simp (disch := omega) only [uA_n]; done) | fail) only [iI_lit, iI_add, iI_sub, iI_mul, iI_neg, iI_lt, iI_le, iI_eq, zlt_t, zlt_f, zle_t, zle_f, zeq_t, zeq_f, nle_t, nle_f, iI_cl, rA, rS, rB, wA, wS, wB, mkp, mk2, uA_s, uA_n, ud_s, ud_n, bI_0, bI_1, nor_s, reduceIte, or_false, false_or, or_true, true_or, or_self, not_true_eq_false, not_false_eq_true, and_true, true_and, and_false, false_and, bI_T, bI_F, Int.reduceToNat, Nat.reduceAdd, Nat.reduceMul, Int.reduceNeg, Option.bind_some, Int.toNat_natCast], fun i hi => by rw [uA_n (by omega), uA_n (by omega)]; exact r2 i hi, by simp (disch := first | omega | (simp (disch := omega) only [uA_n]; done) | fail) only [iI_lit, iI_add, iI_sub, iI_mul, iI_neg, iI_lt, iI_le, iI_eq, zlt_t, zlt_f, zle_t, zle_f, zeq_t, zeq_f, nle_t, nle_f, iI_cl, rA, rS, rB, wA, wS, wB, mkp, mk2, uA_s, uA_n, ud_s, ud_n, bI_0, bI_1, nor_s, reduceIte, or_false, false_or, or_true, true_or, or_self, not_true_eq_false, not_false_eq_true, and_true, true_and, and_false, false_and, bI_T, bI_F, Int.reduceToNat, Nat.reduceAdd, Nat.reduceMul, Int.reduceNeg, Option.bind_some, Int.toNat_natCast]; rfl, (fun z => by rcases z with z | z | z <;> cases z), by simp (disch := first | omega | (simp (disch := omega) only [uA_n]; done) | fail) only [iI_lit, iI_add, iI_sub, iI_mul, iI_neg, iI_lt, iI_le, iI_eq, zlt_t, zlt_f, zle_t, zle_f, zeq_t, zeq_f, nle_t, nle_f, iI_cl, rA, rS, rB, wA, wS, wB, mkp, mk2, uA_s, uA_n, ud_s, ud_n, bI_0, bI_1, nor_s, reduceIte, or_false, false_or, or_true, true_or, or_self, not_true_eq_false, not_false_eq_true, and_true, true_and, and_false, false_and, bI_T, bI_F, Int.reduceToNat, Nat.reduceAdd, Nat.reduceMul, Int.reduceNeg, Option.bind_some, Int.toNat_natCast]; exact r5, by simp (disch := first | omega | (simp (disch := omega) only [uA_n]; done) | fail) only [iI_lit, iI_add, iI_sub, iI_mul, iI_neg, iI_lt, iI_le, iI_eq, zlt_t, zlt_f, zle_t, zle_f, zeq_t, zeq_f, nle_t, nle_f, iI_cl, rA, rS, rB, wA, wS, wB, mkp, mk2, uA_s, uA_n, ud_s, ud_n, bI_0, bI_1, nor_s, reduceIte, or_false, false_or, or_true, true_or, or_self, not_true_eq_false, not_false_eq_true, and_true, true_and, and_false, false_and, bI_T, bI_F, Int.reduceToNat, Nat.reduceAdd, Nat.reduceMul, Int.reduceNeg, Option.bind_some, Int.toNat_natCast]; exact r6, ?_, by simp (disch := first | omega | (simp (disch := omega) only [uA_n]; done) | fail) only [iI_lit, iI_add, iI_sub, iI_mul, iI_neg, iI_lt, iI_le, iI_eq, zlt_t, zlt_f, zle_t, zle_f, zeq_t, zeq_f, nle_t, nle_f, iI_cl, rA, rS, rB, wA, wS, wB, mkp, mk2, uA_s, uA_n, ud_s, ud_n, bI_0, bI_1, nor_s, reduceIte, or_false, false_or, or_true, true_or, or_self, not_true_eq_false, not_false_eq_true, and_true, true_and, and_false, false_and, bI_T, bI_F, Int.reduceToNat, Nat.reduceAdd, Nat.reduceMul, Int.reduceNeg, Option.bind_some, Int.toNat_natCast]; exact r8, fun i hi => by rw [uA_n (by omega), uA_n (by omega)]; exact r9 i hi⟩, ⟨fun k h1 h2 => by rw [uA_n h1, uA_n h1], fun j hj => by simp (disch := first | omega | (simp (disch := omega) only [uA_n]; done) | fail) only [iI_lit, iI_add, iI_sub, iI_mul, iI_neg, iI_lt, iI_le, iI_eq, zlt_t, zlt_f, zle_t, zle_f, zeq_t, zeq_f, nle_t, nle_f, iI_cl, rA, rS, rB, wA, wS, wB, mkp, mk2, uA_s, uA_n, ud_s, ud_n, bI_0, bI_1, nor_s, reduceIte, or_false, false_or, or_true, true_or, or_self, not_true_eq_false, not_false_eq_true, and_true, true_and, and_false, false_and, bI_T, bI_F, Int.reduceToNat, Nat.reduceAdd, Nat.reduceMul, Int.reduceNeg, Option.bind_some, Int.toNat_natCast]⟩⟩
    rw [uA_s, ud_n (by omega), uA_s, ud_s]
    exact (if_pos h).symm
  · refine ⟨uA A 114 8 1, by simp (disch := first | omega | (simp (disch := omega) only [uA_n]; done) | fail) only [iI_lit, iI_add, iI_sub, iI_mul, iI_neg, iI_lt, iI_le, iI_eq, zlt_t, zlt_f, zle_t, zle_f, zeq_t, zeq_f, nle_t, nle_f, iI_cl, rA, rS, rB, wA, wS, wB, mkp, mk2, uA_s, uA_n, ud_s, ud_n, bI_0, bI_1, nor_s, reduceIte, or_false, false_or, or_true, true_or, or_self, not_true_eq_false, not_false_eq_true, and_true, true_and, and_false, false_and, bI_T, bI_F, Int.reduceToNat, Nat.reduceAdd, Nat.reduceMul, Int.reduceNeg, Option.bind_some, Int.toNat_natCast, r5], ⟨by simp (disch := first | omega | (simp (disch := omega) only [uA_n]; done) | fail) only [iI_lit, iI_add, iI_sub, iI_mul, iI_neg, iI_lt, iI_le, iI_eq, zlt_t, zlt_f, zle_t, zle_f, zeq_t, zeq_f, nle_t, nle_f, iI_cl, rA, rS, rB, wA, wS, wB, mkp, mk2, uA_s, uA_n, ud_s, ud_n, bI_0, bI_1, nor_s, reduceIte, or_false, false_or, or_true, true_or, or_self, not_true_eq_false, not_false_eq_true, and_true, true_and, and_false, false_and, bI_T, bI_F, Int.reduceToNat, Nat.reduceAdd, Nat.reduceMul, Int.reduceNeg, Option.bind_some, Int.toNat_natCast], fun i hi => by rw [uA_n (by omega)]; exact r2 i hi, by simp (disch := first | omega | (simp (disch := omega) only [uA_n]; done) | fail) only [iI_lit, iI_add, iI_sub, iI_mul, iI_neg, iI_lt, iI_le, iI_eq, zlt_t, zlt_f, zle_t, zle_f, zeq_t, zeq_f, nle_t, nle_f, iI_cl, rA, rS, rB, wA, wS, wB, mkp, mk2, uA_s, uA_n, ud_s, ud_n, bI_0, bI_1, nor_s, reduceIte, or_false, false_or, or_true, true_or, or_self, not_true_eq_false, not_false_eq_true, and_true, true_and, and_false, false_and, bI_T, bI_F, Int.reduceToNat, Nat.reduceAdd, Nat.reduceMul, Int.reduceNeg, Option.bind_some, Int.toNat_natCast]; rfl, (fun z => by rcases z with z | z | z <;> cases z), by simp (disch := first | omega | (simp (disch := omega) only [uA_n]; done) | fail) only [iI_lit, iI_add, iI_sub, iI_mul, iI_neg, iI_lt, iI_le, iI_eq, zlt_t, zlt_f, zle_t, zle_f, zeq_t, zeq_f, nle_t, nle_f, iI_cl, rA, rS, rB, wA, wS, wB, mkp, mk2, uA_s, uA_n, ud_s, ud_n, bI_0, bI_1, nor_s, reduceIte, or_false, false_or, or_true, true_or, or_self, not_true_eq_false, not_false_eq_true, and_true, true_and, and_false, false_and, bI_T, bI_F, Int.reduceToNat, Nat.reduceAdd, Nat.reduceMul, Int.reduceNeg, Option.bind_some, Int.toNat_natCast]; exact r5, by simp (disch := first | omega | (simp (disch := omega) only [uA_n]; done) | fail) only [iI_lit, iI_add, iI_sub, iI_mul, iI_neg, iI_lt, iI_le, iI_eq, zlt_t, zlt_f, zle_t, zle_f, zeq_t, zeq_f, nle_t, nle_f, iI_cl, rA, rS, rB, wA, wS, wB, mkp, mk2, uA_s, uA_n, ud_s, ud_n, bI_0, bI_1, nor_s, reduceIte, or_false, false_or, or_true, true_or, or_self, not_true_eq_false, not_false_eq_true, and_true, true_and, and_false, false_and, bI_T, bI_F, Int.reduceToNat, Nat.reduceAdd, Nat.reduceMul, Int.reduceNeg, Option.bind_some, Int.toNat_natCast]; exact r6, ?_, by simp (disch := first | omega | (simp (disch := omega) only [uA_n]; done) | fail) only [iI_lit, iI_add, iI_sub, iI_mul, iI_neg, iI_lt, iI_le, iI_eq, zlt_t, zlt_f, zle_t, zle_f, zeq_t, zeq_f, nle_t, nle_f, iI_cl, rA, rS, rB, wA, wS, wB, mkp, mk2, uA_s, uA_n, ud_s, ud_n, bI_0, bI_1, nor_s, reduceIte, or_false, false_or, or_true, true_or, or_self, not_true_eq_false, not_false_eq_true, and_true, true_and, and_false, false_and, bI_T, bI_F, Int.reduceToNat, Nat.reduceAdd, Nat.reduceMul, Int.reduceNeg, Option.bind_some, Int.toNat_natCast]; exact r8, fun i hi => by rw [uA_n (by omega)]; exact r9 i hi⟩, ⟨fun k h1 h2 => by rw [uA_n h1], fun j hj => by simp (disch := first | omega | (simp (disch := omega) only [uA_n]; done) | fail) only [iI_lit, iI_add, iI_sub, iI_mul, iI_neg, iI_lt, iI_le, iI_eq, zlt_t, zlt_f, zle_t, zle_f, zeq_t, zeq_f, nle_t, nle_f, iI_cl, rA, rS, rB, wA, wS, wB, mkp, mk2, uA_s, uA_n, ud_s, ud_n, bI_0, bI_1, nor_s, reduceIte, or_false, false_or, or_true, true_or, or_self, not_true_eq_false, not_false_eq_true, and_true, true_and, and_false, false_and, bI_T, bI_F, Int.reduceToNat, Nat.reduceAdd, Nat.reduceMul, Int.reduceNeg, Option.bind_some, Int.toNat_natCast]⟩⟩
    rw [uA_s, ud_n (by omega), r7]
    exact (if_neg h).symm
variable (F : Nat) (Bx : hI)
/-- an operator, what follows it, its code -/
theorem ex_op (hF : 1000 ≤ F) (hL : L ≤ 120) (hb : ∀ i, i < L → 0 ≤ b i ∧ b i ≤ 255) {X : PS → PS} (hX : RD L X) {f : mM → Option (Unit × mM)} (hf : Px Bx b L f X) {s : PS} (hr : rRel A b L s) (h : PI L s) (hfa : s.2.2.2.2.1 = -1) (ht : s.1 ≠ 0 ∧ s.1 ≠ 1) {c : Int} (hc : -22 ≤ c ∧ c < 0) : ∃ A1 A2 A3 : hI, f_Reader_nextToken F (mk A Bx) = some ((), mk A1 Bx) ∧ f (mk A1 Bx) = some ((), mk A2 Bx) ∧ f_Reader_addCode F (iI c) (mk A2 Bx) = some ((), mk A3 Bx) ∧ rRel A3 b L (pac c (X (pnx b L s))) ∧ frR A A3 := by
  obtain ⟨A1, n1, n2, n3⟩ := ex_nextToken F hF Bx hL hb hr h.2.1
  obtain ⟨A2, x1, x2, x3⟩ := hf _ A1 n2 (pnx_PI (b := b) h hfa).1
  obtain ⟨o1, o2, o3⟩ := op_RD (b := b) hX h hfa ht hc
  have := o1.1
  have := o1.2.1
  have ht1 : (X (pnx b L s)).2.2.1 ≤ L := by
    have h1 : (pac c (X (pnx b L s))).2.2.1 = (X (pnx b L s)).2.2.1 := rfl
    omega
  obtain ⟨A3, y1, y2, y3⟩ := ex_addCode F Bx (c := c) x2 (by omega)
  exact ⟨A1, A2, A3, n1, x1, y1, y2, n3.tr (x3.tr y3)⟩
theorem lp_Or (hF : 1000 ≤ F) (hL : L ≤ 120) (hb : ∀ i, i < L → 0 ≤ b i ∧ b i ≤ 255) {g : Nat → Int32 → mM → Option (Unit × mM)} {o : Int32} {X : PS → PS} (hX : RD L X) (hg : Px Bx b L (fun m => g 132 o m) X) : ∀ (n q : Nat) (s : PS) (A : hI), n < q → n ≤ 120 → rRel A b L s → PI L s → ∃ A' : hI, f_Reader_readOrs_7 F g q o (iI (120 - n : Int)) (mk A Bx) = some ((), mk A' Bx) ∧ rRel A' b L (plp (pnx b L) X cOr n s) ∧ frR A A' := by
  intro n
  induction n with
  | zero =>
    intro q s A hq _ hr _
    obtain ⟨q, rfl⟩ : ∃ p, q = p + 1 := ⟨q - 1, by omega⟩
    refine ⟨A, ?_, hr, frR.rf A⟩
    rw [f_Reader_readOrs_7]
    simp only [f_Reader_readOrs_43]
    simp (disch := first | omega | (simp (disch := omega) only [uA_n]; done) | fail) only [iI_lit, iI_add, iI_sub, iI_mul, iI_neg, iI_lt, iI_le, iI_eq, zlt_t, zlt_f, zle_t, zle_f, zeq_t, zeq_f, nle_t, nle_f, iI_cl, rA, rS, rB, wA, wS, wB, mkp, mk2, uA_s, uA_n, ud_s, ud_n, bI_0, bI_1, nor_s, reduceIte, or_false, false_or, or_true, true_or, or_self, not_true_eq_false, not_false_eq_true, and_true, true_and, and_false, false_and, bI_T, bI_F, Int.reduceToNat, Nat.reduceAdd, Nat.reduceMul, Int.reduceNeg, Option.bind_some, Int.toNat_natCast]
  | succ n ih =>
    intro q s A hq hn hr hp
    obtain ⟨q, rfl⟩ : ∃ p, q = p + 1 := ⟨q - 1, by omega⟩
    rw [f_Reader_readOrs_7]
    simp only [f_Reader_readOrs_43]
    have r3 := hr.2.2.1
    have tk := hp.2.2.2.2.2.1
    by_cases h6 : s.1 = 6
    · have e : cOr s.1 = -13 := if_pos h6
      have hfa : s.2.2.2.2.1 = -1 := by have := hp.2.2.1; omega
      obtain ⟨A1, A2, A3, x1, x2, x3, x4, x5⟩ := ex_op F Bx hF hL hb hX hg hr hp hfa (by omega) (c := -13) (by omega)
      obtain ⟨A4, y1, y2, y3⟩ := ih q _ A3 (by omega) (by omega) x4 (op_RD (b := b) hX hp hfa (by omega) (c := -13) (by omega)).1
      refine ⟨A4, ?_, ?_, x5.tr y3⟩
      · rw [show (120 : Int) - n = 120 - ((n + 1 : Nat) : Int) + 1 by omega] at y1
        try simp only at x2
        simp (disch := first | omega | (simp (disch := omega) only [uA_n]; done) | fail) only [iI_lit, iI_add, iI_sub, iI_mul, iI_neg, iI_lt, iI_le, iI_eq, zlt_t, zlt_f, zle_t, zle_f, zeq_t, zeq_f, nle_t, nle_f, iI_cl, rA, rS, rB, wA, wS, wB, mkp, mk2, uA_s, uA_n, ud_s, ud_n, bI_0, bI_1, nor_s, reduceIte, or_false, false_or, or_true, true_or, or_self, not_true_eq_false, not_false_eq_true, and_true, true_and, and_false, false_and, bI_T, bI_F, Int.reduceToNat, Nat.reduceAdd, Nat.reduceMul, Int.reduceNeg, Option.bind_some, Int.toNat_natCast, r3, x1, x2, x3, y1]
      · rw [plp, if_neg (by omega), e]; exact y2
    · refine ⟨A, ?_, ?_, frR.rf A⟩
      · simp only [tkR] at tk
        simp (disch := first | omega | (simp (disch := omega) only [uA_n]; done) | fail) only [iI_lit, iI_add, iI_sub, iI_mul, iI_neg, iI_lt, iI_le, iI_eq, zlt_t, zlt_f, zle_t, zle_f, zeq_t, zeq_f, nle_t, nle_f, iI_cl, rA, rS, rB, wA, wS, wB, mkp, mk2, uA_s, uA_n, ud_s, ud_n, bI_0, bI_1, nor_s, reduceIte, or_false, false_or, or_true, true_or, or_self, not_true_eq_false, not_false_eq_true, and_true, true_and, and_false, false_and, bI_T, bI_F, Int.reduceToNat, Nat.reduceAdd, Nat.reduceMul, Int.reduceNeg, Option.bind_some, Int.toNat_natCast, r3]
      · rw [plp, if_pos (show cOr s.1 = 0 from if_neg h6)]; exact hr
theorem lp_And (hF : 1000 ≤ F) (hL : L ≤ 120) (hb : ∀ i, i < L → 0 ≤ b i ∧ b i ≤ 255) {g : Nat → Int32 → mM → Option (Unit × mM)} {o : Int32} {X : PS → PS} (hX : RD L X) (hg : Px Bx b L (fun m => g 133 o m) X) : ∀ (n q : Nat) (s : PS) (A : hI), n < q → n ≤ 120 → rRel A b L s → PI L s → ∃ A' : hI, f_Reader_readAnds_7 F g q o (iI (120 - n : Int)) (mk A Bx) = some ((), mk A' Bx) ∧ rRel A' b L (plp (pnx b L) X cAnd n s) ∧ frR A A' := by
  intro n
  induction n with
  | zero =>
    intro q s A hq _ hr _
    obtain ⟨q, rfl⟩ : ∃ p, q = p + 1 := ⟨q - 1, by omega⟩
    refine ⟨A, ?_, hr, frR.rf A⟩
    rw [f_Reader_readAnds_7]
    simp only [f_Reader_readAnds_43]
    simp (disch := first | omega | (simp (disch := omega) only [uA_n]; done) | fail) only [iI_lit, iI_add, iI_sub, iI_mul, iI_neg, iI_lt, iI_le, iI_eq, zlt_t, zlt_f, zle_t, zle_f, zeq_t, zeq_f, nle_t, nle_f, iI_cl, rA, rS, rB, wA, wS, wB, mkp, mk2, uA_s, uA_n, ud_s, ud_n, bI_0, bI_1, nor_s, reduceIte, or_false, false_or, or_true, true_or, or_self, not_true_eq_false, not_false_eq_true, and_true, true_and, and_false, false_and, bI_T, bI_F, Int.reduceToNat, Nat.reduceAdd, Nat.reduceMul, Int.reduceNeg, Option.bind_some, Int.toNat_natCast]
  | succ n ih =>
    intro q s A hq hn hr hp
    obtain ⟨q, rfl⟩ : ∃ p, q = p + 1 := ⟨q - 1, by omega⟩
    rw [f_Reader_readAnds_7]
    simp only [f_Reader_readAnds_43]
    have r3 := hr.2.2.1
    have tk := hp.2.2.2.2.2.1
    by_cases h6 : s.1 = 7
    · have e : cAnd s.1 = -14 := if_pos h6
      have hfa : s.2.2.2.2.1 = -1 := by have := hp.2.2.1; omega
      obtain ⟨A1, A2, A3, x1, x2, x3, x4, x5⟩ := ex_op F Bx hF hL hb hX hg hr hp hfa (by omega) (c := -14) (by omega)
      obtain ⟨A4, y1, y2, y3⟩ := ih q _ A3 (by omega) (by omega) x4 (op_RD (b := b) hX hp hfa (by omega) (c := -14) (by omega)).1
      refine ⟨A4, ?_, ?_, x5.tr y3⟩
      · rw [show (120 : Int) - n = 120 - ((n + 1 : Nat) : Int) + 1 by omega] at y1
        try simp only at x2
        simp (disch := first | omega | (simp (disch := omega) only [uA_n]; done) | fail) only [iI_lit, iI_add, iI_sub, iI_mul, iI_neg, iI_lt, iI_le, iI_eq, zlt_t, zlt_f, zle_t, zle_f, zeq_t, zeq_f, nle_t, nle_f, iI_cl, rA, rS, rB, wA, wS, wB, mkp, mk2, uA_s, uA_n, ud_s, ud_n, bI_0, bI_1, nor_s, reduceIte, or_false, false_or, or_true, true_or, or_self, not_true_eq_false, not_false_eq_true, and_true, true_and, and_false, false_and, bI_T, bI_F, Int.reduceToNat, Nat.reduceAdd, Nat.reduceMul, Int.reduceNeg, Option.bind_some, Int.toNat_natCast, r3, x1, x2, x3, y1]
      · rw [plp, if_neg (by omega), e]; exact y2
    · refine ⟨A, ?_, ?_, frR.rf A⟩
      · simp only [tkR] at tk
        simp (disch := first | omega | (simp (disch := omega) only [uA_n]; done) | fail) only [iI_lit, iI_add, iI_sub, iI_mul, iI_neg, iI_lt, iI_le, iI_eq, zlt_t, zlt_f, zle_t, zle_f, zeq_t, zeq_f, nle_t, nle_f, iI_cl, rA, rS, rB, wA, wS, wB, mkp, mk2, uA_s, uA_n, ud_s, ud_n, bI_0, bI_1, nor_s, reduceIte, or_false, false_or, or_true, true_or, or_self, not_true_eq_false, not_false_eq_true, and_true, true_and, and_false, false_and, bI_T, bI_F, Int.reduceToNat, Nat.reduceAdd, Nat.reduceMul, Int.reduceNeg, Option.bind_some, Int.toNat_natCast, r3]
      · rw [plp, if_pos (show cAnd s.1 = 0 from if_neg h6)]; exact hr
theorem lp_Sum (hF : 1000 ≤ F) (hL : L ≤ 120) (hb : ∀ i, i < L → 0 ≤ b i ∧ b i ≤ 255) {g : Nat → Int32 → mM → Option (Unit × mM)} {o : Int32} {X : PS → PS} (hX : RD L X) (hg : Px Bx b L (fun m => g 136 o m) X) : ∀ (n q : Nat) (s : PS) (A : hI), n < q → n ≤ 120 → rRel A b L s → PI L s → ∃ A' : hI, f_Reader_readSum_7 F g q o (iI (120 - n : Int)) (mk A Bx) = some ((), mk A' Bx) ∧ rRel A' b L (plp (pnx b L) X cSum n s) ∧ frR A A' := by
  intro n
  induction n with
  | zero =>
    intro q s A hq _ hr _
    obtain ⟨q, rfl⟩ : ∃ p, q = p + 1 := ⟨q - 1, by omega⟩
    refine ⟨A, ?_, hr, frR.rf A⟩
    rw [f_Reader_readSum_7]
    simp only [f_Reader_readSum_68]
    simp (disch := first | omega | (simp (disch := omega) only [uA_n]; done) | fail) only [iI_lit, iI_add, iI_sub, iI_mul, iI_neg, iI_lt, iI_le, iI_eq, zlt_t, zlt_f, zle_t, zle_f, zeq_t, zeq_f, nle_t, nle_f, iI_cl, rA, rS, rB, wA, wS, wB, mkp, mk2, uA_s, uA_n, ud_s, ud_n, bI_0, bI_1, nor_s, reduceIte, or_false, false_or, or_true, true_or, or_self, not_true_eq_false, not_false_eq_true, and_true, true_and, and_false, false_and, bI_T, bI_F, Int.reduceToNat, Nat.reduceAdd, Nat.reduceMul, Int.reduceNeg, Option.bind_some, Int.toNat_natCast]
  | succ n ih =>
    intro q s A hq hn hr hp
    obtain ⟨q, rfl⟩ : ∃ p, q = p + 1 := ⟨q - 1, by omega⟩
    rw [f_Reader_readSum_7]
    simp only [f_Reader_readSum_68, f_Reader_readSum_31, f_Reader_readSum_47]
    have r3 := hr.2.2.1
    have tk := hp.2.2.2.2.2.1
    have go : ∀ c : Int, cSum s.1 = c → -22 ≤ c ∧ c < 0 → s.1 ≠ 0 ∧ s.1 ≠ 1 → ∃ A' : hI, ((f_Reader_nextToken F (mk A Bx)).bind fun q2 => ((g 136 o q2.2).bind fun q3 => ((f_Reader_addCode F (iI c) q3.2).bind fun q4 => f_Reader_readSum_7 F g q o (iI (120 - ((n + 1 : Nat) : Int) + 1)) q4.2))) = some ((), mk A' Bx) ∧ rRel A' b L (plp (pnx b L) X cSum (n + 1) s) ∧ frR A A' := by
      intro c e hc h01
      have hfa : s.2.2.2.2.1 = -1 := by have := hp.2.2.1; omega
      obtain ⟨A1, A2, A3, x1, x2, x3, x4, x5⟩ := ex_op F Bx hF hL hb hX hg hr hp hfa h01 (c := c) hc
      obtain ⟨A4, y1, y2, y3⟩ := ih q _ A3 (by omega) (by omega) x4 (op_RD (b := b) hX hp hfa h01 (c := c) hc).1
      refine ⟨A4, ?_, ?_, x5.tr y3⟩
      · rw [show (120 : Int) - n = 120 - ((n + 1 : Nat) : Int) + 1 by omega] at y1
        try simp only at x2
        simp only [x1, Option.bind_some, x2, x3, y1]
      · rw [plp, if_neg (by omega), e]; exact y2
    simp only [tkR] at tk
    by_cases h1 : s.1 = 43
    · obtain ⟨A', z1, z2⟩ := go (-18) (by rw [cSum, if_pos h1]) (by omega) (by omega)
      refine ⟨A', ?_, z2⟩
      rw [← z1]
      simp (disch := first | omega | (simp (disch := omega) only [uA_n]; done) | fail) only [iI_lit, iI_add, iI_sub, iI_mul, iI_neg, iI_lt, iI_le, iI_eq, zlt_t, zlt_f, zle_t, zle_f, zeq_t, zeq_f, nle_t, nle_f, iI_cl, rA, rS, rB, wA, wS, wB, mkp, mk2, uA_s, uA_n, ud_s, ud_n, bI_0, bI_1, nor_s, reduceIte, or_false, false_or, or_true, true_or, or_self, not_true_eq_false, not_false_eq_true, and_true, true_and, and_false, false_and, bI_T, bI_F, Int.reduceToNat, Nat.reduceAdd, Nat.reduceMul, Int.reduceNeg, Option.bind_some, Int.toNat_natCast, r3]
    · by_cases h2 : s.1 = 45
      · obtain ⟨A', z1, z2⟩ := go (-19) (by rw [cSum, if_neg h1, if_pos h2]) (by omega) (by omega)
        refine ⟨A', ?_, z2⟩
        rw [← z1]
        simp (disch := first | omega | (simp (disch := omega) only [uA_n]; done) | fail) only [iI_lit, iI_add, iI_sub, iI_mul, iI_neg, iI_lt, iI_le, iI_eq, zlt_t, zlt_f, zle_t, zle_f, zeq_t, zeq_f, nle_t, nle_f, iI_cl, rA, rS, rB, wA, wS, wB, mkp, mk2, uA_s, uA_n, ud_s, ud_n, bI_0, bI_1, nor_s, reduceIte, or_false, false_or, or_true, true_or, or_self, not_true_eq_false, not_false_eq_true, and_true, true_and, and_false, false_and, bI_T, bI_F, Int.reduceToNat, Nat.reduceAdd, Nat.reduceMul, Int.reduceNeg, Option.bind_some, Int.toNat_natCast, r3]
      · refine ⟨A, ?_, ?_, frR.rf A⟩
        · simp (disch := first | omega | (simp (disch := omega) only [uA_n]; done) | fail) only [iI_lit, iI_add, iI_sub, iI_mul, iI_neg, iI_lt, iI_le, iI_eq, zlt_t, zlt_f, zle_t, zle_f, zeq_t, zeq_f, nle_t, nle_f, iI_cl, rA, rS, rB, wA, wS, wB, mkp, mk2, uA_s, uA_n, ud_s, ud_n, bI_0, bI_1, nor_s, reduceIte, or_false, false_or, or_true, true_or, or_self, not_true_eq_false, not_false_eq_true, and_true, true_and, and_false, false_and, bI_T, bI_F, Int.reduceToNat, Nat.reduceAdd, Nat.reduceMul, Int.reduceNeg, Option.bind_some, Int.toNat_natCast, r3]
        · rw [plp, if_pos (by rw [cSum, if_neg h1, if_neg h2])]; exact hr
theorem lp_Term (hF : 1000 ≤ F) (hL : L ≤ 120) (hb : ∀ i, i < L → 0 ≤ b i ∧ b i ≤ 255) {g : Nat → Int32 → mM → Option (Unit × mM)} {o : Int32} {X : PS → PS} (hX : RD L X) (hg : Px Bx b L (fun m => g 137 o m) X) : ∀ (n q : Nat) (s : PS) (A : hI), n < q → n ≤ 120 → rRel A b L s → PI L s → ∃ A' : hI, f_Reader_readTerm_7 F g q o (iI (120 - n : Int)) (mk A Bx) = some ((), mk A' Bx) ∧ rRel A' b L (plp (pnx b L) X cTerm n s) ∧ frR A A' := by
  intro n
  induction n with
  | zero =>
    intro q s A hq _ hr _
    obtain ⟨q, rfl⟩ : ∃ p, q = p + 1 := ⟨q - 1, by omega⟩
    refine ⟨A, ?_, hr, frR.rf A⟩
    rw [f_Reader_readTerm_7]
    simp only [f_Reader_readTerm_91]
    simp (disch := first | omega | (simp (disch := omega) only [uA_n]; done) | fail) only [iI_lit, iI_add, iI_sub, iI_mul, iI_neg, iI_lt, iI_le, iI_eq, zlt_t, zlt_f, zle_t, zle_f, zeq_t, zeq_f, nle_t, nle_f, iI_cl, rA, rS, rB, wA, wS, wB, mkp, mk2, uA_s, uA_n, ud_s, ud_n, bI_0, bI_1, nor_s, reduceIte, or_false, false_or, or_true, true_or, or_self, not_true_eq_false, not_false_eq_true, and_true, true_and, and_false, false_and, bI_T, bI_F, Int.reduceToNat, Nat.reduceAdd, Nat.reduceMul, Int.reduceNeg, Option.bind_some, Int.toNat_natCast]
  | succ n ih =>
    intro q s A hq hn hr hp
    obtain ⟨q, rfl⟩ : ∃ p, q = p + 1 := ⟨q - 1, by omega⟩
    rw [f_Reader_readTerm_7]
    simp only [f_Reader_readTerm_91, f_Reader_readTerm_40, f_Reader_readTerm_70]
    have r3 := hr.2.2.1
    have tk := hp.2.2.2.2.2.1
    have go : ∀ c : Int, cTerm s.1 = c → -22 ≤ c ∧ c < 0 → s.1 ≠ 0 ∧ s.1 ≠ 1 → ∃ A' : hI, ((f_Reader_nextToken F (mk A Bx)).bind fun q2 => ((g 137 o q2.2).bind fun q3 => ((f_Reader_addCode F (iI c) q3.2).bind fun q4 => f_Reader_readTerm_7 F g q o (iI (120 - ((n + 1 : Nat) : Int) + 1)) q4.2))) = some ((), mk A' Bx) ∧ rRel A' b L (plp (pnx b L) X cTerm (n + 1) s) ∧ frR A A' := by
      intro c e hc h01
      have hfa : s.2.2.2.2.1 = -1 := by have := hp.2.2.1; omega
      obtain ⟨A1, A2, A3, x1, x2, x3, x4, x5⟩ := ex_op F Bx hF hL hb hX hg hr hp hfa h01 (c := c) hc
      obtain ⟨A4, y1, y2, y3⟩ := ih q _ A3 (by omega) (by omega) x4 (op_RD (b := b) hX hp hfa h01 (c := c) hc).1
      refine ⟨A4, ?_, ?_, x5.tr y3⟩
      · rw [show (120 : Int) - n = 120 - ((n + 1 : Nat) : Int) + 1 by omega] at y1
        try simp only at x2
        simp only [x1, Option.bind_some, x2, x3, y1]
      · rw [plp, if_neg (by omega), e]; exact y2
    simp only [tkR] at tk
    by_cases h1 : s.1 = 42
    · obtain ⟨A', z1, z2⟩ := go (-20) (by rw [cTerm, if_pos h1]) (by omega) (by omega)
      refine ⟨A', ?_, z2⟩
      rw [← z1]
      simp (disch := first | omega | (simp (disch := omega) only [uA_n]; done) | fail) only [iI_lit, iI_add, iI_sub, iI_mul, iI_neg, iI_lt, iI_le, iI_eq, zlt_t, zlt_f, zle_t, zle_f, zeq_t, zeq_f, nle_t, nle_f, iI_cl, rA, rS, rB, wA, wS, wB, mkp, mk2, uA_s, uA_n, ud_s, ud_n, bI_0, bI_1, nor_s, reduceIte, or_false, false_or, or_true, true_or, or_self, not_true_eq_false, not_false_eq_true, and_true, true_and, and_false, false_and, bI_T, bI_F, Int.reduceToNat, Nat.reduceAdd, Nat.reduceMul, Int.reduceNeg, Option.bind_some, Int.toNat_natCast, r3]
    · by_cases h2 : s.1 = 47
      · obtain ⟨A', z1, z2⟩ := go (-21) (by rw [cTerm, if_neg h1, if_pos h2]) (by omega) (by omega)
        refine ⟨A', ?_, z2⟩
        rw [← z1]
        simp (disch := first | omega | (simp (disch := omega) only [uA_n]; done) | fail) only [iI_lit, iI_add, iI_sub, iI_mul, iI_neg, iI_lt, iI_le, iI_eq, zlt_t, zlt_f, zle_t, zle_f, zeq_t, zeq_f, nle_t, nle_f, iI_cl, rA, rS, rB, wA, wS, wB, mkp, mk2, uA_s, uA_n, ud_s, ud_n, bI_0, bI_1, nor_s, reduceIte, or_false, false_or, or_true, true_or, or_self, not_true_eq_false, not_false_eq_true, and_true, true_and, and_false, false_and, bI_T, bI_F, Int.reduceToNat, Nat.reduceAdd, Nat.reduceMul, Int.reduceNeg, Option.bind_some, Int.toNat_natCast, r3]
      · by_cases h3 : s.1 = 37
        · obtain ⟨A', z1, z2⟩ := go (-22) (by rw [cTerm, if_neg h1, if_neg h2, if_pos h3]) (by omega) (by omega)
          refine ⟨A', ?_, z2⟩
          rw [← z1]
          simp (disch := first | omega | (simp (disch := omega) only [uA_n]; done) | fail) only [iI_lit, iI_add, iI_sub, iI_mul, iI_neg, iI_lt, iI_le, iI_eq, zlt_t, zlt_f, zle_t, zle_f, zeq_t, zeq_f, nle_t, nle_f, iI_cl, rA, rS, rB, wA, wS, wB, mkp, mk2, uA_s, uA_n, ud_s, ud_n, bI_0, bI_1, nor_s, reduceIte, or_false, false_or, or_true, true_or, or_self, not_true_eq_false, not_false_eq_true, and_true, true_and, and_false, false_and, bI_T, bI_F, Int.reduceToNat, Nat.reduceAdd, Nat.reduceMul, Int.reduceNeg, Option.bind_some, Int.toNat_natCast, r3]
        · refine ⟨A, ?_, ?_, frR.rf A⟩
          · simp (disch := first | omega | (simp (disch := omega) only [uA_n]; done) | fail) only [iI_lit, iI_add, iI_sub, iI_mul, iI_neg, iI_lt, iI_le, iI_eq, zlt_t, zlt_f, zle_t, zle_f, zeq_t, zeq_f, nle_t, nle_f, iI_cl, rA, rS, rB, wA, wS, wB, mkp, mk2, uA_s, uA_n, ud_s, ud_n, bI_0, bI_1, nor_s, reduceIte, or_false, false_or, or_true, true_or, or_self, not_true_eq_false, not_false_eq_true, and_true, true_and, and_false, false_and, bI_T, bI_F, Int.reduceToNat, Nat.reduceAdd, Nat.reduceMul, Int.reduceNeg, Option.bind_some, Int.toNat_natCast, r3]
          · rw [plp, if_pos (by rw [cTerm, if_neg h1, if_neg h2, if_neg h3])]; exact hr
/-- a loop behind its first part -/
theorem px_Or (hF : 1000 ≤ F) (hL : L ≤ 120) (hb : ∀ i, i < L → 0 ≤ b i ∧ b i ≤ 255) {g : Nat → Int32 → mM → Option (Unit × mM)} {o : Int32} {X : PS → PS} (hX : RD L X) (hg : Px Bx b L (fun m => g 132 o m) X) : Px Bx b L (fun m => f_Reader_readOrs F g o m) (pOrF (pnx b L) X) := by
  intro s A hr hp
  obtain ⟨A1, x1, x2, x3⟩ := hg s A hr hp
  obtain ⟨A2, y1, y2, y3⟩ := lp_Or F Bx hF hL hb hX hg 120 F _ A1 (by omega) (Nat.le_refl _) x2 (hX s hp).1
  refine ⟨A2, ?_, y2, x3.tr y3⟩
  simp only [f_Reader_readOrs] at x1 ⊢
  simp only [x1, Option.bind_some]
  exact y1
theorem px_And (hF : 1000 ≤ F) (hL : L ≤ 120) (hb : ∀ i, i < L → 0 ≤ b i ∧ b i ≤ 255) {g : Nat → Int32 → mM → Option (Unit × mM)} {o : Int32} {X : PS → PS} (hX : RD L X) (hg : Px Bx b L (fun m => g 133 o m) X) : Px Bx b L (fun m => f_Reader_readAnds F g o m) (pAndF (pnx b L) X) := by
  intro s A hr hp
  obtain ⟨A1, x1, x2, x3⟩ := hg s A hr hp
  obtain ⟨A2, y1, y2, y3⟩ := lp_And F Bx hF hL hb hX hg 120 F _ A1 (by omega) (Nat.le_refl _) x2 (hX s hp).1
  refine ⟨A2, ?_, y2, x3.tr y3⟩
  simp only [f_Reader_readAnds] at x1 ⊢
  simp only [x1, Option.bind_some]
  exact y1
theorem px_Sum (hF : 1000 ≤ F) (hL : L ≤ 120) (hb : ∀ i, i < L → 0 ≤ b i ∧ b i ≤ 255) {g : Nat → Int32 → mM → Option (Unit × mM)} {o : Int32} {X : PS → PS} (hX : RD L X) (hg : Px Bx b L (fun m => g 136 o m) X) : Px Bx b L (fun m => f_Reader_readSum F g o m) (pSumF (pnx b L) X) := by
  intro s A hr hp
  obtain ⟨A1, x1, x2, x3⟩ := hg s A hr hp
  obtain ⟨A2, y1, y2, y3⟩ := lp_Sum F Bx hF hL hb hX hg 120 F _ A1 (by omega) (Nat.le_refl _) x2 (hX s hp).1
  refine ⟨A2, ?_, y2, x3.tr y3⟩
  simp only [f_Reader_readSum] at x1 ⊢
  simp only [x1, Option.bind_some]
  exact y1
theorem px_Term (hF : 1000 ≤ F) (hL : L ≤ 120) (hb : ∀ i, i < L → 0 ≤ b i ∧ b i ≤ 255) {g : Nat → Int32 → mM → Option (Unit × mM)} {o : Int32} {X : PS → PS} (hX : RD L X) (hg : Px Bx b L (fun m => g 137 o m) X) : Px Bx b L (fun m => f_Reader_readTerm F g o m) (pTermF (pnx b L) X) := by
  intro s A hr hp
  obtain ⟨A1, x1, x2, x3⟩ := hg s A hr hp
  obtain ⟨A2, y1, y2, y3⟩ := lp_Term F Bx hF hL hb hX hg 120 F _ A1 (by omega) (Nat.le_refl _) x2 (hX s hp).1
  refine ⟨A2, ?_, y2, x3.tr y3⟩
  simp only [f_Reader_readTerm] at x1 ⊢
  simp only [x1, Option.bind_some]
  exact y1
theorem px_Not (hF : 1000 ≤ F) (hL : L ≤ 120) (hb : ∀ i, i < L → 0 ≤ b i ∧ b i ≤ 255) {g : Nat → Int32 → mM → Option (Unit × mM)} {o : Int} (ho : 0 ≤ o) (ho2 : o ≤ 6) {dead : Bool} (hd : dead = true ↔ o = 6) {N X : PS → PS} (hN : dead = false → RD L N) (hX : RD L X) (hg : Px Bx b L (fun m => g 135 (iI o) m) X) (hg2 : dead = false → Px Bx b L (fun m => g 133 (iI (o + 1)) m) N) : Px Bx b L (fun m => f_Reader_readNot F g (iI o) m) (pNotF (pnx b L) dead N X) := by
  intro s A hr hp
  have r3 := hr.2.2.1
  have tk := hp.2.2.2.2.2.1
  simp only [tkR] at tk
  simp only [f_Reader_readNot, f_Reader_readNot_69]
  unfold pNotF
  by_cases h8 : s.1 = 8
  · rw [if_pos h8]
    by_cases h6 : o = 6
    · rw [if_pos (hd.mpr h6)]
      obtain ⟨A1, x1, x2, x3⟩ := ex_stopR F Bx hr hp hL
      exact ⟨A1, by simp (disch := first | omega | (simp (disch := omega) only [uA_n]; done) | fail) only [iI_lit, iI_add, iI_sub, iI_mul, iI_neg, iI_lt, iI_le, iI_eq, zlt_t, zlt_f, zle_t, zle_f, zeq_t, zeq_f, nle_t, nle_f, iI_cl, rA, rS, rB, wA, wS, wB, mkp, mk2, uA_s, uA_n, ud_s, ud_n, bI_0, bI_1, nor_s, reduceIte, or_false, false_or, or_true, true_or, or_self, not_true_eq_false, not_false_eq_true, and_true, true_and, and_false, false_and, bI_T, bI_F, Int.reduceToNat, Nat.reduceAdd, Nat.reduceMul, Int.reduceNeg, Option.bind_some, Int.toNat_natCast, r3, x1], x2, x3⟩
    · have hdf : dead = false := by cases dead with | false => rfl | true => exact absurd (hd.mp rfl) h6
      rw [if_neg (show ¬ dead = true by rw [hdf]; decide)]
      have hfa : s.2.2.2.2.1 = -1 := by have := hp.2.2.1; omega
      obtain ⟨A1, A2, A3, x1, x2, x3, x4, x5⟩ := ex_op F Bx hF hL hb (hN hdf) (hg2 hdf) hr hp hfa (by omega) (c := -11) (by omega)
      try simp only at x2
      exact ⟨A3, by simp (disch := first | omega | (simp (disch := omega) only [uA_n]; done) | fail) only [iI_lit, iI_add, iI_sub, iI_mul, iI_neg, iI_lt, iI_le, iI_eq, zlt_t, zlt_f, zle_t, zle_f, zeq_t, zeq_f, nle_t, nle_f, iI_cl, rA, rS, rB, wA, wS, wB, mkp, mk2, uA_s, uA_n, ud_s, ud_n, bI_0, bI_1, nor_s, reduceIte, or_false, false_or, or_true, true_or, or_self, not_true_eq_false, not_false_eq_true, and_true, true_and, and_false, false_and, bI_T, bI_F, Int.reduceToNat, Nat.reduceAdd, Nat.reduceMul, Int.reduceNeg, Option.bind_some, Int.toNat_natCast, r3, x1, x2, x3], x4, x5⟩
  · rw [if_neg h8]
    obtain ⟨A1, x1, x2, x3⟩ := hg s A hr hp
    try simp only at x1
    have q1 := (hX s hp).1
    have t3 := x2.2.2.1
    have tk2 := q1.2.2.2.2.2.1
    simp only [tkR] at tk2
    have ec : ∀ m : mM, f_Texts_codeOfComparison F (iI (X s).1) m = some (iI (cCmp (X s).1), m) := by
      intro m
      simp only [f_Texts_codeOfComparison]
      unfold cCmp
      by_cases e1 : (X s).1 = 61
      · rw [if_pos e1]; simp (disch := first | omega | (simp (disch := omega) only [uA_n]; done) | fail) only [iI_lit, iI_add, iI_sub, iI_mul, iI_neg, iI_lt, iI_le, iI_eq, zlt_t, zlt_f, zle_t, zle_f, zeq_t, zeq_f, nle_t, nle_f, iI_cl, rA, rS, rB, wA, wS, wB, mkp, mk2, uA_s, uA_n, ud_s, ud_n, bI_0, bI_1, nor_s, reduceIte, or_false, false_or, or_true, true_or, or_self, not_true_eq_false, not_false_eq_true, and_true, true_and, and_false, false_and, bI_T, bI_F, Int.reduceToNat, Nat.reduceAdd, Nat.reduceMul, Int.reduceNeg, Option.bind_some, Int.toNat_natCast]
      · rw [if_neg e1]
        by_cases e2 : (X s).1 = 60
        · rw [if_pos e2]; simp (disch := first | omega | (simp (disch := omega) only [uA_n]; done) | fail) only [iI_lit, iI_add, iI_sub, iI_mul, iI_neg, iI_lt, iI_le, iI_eq, zlt_t, zlt_f, zle_t, zle_f, zeq_t, zeq_f, nle_t, nle_f, iI_cl, rA, rS, rB, wA, wS, wB, mkp, mk2, uA_s, uA_n, ud_s, ud_n, bI_0, bI_1, nor_s, reduceIte, or_false, false_or, or_true, true_or, or_self, not_true_eq_false, not_false_eq_true, and_true, true_and, and_false, false_and, bI_T, bI_F, Int.reduceToNat, Nat.reduceAdd, Nat.reduceMul, Int.reduceNeg, Option.bind_some, Int.toNat_natCast]
        · rw [if_neg e2]
          by_cases e3 : (X s).1 = 62
          · rw [if_pos e3]; simp (disch := first | omega | (simp (disch := omega) only [uA_n]; done) | fail) only [iI_lit, iI_add, iI_sub, iI_mul, iI_neg, iI_lt, iI_le, iI_eq, zlt_t, zlt_f, zle_t, zle_f, zeq_t, zeq_f, nle_t, nle_f, iI_cl, rA, rS, rB, wA, wS, wB, mkp, mk2, uA_s, uA_n, ud_s, ud_n, bI_0, bI_1, nor_s, reduceIte, or_false, false_or, or_true, true_or, or_self, not_true_eq_false, not_false_eq_true, and_true, true_and, and_false, false_and, bI_T, bI_F, Int.reduceToNat, Nat.reduceAdd, Nat.reduceMul, Int.reduceNeg, Option.bind_some, Int.toNat_natCast]
          · rw [if_neg e3]; simp (disch := first | omega | (simp (disch := omega) only [uA_n]; done) | fail) only [iI_lit, iI_add, iI_sub, iI_mul, iI_neg, iI_lt, iI_le, iI_eq, zlt_t, zlt_f, zle_t, zle_f, zeq_t, zeq_f, nle_t, nle_f, iI_cl, rA, rS, rB, wA, wS, wB, mkp, mk2, uA_s, uA_n, ud_s, ud_n, bI_0, bI_1, nor_s, reduceIte, or_false, false_or, or_true, true_or, or_self, not_true_eq_false, not_false_eq_true, and_true, true_and, and_false, false_and, bI_T, bI_F, Int.reduceToNat, Nat.reduceAdd, Nat.reduceMul, Int.reduceNeg, Option.bind_some, Int.toNat_natCast]
    have hcr : -17 ≤ cCmp (X s).1 ∧ cCmp (X s).1 ≤ 0 := by unfold cCmp; (repeat' split) <;> omega
    by_cases hc : cCmp (X s).1 = 0
    · rw [if_pos hc]
      refine ⟨A1, ?_, x2, x3⟩
      rw [hc] at ec
      simp (disch := first | omega | (simp (disch := omega) only [uA_n]; done) | fail) only [iI_lit, iI_add, iI_sub, iI_mul, iI_neg, iI_lt, iI_le, iI_eq, zlt_t, zlt_f, zle_t, zle_f, zeq_t, zeq_f, nle_t, nle_f, iI_cl, rA, rS, rB, wA, wS, wB, mkp, mk2, uA_s, uA_n, ud_s, ud_n, bI_0, bI_1, nor_s, reduceIte, or_false, false_or, or_true, true_or, or_self, not_true_eq_false, not_false_eq_true, and_true, true_and, and_false, false_and, bI_T, bI_F, Int.reduceToNat, Nat.reduceAdd, Nat.reduceMul, Int.reduceNeg, Option.bind_some, Int.toNat_natCast, r3, x1, t3, ec]
    · rw [if_neg hc]
      have k := cCmp_ok _ hc
      have hfa : (X s).2.2.2.2.1 = -1 := by have := q1.2.2.1; omega
      obtain ⟨A2, A3, A4, y1, y2, y3, y4, y5⟩ := ex_op F Bx hF hL hb hX hg x2 q1 hfa ⟨k.1, k.2.1⟩ k.2.2
      try simp only at y2
      refine ⟨A4, ?_, y4, x3.tr y5⟩
      generalize cCmp (X s).1 = c at *
      simp (disch := first | omega | (simp (disch := omega) only [uA_n]; done) | fail) only [iI_lit, iI_add, iI_sub, iI_mul, iI_neg, iI_lt, iI_le, iI_eq, zlt_t, zlt_f, zle_t, zle_f, zeq_t, zeq_f, nle_t, nle_f, iI_cl, rA, rS, rB, wA, wS, wB, mkp, mk2, uA_s, uA_n, ud_s, ud_n, bI_0, bI_1, nor_s, reduceIte, or_false, false_or, or_true, true_or, or_self, not_true_eq_false, not_false_eq_true, and_true, true_and, and_false, false_and, bI_T, bI_F, Int.reduceToNat, Nat.reduceAdd, Nat.reduceMul, Int.reduceNeg, Option.bind_some, Int.toNat_natCast, r3, x1, t3, ec, y1, y2, y3]
theorem px_One (hF : 1000 ≤ F) (hL : L ≤ 120) (hb : ∀ i, i < L → 0 ≤ b i ∧ b i ≤ 255) {g : Nat → Int32 → mM → Option (Unit × mM)} {o : Int} (ho : 0 ≤ o) (ho2 : o ≤ 6) {dead : Bool} (hd : dead = true ↔ o = 6) {O X : PS → PS} (hO : dead = false → RD L O) (hX : dead = false → RD L X) (hg : dead = false → Px Bx b L (fun m => g 137 (iI (o + 1)) m) O) (hg2 : dead = false → Px Bx b L (fun m => g 131 (iI (o + 1)) m) X) : Px Bx b L (fun m => f_Reader_readOne F g (iI o) m) (pOneF (pnx b L) dead O X) := by
  intro s A hr hp
  have r3 := hr.2.2.1
  have r4 := hr.2.2.2.1
  have tk := hp.2.2.2.2.2.1
  simp only [tkR] at tk
  have hlen := hp.2.2.2.2.1
  have htl := hp.1
  have hpl := hp.2.1
  have htp := hp.2.2.2.1
  simp only [f_Reader_readOne, f_Reader_readOne_18, f_Reader_readOne_23, f_Reader_readOne_82, f_Reader_readOne_149]
  unfold pOneF
  by_cases a1 : s.1 = 2
  · rw [if_pos a1]
    obtain ⟨A1, x1, x2, x3⟩ := ex_addCode F Bx (c := s.2.1) hr (by omega)
    obtain ⟨A2, y1, y2, y3⟩ := ex_nextToken F hF Bx hL hb x2 hpl
    have e10 := r4 (by omega)
    exact ⟨A2, by simp (disch := first | omega | (simp (disch := omega) only [uA_n]; done) | fail) only [iI_lit, iI_add, iI_sub, iI_mul, iI_neg, iI_lt, iI_le, iI_eq, zlt_t, zlt_f, zle_t, zle_f, zeq_t, zeq_f, nle_t, nle_f, iI_cl, rA, rS, rB, wA, wS, wB, mkp, mk2, uA_s, uA_n, ud_s, ud_n, bI_0, bI_1, nor_s, reduceIte, or_false, false_or, or_true, true_or, or_self, not_true_eq_false, not_false_eq_true, and_true, true_and, and_false, false_and, bI_T, bI_F, Int.reduceToNat, Nat.reduceAdd, Nat.reduceMul, Int.reduceNeg, Option.bind_some, Int.toNat_natCast, r3, e10, x1, y1], y2, x3.tr y3⟩
  · rw [if_neg a1]
    by_cases a2 : s.1 = 4
    · rw [if_pos a2]
      obtain ⟨A1, x1, x2, x3⟩ := ex_addCode F Bx (c := -1 - s.2.1) hr (by omega)
      obtain ⟨A2, y1, y2, y3⟩ := ex_nextToken F hF Bx hL hb x2 hpl
      have e10 := r4 (by omega)
      exact ⟨A2, by simp (disch := first | omega | (simp (disch := omega) only [uA_n]; done) | fail) only [iI_lit, iI_add, iI_sub, iI_mul, iI_neg, iI_lt, iI_le, iI_eq, zlt_t, zlt_f, zle_t, zle_f, zeq_t, zeq_f, nle_t, nle_f, iI_cl, rA, rS, rB, wA, wS, wB, mkp, mk2, uA_s, uA_n, ud_s, ud_n, bI_0, bI_1, nor_s, reduceIte, or_false, false_or, or_true, true_or, or_self, not_true_eq_false, not_false_eq_true, and_true, true_and, and_false, false_and, bI_T, bI_F, Int.reduceToNat, Nat.reduceAdd, Nat.reduceMul, Int.reduceNeg, Option.bind_some, Int.toNat_natCast, r3, e10, x1, y1], y2, x3.tr y3⟩
    · rw [if_neg a2]
      by_cases a3 : (dead || !(decide (s.1 = 45) || decide (s.1 = 40))) = true
      · rw [if_pos a3]
        obtain ⟨A1, x1, x2, x3⟩ := ex_stopR F Bx hr hp hL
        refine ⟨A1, ?_, x2, x3⟩
        by_cases a4 : s.1 = 45
        · have h6 : o = 6 := hd.mp (by rw [a4] at a3; simpa using a3)
          simp (disch := first | omega | (simp (disch := omega) only [uA_n]; done) | fail) only [iI_lit, iI_add, iI_sub, iI_mul, iI_neg, iI_lt, iI_le, iI_eq, zlt_t, zlt_f, zle_t, zle_f, zeq_t, zeq_f, nle_t, nle_f, iI_cl, rA, rS, rB, wA, wS, wB, mkp, mk2, uA_s, uA_n, ud_s, ud_n, bI_0, bI_1, nor_s, reduceIte, or_false, false_or, or_true, true_or, or_self, not_true_eq_false, not_false_eq_true, and_true, true_and, and_false, false_and, bI_T, bI_F, Int.reduceToNat, Nat.reduceAdd, Nat.reduceMul, Int.reduceNeg, Option.bind_some, Int.toNat_natCast, r3, x1]
        · by_cases a5 : s.1 = 40
          · have h6 : o = 6 := hd.mp (by rw [a5] at a3; simpa using a3)
            simp (disch := first | omega | (simp (disch := omega) only [uA_n]; done) | fail) only [iI_lit, iI_add, iI_sub, iI_mul, iI_neg, iI_lt, iI_le, iI_eq, zlt_t, zlt_f, zle_t, zle_f, zeq_t, zeq_f, nle_t, nle_f, iI_cl, rA, rS, rB, wA, wS, wB, mkp, mk2, uA_s, uA_n, ud_s, ud_n, bI_0, bI_1, nor_s, reduceIte, or_false, false_or, or_true, true_or, or_self, not_true_eq_false, not_false_eq_true, and_true, true_and, and_false, false_and, bI_T, bI_F, Int.reduceToNat, Nat.reduceAdd, Nat.reduceMul, Int.reduceNeg, Option.bind_some, Int.toNat_natCast, r3, x1]
          · simp (disch := first | omega | (simp (disch := omega) only [uA_n]; done) | fail) only [iI_lit, iI_add, iI_sub, iI_mul, iI_neg, iI_lt, iI_le, iI_eq, zlt_t, zlt_f, zle_t, zle_f, zeq_t, zeq_f, nle_t, nle_f, iI_cl, rA, rS, rB, wA, wS, wB, mkp, mk2, uA_s, uA_n, ud_s, ud_n, bI_0, bI_1, nor_s, reduceIte, or_false, false_or, or_true, true_or, or_self, not_true_eq_false, not_false_eq_true, and_true, true_and, and_false, false_and, bI_T, bI_F, Int.reduceToNat, Nat.reduceAdd, Nat.reduceMul, Int.reduceNeg, Option.bind_some, Int.toNat_natCast, r3, x1]
      · rw [if_neg a3]
        simp only [Bool.or_eq_true, Bool.not_eq_true', Bool.or_eq_false_iff, decide_eq_false_iff_not, not_or, not_and, Bool.not_eq_true] at a3
        have hdf : dead = false := a3.1
        have h6 : o ≠ 6 := fun z => by have := hd.mpr z; rw [hdf] at this; cases this
        have hfa : s.2.2.2.2.1 = -1 := by have := hp.2.2.1; rcases this with z | z; exact z; exact absurd (a3.2 (by omega)) (by omega)
        by_cases a4 : s.1 = 45
        · rw [if_pos a4]
          obtain ⟨A1, A2, A3, x1, x2, x3, x4, x5⟩ := ex_op F Bx hF hL hb (hO hdf) (hg hdf) hr hp hfa (by omega) (c := -12) (by omega)
          try simp only at x2
          exact ⟨A3, by simp (disch := first | omega | (simp (disch := omega) only [uA_n]; done) | fail) only [iI_lit, iI_add, iI_sub, iI_mul, iI_neg, iI_lt, iI_le, iI_eq, zlt_t, zlt_f, zle_t, zle_f, zeq_t, zeq_f, nle_t, nle_f, iI_cl, rA, rS, rB, wA, wS, wB, mkp, mk2, uA_s, uA_n, ud_s, ud_n, bI_0, bI_1, nor_s, reduceIte, or_false, false_or, or_true, true_or, or_self, not_true_eq_false, not_false_eq_true, and_true, true_and, and_false, false_and, bI_T, bI_F, Int.reduceToNat, Nat.reduceAdd, Nat.reduceMul, Int.reduceNeg, Option.bind_some, Int.toNat_natCast, r3, x1, x2, x3], x4, x5⟩
        · rw [if_neg a4]
          have a5 : s.1 = 40 := by by_cases e : s.1 = 40; exact e; exact absurd (a3.2 a4) (fun z => z e)
          obtain ⟨A1, n1, n2, n3⟩ := ex_nextToken F hF Bx hL hb hr hpl
          obtain ⟨A2, x1, x2, x3⟩ := hg2 hdf _ A1 n2 (pnx_PI (b := b) hp hfa).1
          try simp only at x1
          have q1 := (hX hdf _ (pnx_PI (b := b) hp hfa).1).1
          have t3 := x2.2.2.1
          have tk2 := q1.2.2.2.2.2.1
          simp only [tkR] at tk2
          by_cases a6 : (X (pnx b L s)).1 = 41
          · rw [if_pos a6]
            obtain ⟨A3, y1, y2, y3⟩ := ex_nextToken F hF Bx hL hb x2 q1.2.1
            exact ⟨A3, by simp (disch := first | omega | (simp (disch := omega) only [uA_n]; done) | fail) only [iI_lit, iI_add, iI_sub, iI_mul, iI_neg, iI_lt, iI_le, iI_eq, zlt_t, zlt_f, zle_t, zle_f, zeq_t, zeq_f, nle_t, nle_f, iI_cl, rA, rS, rB, wA, wS, wB, mkp, mk2, uA_s, uA_n, ud_s, ud_n, bI_0, bI_1, nor_s, reduceIte, or_false, false_or, or_true, true_or, or_self, not_true_eq_false, not_false_eq_true, and_true, true_and, and_false, false_and, bI_T, bI_F, Int.reduceToNat, Nat.reduceAdd, Nat.reduceMul, Int.reduceNeg, Option.bind_some, Int.toNat_natCast, r3, n1, x1, t3, y1], y2, n3.tr (x3.tr y3)⟩
          · rw [if_neg a6]
            obtain ⟨A3, y1, y2, y3⟩ := ex_stopR F Bx x2 q1 hL
            exact ⟨A3, by simp (disch := first | omega | (simp (disch := omega) only [uA_n]; done) | fail) only [iI_lit, iI_add, iI_sub, iI_mul, iI_neg, iI_lt, iI_le, iI_eq, zlt_t, zlt_f, zle_t, zle_f, zeq_t, zeq_f, nle_t, nle_f, iI_cl, rA, rS, rB, wA, wS, wB, mkp, mk2, uA_s, uA_n, ud_s, ud_n, bI_0, bI_1, nor_s, reduceIte, or_false, false_or, or_true, true_or, or_self, not_true_eq_false, not_false_eq_true, and_true, true_and, and_false, false_and, bI_T, bI_F, Int.reduceToNat, Nat.reduceAdd, Nat.reduceMul, Int.reduceNeg, Option.bind_some, Int.toNat_natCast, r3, n1, x1, t3, y1], y2, n3.tr (x3.tr y3)⟩
/-- every level, with enough of depth -/
theorem px_lv (hF : 1000 ≤ F) (hL : L ≤ 120) (hb : ∀ i, i < L → 0 ≤ b i ∧ b i ≤ 255) : ∀ (l : Nat), l ≤ 6 → (∀ n, 6 * l + 1 ≤ n → Px Bx b L (fun m => f_grp_R F n 137 (iI (6 - l : Int)) m) (pLv (pnx b L) l).1) ∧ (∀ n, 6 * l + 4 ≤ n → Px Bx b L (fun m => f_grp_R F n 133 (iI (6 - l : Int)) m) (pLv (pnx b L) l).2.1) ∧ (∀ n, 6 * l + 6 ≤ n → Px Bx b L (fun m => f_grp_R F n 131 (iI (6 - l : Int)) m) (pLv (pnx b L) l).2.2) := by
  have up : ∀ {t : Nat} {o : Int32} {p : PS → PS} {n : Nat} (f : mM → Option (Unit × mM)), (∀ m, f_grp_R F (n + 1) t o m = f m) → Px Bx b L f p → Px Bx b L (fun m => f_grp_R F (n + 1) t o m) p := by
    intro t o p n f e h s A hr hp
    obtain ⟨A', x⟩ := h s A hr hp
    exact ⟨A', by simp only [e]; exact x.1, x.2⟩
  intro l
  induction l with
  | zero =>
    intro _
    have o : RD L (pOneF (pnx b L) true id id) := one_RD (fun z => by cases z) (fun z => by cases z)
    have tR := loop_RD (b := b) o o cTerm_ok 120
    have sR : RD L (pSumF (pnx b L) (pTermF (pnx b L) (pOneF (pnx b L) true id id))) := loop_RD tR tR cSum_ok 120
    have nR : RD L (pNotF (pnx b L) true id (pSumF (pnx b L) (pTermF (pnx b L) (pOneF (pnx b L) true id id)))) := not_RD (fun z => by cases z) sR
    have aR := loop_RD (b := b) nR nR cAnd_ok 120
    have h1 : ∀ n, 1 ≤ n → Px Bx b L (fun m => f_grp_R F n 137 (iI (6 - (0 : Nat) : Int)) m) (pOneF (pnx b L) true id id) := fun n hn => by
      obtain ⟨n, rfl⟩ : ∃ k, n = k + 1 := ⟨n - 1, by omega⟩
      exact up _ (fun m => rfl) (px_One F Bx hF hL hb (g := f_grp_R F n) (o := 6 - (0 : Nat)) (by omega) (by omega) (by simp) (fun z => by cases z) (fun z => by cases z) (fun z => by cases z) (fun z => by cases z))
    have h2 : ∀ n, 2 ≤ n → Px Bx b L (fun m => f_grp_R F n 136 (iI (6 - (0 : Nat) : Int)) m) (pTermF (pnx b L) (pOneF (pnx b L) true id id)) := fun n hn => by
      obtain ⟨n, rfl⟩ : ∃ k, n = k + 1 := ⟨n - 1, by omega⟩
      exact up _ (fun m => rfl) (px_Term F Bx hF hL hb (g := f_grp_R F n) o (h1 n (by omega)))
    have h3 : ∀ n, 3 ≤ n → Px Bx b L (fun m => f_grp_R F n 135 (iI (6 - (0 : Nat) : Int)) m) (pSumF (pnx b L) (pTermF (pnx b L) (pOneF (pnx b L) true id id))) := fun n hn => by
      obtain ⟨n, rfl⟩ : ∃ k, n = k + 1 := ⟨n - 1, by omega⟩
      exact up _ (fun m => rfl) (px_Sum F Bx hF hL hb (g := f_grp_R F n) tR (h2 n (by omega)))
    have h4 : ∀ n, 4 ≤ n → Px Bx b L (fun m => f_grp_R F n 133 (iI (6 - (0 : Nat) : Int)) m) (pNotF (pnx b L) true id (pSumF (pnx b L) (pTermF (pnx b L) (pOneF (pnx b L) true id id)))) := fun n hn => by
      obtain ⟨n, rfl⟩ : ∃ k, n = k + 1 := ⟨n - 1, by omega⟩
      exact up _ (fun m => rfl) (px_Not F Bx hF hL hb (g := f_grp_R F n) (o := 6 - (0 : Nat)) (by omega) (by omega) (by simp) (fun z => by cases z) sR (h3 n (by omega)) (fun z => by cases z))
    have h5 : ∀ n, 5 ≤ n → Px Bx b L (fun m => f_grp_R F n 132 (iI (6 - (0 : Nat) : Int)) m) (pAndF (pnx b L) (pNotF (pnx b L) true id (pSumF (pnx b L) (pTermF (pnx b L) (pOneF (pnx b L) true id id))))) := fun n hn => by
      obtain ⟨n, rfl⟩ : ∃ k, n = k + 1 := ⟨n - 1, by omega⟩
      exact up _ (fun m => rfl) (px_And F Bx hF hL hb (g := f_grp_R F n) nR (h4 n (by omega)))
    refine ⟨fun n hn => h1 n (by omega), fun n hn => h4 n (by omega), fun n hn => ?_⟩
    obtain ⟨n, rfl⟩ : ∃ k, n = k + 1 := ⟨n - 1, by omega⟩
    exact up _ (fun m => rfl) (px_Or F Bx hF hL hb (g := f_grp_R F n) aR (h5 n (by omega)))
  | succ l ih =>
    intro hl
    obtain ⟨i1, i2, i3⟩ := ih (by omega)
    obtain ⟨d1, d2, d3⟩ := lv_RD b L l
    have eo : (6 - ((l + 1 : Nat) : Int)) + 1 = 6 - (l : Int) := by omega
    have o : RD L (pOneF (pnx b L) false (pLv (pnx b L) l).1 (pLv (pnx b L) l).2.2) := one_RD (fun _ => d1) (fun _ => d3)
    have tR := loop_RD (b := b) o o cTerm_ok 120
    have sR : RD L (pSumF (pnx b L) (pTermF (pnx b L) (pOneF (pnx b L) false (pLv (pnx b L) l).1 (pLv (pnx b L) l).2.2))) := loop_RD tR tR cSum_ok 120
    have nR : RD L (pNotF (pnx b L) false (pLv (pnx b L) l).2.1 (pSumF (pnx b L) (pTermF (pnx b L) (pOneF (pnx b L) false (pLv (pnx b L) l).1 (pLv (pnx b L) l).2.2)))) := not_RD (fun _ => d2) sR
    have aR := loop_RD (b := b) nR nR cAnd_ok 120
    have h1 : ∀ n, 6 * l + 7 ≤ n → Px Bx b L (fun m => f_grp_R F n 137 (iI (6 - ((l + 1 : Nat) : Int))) m) (pOneF (pnx b L) false (pLv (pnx b L) l).1 (pLv (pnx b L) l).2.2) := fun n hn => by
      obtain ⟨n, rfl⟩ : ∃ k, n = k + 1 := ⟨n - 1, by omega⟩
      exact up _ (fun m => rfl) (px_One F Bx hF hL hb (g := f_grp_R F n) (o := 6 - ((l + 1 : Nat) : Int)) (by omega) (by omega) (by constructor <;> intro z; cases z; omega) (fun _ => d1) (fun _ => d3) (fun _ => by rw [eo]; exact i1 n (by omega)) (fun _ => by rw [eo]; exact i3 n (by omega)))
    have h2 : ∀ n, 6 * l + 8 ≤ n → Px Bx b L (fun m => f_grp_R F n 136 (iI (6 - ((l + 1 : Nat) : Int))) m) (pTermF (pnx b L) (pOneF (pnx b L) false (pLv (pnx b L) l).1 (pLv (pnx b L) l).2.2)) := fun n hn => by
      obtain ⟨n, rfl⟩ : ∃ k, n = k + 1 := ⟨n - 1, by omega⟩
      exact up _ (fun m => rfl) (px_Term F Bx hF hL hb (g := f_grp_R F n) o (h1 n (by omega)))
    have h3 : ∀ n, 6 * l + 9 ≤ n → Px Bx b L (fun m => f_grp_R F n 135 (iI (6 - ((l + 1 : Nat) : Int))) m) (pSumF (pnx b L) (pTermF (pnx b L) (pOneF (pnx b L) false (pLv (pnx b L) l).1 (pLv (pnx b L) l).2.2))) := fun n hn => by
      obtain ⟨n, rfl⟩ : ∃ k, n = k + 1 := ⟨n - 1, by omega⟩
      exact up _ (fun m => rfl) (px_Sum F Bx hF hL hb (g := f_grp_R F n) tR (h2 n (by omega)))
    have h4 : ∀ n, 6 * l + 10 ≤ n → Px Bx b L (fun m => f_grp_R F n 133 (iI (6 - ((l + 1 : Nat) : Int))) m) (pNotF (pnx b L) false (pLv (pnx b L) l).2.1 (pSumF (pnx b L) (pTermF (pnx b L) (pOneF (pnx b L) false (pLv (pnx b L) l).1 (pLv (pnx b L) l).2.2)))) := fun n hn => by
      obtain ⟨n, rfl⟩ : ∃ k, n = k + 1 := ⟨n - 1, by omega⟩
      exact up _ (fun m => rfl) (px_Not F Bx hF hL hb (g := f_grp_R F n) (o := 6 - ((l + 1 : Nat) : Int)) (by omega) (by omega) (by constructor <;> intro z; cases z; omega) (fun _ => d2) sR (h3 n (by omega)) (fun _ => by rw [eo]; exact i2 n (by omega)))
    have h5 : ∀ n, 6 * l + 11 ≤ n → Px Bx b L (fun m => f_grp_R F n 132 (iI (6 - ((l + 1 : Nat) : Int))) m) (pAndF (pnx b L) (pNotF (pnx b L) false (pLv (pnx b L) l).2.1 (pSumF (pnx b L) (pTermF (pnx b L) (pOneF (pnx b L) false (pLv (pnx b L) l).1 (pLv (pnx b L) l).2.2))))) := fun n hn => by
      obtain ⟨n, rfl⟩ : ∃ k, n = k + 1 := ⟨n - 1, by omega⟩
      exact up _ (fun m => rfl) (px_And F Bx hF hL hb (g := f_grp_R F n) nR (h4 n (by omega)))
    refine ⟨fun n hn => h1 n (by omega), fun n hn => h4 n (by omega), fun n hn => ?_⟩
    obtain ⟨n, rfl⟩ : ∃ k, n = k + 1 := ⟨n - 1, by omega⟩
    exact up _ (fun m => rfl) (px_Or F Bx hF hL hb (g := f_grp_R F n) aR (h5 n (by omega)))
end XPAR
