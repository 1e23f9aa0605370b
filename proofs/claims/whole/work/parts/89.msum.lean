/-! the reference's sums and terms, by levels -/
theorem div_n1 (v : Int32) : v / -1 = -v := by
  rw [← Int32.toInt_inj, Int32.toInt_div, show (-1 : Int32).toInt = -1 from rfl, Int.tdiv_neg, Int.tdiv_one, Int32.toInt_neg]
theorem bop_s1 (v w : Int32) : bop (-18) v w = v + w := rfl
theorem bop_s2 (v w : Int32) : bop (-19) v w = v - w := rfl
theorem bop_t1 (v w : Int32) : bop (-20) v w = v * w := rfl
theorem bop_t2 (v w : Int32) : bop (-21) v w = if w = 0 then 0 else if w = -1 then -v else v / w := by
  show (if w = 0 then 0 else v / w) = _
  by_cases h : w = 0
  · rw [if_pos h, if_pos h]
  · rw [if_neg h, if_neg h]
    by_cases h2 : w = -1
    · rw [if_pos h2, h2, div_n1]
    · rw [if_neg h2]
theorem bop_t3 (v w : Int32) : bop (-22) v w = if w = 0 then 0 else if w = -1 then 0 else v - v / w * w := by
  show (if w = 0 then 0 else v - v / w * w) = _
  by_cases h : w = 0
  · rw [if_pos h, if_pos h]
  · rw [if_neg h, if_neg h]
    by_cases h2 : w = -1
    · rw [if_pos h2, h2, div_n1]
      have : -v * -1 = v := by
        rw [Int32.mul_neg, Int32.mul_one, Int32.neg_neg]
      rw [this, Int32.sub_self]
    · rw [if_neg h2]
section MSUM
variable {B B' Bq : hI} {b : Nat → Int} {L : Nat} (F : Nat) (Ax : hI) {fc : Nat → Int} {o : Int}
theorem tRel.sg {s : PS} (hr : tRel B b L s o) (hfa : s.2.2.2.2.1 = -1) {c : Int} (h0 : 37 ≤ c) (h1 : c ≤ 62) (h : s.1 = c) : B 399 304 = c := (((hr.2.2.2.1 hfa).2.2.2.2.2.2.2.2.2.1 c h0 h1).2 h).2
/-- the sign that is looked for, and the one that stands there -/
theorem em_sg {s : PS} (hr : tRel B b L s o) (hfa : s.2.2.2.2.1 = -1) (c : Int) (h0 : 37 ≤ c) (h1 : c ≤ 62) : f_m_isSign F (iI c) (mk Ax B) = some (iI (bI (s.1 = c)), mk Ax B) := by
  rw [em_isSign F Ax hr c h0 h1]
  simp only [hfa, true_and]
theorem em_sg0 {s : PS} (hr : tRel B b L s o) (c : Int) (h0 : 37 ≤ c) (h1 : c ≤ 62) (h : s.1 ≠ c) : f_m_isSign F (iI c) (mk Ax B) = some (iI 0, mk Ax B) := by
  rw [em_isSign F Ax hr c h0 h1, bI_f (fun z => h z.2)]
theorem ml_Sum (hF : 1000 ≤ F) (hL : L ≤ 120) (hb : ∀ i, i < L → 0 ≤ b i ∧ b i ≤ 255) {g : Nat → mM → Option (Int32 × mM)} {X : PS → PS} (hX : RD L X) (hg : Pm Ax Bq b L fc o (fun m => g 240 m) X) : Pm Ax Bq b L fc o (fun m => f_m_added F g m) (fun s => plp (pnx b L) X cSum 120 (X s)) := by
  refine ml_lv F Ax hF hL hb hX hX hg hg (c := cSum) (lp := f_m_added_5 F g) (fun t ht => ?_) (fun q v s B hr hp e => ?_) (fun q v w s B B1 B2 hr hp e hfa x1 x2 => ?_)
  · unfold cSum at ht ⊢
    (repeat' split at ht) <;> (repeat' split) <;> omega
  · have e1 : s.1 ≠ 43 := fun z => by rw [z] at e; exact absurd e (by decide)
    have e2 : s.1 ≠ 45 := fun z => by rw [z] at e; exact absurd e (by decide)
    rw [f_m_added_5]
    simp (disch := first | omega | (simp (disch := omega) only [uA_n]; done) | fail) only [iI_lit, iI_add, iI_sub, iI_mul, iI_neg, iI_lt, iI_le, iI_eq, zlt_t, zlt_f, zle_t, zle_f, zeq_t, zeq_f, nle_t, nle_f, iI_cl, rA, rS, rB, wA, wS, wB, mkp, mk2, uA_s, uA_n, ud_s, ud_n, bI_0, bI_1, nor_s, ↓reduceIte, or_false, false_or, or_true, true_or, or_self, not_true_eq_false, not_false_eq_true, and_true, true_and, and_false, false_and, bI_T, bI_F, Int.reduceToNat, Nat.reduceAdd, Nat.reduceMul, Int.reduceNeg, Option.bind_some, Int.toNat_natCast, ↓bind_of (show f_m_isSign F (43 : Int32) (mk Ax B) = _ from em_sg0 F Ax hr 43 (by omega) (by omega) e1), ↓bind_of (show f_m_isSign F (45 : Int32) (mk Ax B) = _ from em_sg0 F Ax hr 45 (by omega) (by omega) e2)]
  · rw [f_m_added_5]
    simp only [f_m_added_23, f_m_added_39, f_m_added_62]
    try simp only at x2
    have y1 := em_sg F Ax hr hfa 43 (by omega) (by omega)
    by_cases h1 : s.1 = 43
    · have e9 := hr.sg hfa (by omega) (by omega) h1
      rw [bI_t h1] at y1
      rw [show cSum s.1 = -18 from if_pos h1, bop_s1]
      simp (disch := first | omega | (simp (disch := omega) only [uA_n]; done) | fail) only [iI_lit, iI_add, iI_sub, iI_mul, iI_neg, iI_lt, iI_le, iI_eq, zlt_t, zlt_f, zle_t, zle_f, zeq_t, zeq_f, nle_t, nle_f, iI_cl, rA, rS, rB, wA, wS, wB, mkp, mk2, uA_s, uA_n, ud_s, ud_n, bI_0, bI_1, nor_s, ↓reduceIte, or_false, false_or, or_true, true_or, or_self, not_true_eq_false, not_false_eq_true, and_true, true_and, and_false, false_and, bI_T, bI_F, Int.reduceToNat, Nat.reduceAdd, Nat.reduceMul, Int.reduceNeg, Option.bind_some, Int.toNat_natCast, ↓bind_of (show f_m_isSign F (43 : Int32) (mk Ax B) = _ from y1), e9, rL, lI_lit, lg_0, ↓bind_of x1, ↓bind_of x2]
    · have h2 : s.1 = 45 := by unfold cSum at e; rw [if_neg h1] at e; split at e <;> omega
      have e9 := hr.sg hfa (by omega) (by omega) h2
      have y2 := em_sg F Ax hr hfa 45 (by omega) (by omega)
      rw [bI_f h1] at y1
      rw [bI_t h2] at y2
      rw [show cSum s.1 = -19 by rw [h2]; rfl, bop_s2]
      simp (disch := first | omega | (simp (disch := omega) only [uA_n]; done) | fail) only [iI_lit, iI_add, iI_sub, iI_mul, iI_neg, iI_lt, iI_le, iI_eq, zlt_t, zlt_f, zle_t, zle_f, zeq_t, zeq_f, nle_t, nle_f, iI_cl, rA, rS, rB, wA, wS, wB, mkp, mk2, uA_s, uA_n, ud_s, ud_n, bI_0, bI_1, nor_s, ↓reduceIte, or_false, false_or, or_true, true_or, or_self, not_true_eq_false, not_false_eq_true, and_true, true_and, and_false, false_and, bI_T, bI_F, Int.reduceToNat, Nat.reduceAdd, Nat.reduceMul, Int.reduceNeg, Option.bind_some, Int.toNat_natCast, ↓bind_of (show f_m_isSign F (43 : Int32) (mk Ax B) = _ from y1), ↓bind_of (show f_m_isSign F (45 : Int32) (mk Ax B) = _ from y2), e9, rL, lI_lit, lg_0, ↓bind_of x1, ↓bind_of x2]
theorem ml_Term (hF : 1000 ≤ F) (hL : L ≤ 120) (hb : ∀ i, i < L → 0 ≤ b i ∧ b i ≤ 255) {g : Nat → mM → Option (Int32 × mM)} {X : PS → PS} (hX : RD L X) (hg : Pm Ax Bq b L fc o (fun m => g 241 m) X) : Pm Ax Bq b L fc o (fun m => f_m_term F g m) (fun s => plp (pnx b L) X cTerm 120 (X s)) := by
  refine ml_lv F Ax hF hL hb hX hX hg hg (c := cTerm) (lp := f_m_term_5 F g) (fun t ht => ?_) (fun q v s B hr hp e => ?_) (fun q v w s B B1 B2 hr hp e hfa x1 x2 => ?_)
  · unfold cTerm at ht ⊢
    (repeat' split at ht) <;> (repeat' split) <;> omega
  · have e1 : s.1 ≠ 42 := fun z => by rw [z] at e; exact absurd e (by decide)
    have e2 : s.1 ≠ 47 := fun z => by rw [z] at e; exact absurd e (by decide)
    have e3 : s.1 ≠ 37 := fun z => by rw [z] at e; exact absurd e (by decide)
    rw [f_m_term_5]
    simp (disch := first | omega | (simp (disch := omega) only [uA_n]; done) | fail) only [iI_lit, iI_add, iI_sub, iI_mul, iI_neg, iI_lt, iI_le, iI_eq, zlt_t, zlt_f, zle_t, zle_f, zeq_t, zeq_f, nle_t, nle_f, iI_cl, rA, rS, rB, wA, wS, wB, mkp, mk2, uA_s, uA_n, ud_s, ud_n, bI_0, bI_1, nor_s, ↓reduceIte, or_false, false_or, or_true, true_or, or_self, not_true_eq_false, not_false_eq_true, and_true, true_and, and_false, false_and, bI_T, bI_F, Int.reduceToNat, Nat.reduceAdd, Nat.reduceMul, Int.reduceNeg, Option.bind_some, Int.toNat_natCast, ↓bind_of (show f_m_isSign F (42 : Int32) (mk Ax B) = _ from em_sg0 F Ax hr 42 (by omega) (by omega) e1), ↓bind_of (show f_m_isSign F (47 : Int32) (mk Ax B) = _ from em_sg0 F Ax hr 47 (by omega) (by omega) e2), ↓bind_of (show f_m_isSign F (37 : Int32) (mk Ax B) = _ from em_sg0 F Ax hr 37 (by omega) (by omega) e3)]
  · have y1 := em_sg F Ax hr hfa 42 (by omega) (by omega)
    have y2 := em_sg F Ax hr hfa 47 (by omega) (by omega)
    have y3 := em_sg F Ax hr hfa 37 (by omega) (by omega)
    rw [f_m_term_5]
    try simp only at x2
    have e0 : f_m_term_32 F g (f_m_term_5 F g q) v (mk Ax B) = f_m_term_5 F g q (bop (cTerm s.1) v w) (mk Ax B2) := by
      simp only [f_m_term_32, f_m_term_93, f_m_term_116, f_m_term_117]
      by_cases h1 : s.1 = 42
      · have e9 := hr.sg hfa (by omega) (by omega) h1
        rw [show cTerm s.1 = -20 from if_pos h1, bop_t1]
        simp (disch := first | omega | (simp (disch := omega) only [uA_n]; done) | fail) only [iI_lit, iI_add, iI_sub, iI_mul, iI_neg, iI_lt, iI_le, iI_eq, zlt_t, zlt_f, zle_t, zle_f, zeq_t, zeq_f, nle_t, nle_f, iI_cl, rA, rS, rB, wA, wS, wB, mkp, mk2, uA_s, uA_n, ud_s, ud_n, bI_0, bI_1, nor_s, ↓reduceIte, or_false, false_or, or_true, true_or, or_self, not_true_eq_false, not_false_eq_true, and_true, true_and, and_false, false_and, bI_T, bI_F, Int.reduceToNat, Nat.reduceAdd, Nat.reduceMul, Int.reduceNeg, Option.bind_some, Int.toNat_natCast, e9, rL, lI_lit, lg_0, ↓bind_of x1, ↓bind_of x2]
      · by_cases h2 : s.1 = 47
        · have e9 := hr.sg hfa (by omega) (by omega) h2
          rw [show cTerm s.1 = -21 by rw [h2]; rfl, bop_t2]
          by_cases k1 : w = 0
          · rw [if_pos k1]; subst k1
            simp (disch := first | omega | (simp (disch := omega) only [uA_n]; done) | fail) only [iI_lit, iI_add, iI_sub, iI_mul, iI_neg, iI_lt, iI_le, iI_eq, zlt_t, zlt_f, zle_t, zle_f, zeq_t, zeq_f, nle_t, nle_f, iI_cl, rA, rS, rB, wA, wS, wB, mkp, mk2, uA_s, uA_n, ud_s, ud_n, bI_0, bI_1, nor_s, ↓reduceIte, or_false, false_or, or_true, true_or, or_self, not_true_eq_false, not_false_eq_true, and_true, true_and, and_false, false_and, bI_T, bI_F, Int.reduceToNat, Nat.reduceAdd, Nat.reduceMul, Int.reduceNeg, Option.bind_some, Int.toNat_natCast, e9, rL, lI_lit, lg_0, ↓bind_of x1, ↓bind_of x2]
          · rw [if_neg k1]
            by_cases k2 : w = -1
            · rw [if_pos k2]; subst k2
              simp (disch := first | omega | (simp (disch := omega) only [uA_n]; done) | fail) only [iI_lit, iI_add, iI_sub, iI_mul, iI_neg, iI_lt, iI_le, iI_eq, zlt_t, zlt_f, zle_t, zle_f, zeq_t, zeq_f, nle_t, nle_f, iI_cl, rA, rS, rB, wA, wS, wB, mkp, mk2, uA_s, uA_n, ud_s, ud_n, bI_0, bI_1, nor_s, ↓reduceIte, or_false, false_or, or_true, true_or, or_self, not_true_eq_false, not_false_eq_true, and_true, true_and, and_false, false_and, bI_T, bI_F, Int.reduceToNat, Nat.reduceAdd, Nat.reduceMul, Int.reduceNeg, Option.bind_some, Int.toNat_natCast, e9, rL, lI_lit, lg_0, ↓bind_of x1, ↓bind_of x2]
            · rw [if_neg k2]
              simp (disch := first | omega | (simp (disch := omega) only [uA_n]; done) | fail) only [iI_lit, iI_add, iI_sub, iI_mul, iI_neg, iI_lt, iI_le, iI_eq, zlt_t, zlt_f, zle_t, zle_f, zeq_t, zeq_f, nle_t, nle_f, iI_cl, rA, rS, rB, wA, wS, wB, mkp, mk2, uA_s, uA_n, ud_s, ud_n, bI_0, bI_1, nor_s, ↓reduceIte, or_false, false_or, or_true, true_or, or_self, not_true_eq_false, not_false_eq_true, and_true, true_and, and_false, false_and, bI_T, bI_F, Int.reduceToNat, Nat.reduceAdd, Nat.reduceMul, Int.reduceNeg, Option.bind_some, Int.toNat_natCast, e9, rL, lI_lit, lg_0, ↓bind_of x1, ↓bind_of x2]
              exact (if_neg (c := w = iI 0) k1).trans (if_neg (c := w = iI (-1)) k2)
        · have h3 : s.1 = 37 := by unfold cTerm at e; rw [if_neg h1, if_neg h2] at e; split at e <;> omega
          have e9 := hr.sg hfa (by omega) (by omega) h3
          rw [show cTerm s.1 = -22 by rw [h3]; rfl, bop_t3]
          by_cases k1 : w = 0
          · rw [if_pos k1]; subst k1
            simp (disch := first | omega | (simp (disch := omega) only [uA_n]; done) | fail) only [iI_lit, iI_add, iI_sub, iI_mul, iI_neg, iI_lt, iI_le, iI_eq, zlt_t, zlt_f, zle_t, zle_f, zeq_t, zeq_f, nle_t, nle_f, iI_cl, rA, rS, rB, wA, wS, wB, mkp, mk2, uA_s, uA_n, ud_s, ud_n, bI_0, bI_1, nor_s, ↓reduceIte, or_false, false_or, or_true, true_or, or_self, not_true_eq_false, not_false_eq_true, and_true, true_and, and_false, false_and, bI_T, bI_F, Int.reduceToNat, Nat.reduceAdd, Nat.reduceMul, Int.reduceNeg, Option.bind_some, Int.toNat_natCast, e9, rL, lI_lit, lg_0, ↓bind_of x1, ↓bind_of x2]
          · rw [if_neg k1]
            by_cases k2 : w = -1
            · rw [if_pos k2]; subst k2
              simp (disch := first | omega | (simp (disch := omega) only [uA_n]; done) | fail) only [iI_lit, iI_add, iI_sub, iI_mul, iI_neg, iI_lt, iI_le, iI_eq, zlt_t, zlt_f, zle_t, zle_f, zeq_t, zeq_f, nle_t, nle_f, iI_cl, rA, rS, rB, wA, wS, wB, mkp, mk2, uA_s, uA_n, ud_s, ud_n, bI_0, bI_1, nor_s, ↓reduceIte, or_false, false_or, or_true, true_or, or_self, not_true_eq_false, not_false_eq_true, and_true, true_and, and_false, false_and, bI_T, bI_F, Int.reduceToNat, Nat.reduceAdd, Nat.reduceMul, Int.reduceNeg, Option.bind_some, Int.toNat_natCast, e9, rL, lI_lit, lg_0, ↓bind_of x1, ↓bind_of x2]
            · rw [if_neg k2]
              simp (disch := first | omega | (simp (disch := omega) only [uA_n]; done) | fail) only [iI_lit, iI_add, iI_sub, iI_mul, iI_neg, iI_lt, iI_le, iI_eq, zlt_t, zlt_f, zle_t, zle_f, zeq_t, zeq_f, nle_t, nle_f, iI_cl, rA, rS, rB, wA, wS, wB, mkp, mk2, uA_s, uA_n, ud_s, ud_n, bI_0, bI_1, nor_s, ↓reduceIte, or_false, false_or, or_true, true_or, or_self, not_true_eq_false, not_false_eq_true, and_true, true_and, and_false, false_and, bI_T, bI_F, Int.reduceToNat, Nat.reduceAdd, Nat.reduceMul, Int.reduceNeg, Option.bind_some, Int.toNat_natCast, e9, rL, lI_lit, lg_0, ↓bind_of x1, ↓bind_of x2]
              exact (if_neg (c := w = iI 0) k1).trans (if_neg (c := w = iI (-1)) k2)
    rw [← e0]
    generalize f_m_term_32 F g (f_m_term_5 F g q) v = k
    by_cases h1 : s.1 = 42
    · rw [bI_t h1] at y1
      simp (disch := first | omega | (simp (disch := omega) only [uA_n]; done) | fail) only [iI_lit, iI_add, iI_sub, iI_mul, iI_neg, iI_lt, iI_le, iI_eq, zlt_t, zlt_f, zle_t, zle_f, zeq_t, zeq_f, nle_t, nle_f, iI_cl, rA, rS, rB, wA, wS, wB, mkp, mk2, uA_s, uA_n, ud_s, ud_n, bI_0, bI_1, nor_s, ↓reduceIte, or_false, false_or, or_true, true_or, or_self, not_true_eq_false, not_false_eq_true, and_true, true_and, and_false, false_and, bI_T, bI_F, Int.reduceToNat, Nat.reduceAdd, Nat.reduceMul, Int.reduceNeg, Option.bind_some, Int.toNat_natCast, ↓bind_of (show f_m_isSign F (42 : Int32) (mk Ax B) = _ from y1)]
    · rw [bI_f h1] at y1
      by_cases h2 : s.1 = 47
      · rw [bI_t h2] at y2
        simp (disch := first | omega | (simp (disch := omega) only [uA_n]; done) | fail) only [iI_lit, iI_add, iI_sub, iI_mul, iI_neg, iI_lt, iI_le, iI_eq, zlt_t, zlt_f, zle_t, zle_f, zeq_t, zeq_f, nle_t, nle_f, iI_cl, rA, rS, rB, wA, wS, wB, mkp, mk2, uA_s, uA_n, ud_s, ud_n, bI_0, bI_1, nor_s, ↓reduceIte, or_false, false_or, or_true, true_or, or_self, not_true_eq_false, not_false_eq_true, and_true, true_and, and_false, false_and, bI_T, bI_F, Int.reduceToNat, Nat.reduceAdd, Nat.reduceMul, Int.reduceNeg, Option.bind_some, Int.toNat_natCast, ↓bind_of (show f_m_isSign F (42 : Int32) (mk Ax B) = _ from y1), ↓bind_of (show f_m_isSign F (47 : Int32) (mk Ax B) = _ from y2)]
      · rw [bI_f h2] at y2
        have h3 : s.1 = 37 := by unfold cTerm at e; rw [if_neg h1, if_neg h2] at e; split at e <;> omega
        rw [bI_t h3] at y3
        simp (disch := first | omega | (simp (disch := omega) only [uA_n]; done) | fail) only [iI_lit, iI_add, iI_sub, iI_mul, iI_neg, iI_lt, iI_le, iI_eq, zlt_t, zlt_f, zle_t, zle_f, zeq_t, zeq_f, nle_t, nle_f, iI_cl, rA, rS, rB, wA, wS, wB, mkp, mk2, uA_s, uA_n, ud_s, ud_n, bI_0, bI_1, nor_s, ↓reduceIte, or_false, false_or, or_true, true_or, or_self, not_true_eq_false, not_false_eq_true, and_true, true_and, and_false, false_and, bI_T, bI_F, Int.reduceToNat, Nat.reduceAdd, Nat.reduceMul, Int.reduceNeg, Option.bind_some, Int.toNat_natCast, ↓bind_of (show f_m_isSign F (42 : Int32) (mk Ax B) = _ from y1), ↓bind_of (show f_m_isSign F (47 : Int32) (mk Ax B) = _ from y2), ↓bind_of (show f_m_isSign F (37 : Int32) (mk Ax B) = _ from y3)]
end MSUM
