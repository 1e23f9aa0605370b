/-! the reference's comparisons, NOT, by levels -/
theorem bop_e (v w : Int32) : bop (-15) v w = if v = w then 1 else 0 := rfl
theorem bop_l (v w : Int32) : bop (-16) v w = if w ≤ v then 0 else 1 := by
  show (if v < w then 1 else 0) = _
  by_cases h : w ≤ v
  · rw [if_pos h, if_neg (Int32.not_lt.mpr h)]
  · rw [if_neg h, if_pos (Int32.not_le.mp h)]
theorem bop_g (v w : Int32) : bop (-17) v w = if v ≤ w then 0 else 1 := by
  show (if w < v then 1 else 0) = _
  by_cases h : v ≤ w
  · rw [if_pos h, if_neg (Int32.not_lt.mpr h)]
  · rw [if_neg h, if_pos (Int32.not_le.mp h)]
section MONE
variable {B B' Bq : hI} {b : Nat → Int} {L : Nat} (F : Nat) (Ax : hI) {fc : Nat → Int} {o : Int}
/-- an opening: too deep, or one deeper and on -/
theorem em_opens6 {s : PS} (hr : tRel B b L s 6) (hp : PI L s) : ∃ B' : hI, f_m_opens F (mk Ax B) = some (0, mk Ax B') ∧ tRel B' b L (pst s) 6 ∧ frM B B' := by
  obtain ⟨B1, x1, x2, x3⟩ := em_fail F Ax hr hp
  have e16 := hr.2.2.1
  refine ⟨B1, ?_, x2, x3⟩
  unfold f_m_opens
  simp (disch := first | omega | (simp (disch := omega) only [uA_n]; done) | fail) only [iI_lit, iI_add, iI_sub, iI_mul, iI_neg, iI_lt, iI_le, iI_eq, zlt_t, zlt_f, zle_t, zle_f, zeq_t, zeq_f, nle_t, nle_f, iI_cl, rA, rS, rB, wA, wS, wB, mkp, mk2, uA_s, uA_n, ud_s, ud_n, bI_0, bI_1, nor_s, ↓reduceIte, or_false, false_or, or_true, true_or, or_self, not_true_eq_false, not_false_eq_true, and_true, true_and, and_false, false_and, bI_T, bI_F, Int.reduceToNat, Nat.reduceAdd, Nat.reduceMul, Int.reduceNeg, Option.bind_some, Int.toNat_natCast, e16, x1]
theorem em_opens (hF : 1000 ≤ F) (hL : L ≤ 120) (hb : ∀ i, i < L → 0 ≤ b i ∧ b i ≤ 255) {s : PS} (hr : tRel B b L s o) (hp : PI L s) (hf : s.2.2.2.2.1 = -1) (ht : s.1 ≠ 1) (ho : 0 ≤ o ∧ o < 6) : ∃ B' : hI, f_m_opens F (mk Ax B) = some (1, mk Ax B') ∧ tRel B' b L (pnx b L s) (o + 1) ∧ frM B B' := by
  obtain ⟨B1, x1, x2, x3⟩ := em_next F Ax hF hL hb (hr.op (o + 1)) hp.2.1 hf ht
  have e16 := hr.2.2.1
  refine ⟨B1, ?_, x2, (frM.op (frM.rf B) (o + 1)).tr x3⟩
  unfold f_m_opens
  simp (disch := first | omega | (simp (disch := omega) only [uA_n]; done) | fail) only [iI_lit, iI_add, iI_sub, iI_mul, iI_neg, iI_lt, iI_le, iI_eq, zlt_t, zlt_f, zle_t, zle_f, zeq_t, zeq_f, nle_t, nle_f, iI_cl, rA, rS, rB, wA, wS, wB, mkp, mk2, uA_s, uA_n, ud_s, ud_n, bI_0, bI_1, nor_s, ↓reduceIte, or_false, false_or, or_true, true_or, or_self, not_true_eq_false, not_false_eq_true, and_true, true_and, and_false, false_and, bI_T, bI_F, Int.reduceToNat, Nat.reduceAdd, Nat.reduceMul, Int.reduceNeg, Option.bind_some, Int.toNat_natCast, e16, x1]
theorem cl_of (hF : 1000 ≤ F) {s : PS} (hr : tRel B b L s (o + 1)) (ho : 0 ≤ o ∧ o < 6) : (m_up (mk Ax B).1 304 16 ((mk Ax B).1 304 16 - (1 : Int32)), (mk Ax B).2) = mk Ax (uA B 304 16 o) ∧ tRel (uA B 304 16 o) b L s o := by
  have e16 := hr.2.2.1
  refine ⟨?_, hr.op o⟩
  simp (disch := first | omega | (simp (disch := omega) only [uA_n]; done) | fail) only [iI_lit, iI_add, iI_sub, iI_mul, iI_neg, iI_lt, iI_le, iI_eq, zlt_t, zlt_f, zle_t, zle_f, zeq_t, zeq_f, nle_t, nle_f, iI_cl, rA, rS, rB, wA, wS, wB, mkp, mk2, uA_s, uA_n, ud_s, ud_n, bI_0, bI_1, nor_s, ↓reduceIte, or_false, false_or, or_true, true_or, or_self, not_true_eq_false, not_false_eq_true, and_true, true_and, and_false, false_and, bI_T, bI_F, Int.reduceToNat, Nat.reduceAdd, Nat.reduceMul, Int.reduceNeg, Option.bind_some, Int.toNat_natCast, e16]
  rw [show o + 1 - 1 = o by omega]
theorem ml_Not (hF : 1000 ≤ F) (hL : L ≤ 120) (hb : ∀ i, i < L → 0 ≤ b i ∧ b i ≤ 255) {g : Nat → mM → Option (Int32 × mM)} (ho : 0 ≤ o) (ho2 : o ≤ 6) {dead : Bool} (hd : dead = true ↔ o = 6) {N X : PS → PS} (hN : dead = false → RD L N) (hX : RD L X) (hg : Pm Ax Bq b L fc o (fun m => g 239 m) X) (hg2 : dead = false → Pm Ax Bq b L fc (o + 1) (fun m => g 237 m) N) : Pm Ax Bq b L fc o (fun m => f_m_not F g m) (pNotF (pnx b L) dead N X) := by
  intro s B hr hm hp
  have tk := hp.2.2.2.2.2.1
  have w20 := em_isWord F Ax hr 10631 20 (by decide) (by omega) (by omega)
  simp only [f_m_not, f_m_not_43]
  unfold pNotF
  by_cases h8 : s.1 = 8
  · have hfa : s.2.2.2.2.1 = -1 := by have := hp.2.2.1; omega
    rw [if_pos h8]
    rw [bI_t ⟨hfa, (tkw_not tk).2 h8⟩] at w20
    by_cases h6 : o = 6
    · rw [if_pos (hd.mpr h6)]
      obtain ⟨B1, x1, x2, x3⟩ := em_opens6 F Ax (h6 ▸ hr) hp
      exact ⟨0, B1, by simp (disch := first | omega | (simp (disch := omega) only [uA_n]; done) | fail) only [iI_lit, iI_add, iI_sub, iI_mul, iI_neg, iI_lt, iI_le, iI_eq, zlt_t, zlt_f, zle_t, zle_f, zeq_t, zeq_f, nle_t, nle_f, iI_cl, rA, rS, rB, wA, wS, wB, mkp, mk2, uA_s, uA_n, ud_s, ud_n, bI_0, bI_1, nor_s, ↓reduceIte, or_false, false_or, or_true, true_or, or_self, not_true_eq_false, not_false_eq_true, and_true, true_and, and_false, false_and, bI_T, bI_F, Int.reduceToNat, Nat.reduceAdd, Nat.reduceMul, Int.reduceNeg, Option.bind_some, Int.toNat_natCast, ↓bind_of (show f_m_isWord F (10631 : Int64) (mk Ax B) = _ from w20), ↓bind_of x1], h6 ▸ x2, hm.tr x3, fun z => absurd z (pst_PI hp).2.2⟩
    · have hdf : dead = false := by cases dead with | false => rfl | true => exact absurd (hd.mp rfl) h6
      rw [if_neg (show ¬ dead = true by rw [hdf]; decide)]
      obtain ⟨B1, x1, x2, x3⟩ := em_opens F Ax hF hL hb hr hp hfa (by omega) (by omega)
      obtain ⟨w, B2, y1, y2, y3, y4⟩ := hg2 hdf _ B1 x2 (hm.tr x3) (pnx_PI (b := b) hp hfa).1
      obtain ⟨c1, c2⟩ := cl_of F Ax hF y2 (by omega)
      try simp only at y1
      refine ⟨if w = 0 then 1 else 0, uA B2 304 16 o, ?_, c2, y3.op o, fun z => ?_⟩
      · have e16 := y2.2.2.1
        have eo : o + 1 - 1 = o := by omega
        by_cases hw : w = 0
        · rw [if_pos hw]; subst hw
          simp (disch := first | omega | (simp (disch := omega) only [uA_n]; done) | fail) only [iI_lit, iI_add, iI_sub, iI_mul, iI_neg, iI_lt, iI_le, iI_eq, zlt_t, zlt_f, zle_t, zle_f, zeq_t, zeq_f, nle_t, nle_f, iI_cl, rA, rS, rB, wA, wS, wB, mkp, mk2, uA_s, uA_n, ud_s, ud_n, bI_0, bI_1, nor_s, ↓reduceIte, or_false, false_or, or_true, true_or, or_self, not_true_eq_false, not_false_eq_true, and_true, true_and, and_false, false_and, bI_T, bI_F, Int.reduceToNat, Nat.reduceAdd, Nat.reduceMul, Int.reduceNeg, Option.bind_some, Int.toNat_natCast, ↓bind_of (show f_m_isWord F (10631 : Int64) (mk Ax B) = _ from w20), ↓bind_of x1, ↓bind_of y1, e16, eo]
        · rw [if_neg hw]
          simp (disch := first | omega | (simp (disch := omega) only [uA_n]; done) | fail) only [iI_lit, iI_add, iI_sub, iI_mul, iI_neg, iI_lt, iI_le, iI_eq, zlt_t, zlt_f, zle_t, zle_f, zeq_t, zeq_f, nle_t, nle_f, iI_cl, rA, rS, rB, wA, wS, wB, mkp, mk2, uA_s, uA_n, ud_s, ud_n, bI_0, bI_1, nor_s, ↓reduceIte, or_false, false_or, or_true, true_or, or_self, not_true_eq_false, not_false_eq_true, and_true, true_and, and_false, false_and, bI_T, bI_F, Int.reduceToNat, Nat.reduceAdd, Nat.reduceMul, Int.reduceNeg, Option.bind_some, Int.toNat_natCast, ↓bind_of (show f_m_isWord F (10631 : Int64) (mk Ax B) = _ from w20), ↓bind_of x1, ↓bind_of y1, e16, eo]
          exact if_neg (c := w = iI 0) hw
      · obtain ⟨nw, z1, z2⟩ := y4 z
        refine ⟨nw ++ [-11], ?_, fun st => ?_⟩
        · show (N (pnx b L s)).2.2.2.2.2 ++ [-11] = _
          rw [z1, List.append_assoc]; rfl
        · rw [evs_app, z2]; rfl
  · rw [if_neg h8]
    rw [bI_f (fun z => h8 ((tkw_not tk).1 z.2))] at w20
    obtain ⟨v, B1, x1, x2, x3, x4⟩ := hg s B hr hm hp
    have q1 := (hX s hp).1
    try simp only at x1
    have tk2 := q1.2.2.2.2.2.1
    simp only [tkR] at tk2
    by_cases hc : cCmp (X s).1 = 0
    · rw [if_pos hc]
      have e1 : (X s).1 ≠ 60 := fun z => by rw [z] at hc; exact absurd hc (by decide)
      have e2 : (X s).1 ≠ 61 := fun z => by rw [z] at hc; exact absurd hc (by decide)
      have e3 : (X s).1 ≠ 62 := fun z => by rw [z] at hc; exact absurd hc (by decide)
      exact ⟨v, B1, by simp (disch := first | omega | (simp (disch := omega) only [uA_n]; done) | fail) only [iI_lit, iI_add, iI_sub, iI_mul, iI_neg, iI_lt, iI_le, iI_eq, zlt_t, zlt_f, zle_t, zle_f, zeq_t, zeq_f, nle_t, nle_f, iI_cl, rA, rS, rB, wA, wS, wB, mkp, mk2, uA_s, uA_n, ud_s, ud_n, bI_0, bI_1, nor_s, ↓reduceIte, or_false, false_or, or_true, true_or, or_self, not_true_eq_false, not_false_eq_true, and_true, true_and, and_false, false_and, bI_T, bI_F, Int.reduceToNat, Nat.reduceAdd, Nat.reduceMul, Int.reduceNeg, Option.bind_some, Int.toNat_natCast, ↓bind_of (show f_m_isWord F (10631 : Int64) (mk Ax B) = _ from w20), ↓bind_of x1, ↓bind_of (show f_m_isSign F (60 : Int32) (mk Ax B1) = _ from em_sg0 F Ax x2 60 (by omega) (by omega) e1), ↓bind_of (show f_m_isSign F (61 : Int32) (mk Ax B1) = _ from em_sg0 F Ax x2 61 (by omega) (by omega) e2), ↓bind_of (show f_m_isSign F (62 : Int32) (mk Ax B1) = _ from em_sg0 F Ax x2 62 (by omega) (by omega) e3)], x2, x3, x4⟩
    · rw [if_neg hc]
      have hfa : (X s).2.2.2.2.1 = -1 := by
        have := q1.2.2.1
        rcases this with u | u
        · exact u
        · rw [u.1] at hc; exact absurd rfl hc
      have hcr : cCmp (X s).1 = 0 ∨ (-17 ≤ cCmp (X s).1 ∧ cCmp (X s).1 ≤ -15) := by unfold cCmp; (repeat' split) <;> omega
      have ht : (X s).1 = 60 ∨ (X s).1 = 61 ∨ (X s).1 = 62 := by unfold cCmp at hc; (repeat' split at hc) <;> omega
      obtain ⟨B2, B3, w, y1, y2, y3, y4, y5⟩ := em_op F Ax hF hL hb hX hg x2 x3 q1 hfa (by omega) (c := cCmp (X s).1) (by omega)
      try simp only at y2
      refine ⟨bop (cCmp (X s).1) v w, B3, ?_, y3, y4, fun z => ?_⟩
      · have s1 := em_sg F Ax x2 hfa 60 (by omega) (by omega)
        have s2 := em_sg F Ax x2 hfa 61 (by omega) (by omega)
        have s3 := em_sg F Ax x2 hfa 62 (by omega) (by omega)
        have e0 : f_m_not_78 F g v (mk Ax B1) = some (bop (cCmp (X s).1) v w, mk Ax B3) := by
          simp only [f_m_not_78, f_m_not_137, f_m_not_133, f_m_not_138]
          rcases ht with h1 | h1 | h1
          · have e9 := x2.sg hfa (by omega) (by omega) h1
            rw [show cCmp (X s).1 = -16 by rw [h1]; rfl, bop_l]
            by_cases hw : w ≤ v
            · rw [if_pos hw]
              simp (disch := first | omega | (simp (disch := omega) only [uA_n]; done) | fail) only [iI_lit, iI_add, iI_sub, iI_mul, iI_neg, iI_lt, iI_le, iI_eq, zlt_t, zlt_f, zle_t, zle_f, zeq_t, zeq_f, nle_t, nle_f, iI_cl, rA, rS, rB, wA, wS, wB, mkp, mk2, uA_s, uA_n, ud_s, ud_n, bI_0, bI_1, nor_s, ↓reduceIte, or_false, false_or, or_true, true_or, or_self, not_true_eq_false, not_false_eq_true, and_true, true_and, and_false, false_and, bI_T, bI_F, Int.reduceToNat, Nat.reduceAdd, Nat.reduceMul, Int.reduceNeg, Option.bind_some, Int.toNat_natCast, e9, rL, lI_lit, lg_0, ↓bind_of y1, ↓bind_of y2]
              exact if_pos hw
            · rw [if_neg hw]
              simp (disch := first | omega | (simp (disch := omega) only [uA_n]; done) | fail) only [iI_lit, iI_add, iI_sub, iI_mul, iI_neg, iI_lt, iI_le, iI_eq, zlt_t, zlt_f, zle_t, zle_f, zeq_t, zeq_f, nle_t, nle_f, iI_cl, rA, rS, rB, wA, wS, wB, mkp, mk2, uA_s, uA_n, ud_s, ud_n, bI_0, bI_1, nor_s, ↓reduceIte, or_false, false_or, or_true, true_or, or_self, not_true_eq_false, not_false_eq_true, and_true, true_and, and_false, false_and, bI_T, bI_F, Int.reduceToNat, Nat.reduceAdd, Nat.reduceMul, Int.reduceNeg, Option.bind_some, Int.toNat_natCast, e9, rL, lI_lit, lg_0, ↓bind_of y1, ↓bind_of y2]
              exact if_neg hw
          · have e9 := x2.sg hfa (by omega) (by omega) h1
            rw [show cCmp (X s).1 = -15 by rw [h1]; rfl, bop_e]
            by_cases hw : v = w
            · rw [if_pos hw]
              simp (disch := first | omega | (simp (disch := omega) only [uA_n]; done) | fail) only [iI_lit, iI_add, iI_sub, iI_mul, iI_neg, iI_lt, iI_le, iI_eq, zlt_t, zlt_f, zle_t, zle_f, zeq_t, zeq_f, nle_t, nle_f, iI_cl, rA, rS, rB, wA, wS, wB, mkp, mk2, uA_s, uA_n, ud_s, ud_n, bI_0, bI_1, nor_s, ↓reduceIte, or_false, false_or, or_true, true_or, or_self, not_true_eq_false, not_false_eq_true, and_true, true_and, and_false, false_and, bI_T, bI_F, Int.reduceToNat, Nat.reduceAdd, Nat.reduceMul, Int.reduceNeg, Option.bind_some, Int.toNat_natCast, e9, rL, lI_lit, lg_0, ↓bind_of y1, ↓bind_of y2]
              exact if_pos hw
            · rw [if_neg hw]
              simp (disch := first | omega | (simp (disch := omega) only [uA_n]; done) | fail) only [iI_lit, iI_add, iI_sub, iI_mul, iI_neg, iI_lt, iI_le, iI_eq, zlt_t, zlt_f, zle_t, zle_f, zeq_t, zeq_f, nle_t, nle_f, iI_cl, rA, rS, rB, wA, wS, wB, mkp, mk2, uA_s, uA_n, ud_s, ud_n, bI_0, bI_1, nor_s, ↓reduceIte, or_false, false_or, or_true, true_or, or_self, not_true_eq_false, not_false_eq_true, and_true, true_and, and_false, false_and, bI_T, bI_F, Int.reduceToNat, Nat.reduceAdd, Nat.reduceMul, Int.reduceNeg, Option.bind_some, Int.toNat_natCast, e9, rL, lI_lit, lg_0, ↓bind_of y1, ↓bind_of y2]
              exact if_neg hw
          · have e9 := x2.sg hfa (by omega) (by omega) h1
            rw [show cCmp (X s).1 = -17 by rw [h1]; rfl, bop_g]
            by_cases hw : v ≤ w
            · rw [if_pos hw]
              simp (disch := first | omega | (simp (disch := omega) only [uA_n]; done) | fail) only [iI_lit, iI_add, iI_sub, iI_mul, iI_neg, iI_lt, iI_le, iI_eq, zlt_t, zlt_f, zle_t, zle_f, zeq_t, zeq_f, nle_t, nle_f, iI_cl, rA, rS, rB, wA, wS, wB, mkp, mk2, uA_s, uA_n, ud_s, ud_n, bI_0, bI_1, nor_s, ↓reduceIte, or_false, false_or, or_true, true_or, or_self, not_true_eq_false, not_false_eq_true, and_true, true_and, and_false, false_and, bI_T, bI_F, Int.reduceToNat, Nat.reduceAdd, Nat.reduceMul, Int.reduceNeg, Option.bind_some, Int.toNat_natCast, e9, rL, lI_lit, lg_0, ↓bind_of y1, ↓bind_of y2]
              exact if_pos hw
            · rw [if_neg hw]
              simp (disch := first | omega | (simp (disch := omega) only [uA_n]; done) | fail) only [iI_lit, iI_add, iI_sub, iI_mul, iI_neg, iI_lt, iI_le, iI_eq, zlt_t, zlt_f, zle_t, zle_f, zeq_t, zeq_f, nle_t, nle_f, iI_cl, rA, rS, rB, wA, wS, wB, mkp, mk2, uA_s, uA_n, ud_s, ud_n, bI_0, bI_1, nor_s, ↓reduceIte, or_false, false_or, or_true, true_or, or_self, not_true_eq_false, not_false_eq_true, and_true, true_and, and_false, false_and, bI_T, bI_F, Int.reduceToNat, Nat.reduceAdd, Nat.reduceMul, Int.reduceNeg, Option.bind_some, Int.toNat_natCast, e9, rL, lI_lit, lg_0, ↓bind_of y1, ↓bind_of y2]
              exact if_neg hw
        rcases ht with h1 | h1 | h1
        · rw [bI_t h1] at s1
          simp (disch := first | omega | (simp (disch := omega) only [uA_n]; done) | fail) only [iI_lit, iI_add, iI_sub, iI_mul, iI_neg, iI_lt, iI_le, iI_eq, zlt_t, zlt_f, zle_t, zle_f, zeq_t, zeq_f, nle_t, nle_f, iI_cl, rA, rS, rB, wA, wS, wB, mkp, mk2, uA_s, uA_n, ud_s, ud_n, bI_0, bI_1, nor_s, ↓reduceIte, or_false, false_or, or_true, true_or, or_self, not_true_eq_false, not_false_eq_true, and_true, true_and, and_false, false_and, bI_T, bI_F, Int.reduceToNat, Nat.reduceAdd, Nat.reduceMul, Int.reduceNeg, Option.bind_some, Int.toNat_natCast, ↓bind_of (show f_m_isWord F (10631 : Int64) (mk Ax B) = _ from w20), ↓bind_of x1, ↓bind_of (show f_m_isSign F (60 : Int32) (mk Ax B1) = _ from s1), e0]
        · rw [bI_f (by omega)] at s1
          rw [bI_t h1] at s2
          simp (disch := first | omega | (simp (disch := omega) only [uA_n]; done) | fail) only [iI_lit, iI_add, iI_sub, iI_mul, iI_neg, iI_lt, iI_le, iI_eq, zlt_t, zlt_f, zle_t, zle_f, zeq_t, zeq_f, nle_t, nle_f, iI_cl, rA, rS, rB, wA, wS, wB, mkp, mk2, uA_s, uA_n, ud_s, ud_n, bI_0, bI_1, nor_s, ↓reduceIte, or_false, false_or, or_true, true_or, or_self, not_true_eq_false, not_false_eq_true, and_true, true_and, and_false, false_and, bI_T, bI_F, Int.reduceToNat, Nat.reduceAdd, Nat.reduceMul, Int.reduceNeg, Option.bind_some, Int.toNat_natCast, ↓bind_of (show f_m_isWord F (10631 : Int64) (mk Ax B) = _ from w20), ↓bind_of x1, ↓bind_of (show f_m_isSign F (60 : Int32) (mk Ax B1) = _ from s1), ↓bind_of (show f_m_isSign F (61 : Int32) (mk Ax B1) = _ from s2), e0]
        · rw [bI_f (by omega)] at s1
          rw [bI_f (by omega)] at s2
          rw [bI_t h1] at s3
          simp (disch := first | omega | (simp (disch := omega) only [uA_n]; done) | fail) only [iI_lit, iI_add, iI_sub, iI_mul, iI_neg, iI_lt, iI_le, iI_eq, zlt_t, zlt_f, zle_t, zle_f, zeq_t, zeq_f, nle_t, nle_f, iI_cl, rA, rS, rB, wA, wS, wB, mkp, mk2, uA_s, uA_n, ud_s, ud_n, bI_0, bI_1, nor_s, ↓reduceIte, or_false, false_or, or_true, true_or, or_self, not_true_eq_false, not_false_eq_true, and_true, true_and, and_false, false_and, bI_T, bI_F, Int.reduceToNat, Nat.reduceAdd, Nat.reduceMul, Int.reduceNeg, Option.bind_some, Int.toNat_natCast, ↓bind_of (show f_m_isWord F (10631 : Int64) (mk Ax B) = _ from w20), ↓bind_of x1, ↓bind_of (show f_m_isSign F (60 : Int32) (mk Ax B1) = _ from s1), ↓bind_of (show f_m_isSign F (61 : Int32) (mk Ax B1) = _ from s2), ↓bind_of (show f_m_isSign F (62 : Int32) (mk Ax B1) = _ from s3), e0]
      · obtain ⟨n2, z1, z2⟩ := y5 z
        obtain ⟨n1, u1, u2⟩ := x4 hfa
        exact ⟨n1 ++ n2, by rw [z1, u1, List.append_assoc], fun st => by rw [evs_app, u2, z2]⟩
end MONE
