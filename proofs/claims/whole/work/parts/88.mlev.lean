/-! THE REFERENCE READS AND WORKS, by levels -/
def Pm (Ax Bq : hI) (b : Nat → Int) (L : Nat) (fc : Nat → Int) (o : Int) (f : mM → Option (Int32 × mM)) (p : PS → PS) : Prop := ∀ (s : PS) (B : hI), tRel B b L s o → frM Bq B → PI L s → ∃ (v : Int32) (B' : hI), f (mk Ax B) = some (v, mk Ax B') ∧ tRel B' b L (p s) o ∧ frM Bq B' ∧ ((p s).2.2.2.2.1 = -1 → ∃ nw : List Int, (p s).2.2.2.2.2 = s.2.2.2.2.2 ++ nw ∧ ∀ st, evs fc nw st = v :: st)
theorem tRel.op {B : hI} {b : Nat → Int} {L : Nat} {s : PS} {o : Int} (h : tRel B b L s o) (o' : Int) : tRel (uA B 304 16 o') b L s o' := by
  obtain ⟨r1, r2, r3, r4, r5⟩ := h
  have e : ∀ j : Nat, j ≠ 16 → uA B 304 16 o' 304 j = B 304 j := fun j hj => by rw [uA_s, ud_n hj]
  have e2 : uA B 304 16 o' 399 = B 399 := uA_n (by omega)
  refine ⟨by rw [e 11 (by omega)]; exact r1, fun i hi => by rw [uA_n (by omega)]; exact r2 i hi, by rw [uA_s, ud_s], fun z => ?_, fun z => ?_⟩
  · obtain ⟨a1, a2, a3⟩ := r4 z
    refine ⟨by rw [e 17 (by omega)]; exact a1, by rw [e 13 (by omega)]; exact a2, ?_⟩
    unfold tkB at a3 ⊢
    rw [e 15 (by omega), e 12 (by omega), e2]
    exact a3
  · rw [e 17 (by omega), e 18 (by omega)]; exact r5 z
theorem frM.op {Bq B : hI} (h : frM Bq B) (o' : Int) : frM Bq (uA B 304 16 o') := h.tr ⟨fun k h1 h2 => uA_n h1, fun j hj => by rw [uA_s, ud_n (by omega)]⟩
section MLEV
variable {B B' Bq : hI} {b : Nat → Int} {L : Nat} (F : Nat) (Ax : hI) {fc : Nat → Int} {o : Int}
/-- an operator, what follows it, its code: what it works -/
theorem em_op (hF : 1000 ≤ F) (hL : L ≤ 120) (hb : ∀ i, i < L → 0 ≤ b i ∧ b i ≤ 255) {X : PS → PS} (hX : RD L X) {f : mM → Option (Int32 × mM)} (hf : Pm Ax Bq b L fc o f X) {s : PS} (hr : tRel B b L s o) (hm : frM Bq B) (h : PI L s) (hfa : s.2.2.2.2.1 = -1) (ht : s.1 ≠ 0 ∧ s.1 ≠ 1) {c : Int} (hc : -22 ≤ c ∧ c ≤ -13) : ∃ (B1 B2 : hI) (w : Int32), f_m_next F (mk Ax B) = some ((), mk Ax B1) ∧ f (mk Ax B1) = some (w, mk Ax B2) ∧ tRel B2 b L (pac c (X (pnx b L s))) o ∧ frM Bq B2 ∧ ((pac c (X (pnx b L s))).2.2.2.2.1 = -1 → ∃ nw : List Int, (pac c (X (pnx b L s))).2.2.2.2.2 = s.2.2.2.2.2 ++ nw ∧ ∀ v st, evs fc nw (v :: st) = bop c v w :: st) := by
  obtain ⟨B1, n1, n2, n3⟩ := em_next F Ax hF hL hb hr h.2.1 hfa ht.2
  obtain ⟨w, B2, x1, x2, x3, x4⟩ := hf _ B1 n2 (hm.tr n3) (pnx_PI (b := b) h hfa).1
  refine ⟨B1, B2, w, n1, x1, x2, x3, fun z => ?_⟩
  obtain ⟨nw, y1, y2⟩ := x4 z
  have e : (pnx b L s).2.2.2.2.2 = s.2.2.2.2.2 := rfl
  refine ⟨nw ++ [c], ?_, fun v st => ?_⟩
  · show (X (pnx b L s)).2.2.2.2.2 ++ [c] = _
    rw [y1, e, List.append_assoc]
  · rw [evs_app, y2]
    show ev1 fc c (w :: v :: st) = _
    unfold ev1
    rw [if_neg (by omega), if_neg (by omega), if_neg (by omega), if_neg (by omega)]
theorem bop_or (v w : Int32) : bop (-13) v w = if v = 0 then (if w = 0 then 0 else 1) else 1 := by
  unfold bop
  rw [if_pos rfl]
  by_cases h1 : v = 0 <;> by_cases h2 : w = 0 <;> simp [h1, h2]
theorem bop_and (v w : Int32) : bop (-14) v w = if v = 0 then 0 else (if w = 0 then 0 else 1) := by
  unfold bop
  rw [if_neg (by decide), if_pos rfl]
  by_cases h1 : v = 0 <;> by_cases h2 : w = 0 <;> simp [h1, h2]
theorem ml_Or (hF : 1000 ≤ F) (hL : L ≤ 120) (hb : ∀ i, i < L → 0 ≤ b i ∧ b i ≤ 255) {g : Nat → mM → Option (Int32 × mM)} {X : PS → PS} (hX : RD L X) (hg : Pm Ax Bq b L fc o (fun m => g 236 m) X) : ∀ (n q : Nat) (s : PS) (B : hI) (v : Int32), n < q → L - s.2.2.2.1 < n → tRel B b L s o → frM Bq B → PI L s → ∃ (v' : Int32) (B' : hI), f_m_either_5 F g q v (mk Ax B) = some (v', mk Ax B') ∧ tRel B' b L (plp (pnx b L) X cOr n s) o ∧ frM Bq B' ∧ ((plp (pnx b L) X cOr n s).2.2.2.2.1 = -1 → ∃ nw : List Int, (plp (pnx b L) X cOr n s).2.2.2.2.2 = s.2.2.2.2.2 ++ nw ∧ ∀ st, evs fc nw (v :: st) = v' :: st) := by
  intro n
  induction n with
  | zero => intro q s B v hq hn; omega
  | succ n ih =>
    intro q s B v hq hn hr hm hp
    obtain ⟨q, rfl⟩ : ∃ p, q = p + 1 := ⟨q - 1, by omega⟩
    rw [f_m_either_5]
    simp only [f_m_either_37, f_m_either_32]
    have tk := hp.2.2.2.2.2.1
    simp only [tkR] at tk
    have w18 : f_m_isWord F (423 : Int64) (mk Ax B) = some (iI (bI (s.2.2.2.2.1 = -1 ∧ tkw s.1 s.2.1 = 18)), mk Ax B) := em_isWord F Ax hr 423 18 (by decide) (by omega) (by omega)
    by_cases h6 : s.1 = 6
    · have e : cOr s.1 = -13 := if_pos h6
      have hfa : s.2.2.2.2.1 = -1 := by have := hp.2.2.1; omega
      have etk : tkw s.1 s.2.1 = 18 := by unfold tkw; rw [if_neg (by omega), if_neg (by omega), if_pos (by omega), h6]; rfl
      rw [bI_t ⟨hfa, etk⟩] at w18
      obtain ⟨B1, B2, w, x1, x2, x3, x4, x5⟩ := em_op F Ax hF hL hb hX hg hr hm hp hfa (by omega) (c := -13) (by omega)
      obtain ⟨o1, o2, -⟩ := op_RD (b := b) hX hp hfa (by omega) (c := -13) (by omega)
      try simp only at x2
      rw [plp, if_neg (by omega), e]
      by_cases hn2 : cOr (pac (-13) (X (pnx b L s))).1 = 0
      · -- the last one
        have hn3 : ∀ m, plp (pnx b L) X cOr m (pac (-13) (X (pnx b L s))) = pac (-13) (X (pnx b L s)) := fun m => by
          cases m with
          | zero => rfl
          | succ m => rw [plp, if_pos hn2]
        have w2 : f_m_isWord F (423 : Int64) (mk Ax B2) = some (iI 0, mk Ax B2) := by
          have := em_isWord F Ax x3 423 18 (by decide) (by omega) (by omega)
          rw [bI_f ?_] at this
          · exact this
          · rintro ⟨z1, z2⟩
            have tk2 := o1.2.2.2.2.2.1
            simp only [tkR] at tk2
            unfold tkw at z2
            have : (pac (-13) (X (pnx b L s))).1 ≠ 6 := fun z => by rw [z] at hn2; exact absurd hn2 (by decide)
            split at z2
            · omega
            · split at z2
              · omega
              · split at z2 <;> omega
        obtain ⟨q, rfl⟩ : ∃ p, q = p + 1 := ⟨q - 1, by omega⟩
        refine ⟨bop (-13) v w, B2, ?_, by rw [hn3]; exact x3, x4, fun z => by rw [hn3] at z ⊢; obtain ⟨nw, y1, y2⟩ := x5 z; exact ⟨nw, y1, fun st => y2 v st⟩⟩
        have fin : ∀ u : Int32, f_m_either_5 F g (q + 1) u (mk Ax B2) = some (u, mk Ax B2) := fun u => by
          rw [f_m_either_5]
          simp (disch := first | omega | (simp (disch := omega) only [uA_n]; done) | fail) only [iI_lit, iI_add, iI_sub, iI_mul, iI_neg, iI_lt, iI_le, iI_eq, zlt_t, zlt_f, zle_t, zle_f, zeq_t, zeq_f, nle_t, nle_f, iI_cl, rA, rS, rB, wA, wS, wB, mkp, mk2, uA_s, uA_n, ud_s, ud_n, bI_0, bI_1, nor_s, ↓reduceIte, or_false, false_or, or_true, true_or, or_self, not_true_eq_false, not_false_eq_true, and_true, true_and, and_false, false_and, bI_T, bI_F, Int.reduceToNat, Nat.reduceAdd, Nat.reduceMul, Int.reduceNeg, Option.bind_some, Int.toNat_natCast, ↓bind_of w2]
        rw [bop_or]
        by_cases h1 : v = 0
        · by_cases h2 : w = 0
          · rw [if_pos h1, if_pos h2]; subst h1; subst h2
            simp (disch := first | omega | (simp (disch := omega) only [uA_n]; done) | fail) only [iI_lit, iI_add, iI_sub, iI_mul, iI_neg, iI_lt, iI_le, iI_eq, zlt_t, zlt_f, zle_t, zle_f, zeq_t, zeq_f, nle_t, nle_f, iI_cl, rA, rS, rB, wA, wS, wB, mkp, mk2, uA_s, uA_n, ud_s, ud_n, bI_0, bI_1, nor_s, ↓reduceIte, or_false, false_or, or_true, true_or, or_self, not_true_eq_false, not_false_eq_true, and_true, true_and, and_false, false_and, bI_T, bI_F, Int.reduceToNat, Nat.reduceAdd, Nat.reduceMul, Int.reduceNeg, Option.bind_some, Int.toNat_natCast, ↓bind_of w18, ↓bind_of x1, ↓bind_of x2]
            exact fin 0
          · rw [if_pos h1, if_neg h2]; subst h1
            simp (disch := first | omega | (simp (disch := omega) only [uA_n]; done) | fail) only [iI_lit, iI_add, iI_sub, iI_mul, iI_neg, iI_lt, iI_le, iI_eq, zlt_t, zlt_f, zle_t, zle_f, zeq_t, zeq_f, nle_t, nle_f, iI_cl, rA, rS, rB, wA, wS, wB, mkp, mk2, uA_s, uA_n, ud_s, ud_n, bI_0, bI_1, nor_s, ↓reduceIte, or_false, false_or, or_true, true_or, or_self, not_true_eq_false, not_false_eq_true, and_true, true_and, and_false, false_and, bI_T, bI_F, Int.reduceToNat, Nat.reduceAdd, Nat.reduceMul, Int.reduceNeg, Option.bind_some, Int.toNat_natCast, ↓bind_of w18, ↓bind_of x1, ↓bind_of x2]
            exact (if_neg (c := w = iI 0) h2).trans (fin 1)
        · rw [if_neg h1]
          simp (disch := first | omega | (simp (disch := omega) only [uA_n]; done) | fail) only [iI_lit, iI_add, iI_sub, iI_mul, iI_neg, iI_lt, iI_le, iI_eq, zlt_t, zlt_f, zle_t, zle_f, zeq_t, zeq_f, nle_t, nle_f, iI_cl, rA, rS, rB, wA, wS, wB, mkp, mk2, uA_s, uA_n, ud_s, ud_n, bI_0, bI_1, nor_s, ↓reduceIte, or_false, false_or, or_true, true_or, or_self, not_true_eq_false, not_false_eq_true, and_true, true_and, and_false, false_and, bI_T, bI_F, Int.reduceToNat, Nat.reduceAdd, Nat.reduceMul, Int.reduceNeg, Option.bind_some, Int.toNat_natCast, ↓bind_of w18, ↓bind_of x1, ↓bind_of x2]
          exact (if_neg (c := v = iI 0) h1).trans (fin 1)
      · have k1 := cOr_ok _ hn2
        have hpl : L - (pac (-13) (X (pnx b L s))).2.2.2.1 < n := by
          have := o2.2.2.2.1
          have := o1.2.1
          omega
        obtain ⟨v', B4, y1, y2, y3, y4⟩ := ih q _ B2 (bop (-13) v w) (by omega) hpl x3 x4 o1
        refine ⟨v', B4, ?_, y2, y3, fun z => ?_⟩
        · rw [← y1, bop_or]
          by_cases h1 : v = 0
          · by_cases h2 : w = 0
            · rw [if_pos h1, if_pos h2]; subst h1; subst h2
              simp (disch := first | omega | (simp (disch := omega) only [uA_n]; done) | fail) only [iI_lit, iI_add, iI_sub, iI_mul, iI_neg, iI_lt, iI_le, iI_eq, zlt_t, zlt_f, zle_t, zle_f, zeq_t, zeq_f, nle_t, nle_f, iI_cl, rA, rS, rB, wA, wS, wB, mkp, mk2, uA_s, uA_n, ud_s, ud_n, bI_0, bI_1, nor_s, ↓reduceIte, or_false, false_or, or_true, true_or, or_self, not_true_eq_false, not_false_eq_true, and_true, true_and, and_false, false_and, bI_T, bI_F, Int.reduceToNat, Nat.reduceAdd, Nat.reduceMul, Int.reduceNeg, Option.bind_some, Int.toNat_natCast, ↓bind_of w18, ↓bind_of x1, ↓bind_of x2]
            · rw [if_pos h1, if_neg h2]; subst h1
              simp (disch := first | omega | (simp (disch := omega) only [uA_n]; done) | fail) only [iI_lit, iI_add, iI_sub, iI_mul, iI_neg, iI_lt, iI_le, iI_eq, zlt_t, zlt_f, zle_t, zle_f, zeq_t, zeq_f, nle_t, nle_f, iI_cl, rA, rS, rB, wA, wS, wB, mkp, mk2, uA_s, uA_n, ud_s, ud_n, bI_0, bI_1, nor_s, ↓reduceIte, or_false, false_or, or_true, true_or, or_self, not_true_eq_false, not_false_eq_true, and_true, true_and, and_false, false_and, bI_T, bI_F, Int.reduceToNat, Nat.reduceAdd, Nat.reduceMul, Int.reduceNeg, Option.bind_some, Int.toNat_natCast, ↓bind_of w18, ↓bind_of x1, ↓bind_of x2]
              exact if_neg (c := w = iI 0) h2
          · rw [if_neg h1]
            simp (disch := first | omega | (simp (disch := omega) only [uA_n]; done) | fail) only [iI_lit, iI_add, iI_sub, iI_mul, iI_neg, iI_lt, iI_le, iI_eq, zlt_t, zlt_f, zle_t, zle_f, zeq_t, zeq_f, nle_t, nle_f, iI_cl, rA, rS, rB, wA, wS, wB, mkp, mk2, uA_s, uA_n, ud_s, ud_n, bI_0, bI_1, nor_s, ↓reduceIte, or_false, false_or, or_true, true_or, or_self, not_true_eq_false, not_false_eq_true, and_true, true_and, and_false, false_and, bI_T, bI_F, Int.reduceToNat, Nat.reduceAdd, Nat.reduceMul, Int.reduceNeg, Option.bind_some, Int.toNat_natCast, ↓bind_of w18, ↓bind_of x1, ↓bind_of x2]
            exact if_neg (c := v = iI 0) h1
        · obtain ⟨n2, z1, z2⟩ := y4 z
          have hf2 : (pac (-13) (X (pnx b L s))).2.2.2.2.1 = -1 := by have := o1.2.2.1; rcases this with u | u; exact u; exact absurd u.1 k1.2.1
          obtain ⟨n1, u1, u2⟩ := x5 hf2
          exact ⟨n1 ++ n2, by rw [z1, u1, List.append_assoc], fun st => by rw [evs_app, u2, z2]⟩
    · have hno : bI (s.2.2.2.2.1 = -1 ∧ tkw s.1 s.2.1 = 18) = 0 := bI_f (by
        rintro ⟨z1, z2⟩
        unfold tkw at z2
        split at z2
        · omega
        · split at z2
          · omega
          · split at z2 <;> omega)
      rw [hno] at w18
      rw [plp, if_pos (show cOr s.1 = 0 from if_neg h6)]
      exact ⟨v, B, by simp (disch := first | omega | (simp (disch := omega) only [uA_n]; done) | fail) only [iI_lit, iI_add, iI_sub, iI_mul, iI_neg, iI_lt, iI_le, iI_eq, zlt_t, zlt_f, zle_t, zle_f, zeq_t, zeq_f, nle_t, nle_f, iI_cl, rA, rS, rB, wA, wS, wB, mkp, mk2, uA_s, uA_n, ud_s, ud_n, bI_0, bI_1, nor_s, ↓reduceIte, or_false, false_or, or_true, true_or, or_self, not_true_eq_false, not_false_eq_true, and_true, true_and, and_false, false_and, bI_T, bI_F, Int.reduceToNat, Nat.reduceAdd, Nat.reduceMul, Int.reduceNeg, Option.bind_some, Int.toNat_natCast, ↓bind_of w18], hr, hm, fun _ => ⟨[], by rw [List.append_nil], fun st => rfl⟩⟩
end MLEV
