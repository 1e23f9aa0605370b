/-! THE REFERENCE READS AND WORKS, by levels -/
def Pm (Ax Bq : hI) (b : Nat → Int) (L : Nat) (fc : Nat → Int) (o : Int) (f : mM → Option (Int32 × mM)) (p : PS → PS) : Prop := ∀ (s : PS) (B : hI), tRel B b L s o → frM Bq B → PI L s → ∃ (v : Int32) (B' : hI), f (mk Ax B) = some (v, mk Ax B') ∧ tRel B' b L (p s) o ∧ frM Bq B' ∧ ((p s).2.2.2.2.1 = -1 → ∃ nw : List Int, (p s).2.2.2.2.2 = s.2.2.2.2.2 ++ nw ∧ ∀ st, evs fc nw st = v :: st)
theorem tRel.op {B : hI} {b : Nat → Int} {L : Nat} {s : PS} {o : Int} (h : tRel B b L s o) (o' : Int) : tRel (uA B 304 16 o') b L s o' := by
  obtain ⟨r1, r2, r3, r4, r5⟩ := h
  have e : ∀ j : Nat, j ≠ 16 → uA B 304 16 o' 304 j = B 304 j := fun j hj => by rw [uA_s, ud_n hj]
  have e2 : uA B 304 16 o' 399 = B 399 := uA_n (by omega)
  refine ⟨by rw [e 11 (by omega)]; exact r1, fun i hi => by rw [uA_n (by omega)]; exact r2 i hi, by rw [uA_s, ud_s], fun z => ?_, fun z => ?_⟩
  · obtain ⟨a1, a2, a3⟩ := r4 z
    refine ⟨by rw [e 17 (by omega)]; exact a1, by rw [e 13 (by omega)]; exact a2, ?_⟩
    unfold tkB at a3 ⊢
    rw [e 15 (by omega), e 12 (by omega), e2]
    exact a3
  · rw [e 17 (by omega), e 18 (by omega)]; exact r5 z
theorem frM.op {Bq B : hI} (h : frM Bq B) (o' : Int) : frM Bq (uA B 304 16 o') := h.tr ⟨fun k h1 h2 => uA_n h1, fun j hj => by rw [uA_s, ud_n (by omega)]⟩
theorem plp_bad {b : Nat → Int} {L : Nat} {X : PS → PS} (hX : RD L X) {c : Int → Int} (hc : ∀ t, c t ≠ 0 → t ≠ 0 ∧ t ≠ 1 ∧ -22 ≤ c t ∧ c t < 0) (n : Nat) (s : PS) (h : PI L s) (hb : s.2.2.2.2.1 ≠ -1) : (plp (pnx b L) X c n s).2.2.2.2.1 ≠ -1 := by
  obtain ⟨-, p2⟩ := plp_RD (b := b) hX hc n s h
  rcases p2 with z | z
  · rw [z]; exact hb
  · rw [z.2.2.2.2 hb]; exact hb
section MLEV
variable {B B' Bq : hI} {b : Nat → Int} {L : Nat} (F : Nat) (Ax : hI) {fc : Nat → Int} {o : Int}
/-- an operator, what follows it, its code: what it works -/
theorem em_op (hF : 1000 ≤ F) (hL : L ≤ 120) (hb : ∀ i, i < L → 0 ≤ b i ∧ b i ≤ 255) {X : PS → PS} (hX : RD L X) {f : mM → Option (Int32 × mM)} (hf : Pm Ax Bq b L fc o f X) {s : PS} (hr : tRel B b L s o) (hm : frM Bq B) (h : PI L s) (hfa : s.2.2.2.2.1 = -1) (ht : s.1 ≠ 0 ∧ s.1 ≠ 1) {c : Int} (hc : -22 ≤ c ∧ c ≤ -13) : ∃ (B1 B2 : hI) (w : Int32), f_m_next F (mk Ax B) = some ((), mk Ax B1) ∧ f (mk Ax B1) = some (w, mk Ax B2) ∧ tRel B2 b L (pac c (X (pnx b L s))) o ∧ frM Bq B2 ∧ ((pac c (X (pnx b L s))).2.2.2.2.1 = -1 → ∃ nw : List Int, (pac c (X (pnx b L s))).2.2.2.2.2 = s.2.2.2.2.2 ++ nw ∧ ∀ v st, evs fc nw (v :: st) = bop c v w :: st) := by
  obtain ⟨B1, n1, n2, n3⟩ := em_next F Ax hF hL hb hr h.2.1 hfa ht.2
  obtain ⟨w, B2, x1, x2, x3, x4⟩ := hf _ B1 n2 (hm.tr n3) (pnx_PI (b := b) h hfa).1
  refine ⟨B1, B2, w, n1, x1, x2, x3, fun z => ?_⟩
  obtain ⟨nw, y1, y2⟩ := x4 z
  have e : (pnx b L s).2.2.2.2.2 = s.2.2.2.2.2 := rfl
  refine ⟨nw ++ [c], ?_, fun v st => ?_⟩
  · show (X (pnx b L s)).2.2.2.2.2 ++ [c] = _
    rw [y1, e, List.append_assoc]
  · rw [evs_app, y2]
    show ev1 fc c (w :: v :: st) = _
    unfold ev1
    rw [if_neg (by omega), if_neg (by omega), if_neg (by omega), if_neg (by omega)]
theorem bop_or (v w : Int32) : bop (-13) v w = if v = 0 then (if w = 0 then 0 else 1) else 1 := by
  unfold bop
  rw [if_pos rfl]
  by_cases h1 : v = 0 <;> by_cases h2 : w = 0 <;> simp [h1, h2]
theorem bop_and (v w : Int32) : bop (-14) v w = if v = 0 then 0 else (if w = 0 then 0 else 1) := by
  unfold bop
  rw [if_neg (by decide), if_pos rfl]
  by_cases h1 : v = 0 <;> by_cases h2 : w = 0 <;> simp [h1, h2]
/-- no operator of these follows, or each turn works one -/
theorem ml_loop (hF : 1000 ≤ F) (hL : L ≤ 120) (hb : ∀ i, i < L → 0 ≤ b i ∧ b i ≤ 255) {X : PS → PS} (hX : RD L X) {f : mM → Option (Int32 × mM)} (hf : Pm Ax Bq b L fc o f X) {c : Int → Int} (hc : ∀ t, c t ≠ 0 → t ≠ 0 ∧ t ≠ 1 ∧ -22 ≤ c t ∧ c t ≤ -13) {lp : Nat → Int32 → mM → Option (Int32 × mM)}
    (h0 : ∀ (q : Nat) (v : Int32) (s : PS) (B : hI), tRel B b L s o → PI L s → c s.1 = 0 → lp (q + 1) v (mk Ax B) = some (v, mk Ax B))
    (h1 : ∀ (q : Nat) (v w : Int32) (s : PS) (B B1 B2 : hI), tRel B b L s o → PI L s → c s.1 ≠ 0 → s.2.2.2.2.1 = -1 → f_m_next F (mk Ax B) = some ((), mk Ax B1) → f (mk Ax B1) = some (w, mk Ax B2) → lp (q + 1) v (mk Ax B) = lp q (bop (c s.1) v w) (mk Ax B2)) :
    ∀ (n q : Nat) (s : PS) (B : hI) (v : Int32), n < q → (c s.1 = 0 ∨ L - s.2.2.2.1 < n) → tRel B b L s o → frM Bq B → PI L s → ∃ (v' : Int32) (B' : hI), lp q v (mk Ax B) = some (v', mk Ax B') ∧ tRel B' b L (plp (pnx b L) X c n s) o ∧ frM Bq B' ∧ ((plp (pnx b L) X c n s).2.2.2.2.1 = -1 → ∃ nw : List Int, (plp (pnx b L) X c n s).2.2.2.2.2 = s.2.2.2.2.2 ++ nw ∧ ∀ st, evs fc nw (v :: st) = v' :: st) := by
  intro n
  induction n with
  | zero =>
    intro q s B v hq hn hr hm hp
    obtain ⟨q, rfl⟩ : ∃ p, q = p + 1 := ⟨q - 1, by omega⟩
    exact ⟨v, B, h0 q v s B hr hp (by omega), hr, hm, fun _ => ⟨[], by rw [List.append_nil]; rfl, fun st => rfl⟩⟩
  | succ n ih =>
    intro q s B v hq hn hr hm hp
    obtain ⟨q, rfl⟩ : ∃ p, q = p + 1 := ⟨q - 1, by omega⟩
    by_cases e : c s.1 = 0
    · rw [plp, if_pos e]
      exact ⟨v, B, h0 q v s B hr hp e, hr, hm, fun _ => ⟨[], by rw [List.append_nil], fun st => rfl⟩⟩
    · rw [plp, if_neg e]
      obtain ⟨k1, k2, k3⟩ := hc _ e
      have hfa : s.2.2.2.2.1 = -1 := by have := hp.2.2.1; omega
      obtain ⟨B1, B2, w, x1, x2, x3, x4, x5⟩ := em_op F Ax hF hL hb hX hf hr hm hp hfa ⟨k1, k2⟩ (c := c s.1) k3
      obtain ⟨o1, o2, -⟩ := op_RD (b := b) hX hp hfa ⟨k1, k2⟩ (c := c s.1) (by omega)
      have hpl : c (pac (c s.1) (X (pnx b L s))).1 = 0 ∨ L - (pac (c s.1) (X (pnx b L s))).2.2.2.1 < n := by
        by_cases e2 : c (pac (c s.1) (X (pnx b L s))).1 = 0
        · exact Or.inl e2
        · obtain ⟨j1, j2, -⟩ := hc _ e2
          have := o2.2.2.2.1
          have := o1.2.1
          omega
      obtain ⟨v', B4, y1, y2, y3, y4⟩ := ih q _ B2 (bop (c s.1) v w) (by omega) hpl x3 x4 o1
      refine ⟨v', B4, (h1 q v w s B B1 B2 hr hp e hfa x1 x2).trans y1, y2, y3, fun z => ?_⟩
      obtain ⟨n2, z1, z2⟩ := y4 z
      by_cases hf2 : (pac (c s.1) (X (pnx b L s))).2.2.2.2.1 = -1
      · obtain ⟨n1, u1, u2⟩ := x5 hf2
        exact ⟨n1 ++ n2, by rw [z1, u1, List.append_assoc], fun st => by rw [evs_app, u2, z2]⟩
      · have := plp_bad (b := b) hX (fun t ht => by have := hc t ht; omega) n _ o1 hf2
        omega
/-- a level: its first, then its operators -/
theorem ml_lv (hF : 1000 ≤ F) (hL : L ≤ 120) (hb : ∀ i, i < L → 0 ≤ b i ∧ b i ≤ 255) {X Y : PS → PS} (hX : RD L X) (hY : RD L Y) {f g : mM → Option (Int32 × mM)} (hf : Pm Ax Bq b L fc o f X) (hg : Pm Ax Bq b L fc o g Y) {c : Int → Int} (hc : ∀ t, c t ≠ 0 → t ≠ 0 ∧ t ≠ 1 ∧ -22 ≤ c t ∧ c t ≤ -13) {lp : Nat → Int32 → mM → Option (Int32 × mM)}
    (h0 : ∀ (q : Nat) (v : Int32) (s : PS) (B : hI), tRel B b L s o → PI L s → c s.1 = 0 → lp (q + 1) v (mk Ax B) = some (v, mk Ax B))
    (h1 : ∀ (q : Nat) (v w : Int32) (s : PS) (B B1 B2 : hI), tRel B b L s o → PI L s → c s.1 ≠ 0 → s.2.2.2.2.1 = -1 → f_m_next F (mk Ax B) = some ((), mk Ax B1) → f (mk Ax B1) = some (w, mk Ax B2) → lp (q + 1) v (mk Ax B) = lp q (bop (c s.1) v w) (mk Ax B2)) :
    Pm Ax Bq b L fc o (fun m => (g m).bind fun q1 => lp F q1.1 q1.2) (fun s => plp (pnx b L) X c 120 (Y s)) := fun s B hr hm hp => by
  obtain ⟨v, B1, x1, x2, x3, x4⟩ := hg s B hr hm hp
  obtain ⟨p1, p2⟩ := hY s hp
  have hn : c (Y s).1 = 0 ∨ L - (Y s).2.2.2.1 < 120 := by
    by_cases e : c (Y s).1 = 0
    · exact Or.inl e
    · obtain ⟨j1, j2, -⟩ := hc _ e
      have := p1.2.2.2.1
      omega
  obtain ⟨v', B2, y1, y2, y3, y4⟩ := ml_loop F Ax hF hL hb hX hf hc h0 h1 120 F (Y s) B1 v (by omega) hn x2 x3 p1
  refine ⟨v', B2, ?_, y2, y3, fun z => ?_⟩
  · show ((g (mk Ax B)).bind fun q1 => lp F q1.1 q1.2) = _
    rw [x1]
    exact y1
  · obtain ⟨n2, z1, z2⟩ := y4 z
    by_cases hf2 : (Y s).2.2.2.2.1 = -1
    · obtain ⟨n1, u1, u2⟩ := x4 hf2
      exact ⟨n1 ++ n2, by rw [z1, u1, List.append_assoc], fun st => by rw [evs_app, u2, z2]⟩
    · have := plp_bad (b := b) hX (fun t ht => by have := hc t ht; omega) 120 _ p1 hf2
      exact absurd z this
theorem tkw_or {t v : Int} (tk : tkR t v) : tkw t v = 18 ↔ t = 6 := by
  simp only [tkR] at tk
  unfold tkw
  (repeat' split) <;> omega
theorem tkw_and {t v : Int} (tk : tkR t v) : tkw t v = 19 ↔ t = 7 := by
  simp only [tkR] at tk
  unfold tkw
  (repeat' split) <;> omega
theorem tkw_not {t v : Int} (tk : tkR t v) : tkw t v = 20 ↔ t = 8 := by
  simp only [tkR] at tk
  unfold tkw
  (repeat' split) <;> omega
theorem ml_Or (hF : 1000 ≤ F) (hL : L ≤ 120) (hb : ∀ i, i < L → 0 ≤ b i ∧ b i ≤ 255) {g : Nat → mM → Option (Int32 × mM)} {X : PS → PS} (hX : RD L X) (hg : Pm Ax Bq b L fc o (fun m => g 236 m) X) : Pm Ax Bq b L fc o (fun m => f_m_either F g m) (fun s => plp (pnx b L) X cOr 120 (X s)) := by
  refine ml_lv F Ax hF hL hb hX hX hg hg (c := cOr) (lp := f_m_either_5 F g) (fun t ht => ?_) (fun q v s B hr hp e => ?_) (fun q v w s B B1 B2 hr hp e hfa x1 x2 => ?_)
  · unfold cOr at ht ⊢
    split at ht <;> omega
  · have w18 := em_isWord F Ax hr 423 18 (by decide) (by omega) (by omega)
    rw [bI_f (fun z => by have := (tkw_or hp.2.2.2.2.2.1).1 z.2; rw [this] at e; exact absurd e (by decide))] at w18
    rw [f_m_either_5]
    simp (disch := first | omega | (simp (disch := omega) only [uA_n]; done) | fail) only [iI_lit, iI_add, iI_sub, iI_mul, iI_neg, iI_lt, iI_le, iI_eq, zlt_t, zlt_f, zle_t, zle_f, zeq_t, zeq_f, nle_t, nle_f, iI_cl, rA, rS, rB, wA, wS, wB, mkp, mk2, uA_s, uA_n, ud_s, ud_n, bI_0, bI_1, nor_s, ↓reduceIte, or_false, false_or, or_true, true_or, or_self, not_true_eq_false, not_false_eq_true, and_true, true_and, and_false, false_and, bI_T, bI_F, Int.reduceToNat, Nat.reduceAdd, Nat.reduceMul, Int.reduceNeg, Option.bind_some, Int.toNat_natCast, ↓bind_of (show f_m_isWord F (423 : Int64) (mk Ax B) = _ from w18)]
  · have w18 := em_isWord F Ax hr 423 18 (by decide) (by omega) (by omega)
    have h6 : s.1 = 6 := by unfold cOr at e; split at e <;> omega
    rw [bI_t ⟨hfa, (tkw_or hp.2.2.2.2.2.1).2 h6⟩] at w18
    rw [f_m_either_5]
    simp only [f_m_either_37, f_m_either_32]
    rw [show cOr s.1 = -13 from if_pos h6, bop_or]
    try simp only at x2
    by_cases h1 : v = 0
    · by_cases h2 : w = 0
      · rw [if_pos h1, if_pos h2]; subst h1; subst h2
        simp (disch := first | omega | (simp (disch := omega) only [uA_n]; done) | fail) only [iI_lit, iI_add, iI_sub, iI_mul, iI_neg, iI_lt, iI_le, iI_eq, zlt_t, zlt_f, zle_t, zle_f, zeq_t, zeq_f, nle_t, nle_f, iI_cl, rA, rS, rB, wA, wS, wB, mkp, mk2, uA_s, uA_n, ud_s, ud_n, bI_0, bI_1, nor_s, ↓reduceIte, or_false, false_or, or_true, true_or, or_self, not_true_eq_false, not_false_eq_true, and_true, true_and, and_false, false_and, bI_T, bI_F, Int.reduceToNat, Nat.reduceAdd, Nat.reduceMul, Int.reduceNeg, Option.bind_some, Int.toNat_natCast, ↓bind_of (show f_m_isWord F (423 : Int64) (mk Ax B) = _ from w18), ↓bind_of x1, ↓bind_of x2]
      · rw [if_pos h1, if_neg h2]; subst h1
        simp (disch := first | omega | (simp (disch := omega) only [uA_n]; done) | fail) only [iI_lit, iI_add, iI_sub, iI_mul, iI_neg, iI_lt, iI_le, iI_eq, zlt_t, zlt_f, zle_t, zle_f, zeq_t, zeq_f, nle_t, nle_f, iI_cl, rA, rS, rB, wA, wS, wB, mkp, mk2, uA_s, uA_n, ud_s, ud_n, bI_0, bI_1, nor_s, ↓reduceIte, or_false, false_or, or_true, true_or, or_self, not_true_eq_false, not_false_eq_true, and_true, true_and, and_false, false_and, bI_T, bI_F, Int.reduceToNat, Nat.reduceAdd, Nat.reduceMul, Int.reduceNeg, Option.bind_some, Int.toNat_natCast, ↓bind_of (show f_m_isWord F (423 : Int64) (mk Ax B) = _ from w18), ↓bind_of x1, ↓bind_of x2]
        exact if_neg (c := w = iI 0) h2
    · rw [if_neg h1]
      simp (disch := first | omega | (simp (disch := omega) only [uA_n]; done) | fail) only [iI_lit, iI_add, iI_sub, iI_mul, iI_neg, iI_lt, iI_le, iI_eq, zlt_t, zlt_f, zle_t, zle_f, zeq_t, zeq_f, nle_t, nle_f, iI_cl, rA, rS, rB, wA, wS, wB, mkp, mk2, uA_s, uA_n, ud_s, ud_n, bI_0, bI_1, nor_s, ↓reduceIte, or_false, false_or, or_true, true_or, or_self, not_true_eq_false, not_false_eq_true, and_true, true_and, and_false, false_and, bI_T, bI_F, Int.reduceToNat, Nat.reduceAdd, Nat.reduceMul, Int.reduceNeg, Option.bind_some, Int.toNat_natCast, ↓bind_of (show f_m_isWord F (423 : Int64) (mk Ax B) = _ from w18), ↓bind_of x1, ↓bind_of x2]
      exact if_neg (c := v = iI 0) h1
theorem ml_And (hF : 1000 ≤ F) (hL : L ≤ 120) (hb : ∀ i, i < L → 0 ≤ b i ∧ b i ≤ 255) {g : Nat → mM → Option (Int32 × mM)} {X : PS → PS} (hX : RD L X) (hg : Pm Ax Bq b L fc o (fun m => g 237 m) X) : Pm Ax Bq b L fc o (fun m => f_m_both F g m) (fun s => plp (pnx b L) X cAnd 120 (X s)) := by
  refine ml_lv F Ax hF hL hb hX hX hg hg (c := cAnd) (lp := f_m_both_5 F g) (fun t ht => ?_) (fun q v s B hr hp e => ?_) (fun q v w s B B1 B2 hr hp e hfa x1 x2 => ?_)
  · unfold cAnd at ht ⊢
    split at ht <;> omega
  · have w18 := em_isWord F Ax hr 1111 19 (by decide) (by omega) (by omega)
    rw [bI_f (fun z => by have := (tkw_and hp.2.2.2.2.2.1).1 z.2; rw [this] at e; exact absurd e (by decide))] at w18
    rw [f_m_both_5]
    simp (disch := first | omega | (simp (disch := omega) only [uA_n]; done) | fail) only [iI_lit, iI_add, iI_sub, iI_mul, iI_neg, iI_lt, iI_le, iI_eq, zlt_t, zlt_f, zle_t, zle_f, zeq_t, zeq_f, nle_t, nle_f, iI_cl, rA, rS, rB, wA, wS, wB, mkp, mk2, uA_s, uA_n, ud_s, ud_n, bI_0, bI_1, nor_s, ↓reduceIte, or_false, false_or, or_true, true_or, or_self, not_true_eq_false, not_false_eq_true, and_true, true_and, and_false, false_and, bI_T, bI_F, Int.reduceToNat, Nat.reduceAdd, Nat.reduceMul, Int.reduceNeg, Option.bind_some, Int.toNat_natCast, ↓bind_of (show f_m_isWord F (1111 : Int64) (mk Ax B) = _ from w18)]
  · have w18 := em_isWord F Ax hr 1111 19 (by decide) (by omega) (by omega)
    have h6 : s.1 = 7 := by unfold cAnd at e; split at e <;> omega
    rw [bI_t ⟨hfa, (tkw_and hp.2.2.2.2.2.1).2 h6⟩] at w18
    rw [f_m_both_5]
    simp only [f_m_both_37, f_m_both_36]
    rw [show cAnd s.1 = -14 from if_pos h6, bop_and]
    try simp only at x2
    by_cases h1 : v = 0
    · rw [if_pos h1]; subst h1
      simp (disch := first | omega | (simp (disch := omega) only [uA_n]; done) | fail) only [iI_lit, iI_add, iI_sub, iI_mul, iI_neg, iI_lt, iI_le, iI_eq, zlt_t, zlt_f, zle_t, zle_f, zeq_t, zeq_f, nle_t, nle_f, iI_cl, rA, rS, rB, wA, wS, wB, mkp, mk2, uA_s, uA_n, ud_s, ud_n, bI_0, bI_1, nor_s, ↓reduceIte, or_false, false_or, or_true, true_or, or_self, not_true_eq_false, not_false_eq_true, and_true, true_and, and_false, false_and, bI_T, bI_F, Int.reduceToNat, Nat.reduceAdd, Nat.reduceMul, Int.reduceNeg, Option.bind_some, Int.toNat_natCast, ↓bind_of (show f_m_isWord F (1111 : Int64) (mk Ax B) = _ from w18), ↓bind_of x1, ↓bind_of x2]
    · rw [if_neg h1]
      by_cases h2 : w = 0
      · rw [if_pos h2]; subst h2
        simp (disch := first | omega | (simp (disch := omega) only [uA_n]; done) | fail) only [iI_lit, iI_add, iI_sub, iI_mul, iI_neg, iI_lt, iI_le, iI_eq, zlt_t, zlt_f, zle_t, zle_f, zeq_t, zeq_f, nle_t, nle_f, iI_cl, rA, rS, rB, wA, wS, wB, mkp, mk2, uA_s, uA_n, ud_s, ud_n, bI_0, bI_1, nor_s, ↓reduceIte, or_false, false_or, or_true, true_or, or_self, not_true_eq_false, not_false_eq_true, and_true, true_and, and_false, false_and, bI_T, bI_F, Int.reduceToNat, Nat.reduceAdd, Nat.reduceMul, Int.reduceNeg, Option.bind_some, Int.toNat_natCast, ↓bind_of (show f_m_isWord F (1111 : Int64) (mk Ax B) = _ from w18), ↓bind_of x1, ↓bind_of x2]
        exact if_neg (c := v = iI 0) h1
      · rw [if_neg h2]
        simp (disch := first | omega | (simp (disch := omega) only [uA_n]; done) | fail) only [iI_lit, iI_add, iI_sub, iI_mul, iI_neg, iI_lt, iI_le, iI_eq, zlt_t, zlt_f, zle_t, zle_f, zeq_t, zeq_f, nle_t, nle_f, iI_cl, rA, rS, rB, wA, wS, wB, mkp, mk2, uA_s, uA_n, ud_s, ud_n, bI_0, bI_1, nor_s, ↓reduceIte, or_false, false_or, or_true, true_or, or_self, not_true_eq_false, not_false_eq_true, and_true, true_and, and_false, false_and, bI_T, bI_F, Int.reduceToNat, Nat.reduceAdd, Nat.reduceMul, Int.reduceNeg, Option.bind_some, Int.toNat_natCast, ↓bind_of (show f_m_isWord F (1111 : Int64) (mk Ax B) = _ from w18), ↓bind_of x1, ↓bind_of x2]
        exact (if_neg (c := v = iI 0) h1).trans (if_neg (c := w = iI 0) h2)
end MLEV
