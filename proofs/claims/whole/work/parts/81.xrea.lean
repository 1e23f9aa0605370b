/-! THE CLASS READS A TEXT -/
theorem uA_uA (A : hI) (k j : Nat) (a b : Int) : uA (uA A k j a) k j b = uA A k j b := by
  funext q
  by_cases h : q = k
  · subst h; rw [uA_s, uA_s, uA_s, ud_ud]
  · rw [uA_n h, uA_n h, uA_n h]
theorem wsl_nil {b : Nat → Int} {p q : Nat} (h : q ≤ p) : wsl b p q = [] := by unfold wsl; rw [show q - p = 0 by omega]; rfl
theorem wsl_cons {b : Nat → Int} {p q : Nat} (h : p < q) : wsl b p q = b p :: wsl b (p + 1) q := by
  unfold wsl
  rw [show q - p = (q - (p + 1)) + 1 by omega, List.range_succ_eq_map, List.map_cons, List.map_map, Nat.add_zero]
  refine congrArg _ (List.map_congr_left fun i _ => ?_)
  show b (p + (i + 1)) = b (p + 1 + i)
  rw [show p + (i + 1) = p + 1 + i by omega]
/-- the words, letter by letter, each with its blank -/
def pWn : List (List Nat) := [[111, 117, 116], [114, 97, 116, 101], [98, 117, 121], [108, 101, 110, 100], [104, 105, 100, 101], [115, 104, 111, 119], [108, 105, 102, 116], [103, 111, 108, 100], [110, 111, 116, 101, 115], [114, 101, 115, 101, 114, 118, 101], [119, 101, 101, 107], [100, 97, 121], [112, 114, 105, 99, 101], [115, 117, 109], [100, 97, 121, 115], [110, 97, 109, 101, 115], [116, 111, 119, 110], [105, 102], [111, 114], [97, 110, 100], [110, 111, 116]]
def pFl : List (List Nat) → List Nat
  | [] => []
  | w :: l => w ++ 32 :: pFl l
theorem wd_0 (f : Nat → Int32) (a q : Int32) (rest : List Nat) (wn : Int32) : ∀ (w : List Nat) (p : Int32), (∀ c ∈ w, c ≠ 32) → m_wd f 120 a q (w ++ 32 :: rest) wn p 0 = m_wd f 120 a q rest (wn + 1) a 1 := by
  intro w
  induction w with
  | nil => intro p _; show m_wd f 120 a q (32 :: rest) wn p 0 = _; rw [m_wd, if_pos rfl, if_neg (fun z => z.1 rfl)]
  | cons c w ih =>
    intro p h
    show m_wd f 120 a q (c :: (w ++ 32 :: rest)) wn p 0 = _
    rw [m_wd, if_neg (h c List.mem_cons_self), if_pos rfl]
    exact ih _ (fun d hd => h d (List.mem_cons_of_mem _ hd))
theorem wd_1 {b : Nat → Int} {f : Nat → Int32} {L : Nat} (hL : L ≤ 120) (hf : ∀ i, i < L → f i = iI (b i)) (hb : ∀ i, i < L → 0 ≤ b i ∧ b i ≤ 255) (a : Int32) {q : Nat} (hq : q ≤ L) (rest : List Nat) (wn : Int32) : ∀ (w : List Nat) (p : Nat), p ≤ q → (∀ c ∈ w, c ≠ 32 ∧ c < 256) → m_wd f 120 a (iI q) (w ++ 32 :: rest) wn (iI p) 1 = if wsl b p q = w.map (fun c : Nat => (c : Int)) then some wn else m_wd f 120 a (iI q) rest (wn + 1) a 1 := by
  intro w
  induction w with
  | nil =>
    intro p hp _
    show m_wd f 120 a (iI q) (32 :: rest) wn (iI p) 1 = _
    rw [m_wd, if_pos rfl]
    by_cases h : p = q
    · subst h
      rw [if_pos ⟨by decide, rfl⟩, if_pos (by rw [wsl_nil (Nat.le_refl _)]; rfl)]
    · rw [if_neg (fun z => h (by have := z.2; rw [iI_eq (by omega) (by omega) (by omega) (by omega)] at this; omega)), if_neg (by rw [wsl_cons (by omega)]; exact fun z => by simp at z)]
  | cons c w ih =>
    intro p hp h
    obtain ⟨c1, c2⟩ := h c List.mem_cons_self
    have hw : ∀ d ∈ w, d ≠ 32 := fun d hd => (h d (List.mem_cons_of_mem _ hd)).1
    show m_wd f 120 a (iI q) (c :: (w ++ 32 :: rest)) wn (iI p) 1 = _
    rw [m_wd, if_neg c1, if_neg (by decide), List.map_cons]
    by_cases hpq : p = q
    · subst hpq
      rw [if_pos (Int32.le_refl _), wd_0 f a _ rest wn w _ hw, if_neg (by rw [wsl_nil (Nat.le_refl _)]; exact fun z => by simp at z)]
    · have hlt : p < q := by omega
      have n1 : ¬ (iI (q : Int) ≤ iI (p : Int)) := by rw [iI_le (by omega) (by omega) (by omega) (by omega)]; omega
      rw [if_neg n1, if_neg (by rw [iI_ix (by omega) (by omega) (by omega)]; exact id), iI_cl (by omega) (by omega), Int.toNat_natCast, hf p (by omega), wsl_cons hlt]
      have hbp := hb p (by omega)
      have e : (iI (b p) = Int32.ofNat c) ↔ b p = c := by
        rw [show Int32.ofNat c = iI (c : Int) from (Int32.ofInt_eq_ofNat).symm, iI_eq (by omega) (by omega) (by omega) (by omega)]
      by_cases hc : b p = c
      · rw [if_pos (e.mpr hc)]
        have := ih (p + 1) (by omega) (fun d hd => h d (List.mem_cons_of_mem _ hd))
        rw [show iI (p : Int) + 1 = iI ((p + 1 : Nat) : Int) from (by show iI (p : Int) + iI 1 = _; rw [iI_add]; rfl), this]
        by_cases z : wsl b (p + 1) q = w.map (fun c : Nat => (c : Int))
        · rw [if_pos z, if_pos (by rw [z, hc])]
        · rw [if_neg z, if_neg (fun y => z (List.cons.inj y).2)]
      · rw [if_neg (fun z => hc (e.mp z)), wd_0 f a _ rest wn w _ hw, if_neg (fun y => hc (List.cons.inj y).1)]
theorem wd_all {b : Nat → Int} {f : Nat → Int32} {L : Nat} (hL : L ≤ 120) (hf : ∀ i, i < L → f i = iI (b i)) (hb : ∀ i, i < L → 0 ≤ b i ∧ b i ≤ 255) {p q : Nat} (hp : p ≤ q) (hq : q ≤ L) : ∀ (l : List (List Nat)) (n : Int), (∀ w ∈ l, ∀ c ∈ w, c ≠ 32 ∧ c < 256) → m_wd f 120 (iI p) (iI q) (pFl l) (iI n) (iI p) 1 = some (iI (wfi (wsl b p q) (l.map (fun w => w.map (fun c : Nat => (c : Int)))) n)) := by
  intro l
  induction l with
  | nil => intro n _; rfl
  | cons w l ih =>
    intro n h
    show m_wd f 120 (iI p) (iI q) (w ++ 32 :: pFl l) (iI n) (iI p) 1 = _
    rw [wd_1 hL hf hb (iI p) hq (pFl l) (iI n) w p hp (fun c hc => h w List.mem_cons_self c hc), List.map_cons, wfi]
    by_cases z : wsl b p q = w.map (fun c : Nat => (c : Int))
    · rw [if_pos z, if_pos z]
    · rw [if_neg z, if_neg z, show iI n + 1 = iI (n + 1) from (by show iI n + iI 1 = _; rw [iI_add])]
      exact ih (n + 1) (fun w hw => h w (List.mem_cons_of_mem _ hw))
theorem wd_ok {b : Nat → Int} {f : Nat → Int32} {L : Nat} (hL : L ≤ 120) (hf : ∀ i, i < L → f i = iI (b i)) (hb : ∀ i, i < L → 0 ≤ b i ∧ b i ≤ 255) {p q : Nat} (hp : p ≤ q) (hq : q ≤ L) : m_wd f 120 (iI p) (iI q) m_txt 0 (iI p) 1 = some (iI (pWd b p q)) := by
  have h := wd_all hL hf hb hp hq pWn 0 (by decide)
  have e : pFl pWn = m_txt := by decide
  have e2 : pWn.map (fun w => w.map (fun c : Nat => (c : Int))) = pWs := by decide
  rw [e, e2] at h
  exact h
section XREA
variable {A A' : hI} {b : Nat → Int} {L : Nat}
theorem ex_isLetter (F : Nat) (x : Int) (m : mM) (h : 0 ≤ x ∧ x ≤ 255) : f_Reader_isLetter F (iI x) m = some (iI (bI (pL x = true)), m) := by
  simp only [f_Reader_isLetter, f_Reader_isLetter_16, f_Reader_isLetter_17]
  have e : pL x = true ↔ 97 ≤ x ∧ x ≤ 122 := by unfold pL; simp only [Bool.and_eq_true, decide_eq_true_eq]
  by_cases h1 : x < 97 <;> by_cases h2 : 122 < x <;> (first | (exfalso; omega) | (rw [bI_t (e.mpr (by omega))]; simp (disch := first | omega | (simp (disch := omega) only [uA_n]; done) | fail) only [iI_lit, iI_add, iI_sub, iI_mul, iI_neg, iI_lt, iI_le, iI_eq, zlt_t, zlt_f, zle_t, zle_f, zeq_t, zeq_f, nle_t, nle_f, iI_cl, rA, rS, rB, wA, wS, wB, mkp, mk2, uA_s, uA_n, ud_s, ud_n, bI_0, bI_1, nor_s, reduceIte, or_false, false_or, or_true, true_or, or_self, not_true_eq_false, not_false_eq_true, and_true, true_and, and_false, false_and, bI_T, bI_F, Int.reduceToNat, Nat.reduceAdd, Nat.reduceMul, Int.reduceNeg, Option.bind_some, Int.toNat_natCast]; done) | (rw [bI_f (fun z => absurd (e.mp z) (by omega))]; simp (disch := first | omega | (simp (disch := omega) only [uA_n]; done) | fail) only [iI_lit, iI_add, iI_sub, iI_mul, iI_neg, iI_lt, iI_le, iI_eq, zlt_t, zlt_f, zle_t, zle_f, zeq_t, zeq_f, nle_t, nle_f, iI_cl, rA, rS, rB, wA, wS, wB, mkp, mk2, uA_s, uA_n, ud_s, ud_n, bI_0, bI_1, nor_s, reduceIte, or_false, false_or, or_true, true_or, or_self, not_true_eq_false, not_false_eq_true, and_true, true_and, and_false, false_and, bI_T, bI_F, Int.reduceToNat, Nat.reduceAdd, Nat.reduceMul, Int.reduceNeg, Option.bind_some, Int.toNat_natCast]; done))
theorem ex_isDigit (F : Nat) (x : Int) (m : mM) (h : 0 ≤ x ∧ x ≤ 255) : f_Reader_isDigit F (iI x) m = some (iI (bI (pD x = true)), m) := by
  simp only [f_Reader_isDigit, f_Reader_isDigit_16, f_Reader_isDigit_17]
  have e : pD x = true ↔ 48 ≤ x ∧ x ≤ 57 := by unfold pD; simp only [Bool.and_eq_true, decide_eq_true_eq]
  by_cases h1 : x < 48 <;> by_cases h2 : 57 < x <;> (first | (exfalso; omega) | (rw [bI_t (e.mpr (by omega))]; simp (disch := first | omega | (simp (disch := omega) only [uA_n]; done) | fail) only [iI_lit, iI_add, iI_sub, iI_mul, iI_neg, iI_lt, iI_le, iI_eq, zlt_t, zlt_f, zle_t, zle_f, zeq_t, zeq_f, nle_t, nle_f, iI_cl, rA, rS, rB, wA, wS, wB, mkp, mk2, uA_s, uA_n, ud_s, ud_n, bI_0, bI_1, nor_s, reduceIte, or_false, false_or, or_true, true_or, or_self, not_true_eq_false, not_false_eq_true, and_true, true_and, and_false, false_and, bI_T, bI_F, Int.reduceToNat, Nat.reduceAdd, Nat.reduceMul, Int.reduceNeg, Option.bind_some, Int.toNat_natCast]; done) | (rw [bI_f (fun z => absurd (e.mp z) (by omega))]; simp (disch := first | omega | (simp (disch := omega) only [uA_n]; done) | fail) only [iI_lit, iI_add, iI_sub, iI_mul, iI_neg, iI_lt, iI_le, iI_eq, zlt_t, zlt_f, zle_t, zle_f, zeq_t, zeq_f, nle_t, nle_f, iI_cl, rA, rS, rB, wA, wS, wB, mkp, mk2, uA_s, uA_n, ud_s, ud_n, bI_0, bI_1, nor_s, reduceIte, or_false, false_or, or_true, true_or, or_self, not_true_eq_false, not_false_eq_true, and_true, true_and, and_false, false_and, bI_T, bI_F, Int.reduceToNat, Nat.reduceAdd, Nat.reduceMul, Int.reduceNeg, Option.bind_some, Int.toNat_natCast]; done))
theorem ite_sm {c : Prop} [Decidable c] {x y : Int32} {m : mM} : (if c then some (x, m) else some (y, m)) = some (if c then x else y, m) := by split <;> rfl
theorem ex_isSign (F : Nat) (x : Int) (m : mM) (h : 0 ≤ x ∧ x ≤ 255) : f_Reader_isSign F (iI x) m = some (iI (bI (pSg x = true)), m) := by
  obtain ⟨n, rfl⟩ : ∃ n : Nat, x = n := ⟨x.toNat, by omega⟩
  have hn : n < 256 := by omega
  have all : ∀ n : Fin 256, ∀ m : mM, f_Reader_isSign F (iI ((n.val : Nat) : Int)) m = some (iI (bI (pSg ((n.val : Nat) : Int) = true)), m) := by
    intro n m
    have q : ∀ k : Fin 256, (if iI ((k.val : Nat) : Int) = 37 then (1 : Int32) else if iI ((k.val : Nat) : Int) = 38 then 0 else if iI ((k.val : Nat) : Int) = 39 then 0 else if iI ((k.val : Nat) : Int) = 40 then 1 else if iI ((k.val : Nat) : Int) = 41 then 1 else if iI ((k.val : Nat) : Int) = 42 then 1 else if iI ((k.val : Nat) : Int) = 43 then 1 else if iI ((k.val : Nat) : Int) = 44 then 0 else if iI ((k.val : Nat) : Int) = 45 then 1 else if iI ((k.val : Nat) : Int) = 46 then 0 else if iI ((k.val : Nat) : Int) = 47 then 1 else if iI ((k.val : Nat) : Int) = 48 then 0 else if iI ((k.val : Nat) : Int) = 49 then 0 else if iI ((k.val : Nat) : Int) = 50 then 0 else if iI ((k.val : Nat) : Int) = 51 then 0 else if iI ((k.val : Nat) : Int) = 52 then 0 else if iI ((k.val : Nat) : Int) = 53 then 0 else if iI ((k.val : Nat) : Int) = 54 then 0 else if iI ((k.val : Nat) : Int) = 55 then 0 else if iI ((k.val : Nat) : Int) = 56 then 0 else if iI ((k.val : Nat) : Int) = 57 then 0 else if iI ((k.val : Nat) : Int) = 58 then 0 else if iI ((k.val : Nat) : Int) = 59 then 0 else if iI ((k.val : Nat) : Int) = 60 then 1 else if iI ((k.val : Nat) : Int) = 61 then 1 else if iI ((k.val : Nat) : Int) = 62 then 1 else 0) = iI (bI (pSg ((k.val : Nat) : Int) = true)) := by decide +kernel
    rw [← q n]
    simp only [f_Reader_isSign, ite_sm]
  exact all ⟨n, hn⟩ m
/-- the class's reader stands at s -/
def rRel (A : hI) (b : Nat → Int) (L : Nat) (s : PS) : Prop := A 114 2 = L ∧ (∀ i, i < L → A 115 i = b i) ∧ A 114 8 = s.1 ∧ (s.1 = 2 ∨ s.1 = 3 ∨ s.1 = 4 → A 114 10 = s.2.1) ∧ A 114 9 = s.2.2.1 ∧ A 114 6 = s.2.2.2.1 ∧ A 114 7 = s.2.2.2.2.1 ∧ A 114 3 = s.2.2.2.2.2.length ∧ ∀ i, i < s.2.2.2.2.2.length → A 116 i = s.2.2.2.2.2.getD i 0
def frR (A A' : hI) : Prop := (∀ k : Nat, k ≠ 114 → k ≠ 116 → A' k = A k) ∧ ∀ j : Nat, j ≠ 3 ∧ j ≠ 6 ∧ j ≠ 7 ∧ j ≠ 8 ∧ j ≠ 9 ∧ j ≠ 10 → A' 114 j = A 114 j
theorem frR.rf (A : hI) : frR A A := ⟨fun _ _ _ => rfl, fun _ _ => rfl⟩
theorem frR.tr {A A1 A2 : hI} (h : frR A A1) (g : frR A1 A2) : frR A A2 := ⟨fun k h1 h2 => (g.1 k h1 h2).trans (h.1 k h1 h2), fun j hj => (g.2 j hj).trans (h.2 j hj)⟩
theorem ex_skip (F : Nat) (Bx : hI) (hL : L ≤ 120) (h2 : A 114 2 = L) (hb : ∀ i, i < L → A 115 i = b i ∧ 0 ≤ b i ∧ b i ≤ 255) : ∀ (q p : Nat), L - p < q → p ≤ L → f_Reader_nextToken_0 F q (mk (uA A 114 6 p) Bx) = f_Reader_nextToken_38 F (mk (uA A 114 6 (adv (fun i => decide (b i = 32)) (L - p) p : Nat)) Bx) := by
  intro q
  induction q with
  | zero => intro p hq; omega
  | succ q ih =>
    intro p hq hp
    rw [f_Reader_nextToken_0]
    by_cases hpl : p = L
    · subst hpl
      rw [show p - p = 0 by omega]
      unfold adv
      simp (disch := first | omega | (simp (disch := omega) only [uA_n]; done) | fail) only [iI_lit, iI_add, iI_sub, iI_mul, iI_neg, iI_lt, iI_le, iI_eq, zlt_t, zlt_f, zle_t, zle_f, zeq_t, zeq_f, nle_t, nle_f, iI_cl, rA, rS, rB, wA, wS, wB, mkp, mk2, uA_s, uA_n, ud_s, ud_n, bI_0, bI_1, nor_s, reduceIte, or_false, false_or, or_true, true_or, or_self, not_true_eq_false, not_false_eq_true, and_true, true_and, and_false, false_and, bI_T, bI_F, Int.reduceToNat, Nat.reduceAdd, Nat.reduceMul, Int.reduceNeg, Option.bind_some, Int.toNat_natCast, h2]
    · obtain ⟨b1, b2, b3⟩ := hb p (by omega)
      by_cases h32 : b p = 32
      · rw [show L - p = (L - (p + 1)) + 1 by omega, adv_st (by simpa using h32)]
        refine Eq.trans ?_ (ih (p + 1) (by omega) (by omega))
        simp (disch := first | omega | (simp (disch := omega) only [uA_n]; done) | fail) only [iI_lit, iI_add, iI_sub, iI_mul, iI_neg, iI_lt, iI_le, iI_eq, zlt_t, zlt_f, zle_t, zle_f, zeq_t, zeq_f, nle_t, nle_f, iI_cl, rA, rS, rB, wA, wS, wB, mkp, mk2, uA_s, uA_n, ud_s, ud_n, bI_0, bI_1, nor_s, reduceIte, or_false, false_or, or_true, true_or, or_self, not_true_eq_false, not_false_eq_true, and_true, true_and, and_false, false_and, bI_T, bI_F, Int.reduceToNat, Nat.reduceAdd, Nat.reduceMul, Int.reduceNeg, Option.bind_some, Int.toNat_natCast, h2, b1, uA_uA]
        rfl
      · rw [adv_no (by simpa using h32)]
        simp (disch := first | omega | (simp (disch := omega) only [uA_n]; done) | fail) only [iI_lit, iI_add, iI_sub, iI_mul, iI_neg, iI_lt, iI_le, iI_eq, zlt_t, zlt_f, zle_t, zle_f, zeq_t, zeq_f, nle_t, nle_f, iI_cl, rA, rS, rB, wA, wS, wB, mkp, mk2, uA_s, uA_n, ud_s, ud_n, bI_0, bI_1, nor_s, reduceIte, or_false, false_or, or_true, true_or, or_self, not_true_eq_false, not_false_eq_true, and_true, true_and, and_false, false_and, bI_T, bI_F, Int.reduceToNat, Nat.reduceAdd, Nat.reduceMul, Int.reduceNeg, Option.bind_some, Int.toNat_natCast, h2, b1]
theorem ex_rword (F : Nat) (Bx : hI) (hL : L ≤ 120) (h2 : A 114 2 = L) (hb : ∀ i, i < L → A 115 i = b i ∧ 0 ≤ b i ∧ b i ≤ 255) : ∀ (q p : Nat), L - p < q → p ≤ L → f_Reader_readWord_0 F q (mk (uA A 114 6 p) Bx) = f_Reader_readWord_39 F (mk (uA A 114 6 (adv (fun i => pL (b i)) (L - p) p : Nat)) Bx) := by
  intro q
  induction q with
  | zero => intro p hq; omega
  | succ q ih =>
    intro p hq hp
    rw [f_Reader_readWord_0]
    by_cases hpl : p = L
    · subst hpl
      rw [show p - p = 0 by omega]
      unfold adv
      simp (disch := first | omega | (simp (disch := omega) only [uA_n]; done) | fail) only [iI_lit, iI_add, iI_sub, iI_mul, iI_neg, iI_lt, iI_le, iI_eq, zlt_t, zlt_f, zle_t, zle_f, zeq_t, zeq_f, nle_t, nle_f, iI_cl, rA, rS, rB, wA, wS, wB, mkp, mk2, uA_s, uA_n, ud_s, ud_n, bI_0, bI_1, nor_s, reduceIte, or_false, false_or, or_true, true_or, or_self, not_true_eq_false, not_false_eq_true, and_true, true_and, and_false, false_and, bI_T, bI_F, Int.reduceToNat, Nat.reduceAdd, Nat.reduceMul, Int.reduceNeg, Option.bind_some, Int.toNat_natCast, h2]
    · obtain ⟨b1, b2, b3⟩ := hb p (by omega)
      have e := ex_isLetter F (b p) (mk (uA A 114 6 p) Bx) ⟨b2, b3⟩
      by_cases h32 : pL (b p) = true
      · rw [show L - p = (L - (p + 1)) + 1 by omega, adv_st h32]
        refine Eq.trans ?_ (ih (p + 1) (by omega) (by omega))
        rw [bI_t h32] at e
        simp (disch := first | omega | (simp (disch := omega) only [uA_n]; done) | fail) only [iI_lit, iI_add, iI_sub, iI_mul, iI_neg, iI_lt, iI_le, iI_eq, zlt_t, zlt_f, zle_t, zle_f, zeq_t, zeq_f, nle_t, nle_f, iI_cl, rA, rS, rB, wA, wS, wB, mkp, mk2, uA_s, uA_n, ud_s, ud_n, bI_0, bI_1, nor_s, reduceIte, or_false, false_or, or_true, true_or, or_self, not_true_eq_false, not_false_eq_true, and_true, true_and, and_false, false_and, bI_T, bI_F, Int.reduceToNat, Nat.reduceAdd, Nat.reduceMul, Int.reduceNeg, Option.bind_some, Int.toNat_natCast, h2, b1, e, uA_uA]
        rfl
      · rw [adv_no (by simpa using h32)]
        rw [bI_f h32] at e
        simp (disch := first | omega | (simp (disch := omega) only [uA_n]; done) | fail) only [iI_lit, iI_add, iI_sub, iI_mul, iI_neg, iI_lt, iI_le, iI_eq, zlt_t, zlt_f, zle_t, zle_f, zeq_t, zeq_f, nle_t, nle_f, iI_cl, rA, rS, rB, wA, wS, wB, mkp, mk2, uA_s, uA_n, ud_s, ud_n, bI_0, bI_1, nor_s, reduceIte, or_false, false_or, or_true, true_or, or_self, not_true_eq_false, not_false_eq_true, and_true, true_and, and_false, false_and, bI_T, bI_F, Int.reduceToNat, Nat.reduceAdd, Nat.reduceMul, Int.reduceNeg, Option.bind_some, Int.toNat_natCast, h2, b1, e]
theorem uA_cm (A : hI) {k j i : Nat} {a b : Int} (h : j ≠ i) : uA (uA A k j a) k i b = uA (uA A k i b) k j a := by
  funext q
  by_cases hq : q = k
  · subst hq
    rw [uA_s, uA_s, uA_s, uA_s]
    funext x
    by_cases h1 : x = i
    · subst h1; rw [ud_s, ud_n (Ne.symm h), ud_s]
    · rw [ud_n h1]
      by_cases h2 : x = j
      · subst h2; rw [ud_s, ud_s]
      · rw [ud_n h2, ud_n h2, ud_n h1]
  · rw [uA_n hq, uA_n hq, uA_n hq, uA_n hq]
theorem ex_rnum (F : Nat) (Bx : hI) (hL : L ≤ 120) (h2 : A 114 2 = L) (hb : ∀ i, i < L → A 115 i = b i ∧ 0 ≤ b i ∧ b i ≤ 255) : ∀ (q p : Nat) (v : Int), L - p < q → p ≤ L → f_Reader_readNumber_5 F q (mk (uA (uA A 114 10 v) 114 6 p) Bx) = f_Reader_readNumber_68 F (mk (uA (uA A 114 10 ((wsl b p (adv (fun i => pD (b i)) (L - p) p)).foldl (fun v x => 10 * v + x - 48) v)) 114 6 (adv (fun i => pD (b i)) (L - p) p : Nat)) Bx) := by
  intro q
  induction q with
  | zero => intro p v hq; omega
  | succ q ih =>
    intro p v hq hp
    rw [f_Reader_readNumber_5]
    simp only [f_Reader_readNumber_65]
    by_cases hpl : p = L
    · subst hpl
      rw [show p - p = 0 by omega]
      unfold adv
      rw [wsl_nil (Nat.le_refl _)]
      simp only [List.foldl_nil]
      simp (disch := first | omega | (simp (disch := omega) only [uA_n]; done) | fail) only [iI_lit, iI_add, iI_sub, iI_mul, iI_neg, iI_lt, iI_le, iI_eq, zlt_t, zlt_f, zle_t, zle_f, zeq_t, zeq_f, nle_t, nle_f, iI_cl, rA, rS, rB, wA, wS, wB, mkp, mk2, uA_s, uA_n, ud_s, ud_n, bI_0, bI_1, nor_s, reduceIte, or_false, false_or, or_true, true_or, or_self, not_true_eq_false, not_false_eq_true, and_true, true_and, and_false, false_and, bI_T, bI_F, Int.reduceToNat, Nat.reduceAdd, Nat.reduceMul, Int.reduceNeg, Option.bind_some, Int.toNat_natCast, h2]
    · obtain ⟨b1, b2, b3⟩ := hb p (by omega)
      have e := ex_isDigit F (b p) (mk (uA (uA A 114 10 v) 114 6 p) Bx) ⟨b2, b3⟩
      by_cases h32 : pD (b p) = true
      · have ha := adv_1 (P := fun i => pD (b i)) (n := L - p) (p := p) h32 (by omega)
        rw [wsl_cons (by omega), List.foldl_cons]
        rw [show L - p = (L - (p + 1)) + 1 by omega, adv_st (P := fun i => pD (b i)) h32]
        refine Eq.trans ?_ (ih (p + 1) _ (by omega) (by omega))
        rw [bI_t h32] at e
        have e2 : uA (uA (uA (uA A 114 10 v) 114 6 (p : Int)) 114 10 (10 * v + b p - 48)) 114 6 ((p : Int) + 1) = uA (uA A 114 10 (10 * v + b p - 48)) 114 6 ((p + 1 : Nat) : Int) := by
          rw [uA_cm (uA A 114 10 v) (show (6 : Nat) ≠ 10 by decide), uA_uA, uA_uA]; rfl
        simp (disch := first | omega | (simp (disch := omega) only [uA_n]; done) | fail) only [iI_lit, iI_add, iI_sub, iI_mul, iI_neg, iI_lt, iI_le, iI_eq, zlt_t, zlt_f, zle_t, zle_f, zeq_t, zeq_f, nle_t, nle_f, iI_cl, rA, rS, rB, wA, wS, wB, mkp, mk2, uA_s, uA_n, ud_s, ud_n, bI_0, bI_1, nor_s, reduceIte, or_false, false_or, or_true, true_or, or_self, not_true_eq_false, not_false_eq_true, and_true, true_and, and_false, false_and, bI_T, bI_F, Int.reduceToNat, Nat.reduceAdd, Nat.reduceMul, Int.reduceNeg, Option.bind_some, Int.toNat_natCast, h2, b1, e]
        rw [e2]
      · rw [adv_no (P := fun i => pD (b i)) (by simpa using h32), wsl_nil (Nat.le_refl _)]
        simp only [List.foldl_nil]
        rw [bI_f h32] at e
        simp (disch := first | omega | (simp (disch := omega) only [uA_n]; done) | fail) only [iI_lit, iI_add, iI_sub, iI_mul, iI_neg, iI_lt, iI_le, iI_eq, zlt_t, zlt_f, zle_t, zle_f, zeq_t, zeq_f, nle_t, nle_f, iI_cl, rA, rS, rB, wA, wS, wB, mkp, mk2, uA_s, uA_n, ud_s, ud_n, bI_0, bI_1, nor_s, reduceIte, or_false, false_or, or_true, true_or, or_self, not_true_eq_false, not_false_eq_true, and_true, true_and, and_false, false_and, bI_T, bI_F, Int.reduceToNat, Nat.reduceAdd, Nat.reduceMul, Int.reduceNeg, Option.bind_some, Int.toNat_natCast, h2, b1, e]
theorem ex_nextToken (F : Nat) (hF : 1000 ≤ F) (Bx : hI) (hL : L ≤ 120) (hb : ∀ i, i < L → 0 ≤ b i ∧ b i ≤ 255) {s : PS} (hr : rRel A b L s) (hp : s.2.2.2.1 ≤ L) : ∃ A' : hI, f_Reader_nextToken F (mk A Bx) = some ((), mk A' Bx) ∧ rRel A' b L (pnx b L s) ∧ frR A A' := by
  obtain ⟨r1, r2, r3, r4, r5, r6, r7, r8, r9⟩ := hr
  have hb2 : ∀ i, i < L → A 115 i = b i ∧ 0 ≤ b i ∧ b i ≤ 255 := fun i hi => ⟨r2 i hi, hb i hi⟩
  have h6 : uA A 114 6 (s.2.2.2.1 : Int) = A := by
    funext q
    by_cases h : q = 114
    · subst h; rw [uA_s]; funext j; by_cases hj : j = 6
      · subst hj; rw [ud_s, r6]
      · rw [ud_n hj]
    · rw [uA_n h]
  have sk := ex_skip F Bx hL r1 hb2 F s.2.2.2.1 (by omega) hp
  rw [h6] at sk
  have hpr := adv_rg (fun i => decide (b i = 32)) (L - s.2.2.2.1) s.2.2.2.1
  unfold f_Reader_nextToken
  rw [sk]
  unfold pnx tkn
  generalize adv (fun i => decide (b i = 32)) (L - s.2.2.2.1) s.2.2.2.1 = p at *
  simp only
  -- what any end of a token leaves
  have mkr : ∀ (A1 : hI) (t v : Int) (q : Nat), (∀ k : Nat, k ≠ 114 → A1 k = A k) → (∀ j : Nat, j ≠ 6 ∧ j ≠ 8 ∧ j ≠ 9 ∧ j ≠ 10 → A1 114 j = A 114 j) → A1 114 8 = t → (t = 2 ∨ t = 3 ∨ t = 4 → A1 114 10 = v) → A1 114 9 = p → A1 114 6 = q → rRel A1 b L (t, v, p, q, s.2.2.2.2.1, s.2.2.2.2.2) ∧ frR A A1 := by
    intro A1 t v q k1 k2 k3 k4 k5 k6
    refine ⟨⟨by rw [k2 2 (by omega)]; exact r1, fun i hi => by rw [k1 115 (by omega)]; exact r2 i hi, k3, k4, k5, k6, by rw [k2 7 (by omega)]; exact r7, by rw [k2 3 (by omega)]; exact r8, fun i hi => by rw [k1 116 (by omega)]; exact r9 i hi⟩, fun k h1 _ => k1 k h1, fun j hj => k2 j (by omega)⟩
  simp only [f_Reader_nextToken_38, f_Reader_nextToken_138, f_Reader_nextToken_151]
  by_cases c1 : L ≤ p
  · rw [if_pos c1]
    refine ⟨uA (uA (uA A 114 6 p) 114 9 p) 114 8 0, by simp (disch := first | omega | (simp (disch := omega) only [uA_n]; done) | fail) only [iI_lit, iI_add, iI_sub, iI_mul, iI_neg, iI_lt, iI_le, iI_eq, zlt_t, zlt_f, zle_t, zle_f, zeq_t, zeq_f, nle_t, nle_f, iI_cl, rA, rS, rB, wA, wS, wB, mkp, mk2, uA_s, uA_n, ud_s, ud_n, bI_0, bI_1, nor_s, reduceIte, or_false, false_or, or_true, true_or, or_self, not_true_eq_false, not_false_eq_true, and_true, true_and, and_false, false_and, bI_T, bI_F, Int.reduceToNat, Nat.reduceAdd, Nat.reduceMul, Int.reduceNeg, Option.bind_some, Int.toNat_natCast, r1], mkr _ 0 0 p (fun k hk => by rw [uA_n hk, uA_n hk, uA_n hk]) (fun j hj => by simp (disch := first | omega | (simp (disch := omega) only [uA_n]; done) | fail) only [iI_lit, iI_add, iI_sub, iI_mul, iI_neg, iI_lt, iI_le, iI_eq, zlt_t, zlt_f, zle_t, zle_f, zeq_t, zeq_f, nle_t, nle_f, iI_cl, rA, rS, rB, wA, wS, wB, mkp, mk2, uA_s, uA_n, ud_s, ud_n, bI_0, bI_1, nor_s, reduceIte, or_false, false_or, or_true, true_or, or_self, not_true_eq_false, not_false_eq_true, and_true, true_and, and_false, false_and, bI_T, bI_F, Int.reduceToNat, Nat.reduceAdd, Nat.reduceMul, Int.reduceNeg, Option.bind_some, Int.toNat_natCast]) (by simp (disch := first | omega | (simp (disch := omega) only [uA_n]; done) | fail) only [iI_lit, iI_add, iI_sub, iI_mul, iI_neg, iI_lt, iI_le, iI_eq, zlt_t, zlt_f, zle_t, zle_f, zeq_t, zeq_f, nle_t, nle_f, iI_cl, rA, rS, rB, wA, wS, wB, mkp, mk2, uA_s, uA_n, ud_s, ud_n, bI_0, bI_1, nor_s, reduceIte, or_false, false_or, or_true, true_or, or_self, not_true_eq_false, not_false_eq_true, and_true, true_and, and_false, false_and, bI_T, bI_F, Int.reduceToNat, Nat.reduceAdd, Nat.reduceMul, Int.reduceNeg, Option.bind_some, Int.toNat_natCast]) (fun z => by omega) (by simp (disch := first | omega | (simp (disch := omega) only [uA_n]; done) | fail) only [iI_lit, iI_add, iI_sub, iI_mul, iI_neg, iI_lt, iI_le, iI_eq, zlt_t, zlt_f, zle_t, zle_f, zeq_t, zeq_f, nle_t, nle_f, iI_cl, rA, rS, rB, wA, wS, wB, mkp, mk2, uA_s, uA_n, ud_s, ud_n, bI_0, bI_1, nor_s, reduceIte, or_false, false_or, or_true, true_or, or_self, not_true_eq_false, not_false_eq_true, and_true, true_and, and_false, false_and, bI_T, bI_F, Int.reduceToNat, Nat.reduceAdd, Nat.reduceMul, Int.reduceNeg, Option.bind_some, Int.toNat_natCast]) (by simp (disch := first | omega | (simp (disch := omega) only [uA_n]; done) | fail) only [iI_lit, iI_add, iI_sub, iI_mul, iI_neg, iI_lt, iI_le, iI_eq, zlt_t, zlt_f, zle_t, zle_f, zeq_t, zeq_f, nle_t, nle_f, iI_cl, rA, rS, rB, wA, wS, wB, mkp, mk2, uA_s, uA_n, ud_s, ud_n, bI_0, bI_1, nor_s, reduceIte, or_false, false_or, or_true, true_or, or_self, not_true_eq_false, not_false_eq_true, and_true, true_and, and_false, false_and, bI_T, bI_F, Int.reduceToNat, Nat.reduceAdd, Nat.reduceMul, Int.reduceNeg, Option.bind_some, Int.toNat_natCast])⟩
  · rw [if_neg c1]
    obtain ⟨b1, b2, b3⟩ := hb2 p (by omega)
    have el := fun m => ex_isLetter F (b p) m ⟨b2, b3⟩
    have ed := fun m => ex_isDigit F (b p) m ⟨b2, b3⟩
    have es := fun m => ex_isSign F (b p) m ⟨b2, b3⟩
    by_cases c2 : pL (b p) = true
    · rw [if_pos c2]
      rw [bI_t c2] at el
      have hq := adv_rg (fun i => pL (b i)) (L - p) p
      have rw1 := ex_rword (A := uA A 114 9 p) (b := b) F Bx hL (by simp (disch := first | omega | (simp (disch := omega) only [uA_n]; done) | fail) only [iI_lit, iI_add, iI_sub, iI_mul, iI_neg, iI_lt, iI_le, iI_eq, zlt_t, zlt_f, zle_t, zle_f, zeq_t, zeq_f, nle_t, nle_f, iI_cl, rA, rS, rB, wA, wS, wB, mkp, mk2, uA_s, uA_n, ud_s, ud_n, bI_0, bI_1, nor_s, reduceIte, or_false, false_or, or_true, true_or, or_self, not_true_eq_false, not_false_eq_true, and_true, true_and, and_false, false_and, bI_T, bI_F, Int.reduceToNat, Nat.reduceAdd, Nat.reduceMul, Int.reduceNeg, Option.bind_some, Int.toNat_natCast]) (fun i hi => by rw [uA_n (by omega)]; exact hb2 i hi) F p (by omega) (by omega)
      have ec : uA (uA A 114 6 (p : Int)) 114 9 (p : Int) = uA (uA A 114 9 (p : Int)) 114 6 (p : Int) := uA_cm A (by decide)
      generalize adv (fun i => pL (b i)) (L - p) p = q at *
      have wd : m_wd ((mk (uA (uA A 114 9 (p : Int)) 114 6 (q : Int)) Bx).1 115) 120 (iI p) (iI q) m_txt (iI 0) (iI p) (iI 1) = some (iI (pWd b p q)) := wd_ok (b := b) (f := (mk (uA (uA A 114 9 (p : Int)) 114 6 (q : Int)) Bx).1 115) (L := L) hL (fun i hi => by rw [rA (by omega), uA_n (by omega), uA_n (by omega), r2 i hi]) hb (p := p) (q := q) hq.1 (by omega)
      have w := pWd_rg b p q
      generalize pWd b p q = v at *
      have body : ∀ (A1 : hI) (t u : Int), f_Reader_readWord_39 F (mk (uA (uA A 114 9 (p : Int)) 114 6 (q : Int)) Bx) = some ((), mk A1 Bx) → f_Reader_nextToken_38 F (mk (uA A 114 6 (p : Int)) Bx) = some ((), mk A1 Bx) := by
        intro A1 t u h
        simp only [f_Reader_nextToken_38, f_Reader_nextToken_138, f_Reader_nextToken_151]
        have h' : f_Reader_readWord F (mk (uA (uA A 114 9 (p : Int)) 114 6 (p : Int)) Bx) = some ((), mk A1 Bx) := by unfold f_Reader_readWord; rw [rw1]; exact h
        simp (disch := first | omega | (simp (disch := omega) only [uA_n]; done) | fail) only [iI_lit, iI_add, iI_sub, iI_mul, iI_neg, iI_lt, iI_le, iI_eq, zlt_t, zlt_f, zle_t, zle_f, zeq_t, zeq_f, nle_t, nle_f, iI_cl, rA, rS, rB, wA, wS, wB, mkp, mk2, uA_s, uA_n, ud_s, ud_n, bI_0, bI_1, nor_s, reduceIte, or_false, false_or, or_true, true_or, or_self, not_true_eq_false, not_false_eq_true, and_true, true_and, and_false, false_and, bI_T, bI_F, Int.reduceToNat, Nat.reduceAdd, Nat.reduceMul, Int.reduceNeg, Option.bind_some, Int.toNat_natCast, r1, b1, ec, el, h']
      have body2 : ∀ (A1 : hI) (t u : Int), f_Reader_readWord_39 F (mk (uA (uA A 114 9 (p : Int)) 114 6 (q : Int)) Bx) = some ((), mk A1 Bx) → rRel A1 b L (t, u, p, q, s.2.2.2.2.1, s.2.2.2.2.2) ∧ frR A A1 → ∃ A' : hI, f_Reader_nextToken_38 F (mk (uA A 114 6 (p : Int)) Bx) = some ((), mk A' Bx) ∧ rRel A' b L (t, u, p, q, s.2.2.2.2.1, s.2.2.2.2.2) ∧ frR A A' := fun A1 t u h g => ⟨A1, body A1 t u h, g⟩
      simp only [f_Reader_nextToken_38, f_Reader_nextToken_138, f_Reader_nextToken_151] at body2
      have e115 : (mk (uA (uA A 114 9 (p : Int)) 114 6 (q : Int)) Bx).1 115 = fun i => iI (uA (uA A 114 9 (p : Int)) 114 6 (q : Int) 115 i) := funext fun i => rA (by omega) i
      by_cases d1 : v = -1
      · rw [if_pos d1]
        refine body2 (uA (uA (uA (uA A 114 9 (p : Int)) 114 6 (q : Int)) 114 10 v) 114 8 1) 1 0 ?_ (mkr _ 1 0 q (fun k hk => by rw [uA_n hk, uA_n hk, uA_n hk, uA_n hk]) (fun j hj => by simp (disch := first | omega | (simp (disch := omega) only [uA_n]; done) | fail) only [iI_lit, iI_add, iI_sub, iI_mul, iI_neg, iI_lt, iI_le, iI_eq, zlt_t, zlt_f, zle_t, zle_f, zeq_t, zeq_f, nle_t, nle_f, iI_cl, rA, rS, rB, wA, wS, wB, mkp, mk2, uA_s, uA_n, ud_s, ud_n, bI_0, bI_1, nor_s, reduceIte, or_false, false_or, or_true, true_or, or_self, not_true_eq_false, not_false_eq_true, and_true, true_and, and_false, false_and, bI_T, bI_F, Int.reduceToNat, Nat.reduceAdd, Nat.reduceMul, Int.reduceNeg, Option.bind_some, Int.toNat_natCast]) (by simp (disch := first | omega | (simp (disch := omega) only [uA_n]; done) | fail) only [iI_lit, iI_add, iI_sub, iI_mul, iI_neg, iI_lt, iI_le, iI_eq, zlt_t, zlt_f, zle_t, zle_f, zeq_t, zeq_f, nle_t, nle_f, iI_cl, rA, rS, rB, wA, wS, wB, mkp, mk2, uA_s, uA_n, ud_s, ud_n, bI_0, bI_1, nor_s, reduceIte, or_false, false_or, or_true, true_or, or_self, not_true_eq_false, not_false_eq_true, and_true, true_and, and_false, false_and, bI_T, bI_F, Int.reduceToNat, Nat.reduceAdd, Nat.reduceMul, Int.reduceNeg, Option.bind_some, Int.toNat_natCast]) (fun z => by omega) (by simp (disch := first | omega | (simp (disch := omega) only [uA_n]; done) | fail) only [iI_lit, iI_add, iI_sub, iI_mul, iI_neg, iI_lt, iI_le, iI_eq, zlt_t, zlt_f, zle_t, zle_f, zeq_t, zeq_f, nle_t, nle_f, iI_cl, rA, rS, rB, wA, wS, wB, mkp, mk2, uA_s, uA_n, ud_s, ud_n, bI_0, bI_1, nor_s, reduceIte, or_false, false_or, or_true, true_or, or_self, not_true_eq_false, not_false_eq_true, and_true, true_and, and_false, false_and, bI_T, bI_F, Int.reduceToNat, Nat.reduceAdd, Nat.reduceMul, Int.reduceNeg, Option.bind_some, Int.toNat_natCast]) (by simp (disch := first | omega | (simp (disch := omega) only [uA_n]; done) | fail) only [iI_lit, iI_add, iI_sub, iI_mul, iI_neg, iI_lt, iI_le, iI_eq, zlt_t, zlt_f, zle_t, zle_f, zeq_t, zeq_f, nle_t, nle_f, iI_cl, rA, rS, rB, wA, wS, wB, mkp, mk2, uA_s, uA_n, ud_s, ud_n, bI_0, bI_1, nor_s, reduceIte, or_false, false_or, or_true, true_or, or_self, not_true_eq_false, not_false_eq_true, and_true, true_and, and_false, false_and, bI_T, bI_F, Int.reduceToNat, Nat.reduceAdd, Nat.reduceMul, Int.reduceNeg, Option.bind_some, Int.toNat_natCast]))
        simp only [f_Reader_readWord_39, f_Reader_readWord_116]
        rw [rA (by omega), rA (by omega)]
        simp (disch := first | omega | (simp (disch := omega) only [uA_n]; done) | fail) only [iI_lit, iI_add, iI_sub, iI_mul, iI_neg, iI_lt, iI_le, iI_eq, zlt_t, zlt_f, zle_t, zle_f, zeq_t, zeq_f, nle_t, nle_f, iI_cl, rA, rS, rB, wA, wS, wB, mkp, mk2, uA_s, uA_n, ud_s, ud_n, bI_0, bI_1, nor_s, reduceIte, or_false, false_or, or_true, true_or, or_self, not_true_eq_false, not_false_eq_true, and_true, true_and, and_false, false_and, bI_T, bI_F, Int.reduceToNat, Nat.reduceAdd, Nat.reduceMul, Int.reduceNeg, Option.bind_some, Int.toNat_natCast, wd, Option.map_some]
      · rw [if_neg d1]
        by_cases d2 : v < 7
        · rw [if_pos d2]
          refine body2 (uA (uA (uA (uA A 114 9 (p : Int)) 114 6 (q : Int)) 114 10 v) 114 8 3) 3 v ?_ (mkr _ 3 v q (fun k hk => by rw [uA_n hk, uA_n hk, uA_n hk, uA_n hk]) (fun j hj => by simp (disch := first | omega | (simp (disch := omega) only [uA_n]; done) | fail) only [iI_lit, iI_add, iI_sub, iI_mul, iI_neg, iI_lt, iI_le, iI_eq, zlt_t, zlt_f, zle_t, zle_f, zeq_t, zeq_f, nle_t, nle_f, iI_cl, rA, rS, rB, wA, wS, wB, mkp, mk2, uA_s, uA_n, ud_s, ud_n, bI_0, bI_1, nor_s, reduceIte, or_false, false_or, or_true, true_or, or_self, not_true_eq_false, not_false_eq_true, and_true, true_and, and_false, false_and, bI_T, bI_F, Int.reduceToNat, Nat.reduceAdd, Nat.reduceMul, Int.reduceNeg, Option.bind_some, Int.toNat_natCast]) (by simp (disch := first | omega | (simp (disch := omega) only [uA_n]; done) | fail) only [iI_lit, iI_add, iI_sub, iI_mul, iI_neg, iI_lt, iI_le, iI_eq, zlt_t, zlt_f, zle_t, zle_f, zeq_t, zeq_f, nle_t, nle_f, iI_cl, rA, rS, rB, wA, wS, wB, mkp, mk2, uA_s, uA_n, ud_s, ud_n, bI_0, bI_1, nor_s, reduceIte, or_false, false_or, or_true, true_or, or_self, not_true_eq_false, not_false_eq_true, and_true, true_and, and_false, false_and, bI_T, bI_F, Int.reduceToNat, Nat.reduceAdd, Nat.reduceMul, Int.reduceNeg, Option.bind_some, Int.toNat_natCast]) (fun z => by simp (disch := first | omega | (simp (disch := omega) only [uA_n]; done) | fail) only [iI_lit, iI_add, iI_sub, iI_mul, iI_neg, iI_lt, iI_le, iI_eq, zlt_t, zlt_f, zle_t, zle_f, zeq_t, zeq_f, nle_t, nle_f, iI_cl, rA, rS, rB, wA, wS, wB, mkp, mk2, uA_s, uA_n, ud_s, ud_n, bI_0, bI_1, nor_s, reduceIte, or_false, false_or, or_true, true_or, or_self, not_true_eq_false, not_false_eq_true, and_true, true_and, and_false, false_and, bI_T, bI_F, Int.reduceToNat, Nat.reduceAdd, Nat.reduceMul, Int.reduceNeg, Option.bind_some, Int.toNat_natCast]) (by simp (disch := first | omega | (simp (disch := omega) only [uA_n]; done) | fail) only [iI_lit, iI_add, iI_sub, iI_mul, iI_neg, iI_lt, iI_le, iI_eq, zlt_t, zlt_f, zle_t, zle_f, zeq_t, zeq_f, nle_t, nle_f, iI_cl, rA, rS, rB, wA, wS, wB, mkp, mk2, uA_s, uA_n, ud_s, ud_n, bI_0, bI_1, nor_s, reduceIte, or_false, false_or, or_true, true_or, or_self, not_true_eq_false, not_false_eq_true, and_true, true_and, and_false, false_and, bI_T, bI_F, Int.reduceToNat, Nat.reduceAdd, Nat.reduceMul, Int.reduceNeg, Option.bind_some, Int.toNat_natCast]) (by simp (disch := first | omega | (simp (disch := omega) only [uA_n]; done) | fail) only [iI_lit, iI_add, iI_sub, iI_mul, iI_neg, iI_lt, iI_le, iI_eq, zlt_t, zlt_f, zle_t, zle_f, zeq_t, zeq_f, nle_t, nle_f, iI_cl, rA, rS, rB, wA, wS, wB, mkp, mk2, uA_s, uA_n, ud_s, ud_n, bI_0, bI_1, nor_s, reduceIte, or_false, false_or, or_true, true_or, or_self, not_true_eq_false, not_false_eq_true, and_true, true_and, and_false, false_and, bI_T, bI_F, Int.reduceToNat, Nat.reduceAdd, Nat.reduceMul, Int.reduceNeg, Option.bind_some, Int.toNat_natCast]))
          simp only [f_Reader_readWord_39, f_Reader_readWord_116]
          rw [rA (by omega), rA (by omega)]
          simp (disch := first | omega | (simp (disch := omega) only [uA_n]; done) | fail) only [iI_lit, iI_add, iI_sub, iI_mul, iI_neg, iI_lt, iI_le, iI_eq, zlt_t, zlt_f, zle_t, zle_f, zeq_t, zeq_f, nle_t, nle_f, iI_cl, rA, rS, rB, wA, wS, wB, mkp, mk2, uA_s, uA_n, ud_s, ud_n, bI_0, bI_1, nor_s, reduceIte, or_false, false_or, or_true, true_or, or_self, not_true_eq_false, not_false_eq_true, and_true, true_and, and_false, false_and, bI_T, bI_F, Int.reduceToNat, Nat.reduceAdd, Nat.reduceMul, Int.reduceNeg, Option.bind_some, Int.toNat_natCast, wd, Option.map_some]
        · rw [if_neg d2]
          by_cases d3 : v < 17
          · rw [if_pos d3]
            refine body2 (uA (uA (uA (uA (uA A 114 9 (p : Int)) 114 6 (q : Int)) 114 10 v) 114 8 4) 114 10 (v - 7)) 4 (v - 7) ?_ (mkr _ 4 (v - 7) q (fun k hk => by rw [uA_n hk, uA_n hk, uA_n hk, uA_n hk, uA_n hk]) (fun j hj => by simp (disch := first | omega | (simp (disch := omega) only [uA_n]; done) | fail) only [iI_lit, iI_add, iI_sub, iI_mul, iI_neg, iI_lt, iI_le, iI_eq, zlt_t, zlt_f, zle_t, zle_f, zeq_t, zeq_f, nle_t, nle_f, iI_cl, rA, rS, rB, wA, wS, wB, mkp, mk2, uA_s, uA_n, ud_s, ud_n, bI_0, bI_1, nor_s, reduceIte, or_false, false_or, or_true, true_or, or_self, not_true_eq_false, not_false_eq_true, and_true, true_and, and_false, false_and, bI_T, bI_F, Int.reduceToNat, Nat.reduceAdd, Nat.reduceMul, Int.reduceNeg, Option.bind_some, Int.toNat_natCast]) (by simp (disch := first | omega | (simp (disch := omega) only [uA_n]; done) | fail) only [iI_lit, iI_add, iI_sub, iI_mul, iI_neg, iI_lt, iI_le, iI_eq, zlt_t, zlt_f, zle_t, zle_f, zeq_t, zeq_f, nle_t, nle_f, iI_cl, rA, rS, rB, wA, wS, wB, mkp, mk2, uA_s, uA_n, ud_s, ud_n, bI_0, bI_1, nor_s, reduceIte, or_false, false_or, or_true, true_or, or_self, not_true_eq_false, not_false_eq_true, and_true, true_and, and_false, false_and, bI_T, bI_F, Int.reduceToNat, Nat.reduceAdd, Nat.reduceMul, Int.reduceNeg, Option.bind_some, Int.toNat_natCast]) (fun z => by simp (disch := first | omega | (simp (disch := omega) only [uA_n]; done) | fail) only [iI_lit, iI_add, iI_sub, iI_mul, iI_neg, iI_lt, iI_le, iI_eq, zlt_t, zlt_f, zle_t, zle_f, zeq_t, zeq_f, nle_t, nle_f, iI_cl, rA, rS, rB, wA, wS, wB, mkp, mk2, uA_s, uA_n, ud_s, ud_n, bI_0, bI_1, nor_s, reduceIte, or_false, false_or, or_true, true_or, or_self, not_true_eq_false, not_false_eq_true, and_true, true_and, and_false, false_and, bI_T, bI_F, Int.reduceToNat, Nat.reduceAdd, Nat.reduceMul, Int.reduceNeg, Option.bind_some, Int.toNat_natCast]) (by simp (disch := first | omega | (simp (disch := omega) only [uA_n]; done) | fail) only [iI_lit, iI_add, iI_sub, iI_mul, iI_neg, iI_lt, iI_le, iI_eq, zlt_t, zlt_f, zle_t, zle_f, zeq_t, zeq_f, nle_t, nle_f, iI_cl, rA, rS, rB, wA, wS, wB, mkp, mk2, uA_s, uA_n, ud_s, ud_n, bI_0, bI_1, nor_s, reduceIte, or_false, false_or, or_true, true_or, or_self, not_true_eq_false, not_false_eq_true, and_true, true_and, and_false, false_and, bI_T, bI_F, Int.reduceToNat, Nat.reduceAdd, Nat.reduceMul, Int.reduceNeg, Option.bind_some, Int.toNat_natCast]) (by simp (disch := first | omega | (simp (disch := omega) only [uA_n]; done) | fail) only [iI_lit, iI_add, iI_sub, iI_mul, iI_neg, iI_lt, iI_le, iI_eq, zlt_t, zlt_f, zle_t, zle_f, zeq_t, zeq_f, nle_t, nle_f, iI_cl, rA, rS, rB, wA, wS, wB, mkp, mk2, uA_s, uA_n, ud_s, ud_n, bI_0, bI_1, nor_s, reduceIte, or_false, false_or, or_true, true_or, or_self, not_true_eq_false, not_false_eq_true, and_true, true_and, and_false, false_and, bI_T, bI_F, Int.reduceToNat, Nat.reduceAdd, Nat.reduceMul, Int.reduceNeg, Option.bind_some, Int.toNat_natCast]))
            simp only [f_Reader_readWord_39, f_Reader_readWord_116]
            rw [rA (by omega), rA (by omega)]
            simp (disch := first | omega | (simp (disch := omega) only [uA_n]; done) | fail) only [iI_lit, iI_add, iI_sub, iI_mul, iI_neg, iI_lt, iI_le, iI_eq, zlt_t, zlt_f, zle_t, zle_f, zeq_t, zeq_f, nle_t, nle_f, iI_cl, rA, rS, rB, wA, wS, wB, mkp, mk2, uA_s, uA_n, ud_s, ud_n, bI_0, bI_1, nor_s, reduceIte, or_false, false_or, or_true, true_or, or_self, not_true_eq_false, not_false_eq_true, and_true, true_and, and_false, false_and, bI_T, bI_F, Int.reduceToNat, Nat.reduceAdd, Nat.reduceMul, Int.reduceNeg, Option.bind_some, Int.toNat_natCast, wd, Option.map_some]
          · rw [if_neg d3]
            refine body2 (uA (uA (uA (uA A 114 9 (p : Int)) 114 6 (q : Int)) 114 10 v) 114 8 (5 + v - 17)) (5 + v - 17) 0 ?_ (mkr _ _ 0 q (fun k hk => by rw [uA_n hk, uA_n hk, uA_n hk, uA_n hk]) (fun j hj => by simp (disch := first | omega | (simp (disch := omega) only [uA_n]; done) | fail) only [iI_lit, iI_add, iI_sub, iI_mul, iI_neg, iI_lt, iI_le, iI_eq, zlt_t, zlt_f, zle_t, zle_f, zeq_t, zeq_f, nle_t, nle_f, iI_cl, rA, rS, rB, wA, wS, wB, mkp, mk2, uA_s, uA_n, ud_s, ud_n, bI_0, bI_1, nor_s, reduceIte, or_false, false_or, or_true, true_or, or_self, not_true_eq_false, not_false_eq_true, and_true, true_and, and_false, false_and, bI_T, bI_F, Int.reduceToNat, Nat.reduceAdd, Nat.reduceMul, Int.reduceNeg, Option.bind_some, Int.toNat_natCast]) (by simp (disch := first | omega | (simp (disch := omega) only [uA_n]; done) | fail) only [iI_lit, iI_add, iI_sub, iI_mul, iI_neg, iI_lt, iI_le, iI_eq, zlt_t, zlt_f, zle_t, zle_f, zeq_t, zeq_f, nle_t, nle_f, iI_cl, rA, rS, rB, wA, wS, wB, mkp, mk2, uA_s, uA_n, ud_s, ud_n, bI_0, bI_1, nor_s, reduceIte, or_false, false_or, or_true, true_or, or_self, not_true_eq_false, not_false_eq_true, and_true, true_and, and_false, false_and, bI_T, bI_F, Int.reduceToNat, Nat.reduceAdd, Nat.reduceMul, Int.reduceNeg, Option.bind_some, Int.toNat_natCast]) (fun z => by omega) (by simp (disch := first | omega | (simp (disch := omega) only [uA_n]; done) | fail) only [iI_lit, iI_add, iI_sub, iI_mul, iI_neg, iI_lt, iI_le, iI_eq, zlt_t, zlt_f, zle_t, zle_f, zeq_t, zeq_f, nle_t, nle_f, iI_cl, rA, rS, rB, wA, wS, wB, mkp, mk2, uA_s, uA_n, ud_s, ud_n, bI_0, bI_1, nor_s, reduceIte, or_false, false_or, or_true, true_or, or_self, not_true_eq_false, not_false_eq_true, and_true, true_and, and_false, false_and, bI_T, bI_F, Int.reduceToNat, Nat.reduceAdd, Nat.reduceMul, Int.reduceNeg, Option.bind_some, Int.toNat_natCast]) (by simp (disch := first | omega | (simp (disch := omega) only [uA_n]; done) | fail) only [iI_lit, iI_add, iI_sub, iI_mul, iI_neg, iI_lt, iI_le, iI_eq, zlt_t, zlt_f, zle_t, zle_f, zeq_t, zeq_f, nle_t, nle_f, iI_cl, rA, rS, rB, wA, wS, wB, mkp, mk2, uA_s, uA_n, ud_s, ud_n, bI_0, bI_1, nor_s, reduceIte, or_false, false_or, or_true, true_or, or_self, not_true_eq_false, not_false_eq_true, and_true, true_and, and_false, false_and, bI_T, bI_F, Int.reduceToNat, Nat.reduceAdd, Nat.reduceMul, Int.reduceNeg, Option.bind_some, Int.toNat_natCast]))
            simp only [f_Reader_readWord_39, f_Reader_readWord_116]
            rw [rA (by omega), rA (by omega)]
            simp (disch := first | omega | (simp (disch := omega) only [uA_n]; done) | fail) only [iI_lit, iI_add, iI_sub, iI_mul, iI_neg, iI_lt, iI_le, iI_eq, zlt_t, zlt_f, zle_t, zle_f, zeq_t, zeq_f, nle_t, nle_f, iI_cl, rA, rS, rB, wA, wS, wB, mkp, mk2, uA_s, uA_n, ud_s, ud_n, bI_0, bI_1, nor_s, reduceIte, or_false, false_or, or_true, true_or, or_self, not_true_eq_false, not_false_eq_true, and_true, true_and, and_false, false_and, bI_T, bI_F, Int.reduceToNat, Nat.reduceAdd, Nat.reduceMul, Int.reduceNeg, Option.bind_some, Int.toNat_natCast, wd, Option.map_some]
    · rw [if_neg c2]
      rw [bI_f c2] at el
      by_cases c3 : pD (b p) = true
      · rw [if_pos c3]
        rw [bI_t c3] at ed
        have hq := adv_rg (fun i => pD (b i)) (L - p) p
        have rn := ex_rnum (A := uA A 114 9 p) (b := b) F Bx hL (by simp (disch := first | omega | (simp (disch := omega) only [uA_n]; done) | fail) only [iI_lit, iI_add, iI_sub, iI_mul, iI_neg, iI_lt, iI_le, iI_eq, zlt_t, zlt_f, zle_t, zle_f, zeq_t, zeq_f, nle_t, nle_f, iI_cl, rA, rS, rB, wA, wS, wB, mkp, mk2, uA_s, uA_n, ud_s, ud_n, bI_0, bI_1, nor_s, reduceIte, or_false, false_or, or_true, true_or, or_self, not_true_eq_false, not_false_eq_true, and_true, true_and, and_false, false_and, bI_T, bI_F, Int.reduceToNat, Nat.reduceAdd, Nat.reduceMul, Int.reduceNeg, Option.bind_some, Int.toNat_natCast]) (fun i hi => by rw [uA_n (by omega)]; exact hb2 i hi) F p 0 (by omega) (by omega)
        have ec : uA (uA A 114 6 (p : Int)) 114 9 (p : Int) = uA (uA A 114 9 (p : Int)) 114 6 (p : Int) := uA_cm A (by decide)
        have ec2 : uA (uA (uA A 114 9 (p : Int)) 114 6 (p : Int)) 114 10 0 = uA (uA (uA A 114 9 (p : Int)) 114 10 0) 114 6 (p : Int) := uA_cm (uA A 114 9 (p : Int)) (by decide)
        change f_Reader_readNumber_5 F F (mk (uA (uA (uA A 114 9 (p : Int)) 114 10 0) 114 6 (p : Int)) Bx) = f_Reader_readNumber_68 F (mk (uA (uA (uA A 114 9 (p : Int)) 114 10 (pNm b p (adv (fun i => pD (b i)) (L - p) p))) 114 6 (adv (fun i => pD (b i)) (L - p) p : Nat)) Bx) at rn
        generalize adv (fun i => pD (b i)) (L - p) p = q at *
        by_cases d1 : q - p ≤ 5
        · rw [if_pos d1]
          refine ⟨uA (uA (uA (uA A 114 9 (p : Int)) 114 10 (pNm b p q)) 114 6 (q : Int)) 114 8 2, ?_, mkr _ 2 (pNm b p q) q (fun k hk => by rw [uA_n hk, uA_n hk, uA_n hk, uA_n hk]) (fun j hj => by simp (disch := first | omega | (simp (disch := omega) only [uA_n]; done) | fail) only [iI_lit, iI_add, iI_sub, iI_mul, iI_neg, iI_lt, iI_le, iI_eq, zlt_t, zlt_f, zle_t, zle_f, zeq_t, zeq_f, nle_t, nle_f, iI_cl, rA, rS, rB, wA, wS, wB, mkp, mk2, uA_s, uA_n, ud_s, ud_n, bI_0, bI_1, nor_s, reduceIte, or_false, false_or, or_true, true_or, or_self, not_true_eq_false, not_false_eq_true, and_true, true_and, and_false, false_and, bI_T, bI_F, Int.reduceToNat, Nat.reduceAdd, Nat.reduceMul, Int.reduceNeg, Option.bind_some, Int.toNat_natCast]) (by simp (disch := first | omega | (simp (disch := omega) only [uA_n]; done) | fail) only [iI_lit, iI_add, iI_sub, iI_mul, iI_neg, iI_lt, iI_le, iI_eq, zlt_t, zlt_f, zle_t, zle_f, zeq_t, zeq_f, nle_t, nle_f, iI_cl, rA, rS, rB, wA, wS, wB, mkp, mk2, uA_s, uA_n, ud_s, ud_n, bI_0, bI_1, nor_s, reduceIte, or_false, false_or, or_true, true_or, or_self, not_true_eq_false, not_false_eq_true, and_true, true_and, and_false, false_and, bI_T, bI_F, Int.reduceToNat, Nat.reduceAdd, Nat.reduceMul, Int.reduceNeg, Option.bind_some, Int.toNat_natCast]) (fun z => by simp (disch := first | omega | (simp (disch := omega) only [uA_n]; done) | fail) only [iI_lit, iI_add, iI_sub, iI_mul, iI_neg, iI_lt, iI_le, iI_eq, zlt_t, zlt_f, zle_t, zle_f, zeq_t, zeq_f, nle_t, nle_f, iI_cl, rA, rS, rB, wA, wS, wB, mkp, mk2, uA_s, uA_n, ud_s, ud_n, bI_0, bI_1, nor_s, reduceIte, or_false, false_or, or_true, true_or, or_self, not_true_eq_false, not_false_eq_true, and_true, true_and, and_false, false_and, bI_T, bI_F, Int.reduceToNat, Nat.reduceAdd, Nat.reduceMul, Int.reduceNeg, Option.bind_some, Int.toNat_natCast]) (by simp (disch := first | omega | (simp (disch := omega) only [uA_n]; done) | fail) only [iI_lit, iI_add, iI_sub, iI_mul, iI_neg, iI_lt, iI_le, iI_eq, zlt_t, zlt_f, zle_t, zle_f, zeq_t, zeq_f, nle_t, nle_f, iI_cl, rA, rS, rB, wA, wS, wB, mkp, mk2, uA_s, uA_n, ud_s, ud_n, bI_0, bI_1, nor_s, reduceIte, or_false, false_or, or_true, true_or, or_self, not_true_eq_false, not_false_eq_true, and_true, true_and, and_false, false_and, bI_T, bI_F, Int.reduceToNat, Nat.reduceAdd, Nat.reduceMul, Int.reduceNeg, Option.bind_some, Int.toNat_natCast]) (by simp (disch := first | omega | (simp (disch := omega) only [uA_n]; done) | fail) only [iI_lit, iI_add, iI_sub, iI_mul, iI_neg, iI_lt, iI_le, iI_eq, zlt_t, zlt_f, zle_t, zle_f, zeq_t, zeq_f, nle_t, nle_f, iI_cl, rA, rS, rB, wA, wS, wB, mkp, mk2, uA_s, uA_n, ud_s, ud_n, bI_0, bI_1, nor_s, reduceIte, or_false, false_or, or_true, true_or, or_self, not_true_eq_false, not_false_eq_true, and_true, true_and, and_false, false_and, bI_T, bI_F, Int.reduceToNat, Nat.reduceAdd, Nat.reduceMul, Int.reduceNeg, Option.bind_some, Int.toNat_natCast])⟩
          simp only [f_Reader_readNumber_68, f_Reader_readNumber_87] at rn
          unfold f_Reader_readNumber
          simp (disch := first | omega | (simp (disch := omega) only [uA_n]; done) | fail) only [iI_lit, iI_add, iI_sub, iI_mul, iI_neg, iI_lt, iI_le, iI_eq, zlt_t, zlt_f, zle_t, zle_f, zeq_t, zeq_f, nle_t, nle_f, iI_cl, rA, rS, rB, wA, wS, wB, mkp, mk2, uA_s, uA_n, ud_s, ud_n, bI_0, bI_1, nor_s, reduceIte, or_false, false_or, or_true, true_or, or_self, not_true_eq_false, not_false_eq_true, and_true, true_and, and_false, false_and, bI_T, bI_F, Int.reduceToNat, Nat.reduceAdd, Nat.reduceMul, Int.reduceNeg, Option.bind_some, Int.toNat_natCast, r1, b1, ec, ec2, el, ed, rn]
        · rw [if_neg d1]
          refine ⟨uA (uA (uA (uA A 114 9 (p : Int)) 114 10 (pNm b p q)) 114 6 (q : Int)) 114 8 1, ?_, mkr _ 1 0 q (fun k hk => by rw [uA_n hk, uA_n hk, uA_n hk, uA_n hk]) (fun j hj => by simp (disch := first | omega | (simp (disch := omega) only [uA_n]; done) | fail) only [iI_lit, iI_add, iI_sub, iI_mul, iI_neg, iI_lt, iI_le, iI_eq, zlt_t, zlt_f, zle_t, zle_f, zeq_t, zeq_f, nle_t, nle_f, iI_cl, rA, rS, rB, wA, wS, wB, mkp, mk2, uA_s, uA_n, ud_s, ud_n, bI_0, bI_1, nor_s, reduceIte, or_false, false_or, or_true, true_or, or_self, not_true_eq_false, not_false_eq_true, and_true, true_and, and_false, false_and, bI_T, bI_F, Int.reduceToNat, Nat.reduceAdd, Nat.reduceMul, Int.reduceNeg, Option.bind_some, Int.toNat_natCast]) (by simp (disch := first | omega | (simp (disch := omega) only [uA_n]; done) | fail) only [iI_lit, iI_add, iI_sub, iI_mul, iI_neg, iI_lt, iI_le, iI_eq, zlt_t, zlt_f, zle_t, zle_f, zeq_t, zeq_f, nle_t, nle_f, iI_cl, rA, rS, rB, wA, wS, wB, mkp, mk2, uA_s, uA_n, ud_s, ud_n, bI_0, bI_1, nor_s, reduceIte, or_false, false_or, or_true, true_or, or_self, not_true_eq_false, not_false_eq_true, and_true, true_and, and_false, false_and, bI_T, bI_F, Int.reduceToNat, Nat.reduceAdd, Nat.reduceMul, Int.reduceNeg, Option.bind_some, Int.toNat_natCast]) (fun z => by omega) (by simp (disch := first | omega | (simp (disch := omega) only [uA_n]; done) | fail) only [iI_lit, iI_add, iI_sub, iI_mul, iI_neg, iI_lt, iI_le, iI_eq, zlt_t, zlt_f, zle_t, zle_f, zeq_t, zeq_f, nle_t, nle_f, iI_cl, rA, rS, rB, wA, wS, wB, mkp, mk2, uA_s, uA_n, ud_s, ud_n, bI_0, bI_1, nor_s, reduceIte, or_false, false_or, or_true, true_or, or_self, not_true_eq_false, not_false_eq_true, and_true, true_and, and_false, false_and, bI_T, bI_F, Int.reduceToNat, Nat.reduceAdd, Nat.reduceMul, Int.reduceNeg, Option.bind_some, Int.toNat_natCast]) (by simp (disch := first | omega | (simp (disch := omega) only [uA_n]; done) | fail) only [iI_lit, iI_add, iI_sub, iI_mul, iI_neg, iI_lt, iI_le, iI_eq, zlt_t, zlt_f, zle_t, zle_f, zeq_t, zeq_f, nle_t, nle_f, iI_cl, rA, rS, rB, wA, wS, wB, mkp, mk2, uA_s, uA_n, ud_s, ud_n, bI_0, bI_1, nor_s, reduceIte, or_false, false_or, or_true, true_or, or_self, not_true_eq_false, not_false_eq_true, and_true, true_and, and_false, false_and, bI_T, bI_F, Int.reduceToNat, Nat.reduceAdd, Nat.reduceMul, Int.reduceNeg, Option.bind_some, Int.toNat_natCast])⟩
          simp only [f_Reader_readNumber_68, f_Reader_readNumber_87] at rn
          unfold f_Reader_readNumber
          simp (disch := first | omega | (simp (disch := omega) only [uA_n]; done) | fail) only [iI_lit, iI_add, iI_sub, iI_mul, iI_neg, iI_lt, iI_le, iI_eq, zlt_t, zlt_f, zle_t, zle_f, zeq_t, zeq_f, nle_t, nle_f, iI_cl, rA, rS, rB, wA, wS, wB, mkp, mk2, uA_s, uA_n, ud_s, ud_n, bI_0, bI_1, nor_s, reduceIte, or_false, false_or, or_true, true_or, or_self, not_true_eq_false, not_false_eq_true, and_true, true_and, and_false, false_and, bI_T, bI_F, Int.reduceToNat, Nat.reduceAdd, Nat.reduceMul, Int.reduceNeg, Option.bind_some, Int.toNat_natCast, r1, b1, ec, ec2, el, ed, rn]
      · rw [if_neg c3]
        rw [bI_f c3] at ed
        by_cases c4 : pSg (b p) = true
        · rw [if_pos c4]
          rw [bI_t c4] at es
          refine ⟨uA (uA (uA (uA A 114 6 (p : Int)) 114 9 (p : Int)) 114 8 (b p)) 114 6 ((p : Int) + 1), ?_, mkr _ (b p) 0 (p + 1) (fun k hk => by rw [uA_n hk, uA_n hk, uA_n hk, uA_n hk]) (fun j hj => by simp (disch := first | omega | (simp (disch := omega) only [uA_n]; done) | fail) only [iI_lit, iI_add, iI_sub, iI_mul, iI_neg, iI_lt, iI_le, iI_eq, zlt_t, zlt_f, zle_t, zle_f, zeq_t, zeq_f, nle_t, nle_f, iI_cl, rA, rS, rB, wA, wS, wB, mkp, mk2, uA_s, uA_n, ud_s, ud_n, bI_0, bI_1, nor_s, reduceIte, or_false, false_or, or_true, true_or, or_self, not_true_eq_false, not_false_eq_true, and_true, true_and, and_false, false_and, bI_T, bI_F, Int.reduceToNat, Nat.reduceAdd, Nat.reduceMul, Int.reduceNeg, Option.bind_some, Int.toNat_natCast]) (by simp (disch := first | omega | (simp (disch := omega) only [uA_n]; done) | fail) only [iI_lit, iI_add, iI_sub, iI_mul, iI_neg, iI_lt, iI_le, iI_eq, zlt_t, zlt_f, zle_t, zle_f, zeq_t, zeq_f, nle_t, nle_f, iI_cl, rA, rS, rB, wA, wS, wB, mkp, mk2, uA_s, uA_n, ud_s, ud_n, bI_0, bI_1, nor_s, reduceIte, or_false, false_or, or_true, true_or, or_self, not_true_eq_false, not_false_eq_true, and_true, true_and, and_false, false_and, bI_T, bI_F, Int.reduceToNat, Nat.reduceAdd, Nat.reduceMul, Int.reduceNeg, Option.bind_some, Int.toNat_natCast]) (fun z => by have := (pSg_iff _).mp c4; omega) (by simp (disch := first | omega | (simp (disch := omega) only [uA_n]; done) | fail) only [iI_lit, iI_add, iI_sub, iI_mul, iI_neg, iI_lt, iI_le, iI_eq, zlt_t, zlt_f, zle_t, zle_f, zeq_t, zeq_f, nle_t, nle_f, iI_cl, rA, rS, rB, wA, wS, wB, mkp, mk2, uA_s, uA_n, ud_s, ud_n, bI_0, bI_1, nor_s, reduceIte, or_false, false_or, or_true, true_or, or_self, not_true_eq_false, not_false_eq_true, and_true, true_and, and_false, false_and, bI_T, bI_F, Int.reduceToNat, Nat.reduceAdd, Nat.reduceMul, Int.reduceNeg, Option.bind_some, Int.toNat_natCast]) (by simp (disch := first | omega | (simp (disch := omega) only [uA_n]; done) | fail) only [iI_lit, iI_add, iI_sub, iI_mul, iI_neg, iI_lt, iI_le, iI_eq, zlt_t, zlt_f, zle_t, zle_f, zeq_t, zeq_f, nle_t, nle_f, iI_cl, rA, rS, rB, wA, wS, wB, mkp, mk2, uA_s, uA_n, ud_s, ud_n, bI_0, bI_1, nor_s, reduceIte, or_false, false_or, or_true, true_or, or_self, not_true_eq_false, not_false_eq_true, and_true, true_and, and_false, false_and, bI_T, bI_F, Int.reduceToNat, Nat.reduceAdd, Nat.reduceMul, Int.reduceNeg, Option.bind_some, Int.toNat_natCast])⟩
          simp (disch := first | omega | (simp (disch := omega) only [uA_n]; done) | fail) only [iI_lit, iI_add, iI_sub, iI_mul, iI_neg, iI_lt, iI_le, iI_eq, zlt_t, zlt_f, zle_t, zle_f, zeq_t, zeq_f, nle_t, nle_f, iI_cl, rA, rS, rB, wA, wS, wB, mkp, mk2, uA_s, uA_n, ud_s, ud_n, bI_0, bI_1, nor_s, reduceIte, or_false, false_or, or_true, true_or, or_self, not_true_eq_false, not_false_eq_true, and_true, true_and, and_false, false_and, bI_T, bI_F, Int.reduceToNat, Nat.reduceAdd, Nat.reduceMul, Int.reduceNeg, Option.bind_some, Int.toNat_natCast, r1, b1, el, ed, es]
        · rw [if_neg c4]
          rw [bI_f c4] at es
          refine ⟨uA (uA (uA (uA A 114 6 (p : Int)) 114 9 (p : Int)) 114 8 1) 114 6 ((p : Int) + 1), ?_, mkr _ 1 0 (p + 1) (fun k hk => by rw [uA_n hk, uA_n hk, uA_n hk, uA_n hk]) (fun j hj => by simp (disch := first | omega | (simp (disch := omega) only [uA_n]; done) | fail) only [iI_lit, iI_add, iI_sub, iI_mul, iI_neg, iI_lt, iI_le, iI_eq, zlt_t, zlt_f, zle_t, zle_f, zeq_t, zeq_f, nle_t, nle_f, iI_cl, rA, rS, rB, wA, wS, wB, mkp, mk2, uA_s, uA_n, ud_s, ud_n, bI_0, bI_1, nor_s, reduceIte, or_false, false_or, or_true, true_or, or_self, not_true_eq_false, not_false_eq_true, and_true, true_and, and_false, false_and, bI_T, bI_F, Int.reduceToNat, Nat.reduceAdd, Nat.reduceMul, Int.reduceNeg, Option.bind_some, Int.toNat_natCast]) (by simp (disch := first | omega | (simp (disch := omega) only [uA_n]; done) | fail) only [iI_lit, iI_add, iI_sub, iI_mul, iI_neg, iI_lt, iI_le, iI_eq, zlt_t, zlt_f, zle_t, zle_f, zeq_t, zeq_f, nle_t, nle_f, iI_cl, rA, rS, rB, wA, wS, wB, mkp, mk2, uA_s, uA_n, ud_s, ud_n, bI_0, bI_1, nor_s, reduceIte, or_false, false_or, or_true, true_or, or_self, not_true_eq_false, not_false_eq_true, and_true, true_and, and_false, false_and, bI_T, bI_F, Int.reduceToNat, Nat.reduceAdd, Nat.reduceMul, Int.reduceNeg, Option.bind_some, Int.toNat_natCast]) (fun z => by omega) (by simp (disch := first | omega | (simp (disch := omega) only [uA_n]; done) | fail) only [iI_lit, iI_add, iI_sub, iI_mul, iI_neg, iI_lt, iI_le, iI_eq, zlt_t, zlt_f, zle_t, zle_f, zeq_t, zeq_f, nle_t, nle_f, iI_cl, rA, rS, rB, wA, wS, wB, mkp, mk2, uA_s, uA_n, ud_s, ud_n, bI_0, bI_1, nor_s, reduceIte, or_false, false_or, or_true, true_or, or_self, not_true_eq_false, not_false_eq_true, and_true, true_and, and_false, false_and, bI_T, bI_F, Int.reduceToNat, Nat.reduceAdd, Nat.reduceMul, Int.reduceNeg, Option.bind_some, Int.toNat_natCast]) (by simp (disch := first | omega | (simp (disch := omega) only [uA_n]; done) | fail) only [iI_lit, iI_add, iI_sub, iI_mul, iI_neg, iI_lt, iI_le, iI_eq, zlt_t, zlt_f, zle_t, zle_f, zeq_t, zeq_f, nle_t, nle_f, iI_cl, rA, rS, rB, wA, wS, wB, mkp, mk2, uA_s, uA_n, ud_s, ud_n, bI_0, bI_1, nor_s, reduceIte, or_false, false_or, or_true, true_or, or_self, not_true_eq_false, not_false_eq_true, and_true, true_and, and_false, false_and, bI_T, bI_F, Int.reduceToNat, Nat.reduceAdd, Nat.reduceMul, Int.reduceNeg, Option.bind_some, Int.toNat_natCast])⟩
          simp (disch := first | omega | (simp (disch := omega) only [uA_n]; done) | fail) only [iI_lit, iI_add, iI_sub, iI_mul, iI_neg, iI_lt, iI_le, iI_eq, zlt_t, zlt_f, zle_t, zle_f, zeq_t, zeq_f, nle_t, nle_f, iI_cl, rA, rS, rB, wA, wS, wB, mkp, mk2, uA_s, uA_n, ud_s, ud_n, bI_0, bI_1, nor_s, reduceIte, or_false, false_or, or_true, true_or, or_self, not_true_eq_false, not_false_eq_true, and_true, true_and, and_false, false_and, bI_T, bI_F, Int.reduceToNat, Nat.reduceAdd, Nat.reduceMul, Int.reduceNeg, Option.bind_some, Int.toNat_natCast, r1, b1, el, ed, es]
end XREA
