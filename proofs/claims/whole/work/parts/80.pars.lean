/-! READING A TEXT: what holds of every state -/
theorem adv_rg (P : Nat → Bool) : ∀ (n p : Nat), p ≤ adv P n p ∧ adv P n p ≤ p + n := by
  intro n
  induction n with
  | zero => intro p; exact ⟨Nat.le_refl _, Nat.le_refl _⟩
  | succ n ih =>
    intro p
    unfold adv
    split
    · have := ih (p + 1); omega
    · omega
theorem adv_1 {P : Nat → Bool} {n p : Nat} (h : P p = true) (hn : 0 < n) : p + 1 ≤ adv P n p := by
  obtain ⟨m, rfl⟩ : ∃ m, n = m + 1 := ⟨n - 1, by omega⟩
  unfold adv
  rw [if_pos h]
  exact (adv_rg P m (p + 1)).1
/-- at the end of a run: the first place where it no longer holds, or the end -/
theorem adv_end (P : Nat → Bool) : ∀ (n p : Nat), adv P n p < p + n → P (adv P n p) = false := by
  intro n
  induction n with
  | zero => intro p h; unfold adv at h; omega
  | succ n ih =>
    intro p h
    unfold adv at h ⊢
    by_cases hp : P p = true
    · rw [if_pos hp] at h ⊢
      exact ih (p + 1) (by omega)
    · rw [if_neg hp]
      simpa using hp
theorem adv_in (P : Nat → Bool) : ∀ (n p i : Nat), p ≤ i → i < adv P n p → P i = true := by
  intro n
  induction n with
  | zero => intro p i h1 h2; unfold adv at h2; omega
  | succ n ih =>
    intro p i h1 h2
    unfold adv at h2
    by_cases hp : P p = true
    · rw [if_pos hp] at h2
      by_cases e : i = p
      · subst e; exact hp
      · exact ih (p + 1) i (by omega) h2
    · rw [if_neg hp] at h2; omega
/-- a run goes on where it stood -/
theorem adv_st {P : Nat → Bool} {n p : Nat} (h : P p = true) : adv P (n + 1) p = adv P n (p + 1) := by
  rw [adv, if_pos h]
theorem adv_no {P : Nat → Bool} {n p : Nat} (h : P p = false) : adv P n p = p := by
  cases n with
  | zero => rfl
  | succ n => rw [adv, if_neg (by rw [h]; decide)]
theorem wfi_rg (x : List Int) : ∀ (l : List (List Int)) (n : Int), 0 ≤ n → wfi x l n = -1 ∨ (n ≤ wfi x l n ∧ wfi x l n < n + l.length) := by
  intro l
  induction l with
  | nil => intro n _; exact Or.inl rfl
  | cons y l ih =>
    intro n hn
    unfold wfi
    by_cases h : x = y
    · rw [if_pos h, List.length_cons]; right; omega
    · rw [if_neg h, List.length_cons]
      rcases ih (n + 1) (by omega) with z | z
      · exact Or.inl z
      · right; omega
theorem pWd_rg (b : Nat → Int) (p q : Nat) : pWd b p q = -1 ∨ (0 ≤ pWd b p q ∧ pWd b p q < 21) := wfi_rg _ pWs 0 (Int.le_refl _)
theorem pNm_rg (b : Nat → Int) (p q : Nat) (h : ∀ i, p ≤ i → i < q → 48 ≤ b i ∧ b i ≤ 57) (h5 : q - p ≤ 5) : 0 ≤ pNm b p q ∧ pNm b p q < 100000 := by
  unfold pNm wsl
  have key : ∀ k, k ≤ 5 → k ≤ q - p → 0 ≤ ((List.range k).map (fun i => b (p + i))).foldl (fun v x => 10 * v + x - 48) 0 ∧ ((List.range k).map (fun i => b (p + i))).foldl (fun v x => 10 * v + x - 48) 0 < (10 : Int) ^ k := by
    intro k
    induction k with
    | zero => intro _ _; exact ⟨Int.le_refl _, (by decide : (0 : Int) < 10 ^ 0)⟩
    | succ k ih =>
      intro h1 h2
      have i := ih (by omega) (by omega)
      have hb := h (p + k) (by omega) (by omega)
      rw [List.range_succ, List.map_append, List.foldl_append]
      simp only [List.map_cons, List.map_nil, List.foldl_cons, List.foldl_nil]
      rw [Int.pow_succ]
      omega
  have := key (q - p) h5 (Nat.le_refl _)
  have h10 : (10 : Int) ^ (q - p) ≤ 100000 := by
    rcases (show q - p = 0 ∨ q - p = 1 ∨ q - p = 2 ∨ q - p = 3 ∨ q - p = 4 ∨ q - p = 5 by omega) with e | e | e | e | e | e <;> rw [e] <;> decide
  omega
abbrev tkR (t v : Int) : Prop := t = 0 ∨ t = 1 ∨ (t = 2 ∧ 0 ≤ v ∧ v < 100000) ∨ (t = 3 ∧ 0 ≤ v ∧ v < 7) ∨ (t = 4 ∧ 0 ≤ v ∧ v < 10) ∨ (5 ≤ t ∧ t ≤ 8) ∨ t = 40 ∨ t = 41 ∨ t = 43 ∨ t = 45 ∨ t = 42 ∨ t = 47 ∨ t = 37 ∨ t = 61 ∨ t = 60 ∨ t = 62
theorem pSg_iff (x : Int) : pSg x = true ↔ x = 40 ∨ x = 41 ∨ x = 43 ∨ x = 45 ∨ x = 42 ∨ x = 47 ∨ x = 37 ∨ x = 61 ∨ x = 60 ∨ x = 62 := by
  unfold pSg
  simp only [Bool.or_eq_true, decide_eq_true_eq]
  omega
theorem tkn_rg (b : Nat → Int) (L p0 : Nat) (h : p0 ≤ L) : p0 ≤ (tkn b L p0).2.2.1 ∧ (tkn b L p0).2.2.1 ≤ (tkn b L p0).2.2.2 ∧ (tkn b L p0).2.2.2 ≤ L ∧ ((tkn b L p0).1 = 0 ∨ (tkn b L p0).2.2.1 < (tkn b L p0).2.2.2) ∧ tkR (tkn b L p0).1 (tkn b L p0).2.1 := by
  have h1 := adv_rg (fun i => decide (b i = 32)) (L - p0) p0
  unfold tkn
  generalize adv (fun i => decide (b i = 32)) (L - p0) p0 = p at *
  simp only
  by_cases c1 : L ≤ p
  · rw [if_pos c1]; exact ⟨h1.1, Nat.le_refl _, by simp only []; omega, Or.inl rfl, Or.inl rfl⟩
  · rw [if_neg c1]
    by_cases c2 : pL (b p) = true
    · rw [if_pos c2]
      have h2 := adv_rg (fun i => pL (b i)) (L - p) p
      have h3 := adv_1 (P := fun i => pL (b i)) (n := L - p) c2 (by omega)
      generalize adv (fun i => pL (b i)) (L - p) p = q at *
      have w := pWd_rg b p q
      generalize pWd b p q = v at *
      by_cases d1 : v = -1
      · rw [if_pos d1]; refine ⟨h1.1, h2.1, by simp only []; omega, Or.inr (by simp only []; omega), Or.inr (Or.inl rfl)⟩
      · rw [if_neg d1]
        by_cases d2 : v < 7
        · rw [if_pos d2]; exact ⟨h1.1, h2.1, by simp only []; omega, Or.inr (by simp only []; omega), Or.inr (Or.inr (Or.inr (Or.inl ⟨rfl, by simp only []; omega, by simp only []; omega⟩)))⟩
        · rw [if_neg d2]
          by_cases d3 : v < 17
          · rw [if_pos d3]; exact ⟨h1.1, h2.1, by simp only []; omega, Or.inr (by simp only []; omega), Or.inr (Or.inr (Or.inr (Or.inr (Or.inl ⟨rfl, by simp only []; omega, by simp only []; omega⟩))))⟩
          · rw [if_neg d3]; exact ⟨h1.1, h2.1, by simp only []; omega, Or.inr (by simp only []; omega), by simp only [tkR]; omega⟩
    · rw [if_neg c2]
      by_cases c3 : pD (b p) = true
      · rw [if_pos c3]
        have h2 := adv_rg (fun i => pD (b i)) (L - p) p
        have h3 := adv_1 (P := fun i => pD (b i)) (n := L - p) c3 (by omega)
        have h4 := adv_in (fun i => pD (b i)) (L - p) p
        generalize adv (fun i => pD (b i)) (L - p) p = q at *
        by_cases d1 : q - p ≤ 5
        · rw [if_pos d1]
          have w := pNm_rg b p q (fun i z1 z2 => by have := h4 i z1 z2; unfold pD at this; simp only [Bool.and_eq_true, decide_eq_true_eq] at this; exact this) d1
          exact ⟨h1.1, h2.1, by simp only []; omega, Or.inr (by simp only []; omega), Or.inr (Or.inr (Or.inl ⟨rfl, w⟩))⟩
        · rw [if_neg d1]; exact ⟨h1.1, h2.1, by simp only []; omega, Or.inr (by simp only []; omega), Or.inr (Or.inl rfl)⟩
      · rw [if_neg c3]
        by_cases c4 : pSg (b p) = true
        · rw [if_pos c4]
          have := (pSg_iff _).mp c4
          exact ⟨h1.1, by simp only []; omega, by simp only []; omega, Or.inr (by simp only []; omega), by simp only [tkR]; omega⟩
        · rw [if_neg c4]; exact ⟨h1.1, by simp only []; omega, by simp only []; omega, Or.inr (by simp only []; omega), Or.inr (Or.inl rfl)⟩
/-- what holds of every state -/
def PI (L : Nat) (s : PS) : Prop := s.2.2.1 ≤ s.2.2.2.1 ∧ s.2.2.2.1 ≤ L ∧ (s.2.2.2.2.1 = -1 ∨ (s.1 = 1 ∧ 0 ≤ s.2.2.2.2.1 ∧ s.2.2.2.2.1 ≤ L)) ∧ (s.1 = 0 ∨ s.1 = 1 ∨ s.2.2.1 < s.2.2.2.1) ∧ s.2.2.2.2.2.length ≤ s.2.2.1 ∧ tkR s.1 s.2.1 ∧ ∀ c ∈ s.2.2.2.2.2, -22 ≤ c ∧ c < 100000
/-- a reading goes ahead -/
def MP (s t : PS) : Prop := s.2.2.1 ≤ t.2.2.1 ∧ s.2.2.2.1 ≤ t.2.2.2.1 ∧ t.2.2.2.2.2.length + s.2.2.1 ≤ s.2.2.2.2.2.length + t.2.2.1 ∧ (t.1 = 0 ∨ t.1 = 1 ∨ s.2.2.2.1 < t.2.2.2.1) ∧ (s.2.2.2.2.1 ≠ -1 → t.2.2.2.2.1 = s.2.2.2.2.1)
theorem pnx_PI {b : Nat → Int} {L : Nat} {s : PS} (h : PI L s) (hf : s.2.2.2.2.1 = -1) : PI L (pnx b L s) ∧ s.2.2.2.1 ≤ (pnx b L s).2.2.1 ∧ (pnx b L s).2.2.2.2 = s.2.2.2.2 ∧ ((pnx b L s).1 = 0 ∨ s.2.2.2.1 < (pnx b L s).2.2.2.1) := by
  obtain ⟨h1, h2, h3, h4, h5, h6, h7⟩ := h
  obtain ⟨t1, t2, t3, t4, t5⟩ := tkn_rg b L s.2.2.2.1 h2
  unfold pnx
  refine ⟨⟨t2, t3, Or.inl hf, by simp only []; omega, by simp only []; omega, t5, h7⟩, t1, rfl, by simp only []; omega⟩
theorem pst_PI {L : Nat} {s : PS} (h : PI L s) : PI L (pst s) ∧ MP s (pst s) ∧ (pst s).2.2.2.2.1 ≠ -1 := by
  obtain ⟨h1, h2, h3, h4, h5, h6, h7⟩ := h
  have hf : (if s.2.2.2.2.1 = -1 then (s.2.2.1 : Int) else s.2.2.2.2.1) ≠ -1 ∧ 0 ≤ (if s.2.2.2.2.1 = -1 then (s.2.2.1 : Int) else s.2.2.2.2.1) ∧ (if s.2.2.2.2.1 = -1 then (s.2.2.1 : Int) else s.2.2.2.2.1) ≤ L := by split <;> omega
  refine ⟨⟨h1, h2, Or.inr ⟨rfl, hf.2.1, hf.2.2⟩, Or.inr (Or.inl rfl), h5, Or.inr (Or.inl rfl), h7⟩, ⟨Nat.le_refl _, Nat.le_refl _, Nat.le_refl _, Or.inr (Or.inl rfl), fun z => if_neg z⟩, hf.1⟩
/-- a reading that keeps it -/
def RD (L : Nat) (p : PS → PS) : Prop := ∀ s, PI L s → PI L (p s) ∧ MP s (p s)
theorem RD.bad {L : Nat} {p : PS → PS} (h : RD L p) {s : PS} (hs : PI L s) (hb : s.2.2.2.2.1 ≠ -1) : (p s).2.2.2.2.1 = s.2.2.2.2.1 := (h s hs).2.2.2.2.2 hb
/-- behind an operator, with its code -/
theorem op_RD {b : Nat → Int} {L : Nat} {X : PS → PS} (hX : RD L X) {s : PS} (h : PI L s) (hf : s.2.2.2.2.1 = -1) (ht : s.1 ≠ 0 ∧ s.1 ≠ 1) {c : Int} (hc : -22 ≤ c ∧ c < 0) : PI L (pac c (X (pnx b L s))) ∧ MP s (pac c (X (pnx b L s))) ∧ (X (pnx b L s)).2.2.2.2.2.length < (X (pnx b L s)).2.2.1 := by
  obtain ⟨n1, n2, n3, n4⟩ := pnx_PI (b := b) h hf
  obtain ⟨x1, x2⟩ := hX _ n1
  obtain ⟨h1, h2, h3, h4, h5, h6, h7⟩ := h
  have hl : (pnx b L s).2.2.2.2.2.length = s.2.2.2.2.2.length := by rw [n3]
  have hn := n1.1
  generalize pnx b L s = u at *
  obtain ⟨a1, a2, a3, a4, a5, a6, a7⟩ := x1
  obtain ⟨b1, b2, b3, b4, b5⟩ := x2
  generalize X u = t at *
  unfold pac PI MP
  simp only [List.length_append, List.length_cons, List.length_nil]
  refine ⟨⟨a1, a2, a3, a4, by omega, a6, fun e he => ?_⟩, ⟨by omega, by omega, by omega, by omega, fun z => absurd hf z⟩, by omega⟩
  rcases List.mem_append.mp he with z | z
  · exact a7 e z
  · rw [List.mem_singleton.mp z]; omega
theorem plp_RD {b : Nat → Int} {L : Nat} {X : PS → PS} (hX : RD L X) {c : Int → Int} (hc : ∀ t, c t ≠ 0 → t ≠ 0 ∧ t ≠ 1 ∧ -22 ≤ c t ∧ c t < 0) : ∀ (n : Nat) (s : PS), PI L s → PI L (plp (pnx b L) X c n s) ∧ (plp (pnx b L) X c n s = s ∨ MP s (plp (pnx b L) X c n s)) := by
  intro n
  induction n with
  | zero => intro s h; exact ⟨h, Or.inl rfl⟩
  | succ n ih =>
    intro s h
    unfold plp
    by_cases c0 : c s.1 = 0
    · rw [if_pos c0]; exact ⟨h, Or.inl rfl⟩
    · rw [if_neg c0]
      have k := hc _ c0
      have hf : s.2.2.2.2.1 = -1 := by rcases h.2.2.1 with z | z; exact z; exact absurd z.1 k.2.1
      obtain ⟨o1, o2, -⟩ := op_RD (b := b) hX h hf ⟨k.1, k.2.1⟩ k.2.2
      obtain ⟨i1, i2⟩ := ih _ o1
      refine ⟨i1, Or.inr ?_⟩
      rcases i2 with z | z
      · rw [z]; exact o2
      · obtain ⟨p1, p2, p3, p4, p5⟩ := o2
        obtain ⟨q1, q2, q3, q4, q5⟩ := z
        exact ⟨by omega, by omega, by omega, by omega, fun z => absurd hf z⟩
theorem MP.tr {s t u : PS} (h : MP s t) (g : t = u ∨ MP t u) : MP s u := by
  rcases g with z | z
  · rw [← z]; exact h
  · obtain ⟨p1, p2, p3, p4, p5⟩ := h
    obtain ⟨q1, q2, q3, q4, q5⟩ := z
    exact ⟨by omega, by omega, by omega, by omega, fun y => by rw [q5 (by rw [p5 y]; exact y), p5 y]⟩
theorem loop_RD {b : Nat → Int} {L : Nat} {X Y : PS → PS} (hX : RD L X) (hY : RD L Y) {c : Int → Int} (hc : ∀ t, c t ≠ 0 → t ≠ 0 ∧ t ≠ 1 ∧ -22 ≤ c t ∧ c t < 0) (n : Nat) : RD L (fun s => plp (pnx b L) X c n (Y s)) := fun s h => by
  obtain ⟨y1, y2⟩ := hY s h
  obtain ⟨p1, p2⟩ := plp_RD (b := b) hX hc n _ y1
  exact ⟨p1, y2.tr (p2.imp Eq.symm id)⟩
/-- the loop ends because no operator follows -/
theorem plp_end {b : Nat → Int} {L : Nat} {X : PS → PS} (hX : RD L X) {c : Int → Int} (hc : ∀ t, c t ≠ 0 → t ≠ 0 ∧ t ≠ 1 ∧ -22 ≤ c t ∧ c t < 0) : ∀ (n : Nat) (s : PS), PI L s → L - s.2.2.2.1 < n → c (plp (pnx b L) X c n s).1 = 0 := by
  intro n
  induction n with
  | zero => intro s _ h; omega
  | succ n ih =>
    intro s h hn
    unfold plp
    by_cases c0 : c s.1 = 0
    · rw [if_pos c0]; exact c0
    · rw [if_neg c0]
      have k := hc _ c0
      have hf : s.2.2.2.2.1 = -1 := by rcases h.2.2.1 with z | z; exact z; exact absurd z.1 k.2.1
      obtain ⟨o1, o2, -⟩ := op_RD (b := b) hX h hf ⟨k.1, k.2.1⟩ k.2.2
      by_cases c1 : c (pac (c s.1) (X (pnx b L s))).1 = 0
      · have : ∀ m, plp (pnx b L) X c m (pac (c s.1) (X (pnx b L s))) = pac (c s.1) (X (pnx b L s)) := fun m => by
          cases m with
          | zero => rfl
          | succ m => rw [plp, if_pos c1]
        rw [this]; exact c1
      · have k1 := hc _ c1
        have := o2.2.2.2.1
        have := o1.2.1
        exact ih _ o1 (by omega)
theorem cTerm_ok (t : Int) (h : cTerm t ≠ 0) : t ≠ 0 ∧ t ≠ 1 ∧ -22 ≤ cTerm t ∧ cTerm t < 0 := by unfold cTerm at *; (repeat' split at h) <;> (repeat' split) <;> omega
theorem cSum_ok (t : Int) (h : cSum t ≠ 0) : t ≠ 0 ∧ t ≠ 1 ∧ -22 ≤ cSum t ∧ cSum t < 0 := by unfold cSum at *; (repeat' split at h) <;> (repeat' split) <;> omega
theorem cAnd_ok (t : Int) (h : cAnd t ≠ 0) : t ≠ 0 ∧ t ≠ 1 ∧ -22 ≤ cAnd t ∧ cAnd t < 0 := by unfold cAnd at *; (repeat' split at h) <;> (repeat' split) <;> omega
theorem cOr_ok (t : Int) (h : cOr t ≠ 0) : t ≠ 0 ∧ t ≠ 1 ∧ -22 ≤ cOr t ∧ cOr t < 0 := by unfold cOr at *; (repeat' split at h) <;> (repeat' split) <;> omega
theorem cCmp_ok (t : Int) (h : cCmp t ≠ 0) : t ≠ 0 ∧ t ≠ 1 ∧ -22 ≤ cCmp t ∧ cCmp t < 0 := by unfold cCmp at *; (repeat' split at h) <;> (repeat' split) <;> omega
theorem one_RD {b : Nat → Int} {L : Nat} {dead : Bool} {one ors : PS → PS} (h1 : dead = false → RD L one) (h2 : dead = false → RD L ors) : RD L (pOneF (pnx b L) dead one ors) := by
  intro s h
  have hp := h
  obtain ⟨g1, g2, g3, g4, g5, g6, g7⟩ := h
  unfold pOneF
  have num : ∀ c : Int, -22 ≤ c → c < 100000 → s.1 = 2 ∨ s.1 = 4 → PI L (pnx b L (pac c s)) ∧ MP s (pnx b L (pac c s)) := by
    intro c c1 c2 ht
    have hf : s.2.2.2.2.1 = -1 := by omega
    obtain ⟨t1, t2, t3, t4, t5⟩ := tkn_rg b L s.2.2.2.1 g2
    unfold pnx pac PI MP
    simp only [List.length_append, List.length_cons, List.length_nil]
    refine ⟨⟨t2, t3, Or.inl hf, by omega, by omega, t5, fun e he => ?_⟩, ⟨by omega, by omega, by omega, by omega, fun z => absurd hf z⟩⟩
    rcases List.mem_append.mp he with z | z
    · exact g7 e z
    · rw [List.mem_singleton.mp z]; omega
  by_cases a1 : s.1 = 2
  · rw [if_pos a1]; exact num _ (by simp only [tkR] at g6; omega) (by simp only [tkR] at g6; omega) (Or.inl a1)
  · rw [if_neg a1]
    by_cases a2 : s.1 = 4
    · rw [if_pos a2]; exact num _ (by simp only [tkR] at g6; omega) (by simp only [tkR] at g6; omega) (Or.inr a2)
    · rw [if_neg a2]
      by_cases a3 : (dead || !(decide (s.1 = 45) || decide (s.1 = 40))) = true
      · rw [if_pos a3]; exact ⟨(pst_PI hp).1, (pst_PI hp).2.1⟩
      · rw [if_neg a3]
        simp only [Bool.or_eq_true, Bool.not_eq_true', Bool.or_eq_false_iff, decide_eq_false_iff_not, not_or, not_and, Bool.not_eq_true] at a3
        have hd : dead = false := a3.1
        have hf : s.2.2.2.2.1 = -1 := by rcases g3 with z | z; exact z; exact absurd (a3.2 (by omega)) (by omega)
        by_cases a4 : s.1 = 45
        · rw [if_pos a4]
          have o := op_RD (b := b) (h1 hd) hp hf (by omega) (c := -12) (by omega)
          exact ⟨o.1, o.2.1⟩
        · rw [if_neg a4]
          obtain ⟨n1, n2, n3, n4⟩ := pnx_PI (b := b) hp hf
          obtain ⟨x1, x2⟩ := h2 hd _ n1
          have hl : (pnx b L s).2.2.2.2.2.length = s.2.2.2.2.2.length := by rw [n3]
          have a5 : s.1 ≠ 0 ∧ s.1 ≠ 1 := by by_cases e : s.1 = 40; omega; exact absurd (a3.2 a4) (fun z => z e)
          have m1 : MP s (ors (pnx b L s)) := by
            obtain ⟨q1, q2, q3, q4, q5⟩ := x2
            have := n1.1
            exact ⟨by omega, by omega, by omega, by omega, fun z => absurd hf z⟩
          by_cases a6 : (ors (pnx b L s)).1 = 41
          · rw [if_pos a6]
            have hf2 : (ors (pnx b L s)).2.2.2.2.1 = -1 := by rcases x1.2.2.1 with z | z; exact z; omega
            obtain ⟨k1, k2, k3, k4⟩ := pnx_PI (b := b) x1 hf2
            have hl2 : (pnx b L (ors (pnx b L s))).2.2.2.2.2.length = (ors (pnx b L s)).2.2.2.2.2.length := by rw [k3]
            refine ⟨k1, ?_⟩
            obtain ⟨q1, q2, q3, q4, q5⟩ := m1
            have := x1.1
            have := k1.1
            exact ⟨by omega, by omega, by omega, by omega, fun z => absurd hf z⟩
          · rw [if_neg a6]
            obtain ⟨k1, k2, -⟩ := pst_PI x1
            exact ⟨k1, m1.tr (Or.inr k2)⟩
theorem not_RD {b : Nat → Int} {L : Nat} {dead : Bool} {no sum : PS → PS} (h1 : dead = false → RD L no) (h2 : RD L sum) : RD L (pNotF (pnx b L) dead no sum) := by
  intro s h
  unfold pNotF
  by_cases a1 : s.1 = 8
  · rw [if_pos a1]
    by_cases a2 : dead = true
    · rw [if_pos a2]; exact ⟨(pst_PI h).1, (pst_PI h).2.1⟩
    · rw [if_neg a2]
      have hd : dead = false := by simpa using a2
      have hf : s.2.2.2.2.1 = -1 := by rcases h.2.2.1 with z | z; exact z; omega
      have o := op_RD (b := b) (h1 hd) h hf (by omega) (c := -11) (by omega)
      exact ⟨o.1, o.2.1⟩
  · rw [if_neg a1]
    obtain ⟨x1, x2⟩ := h2 s h
    by_cases a2 : cCmp (sum s).1 = 0
    · rw [if_pos a2]; exact ⟨x1, x2⟩
    · rw [if_neg a2]
      have k := cCmp_ok _ a2
      have hf : (sum s).2.2.2.2.1 = -1 := by rcases x1.2.2.1 with z | z; exact z; exact absurd z.1 k.2.1
      obtain ⟨o1, o2, -⟩ := op_RD (b := b) h2 x1 hf ⟨k.1, k.2.1⟩ k.2.2
      exact ⟨o1, x2.tr (Or.inr o2)⟩
/-- every level reads so -/
theorem lv_RD (b : Nat → Int) (L : Nat) : ∀ l, RD L (pLv (pnx b L) l).1 ∧ RD L (pLv (pnx b L) l).2.1 ∧ RD L (pLv (pnx b L) l).2.2 := by
  intro l
  induction l with
  | zero =>
    have o : RD L (pOneF (pnx b L) true id id) := one_RD (fun z => by cases z) (fun z => by cases z)
    have s : RD L (pSumF (pnx b L) (pTermF (pnx b L) (pOneF (pnx b L) true id id))) := loop_RD (loop_RD o o cTerm_ok 120) (loop_RD o o cTerm_ok 120) cSum_ok 120
    have n : RD L (pNotF (pnx b L) true id (pSumF (pnx b L) (pTermF (pnx b L) (pOneF (pnx b L) true id id)))) := not_RD (fun z => by cases z) s
    exact ⟨o, n, loop_RD (loop_RD n n cAnd_ok 120) (loop_RD n n cAnd_ok 120) cOr_ok 120⟩
  | succ l ih =>
    obtain ⟨i1, i2, i3⟩ := ih
    have o : RD L (pOneF (pnx b L) false (pLv (pnx b L) l).1 (pLv (pnx b L) l).2.2) := one_RD (fun _ => i1) (fun _ => i3)
    have s : RD L (pSumF (pnx b L) (pTermF (pnx b L) (pOneF (pnx b L) false (pLv (pnx b L) l).1 (pLv (pnx b L) l).2.2))) := loop_RD (loop_RD o o cTerm_ok 120) (loop_RD o o cTerm_ok 120) cSum_ok 120
    have n : RD L (pNotF (pnx b L) false (pLv (pnx b L) l).2.1 (pSumF (pnx b L) (pTermF (pnx b L) (pOneF (pnx b L) false (pLv (pnx b L) l).1 (pLv (pnx b L) l).2.2)))) := not_RD (fun _ => i2) s
    exact ⟨o, n, loop_RD (loop_RD n n cAnd_ok 120) (loop_RD n n cAnd_ok 120) cOr_ok 120⟩
