/-! the codes of a reading never go too low, and raise the stack by one -/
def dp1 (c : Int) (d : Nat) : Option Nat := if -11 < c then some (d + 1) else if -13 < c then (if 1 ≤ d then some d else none) else if 2 ≤ d then some (d - 1) else none
def dp : List Int → Nat → Option Nat
  | [], d => some d
  | c :: r, d => (dp1 c d).bind (dp r)
theorem dp_app (a c : List Int) (d : Nat) : dp (a ++ c) d = (dp a d).bind (dp c) := by
  induction a generalizing d with
  | nil => rfl
  | cons x a ih =>
    show (dp1 x d).bind (dp (a ++ c)) = ((dp1 x d).bind (dp a)).bind (dp c)
    cases dp1 x d with
    | none => rfl
    | some e => exact ih e
theorem dp_1 {c : Int} (d : Nat) (h : -11 < c) : dp [c] d = some (d + 1) := by
  show (dp1 c d).bind (dp []) = _
  unfold dp1
  rw [if_pos h]; rfl
theorem dp_u {c : Int} (d : Nat) (h : c ≤ -11) (h2 : -13 < c) : dp [c] (d + 1) = some (d + 1) := by
  show (dp1 c (d + 1)).bind (dp []) = _
  unfold dp1
  rw [if_neg (by omega), if_pos h2, if_pos (by omega)]; rfl
theorem dp_b {c : Int} (d : Nat) (h : c ≤ -13) : dp [c] (d + 1 + 1) = some (d + 1) := by
  show (dp1 c (d + 1 + 1)).bind (dp []) = _
  unfold dp1
  rw [if_neg (by omega), if_neg (by omega), if_pos (by omega)]; rfl
def CD (L : Nat) (p : PS → PS) : Prop := ∀ s, PI L s → ∃ nw : List Int, (p s).2.2.2.2.2 = s.2.2.2.2.2 ++ nw ∧ ((p s).2.2.2.2.1 = -1 → ∀ d, dp nw d = some (d + 1))
theorem pst_cd {L : Nat} {s : PS} (h : PI L s) : ∃ nw : List Int, (pst s).2.2.2.2.2 = s.2.2.2.2.2 ++ nw ∧ ((pst s).2.2.2.2.1 = -1 → ∀ d, dp nw d = some (d + 1)) := ⟨[], (List.append_nil _).symm, fun z => absurd z (pst_PI h).2.2⟩
theorem plp_cd {b : Nat → Int} {L : Nat} {X : PS → PS} (hX : RD L X) (hC : CD L X) {c : Int → Int} (hc : ∀ t, c t ≠ 0 → t ≠ 0 ∧ t ≠ 1 ∧ -22 ≤ c t ∧ c t ≤ -13) : ∀ (n : Nat) (s : PS), PI L s → ∃ nw : List Int, (plp (pnx b L) X c n s).2.2.2.2.2 = s.2.2.2.2.2 ++ nw ∧ ((plp (pnx b L) X c n s).2.2.2.2.1 = -1 → ∀ d, dp nw (d + 1) = some (d + 1)) := by
  intro n
  induction n with
  | zero => intro s h; exact ⟨[], (List.append_nil _).symm, fun _ d => rfl⟩
  | succ n ih =>
    intro s h
    by_cases e : c s.1 = 0
    · rw [plp, if_pos e]; exact ⟨[], (List.append_nil _).symm, fun _ d => rfl⟩
    · rw [plp, if_neg e]
      obtain ⟨k1, k2, k3, k4⟩ := hc _ e
      have hf : s.2.2.2.2.1 = -1 := by have := h.2.2.1; omega
      obtain ⟨o1, o2, -⟩ := op_RD (b := b) hX h hf ⟨k1, k2⟩ (c := c s.1) (by omega)
      obtain ⟨n1, u1, u2⟩ := hC _ (pnx_PI (b := b) h hf).1
      obtain ⟨n2, z1, z2⟩ := ih _ o1
      refine ⟨n1 ++ [c s.1] ++ n2, ?_, fun z d => ?_⟩
      · rw [z1]
        show (X (pnx b L s)).2.2.2.2.2 ++ [c s.1] ++ n2 = _
        rw [u1]
        show s.2.2.2.2.2 ++ n1 ++ [c s.1] ++ n2 = _
        simp only [List.append_assoc]
      · by_cases hf2 : (pac (c s.1) (X (pnx b L s))).2.2.2.2.1 = -1
        · rw [dp_app, dp_app, u2 hf2, Option.bind_some, dp_b d k4, Option.bind_some]
          exact z2 z d
        · have := plp_bad (b := b) hX (fun t ht => by have := hc t ht; omega) n _ o1 hf2
          exact absurd z this
theorem loop_cd {b : Nat → Int} {L : Nat} {X Y : PS → PS} (hX : RD L X) (hY : RD L Y) (hC : CD L X) (hD : CD L Y) {c : Int → Int} (hc : ∀ t, c t ≠ 0 → t ≠ 0 ∧ t ≠ 1 ∧ -22 ≤ c t ∧ c t ≤ -13) (n : Nat) : CD L (fun s => plp (pnx b L) X c n (Y s)) := fun s h => by
  obtain ⟨n1, u1, u2⟩ := hD s h
  obtain ⟨n2, z1, z2⟩ := plp_cd (b := b) hX hC hc n _ (hY s h).1
  refine ⟨n1 ++ n2, by rw [z1, u1, List.append_assoc], fun z d => ?_⟩
  by_cases hf2 : (Y s).2.2.2.2.1 = -1
  · rw [dp_app, u2 hf2, Option.bind_some]; exact z2 z d
  · exact absurd z (plp_bad (b := b) hX (fun t ht => by have := hc t ht; omega) n _ (hY s h).1 hf2)
theorem one_cd {b : Nat → Int} {L : Nat} {dead : Bool} {one ors : PS → PS} (h1 : dead = false → CD L one) (h2 : dead = false → CD L ors) (h3 : dead = false → RD L ors) : CD L (pOneF (pnx b L) dead one ors) := by
  intro s h
  have tk := h.2.2.2.2.2.1
  simp only [tkR] at tk
  unfold pOneF
  by_cases a1 : s.1 = 2
  · rw [if_pos a1]; exact ⟨[s.2.1], rfl, fun _ d => dp_1 d (by omega)⟩
  · rw [if_neg a1]
    by_cases a2 : s.1 = 4
    · rw [if_pos a2]; exact ⟨[-1 - s.2.1], rfl, fun _ d => dp_1 d (by omega)⟩
    · rw [if_neg a2]
      by_cases a3 : (dead || !(decide (s.1 = 45) || decide (s.1 = 40))) = true
      · rw [if_pos a3]; exact pst_cd h
      · rw [if_neg a3]
        simp only [Bool.or_eq_true, Bool.not_eq_true', Bool.or_eq_false_iff, decide_eq_false_iff_not, not_or, not_and, Bool.not_eq_true] at a3
        have hd : dead = false := a3.1
        by_cases a4 : s.1 = 45
        · rw [if_pos a4]
          have hf : s.2.2.2.2.1 = -1 := by have := h.2.2.1; omega
          obtain ⟨n1, u1, u2⟩ := h1 hd _ (pnx_PI (b := b) h hf).1
          refine ⟨n1 ++ [-12], ?_, fun z d => ?_⟩
          · show (one (pnx b L s)).2.2.2.2.2 ++ [-12] = _
            rw [u1, List.append_assoc]; rfl
          · rw [dp_app, u2 z, Option.bind_some]; exact dp_u d (by omega) (by omega)
        · rw [if_neg a4]
          have a5 : s.1 = 40 := by by_cases e : s.1 = 40; exact e; exact absurd (a3.2 a4) (fun z => z e)
          have hf : s.2.2.2.2.1 = -1 := by have := h.2.2.1; omega
          have hn := (pnx_PI (b := b) h hf).1
          obtain ⟨n1, u1, u2⟩ := h2 hd _ hn
          by_cases a6 : (ors (pnx b L s)).1 = 41
          · rw [if_pos a6]; exact ⟨n1, u1, u2⟩
          · rw [if_neg a6]; exact ⟨n1, u1, fun z => absurd z (pst_PI (h3 hd _ hn).1).2.2⟩
theorem not_cd {b : Nat → Int} {L : Nat} {dead : Bool} {no sum : PS → PS} (h1 : dead = false → CD L no) (h2 : CD L sum) (h3 : RD L sum) : CD L (pNotF (pnx b L) dead no sum) := by
  intro s h
  unfold pNotF
  by_cases a1 : s.1 = 8
  · rw [if_pos a1]
    by_cases a2 : dead = true
    · rw [if_pos a2]; exact pst_cd h
    · rw [if_neg a2]
      have hd : dead = false := by simpa using a2
      have hf : s.2.2.2.2.1 = -1 := by rcases h.2.2.1 with z | z; exact z; omega
      obtain ⟨n1, u1, u2⟩ := h1 hd _ (pnx_PI (b := b) h hf).1
      refine ⟨n1 ++ [-11], ?_, fun z d => ?_⟩
      · show (no (pnx b L s)).2.2.2.2.2 ++ [-11] = _
        rw [u1, List.append_assoc]; rfl
      · rw [dp_app, u2 z, Option.bind_some]; exact dp_u d (by omega) (by omega)
  · rw [if_neg a1]
    obtain ⟨n1, u1, u2⟩ := h2 s h
    by_cases a2 : cCmp (sum s).1 = 0
    · rw [if_pos a2]; exact ⟨n1, u1, u2⟩
    · rw [if_neg a2]
      have q1 := (h3 s h).1
      have hf : (sum s).2.2.2.2.1 = -1 := by
        rcases q1.2.2.1 with u | u
        · exact u
        · rw [u.1] at a2; exact absurd rfl a2
      have hcr : cCmp (sum s).1 = 0 ∨ (-17 ≤ cCmp (sum s).1 ∧ cCmp (sum s).1 ≤ -15) := by unfold cCmp; (repeat' split) <;> omega
      obtain ⟨n2, z1, z2⟩ := h2 _ (pnx_PI (b := b) q1 hf).1
      refine ⟨n1 ++ n2 ++ [cCmp (sum s).1], ?_, fun z d => ?_⟩
      · show (sum (pnx b L (sum s))).2.2.2.2.2 ++ [cCmp (sum s).1] = _
        rw [z1]
        show (sum s).2.2.2.2.2 ++ n2 ++ [cCmp (sum s).1] = _
        rw [u1]; simp only [List.append_assoc]
      · rw [dp_app, dp_app, u2 hf, Option.bind_some, z2 z, Option.bind_some]
        exact dp_b d (by omega)
theorem cTerm_k (t : Int) (h : cTerm t ≠ 0) : t ≠ 0 ∧ t ≠ 1 ∧ -22 ≤ cTerm t ∧ cTerm t ≤ -13 := by unfold cTerm at *; (repeat' split at h) <;> (repeat' split) <;> omega
theorem cSum_k (t : Int) (h : cSum t ≠ 0) : t ≠ 0 ∧ t ≠ 1 ∧ -22 ≤ cSum t ∧ cSum t ≤ -13 := by unfold cSum at *; (repeat' split at h) <;> (repeat' split) <;> omega
theorem cAnd_k (t : Int) (h : cAnd t ≠ 0) : t ≠ 0 ∧ t ≠ 1 ∧ -22 ≤ cAnd t ∧ cAnd t ≤ -13 := by unfold cAnd at *; (repeat' split at h) <;> (repeat' split) <;> omega
theorem cOr_k (t : Int) (h : cOr t ≠ 0) : t ≠ 0 ∧ t ≠ 1 ∧ -22 ≤ cOr t ∧ cOr t ≤ -13 := by unfold cOr at *; (repeat' split at h) <;> (repeat' split) <;> omega
theorem lv_cd (b : Nat → Int) (L : Nat) : ∀ l, CD L (pLv (pnx b L) l).1 ∧ CD L (pLv (pnx b L) l).2.1 ∧ CD L (pLv (pnx b L) l).2.2 := by
  intro l
  induction l with
  | zero =>
    have o : RD L (pOneF (pnx b L) true id id) := one_RD (fun z => by cases z) (fun z => by cases z)
    have oC : CD L (pOneF (pnx b L) true id id) := one_cd (fun z => by cases z) (fun z => by cases z) (fun z => by cases z)
    have tR := loop_RD (b := b) o o cTerm_ok 120
    have tC := loop_cd (b := b) o o oC oC cTerm_k 120
    have sR : RD L (pSumF (pnx b L) (pTermF (pnx b L) (pOneF (pnx b L) true id id))) := loop_RD tR tR cSum_ok 120
    have sC : CD L (pSumF (pnx b L) (pTermF (pnx b L) (pOneF (pnx b L) true id id))) := loop_cd tR tR tC tC cSum_k 120
    have nR : RD L (pNotF (pnx b L) true id (pSumF (pnx b L) (pTermF (pnx b L) (pOneF (pnx b L) true id id)))) := not_RD (fun z => by cases z) sR
    have nC : CD L (pNotF (pnx b L) true id (pSumF (pnx b L) (pTermF (pnx b L) (pOneF (pnx b L) true id id)))) := not_cd (fun z => by cases z) sC sR
    have aR := loop_RD (b := b) nR nR cAnd_ok 120
    have aC := loop_cd (b := b) nR nR nC nC cAnd_k 120
    exact ⟨oC, nC, loop_cd aR aR aC aC cOr_k 120⟩
  | succ l ih =>
    obtain ⟨i1, i2, i3⟩ := ih
    obtain ⟨d1, d2, d3⟩ := lv_RD b L l
    have o : RD L (pOneF (pnx b L) false (pLv (pnx b L) l).1 (pLv (pnx b L) l).2.2) := one_RD (fun _ => d1) (fun _ => d3)
    have oC : CD L (pOneF (pnx b L) false (pLv (pnx b L) l).1 (pLv (pnx b L) l).2.2) := one_cd (fun _ => i1) (fun _ => i3) (fun _ => d3)
    have tR := loop_RD (b := b) o o cTerm_ok 120
    have tC := loop_cd (b := b) o o oC oC cTerm_k 120
    have sR : RD L (pSumF (pnx b L) (pTermF (pnx b L) (pOneF (pnx b L) false (pLv (pnx b L) l).1 (pLv (pnx b L) l).2.2))) := loop_RD tR tR cSum_ok 120
    have sC : CD L (pSumF (pnx b L) (pTermF (pnx b L) (pOneF (pnx b L) false (pLv (pnx b L) l).1 (pLv (pnx b L) l).2.2))) := loop_cd tR tR tC tC cSum_k 120
    have nR : RD L (pNotF (pnx b L) false (pLv (pnx b L) l).2.1 (pSumF (pnx b L) (pTermF (pnx b L) (pOneF (pnx b L) false (pLv (pnx b L) l).1 (pLv (pnx b L) l).2.2)))) := not_RD (fun _ => d2) sR
    have nC : CD L (pNotF (pnx b L) false (pLv (pnx b L) l).2.1 (pSumF (pnx b L) (pTermF (pnx b L) (pOneF (pnx b L) false (pLv (pnx b L) l).1 (pLv (pnx b L) l).2.2)))) := not_cd (fun _ => i2) sC sR
    have aR := loop_RD (b := b) nR nR cAnd_ok 120
    have aC := loop_cd (b := b) nR nR nC nC cAnd_k 120
    exact ⟨oC, nC, loop_cd aR aR aC aC cOr_k 120⟩
