/-! WHO HOLDS WHAT, in order -/
theorem pw_ext {r : Nat → Nat → Prop} (irr : ∀ a, ¬ r a a) (asy : ∀ a b, r a b → ¬ r b a) : ∀ {l1 l2 : List Nat}, l1.Pairwise r → l2.Pairwise r → (∀ a, a ∈ l1 ↔ a ∈ l2) → l1 = l2 := by
  intro l1
  induction l1 with
  | nil =>
    intro l2 _ _ hm
    cases l2 with
    | nil => rfl
    | cons b t => exact absurd ((hm b).mpr List.mem_cons_self) List.not_mem_nil
  | cons a t1 ih =>
    intro l2 h1 h2 hm
    cases l2 with
    | nil => exact absurd ((hm a).mp List.mem_cons_self) List.not_mem_nil
    | cons b t2 =>
      obtain ⟨ha, ht1⟩ := List.pairwise_cons.mp h1
      obtain ⟨hb, ht2⟩ := List.pairwise_cons.mp h2
      have hab : a = b := by
        rcases List.mem_cons.mp ((hm a).mp List.mem_cons_self) with h | h
        · exact h
        · rcases List.mem_cons.mp ((hm b).mpr List.mem_cons_self) with g | g
          · exact g.symm
          · exact absurd (hb a h) (asy _ _ (ha b g))
      subst hab
      refine congrArg (a :: ·) (ih ht1 ht2 fun x => ⟨fun hx => ?_, fun hx => ?_⟩)
      · rcases List.mem_cons.mp ((hm x).mp (List.mem_cons_of_mem _ hx)) with h | h
        · subst h; exact absurd (ha x hx) (irr x)
        · exact h
      · rcases List.mem_cons.mp ((hm x).mpr (List.mem_cons_of_mem _ hx)) with h | h
        · subst h; exact absurd (hb x hx) (irr x)
        · exact h
def lx (f : Nat → Int) (a b : Nat) : Prop := f a < f b ∨ (f a = f b ∧ a < b)
theorem lx_irr (f : Nat → Int) (a : Nat) : ¬ lx f a a := fun h => by unfold lx at h; omega
theorem lx_asy (f : Nat → Int) (a b : Nat) (h : lx f a b) : ¬ lx f b a := fun g => by unfold lx at h g; omega
theorem lx_tr (f : Nat → Int) {a b c : Nat} (h : lx f a b) (g : lx f b c) : lx f a c := by unfold lx at *; omega
theorem lx_tot (f : Nat → Int) {a b : Nat} (h : a ≠ b) : lx f a b ∨ lx f b a := by unfold lx; omega
/-- the copies in their order; those of a house -/
def oL (A : hI) : List Nat := (List.range (A 55 7).toNat).map (fun i => (A 60 i).toNat)
def hL (A : hI) (h : Int) : List Nat := (oL A).filter (fun c => decide (A 58 c = h))
section HELD
variable {K D : Int} {A0 B0 A B A' B' : hI}
theorem oL_len (A : hI) : (oL A).length = (A 55 7).toNat := by unfold oL; rw [List.length_map, List.length_range]
theorem oL_get {A : hI} {i : Nat} (hi : i < (A 55 7).toNat) : (oL A)[i]? = some (A 60 i).toNat := by
  unfold oL
  rw [List.getElem?_map, List.getElem?_range hi]
  rfl
theorem oL_pw (N : WN A A B) : (oL A).Pairwise (lx (A 2)) := by
  unfold oL
  rw [List.pairwise_map]
  refine List.Pairwise.imp_of_mem ?_ (List.pairwise_lt_range (n := (A 55 7).toNat))
  intro i j hi hj hij
  have h1 := List.mem_range.mp hj
  have h2 := N.nor i (by have := List.mem_range.mp hi; omega)
  have h3 := N.nor j (by omega)
  have := N.nso i j hij (by omega)
  unfold lx
  omega
theorem oL_mem (N : WN A A B) (c : Nat) : c ∈ oL A ↔ (c : Int) < A 55 7 := by
  unfold oL
  rw [List.mem_map]
  constructor
  · rintro ⟨i, hi, rfl⟩
    have := N.nor i (by have := List.mem_range.mp hi; omega)
    omega
  · intro h
    obtain ⟨i, h1, h2⟩ := N.nsu c h
    exact ⟨i, List.mem_range.mpr (by omega), by omega⟩
theorem hL_mem (N : WN A A B) (h : Int) (c : Nat) : c ∈ hL A h ↔ (c : Int) < A 55 7 ∧ A 58 c = h := by
  unfold hL
  rw [List.mem_filter, oL_mem N, decide_eq_true_eq]
theorem hL_pw (N : WN A A B) (h : Int) : (hL A h).Pairwise (lx (A 2)) := (oL_pw N).filter _
theorem pw_nd {f : Nat → Int} {l : List Nat} (h : l.Pairwise (lx f)) : l.Nodup := h.imp fun {a b} hab e => by subst e; exact lx_irr f a hab
/-- a row of numbers as a list -/
def aL (g : Nat → Int) (n : Nat) : List Nat := (List.range n).map (fun i => (g i).toNat)
theorem aL_len (g : Nat → Int) (n : Nat) : (aL g n).length = n := by unfold aL; rw [List.length_map, List.length_range]
theorem aL_get {g : Nat → Int} {n i : Nat} (hi : i < n) : (aL g n)[i]? = some (g i).toNat := by
  unfold aL
  rw [List.getElem?_map, List.getElem?_range hi]
  rfl
/-- what the reference collects is the house's list -/
def cOK (A : hI) (h : Int) (i : Nat) (g : Nat → Int) (n : Nat) : Prop := (∀ a b : Nat, a < b → b < n → lx (A 2) (g a).toNat (g b).toNat) ∧ (∀ a : Nat, a < n → 0 ≤ g a ∧ (g a).toNat < i ∧ A 58 (g a).toNat = h) ∧ (∀ c : Nat, c < i → A 58 c = h → ∃ a : Nat, a < n ∧ g a = c) ∧ n = sm i (fun e => bI (A 58 e = h))
theorem cOK_end (N : WN A A B) {h : Int} {g : Nat → Int} {n : Nat} (H : cOK A h (A 55 7).toNat g n) : aL g n = hL A h := by
  obtain ⟨h1, h2, h3, h4⟩ := H
  refine pw_ext (lx_irr (A 2)) (lx_asy (A 2)) ?_ (hL_pw N h) fun c => ?_
  · unfold aL
    rw [List.pairwise_map]
    refine List.Pairwise.imp_of_mem ?_ (List.pairwise_lt_range (n := n))
    intro i j hi hj hij
    exact h1 i j hij (List.mem_range.mp hj)
  · rw [hL_mem N]
    unfold aL
    rw [List.mem_map]
    constructor
    · rintro ⟨i, hi, rfl⟩
      have := h2 i (List.mem_range.mp hi)
      exact ⟨by omega, this.2.2⟩
    · rintro ⟨hc, hh⟩
      obtain ⟨a, ha, hg⟩ := h3 c (by omega) hh
      exact ⟨a, List.mem_range.mpr ha, by omega⟩
/-- behind, as the reference asks -/
theorem em_isBehind (R : RR K D A0 B0 A B) (F : Nat) (Ax B1 : hI) (e4 : ∀ k : Nat, k ≠ 304 ∧ k ≠ 307 ∧ k ≠ 308 → B1 k = B k) (a b : Int) (ha : 0 ≤ a) (ha2 : a < A 55 7) (hb : 0 ≤ b) (hb2 : b < A 55 7) [Decidable (lx (A 2) b.toNat a.toNat)] : f_m_isBehind F (iI a) (iI b) (mk Ax B1) = some (iI (bI (lx (A 2) b.toNat a.toNat)), mk Ax B1) := by
  have N := R.gN
  have hC := N.nc2
  have n1 := N.nnu a.toNat (by omega)
  have n2 := N.nnu b.toNat (by omega)
  have nf := N.nf2
  have x1 := N.nix a.toNat (by omega)
  have x2 := N.nix b.toNat (by omega)
  -- of one number the earlier copy comes first
  have mono : ∀ p q : Nat, p < q → A 2 p = A 2 q → sm p (fun e => bI (A 2 e = A 2 p)) < sm q (fun e => bI (A 2 e = A 2 q)) := by
    intro p q hpq he
    obtain ⟨d, rfl⟩ : ∃ d, q = p + 1 + d := ⟨q - p - 1, by omega⟩
    rw [he]
    clear x1 x2 n1 n2
    induction d with
    | zero => simp only [Nat.add_zero, sm]; rw [he, bI_t rfl]; simp only [Nat.add_zero] at he; omega
    | succ d ih =>
      have key : ∀ v : Int, A 2 p = v → ∀ d : Nat, sm p (fun e => bI (A 2 e = v)) < sm (p + 1 + d) (fun e => bI (A 2 e = v)) := by
        intro v hv d
        induction d with
        | zero => simp only [Nat.add_zero, sm]; rw [hv, bI_t rfl]; omega
        | succ d ih2 => rw [show p + 1 + (d + 1) = (p + 1 + d) + 1 by omega]; simp only [sm]; have := (bI_nn (A 2 (p + 1 + d) = v)).1; omega
      exact key _ he _
  have c1 := sm_cnt a.toNat (fun e => A 2 e = A 2 a.toNat)
  have c2 := sm_cnt b.toNat (fun e => A 2 e = A 2 b.toNat)
  simp only [f_m_isBehind, f_m_isBehind_74, f_m_isBehind_78, f_m_isBehind_79]
  by_cases h1 : A 2 b.toNat < A 2 a.toNat
  · rw [bI_t (show lx (A 2) b.toNat a.toNat from Or.inl h1)]
    simp (disch := first | omega | (simp (disch := omega) only [uA_n]; done) | fail) only [iI_lit, iI_add, iI_sub, iI_mul, iI_neg, iI_lt, iI_le, iI_eq, zlt_t, zlt_f, zle_t, zle_f, zeq_t, zeq_f, nle_t, nle_f, iI_cl, rA, rS, rB, wA, wS, wB, mkp, mk2, uA_s, uA_n, ud_s, ud_n, bI_0, bI_1, nor_s, reduceIte, or_false, false_or, or_true, true_or, or_self, not_true_eq_false, not_false_eq_true, and_true, true_and, and_false, false_and, bI_T, bI_F, Int.reduceToNat, Nat.reduceAdd, Nat.reduceMul, Int.reduceNeg, Option.bind_some, Int.toNat_natCast, zC0, e4, n1.2.2, n2.2.2]
  · by_cases h2 : A 2 a.toNat = A 2 b.toNat
    · by_cases h3 : b.toNat < a.toNat
      · have := mono b.toNat a.toNat h3 h2.symm
        rw [bI_t (show lx (A 2) b.toNat a.toNat from Or.inr ⟨h2.symm, h3⟩)]
        simp (disch := first | omega | (simp (disch := omega) only [uA_n]; done) | fail) only [iI_lit, iI_add, iI_sub, iI_mul, iI_neg, iI_lt, iI_le, iI_eq, zlt_t, zlt_f, zle_t, zle_f, zeq_t, zeq_f, nle_t, nle_f, iI_cl, rA, rS, rB, wA, wS, wB, mkp, mk2, uA_s, uA_n, ud_s, ud_n, bI_0, bI_1, nor_s, reduceIte, or_false, false_or, or_true, true_or, or_self, not_true_eq_false, not_false_eq_true, and_true, true_and, and_false, false_and, bI_T, bI_F, Int.reduceToNat, Nat.reduceAdd, Nat.reduceMul, Int.reduceNeg, Option.bind_some, Int.toNat_natCast, zC0, zC, e4, n1.2.2, n2.2.2, x1, x2]
      · have h4 : sm a.toNat (fun e => bI (A 2 e = A 2 a.toNat)) ≤ sm b.toNat (fun e => bI (A 2 e = A 2 b.toNat)) := by
          by_cases h5 : a.toNat = b.toNat
          · rw [h5]; exact Int.le_refl _
          · exact Int.le_of_lt (mono a.toNat b.toNat (by omega) h2)
        rw [bI_f (show ¬ lx (A 2) b.toNat a.toNat from fun z => by unfold lx at z; omega)]
        simp (disch := first | omega | (simp (disch := omega) only [uA_n]; done) | fail) only [iI_lit, iI_add, iI_sub, iI_mul, iI_neg, iI_lt, iI_le, iI_eq, zlt_t, zlt_f, zle_t, zle_f, zeq_t, zeq_f, nle_t, nle_f, iI_cl, rA, rS, rB, wA, wS, wB, mkp, mk2, uA_s, uA_n, ud_s, ud_n, bI_0, bI_1, nor_s, reduceIte, or_false, false_or, or_true, true_or, or_self, not_true_eq_false, not_false_eq_true, and_true, true_and, and_false, false_and, bI_T, bI_F, Int.reduceToNat, Nat.reduceAdd, Nat.reduceMul, Int.reduceNeg, Option.bind_some, Int.toNat_natCast, zC0, zC, e4, n1.2.2, n2.2.2, x1, x2]
    · rw [bI_f (show ¬ lx (A 2) b.toNat a.toNat from fun z => by unfold lx at z; omega)]
      simp (disch := first | omega | (simp (disch := omega) only [uA_n]; done) | fail) only [iI_lit, iI_add, iI_sub, iI_mul, iI_neg, iI_lt, iI_le, iI_eq, zlt_t, zlt_f, zle_t, zle_f, zeq_t, zeq_f, nle_t, nle_f, iI_cl, rA, rS, rB, wA, wS, wB, mkp, mk2, uA_s, uA_n, ud_s, ud_n, bI_0, bI_1, nor_s, reduceIte, or_false, false_or, or_true, true_or, or_self, not_true_eq_false, not_false_eq_true, and_true, true_and, and_false, false_and, bI_T, bI_F, Int.reduceToNat, Nat.reduceAdd, Nat.reduceMul, Int.reduceNeg, Option.bind_some, Int.toNat_natCast, zC0, zC, e4, n1.2.2, n2.2.2]
end HELD
