/-! A PAPER IS PAID; the names of a bill -/
theorem pap_q {B : hI} {k p q c : Nat} {v : Int} (h : q ≠ p) : uA B k p v c q = B c q := pap_oS B p k v c q h
def pyA (A : hI) (p : Nat) : hI := if A 32 p = 3 then uA (uA (uA (uA (uA A 35 (A 41 p).toNat (A 34 p)) 40 (A 41 p).toNat 0) 32 p (-1)) 37 p (-1)) 31 14 (A 31 14 - 1) else uA (uA (uA A 32 p (-1)) 37 p (-1)) 31 14 (A 31 14 - 1)
def pyB (A B : hI) (p : Nat) : hI := if A 32 p = 3 then uA (uA (uA B 464 (A 41 p).toNat 0) 454 (A 41 p).toNat (A 34 p)) 450 p 0 else uA B 450 p 0
section NAME
variable {K D : Int} {A0 B0 A B A' B' : hI} (F : Nat)
theorem RR.py0 (R : RR K D A0 B0 A B) {p : Nat} (hp : p < 60) (hk : A 32 p ≠ -1) (hn : ∀ q, q < 60 → A 32 q = 3 → A 37 q = 0 → A 41 q ≠ p) : RR K D A0 B0 (uA (uA (uA A 32 p (-1)) 37 p (-1)) 31 14 (A 31 14 - 1)) (uA B 450 p 0) := by
  have kr := R.kr hp
  refine R.pap (fun k hk => by simp (disch := omega) only [uA_n]) (fun k hk => uA_n (by omega)) ?_
  refine R.gP.loc hp (fun c c1 c2 c3 q hq => by rw [uA_n (by omega), pap_q hq, pap_q hq]) (fun q i hq hi => by rw [uA_n (by omega), uA_n (by omega), uA_n (by omega)]) (fun c _ _ q hq => pap_q hq) (fun q _ => by rw [uA_n (by omega)]) (by simp (disch := omega) only [uA_n]) (by simp (disch := omega) only [uA_n]) (by simp (disch := omega) only [uA_n]) ?_ (by simp (disch := omega) only [uA_n, uA_s, ud_n]; exact Int.le_refl _) (by simp (disch := omega) only [uA_n, uA_s, ud_n]; exact R.gP.pe2) ⟨?_, Or.inl ?_⟩ ?_ ?_
  · simp (disch := omega) only [uA_n, uA_s, ud_s]
    rw [bI_t (show A 32 p ≠ -1 from hk), bI_f (show ¬ ((-1 : Int) ≠ -1) by omega)]
    omega
  · simp (disch := omega) only [uA_n, uA_s, ud_s]
    exact fun _ => trivial
  · unfold PF
    simp (disch := omega) only [uA_n, uA_s, ud_s, and_self]
  · intro q hq hqp h3 h4 e
    exact absurd e (hn q hq h3 h4)
  · simp (disch := omega) only [uA_n, uA_s, ud_s]
    intro z; omega
theorem RR.py (R : RR K D A0 B0 A B) {p : Nat} (hp : p < 60) (hk : A 32 p ≠ -1) (hs : A 32 p = 3 → A 37 p = 0) (hn : ∀ q, q < 60 → A 32 q = 3 → A 37 q = 0 → A 41 q ≠ p) : RR K D A0 B0 (pyA A p) (pyB A B p) := by
  have R1 := R.py0 hp hk hn
  unfold pyA pyB
  by_cases h3 : A 32 p = 3
  · rw [if_pos h3, if_pos h3]
    obtain ⟨g1, g2, g3, g4, g5, g6, g7, g8⟩ := R.gP.ppg p hp h3 (hs h3)
    have hd := (R.gP.pd p hp hk).2
    have hne : (A 41 p).toNat ≠ p := fun z => by rw [z] at g4; omega
    have hne' := fun z => hne (Eq.symm z)
    have R2 := R1.free (p := (A 41 p).toNat) (v := A 34 p) (by omega) (by simp (disch := omega) only [uA_n, uA_s, ud_n]; exact g4) (by simp (disch := omega) only [uA_n]; omega) (by simp (disch := omega) only [uA_n, uA_s, ud_n]; exact g5) (fun q hq h3' h4 e => by
      simp (disch := omega) only [uA_n, uA_s] at h3' h4 e
      by_cases hqp : q = p
      · subst hqp; rw [ud_s] at h3'; omega
      · rw [ud_n hqp] at h3' h4
        exact hqp (R.gP.ppd q p hq hp h3' h4 h3 (hs h3) (by omega)))
    have ea : uA (uA (uA (uA (uA A 35 (A 41 p).toNat (A 34 p)) 40 (A 41 p).toNat 0) 32 p (-1)) 37 p (-1)) 31 14 (A 31 14 - 1) = uA (uA (uA (uA (uA A 32 p (-1)) 37 p (-1)) 31 14 (A 31 14 - 1)) 35 (A 41 p).toNat (A 34 p)) 40 (A 41 p).toNat 0 := by
      rw [uA_sw _ (show (40 : Nat) ≠ 32 by omega), uA_sw _ (show (35 : Nat) ≠ 32 by omega), uA_sw _ (show (40 : Nat) ≠ 37 by omega), uA_sw _ (show (35 : Nat) ≠ 37 by omega), uA_sw _ (show (40 : Nat) ≠ 31 by omega), uA_sw _ (show (35 : Nat) ≠ 31 by omega)]
    have eb : uA (uA (uA B 464 (A 41 p).toNat 0) 454 (A 41 p).toNat (A 34 p)) 450 p 0 = uA (uA (uA B 450 p 0) 454 (A 41 p).toNat (A 34 p)) 464 (A 41 p).toNat 0 := by
      rw [uA_sw _ (show (454 : Nat) ≠ 450 by omega), uA_sw _ (show (464 : Nat) ≠ 450 by omega), uA_sw _ (show (464 : Nat) ≠ 454 by omega)]
    rw [ea, eb]
    exact R2
  · rw [if_neg h3, if_neg h3]; exact R1
theorem pyA_o {A : hI} {p c : Nat} (hc : c ≠ 31 ∧ c ≠ 32 ∧ c ≠ 35 ∧ c ≠ 37 ∧ c ≠ 40) : pyA A p c = A c := by
  unfold pyA
  split <;> simp (disch := omega) only [uA_n]
theorem ex_payOff (R : RR K D A0 B0 A B) (Bx : hI) {p : Nat} (hp : p < 60) (hk : A 32 p ≠ -1) (hs : A 32 p = 3 → A 37 p = 0) : f_Papers_payOff F (iI p) (mk A Bx) = some ((), mk (pyA A p) Bx) := by
  have kr := R.kr hp
  simp only [f_Papers_payOff, f_Papers_payOff_26, f_Papers_payOff_50, f_Papers_giveBack, f_Papers_giveBack_24]
  unfold pyA
  by_cases h3 : A 32 p = 3
  · rw [if_pos h3]
    obtain ⟨g1, g2, g3, -⟩ := R.gP.ppg p hp h3 (hs h3)
    simp (disch := first | omega | (simp (disch := omega) only [uA_n]; done) | fail) only [iI_lit, iI_add, iI_sub, iI_mul, iI_neg, iI_lt, iI_le, iI_eq, zlt_t, zlt_f, zle_t, zle_f, zeq_t, zeq_f, nle_t, nle_f, iI_cl, rA, rS, rB, wA, wS, wB, mkp, mk2, uA_s, uA_n, ud_s, ud_n, bI_0, bI_1, nor_s, ↓reduceIte, or_false, false_or, or_true, true_or, or_self, not_true_eq_false, not_false_eq_true, and_true, true_and, and_false, false_and, bI_T, bI_F, Int.reduceToNat, Nat.reduceAdd, Nat.reduceMul, Int.reduceNeg, Option.bind_some, Int.toNat_natCast, h3]
  · rw [if_neg h3]
    simp (disch := first | omega | (simp (disch := omega) only [uA_n]; done) | fail) only [iI_lit, iI_add, iI_sub, iI_mul, iI_neg, iI_lt, iI_le, iI_eq, zlt_t, zlt_f, zle_t, zle_f, zeq_t, zeq_f, nle_t, nle_f, iI_cl, rA, rS, rB, wA, wS, wB, mkp, mk2, uA_s, uA_n, ud_s, ud_n, bI_0, bI_1, nor_s, ↓reduceIte, or_false, false_or, or_true, true_or, or_self, not_true_eq_false, not_false_eq_true, and_true, true_and, and_false, false_and, bI_T, bI_F, Int.reduceToNat, Nat.reduceAdd, Nat.reduceMul, Int.reduceNeg, Option.bind_some, Int.toNat_natCast]
/-- the name that answers next -/
def nt (A : hI) (p : Nat) : Nat → Nat
  | 0 => 0
  | i + 1 => if A 38 (6 * p + (i + 1)) = A 35 p then nt A p i else if A 38 (6 * p + (i + 1)) = A 34 p then nt A p i else i + 1
theorem nt_rg (A : hI) (p : Nat) : ∀ i : Nat, nt A p i ≤ i ∧ (nt A p i ≠ 0 → A 38 (6 * p + nt A p i) ≠ A 35 p ∧ A 38 (6 * p + nt A p i) ≠ A 34 p) ∧ ∀ j, nt A p i < j → j ≤ i → A 38 (6 * p + j) = A 35 p ∨ A 38 (6 * p + j) = A 34 p := by
  intro i
  induction i with
  | zero => exact ⟨Nat.le_refl _, fun z => absurd rfl z, fun j h1 h2 => by unfold nt at h1; omega⟩
  | succ i ih =>
    unfold nt
    by_cases h1 : A 38 (6 * p + (i + 1)) = A 35 p
    · rw [if_pos h1]
      refine ⟨by omega, ih.2.1, fun j a b => ?_⟩
      by_cases e : j = i + 1
      · subst e; exact Or.inl h1
      · exact ih.2.2 j a (by omega)
    · rw [if_neg h1]
      by_cases h2 : A 38 (6 * p + (i + 1)) = A 34 p
      · rw [if_pos h2]
        refine ⟨by omega, ih.2.1, fun j a b => ?_⟩
        by_cases e : j = i + 1
        · subst e; exact Or.inr h2
        · exact ih.2.2 j a (by omega)
      · rw [if_neg h2]
        exact ⟨Nat.le_refl _, fun _ => ⟨h1, h2⟩, fun j a b => by omega⟩
theorem nt_some {A : hI} {p i j : Nat} (hj : 1 ≤ j) (hi : j ≤ i) (h1 : A 38 (6 * p + j) ≠ A 35 p) (h2 : A 38 (6 * p + j) ≠ A 34 p) : nt A p i ≠ 0 := by
  intro z
  rcases (nt_rg A p i).2.2 j (by omega) hi with h | h
  · exact h1 h
  · exact h2 h
/-- what the names are: as for a bill -/
def NM (A : hI) (p : Nat) : Prop := p < 60 ∧ (1 ≤ A 39 p ∧ A 39 p ≤ 6) ∧ (∀ i : Nat, (i : Int) < A 39 p → 1 ≤ A 38 (6 * p + i) ∧ A 38 (6 * p + i) < 16) ∧ (0 ≤ A 35 p ∧ A 35 p < 16) ∧ (1 ≤ A 34 p ∧ A 34 p < 16)
def NB (A B : hI) (p : Nat) : Prop := B 457 p = A 39 p ∧ (∀ i : Nat, (i : Int) < A 39 p → B (458 + i) p = A 38 (6 * p + i)) ∧ B 454 p = A 35 p ∧ B 453 p = A 34 p
theorem RR.nm (R : RR K D A0 B0 A B) {p : Nat} (hp : p < 60) (h1 : A 32 p = 1) : NM A p ∧ NB A B p := by
  have hn := R.gH.hn2
  have P := R.gP
  have a1 := P.pd p hp (by omega)
  have a2 := P.ph p hp (by omega)
  refine ⟨⟨hp, P.pbn p hp h1, fun i hi => ?_, by omega, by omega⟩, P.pnc p hp (by omega), fun i hi => (P.pbi p i hp h1 hi).1, a2.1, a1.1⟩
  have := P.pbi p i hp h1 hi
  omega
theorem ex_nta (Bx : hI) {p : Nat} (N : NM A p) (hF : 1000 ≤ F) : f_Papers_nameThatAnswers F (iI p) (mk A Bx) = some (iI (if nt A p (A 39 p - 1).toNat = 0 then -1 else (nt A p (A 39 p - 1).toNat : Int)), mk A Bx) := by
  obtain ⟨hp, hc, hnm, hh, hd⟩ := N
  have key : ∀ (i q : Nat), (i : Int) < A 39 p → i < q → f_Papers_nameThatAnswers_9 F q (iI p) (iI i) (mk A Bx) = some (iI (if nt A p i = 0 then -1 else (nt A p i : Int)), mk A Bx) := by
    intro i
    induction i with
    | zero =>
      intro q _ hq
      obtain ⟨q, rfl⟩ : ∃ s, q = s + 1 := ⟨q - 1, by omega⟩
      rw [f_Papers_nameThatAnswers_9]
      rw [show (if nt A p 0 = 0 then (-1 : Int) else (nt A p 0 : Int)) = -1 from if_pos rfl]
      simp (disch := first | omega | (simp (disch := omega) only [uA_n]; done) | fail) only [iI_lit, iI_add, iI_sub, iI_mul, iI_neg, iI_lt, iI_le, iI_eq, zlt_t, zlt_f, zle_t, zle_f, zeq_t, zeq_f, nle_t, nle_f, iI_cl, rA, rS, rB, wA, wS, wB, mkp, mk2, uA_s, uA_n, ud_s, ud_n, bI_0, bI_1, nor_s, ↓reduceIte, or_false, false_or, or_true, true_or, or_self, not_true_eq_false, not_false_eq_true, and_true, true_and, and_false, false_and, bI_T, bI_F, Int.reduceToNat, Nat.reduceAdd, Nat.reduceMul, Int.reduceNeg, Option.bind_some, Int.toNat_natCast]
    | succ i ih =>
      intro q hi hq
      obtain ⟨q, rfl⟩ : ∃ s, q = s + 1 := ⟨q - 1, by omega⟩
      have nm := hnm (i + 1) hi
      have nx := ih q (by omega) (by omega)
      have c1 : ((p : Int) * 6 + ((i + 1 : Nat) : Int)).toNat = 6 * p + (i + 1) := by omega
      have c2 : ((i + 1 : Nat) : Int) + -1 = (i : Int) := by omega
      rw [f_Papers_nameThatAnswers_9]
      simp only [f_Papers_nameThatAnswers_47]
      unfold nt
      by_cases h1 : A 38 (6 * p + (i + 1)) = A 35 p
      · rw [if_pos h1]
        simp (disch := first | omega | (simp (disch := omega) only [uA_n]; done) | fail) only [iI_lit, iI_add, iI_sub, iI_mul, iI_neg, iI_lt, iI_le, iI_eq, zlt_t, zlt_f, zle_t, zle_f, zeq_t, zeq_f, nle_t, nle_f, iI_cl, rA, rS, rB, wA, wS, wB, mkp, mk2, uA_s, uA_n, ud_s, ud_n, bI_0, bI_1, nor_s, ↓reduceIte, or_false, false_or, or_true, true_or, or_self, not_true_eq_false, not_false_eq_true, and_true, true_and, and_false, false_and, bI_T, bI_F, Int.reduceToNat, Nat.reduceAdd, Nat.reduceMul, Int.reduceNeg, Option.bind_some, Int.toNat_natCast, c1, c2, h1, nx]
      · rw [if_neg h1]
        by_cases h2 : A 38 (6 * p + (i + 1)) = A 34 p
        · rw [if_pos h2]
          simp (disch := first | omega | (simp (disch := omega) only [uA_n]; done) | fail) only [iI_lit, iI_add, iI_sub, iI_mul, iI_neg, iI_lt, iI_le, iI_eq, zlt_t, zlt_f, zle_t, zle_f, zeq_t, zeq_f, nle_t, nle_f, iI_cl, rA, rS, rB, wA, wS, wB, mkp, mk2, uA_s, uA_n, ud_s, ud_n, bI_0, bI_1, nor_s, ↓reduceIte, or_false, false_or, or_true, true_or, or_self, not_true_eq_false, not_false_eq_true, and_true, true_and, and_false, false_and, bI_T, bI_F, Int.reduceToNat, Nat.reduceAdd, Nat.reduceMul, Int.reduceNeg, Option.bind_some, Int.toNat_natCast, c1, c2, h2, nx]
        · rw [if_neg h2, if_neg (show ¬ (i + 1 = 0) by omega)]
          simp (disch := first | omega | (simp (disch := omega) only [uA_n]; done) | fail) only [iI_lit, iI_add, iI_sub, iI_mul, iI_neg, iI_lt, iI_le, iI_eq, zlt_t, zlt_f, zle_t, zle_f, zeq_t, zeq_f, nle_t, nle_f, iI_cl, rA, rS, rB, wA, wS, wB, mkp, mk2, uA_s, uA_n, ud_s, ud_n, bI_0, bI_1, nor_s, ↓reduceIte, or_false, false_or, or_true, true_or, or_self, not_true_eq_false, not_false_eq_true, and_true, true_and, and_false, false_and, bI_T, bI_F, Int.reduceToNat, Nat.reduceAdd, Nat.reduceMul, Int.reduceNeg, Option.bind_some, Int.toNat_natCast, c1, c2]
  have x := key (A 39 p - 1).toNat F (by omega) (by omega)
  have e : (((A 39 p - 1).toNat : Nat) : Int) = A 39 p - 1 := by omega
  rw [e] at x
  unfold f_Papers_nameThatAnswers
  simp (disch := first | omega | (simp (disch := omega) only [uA_n]; done) | fail) only [iI_lit, iI_add, iI_sub, iI_mul, iI_neg, iI_lt, iI_le, iI_eq, zlt_t, zlt_f, zle_t, zle_f, zeq_t, zeq_f, nle_t, nle_f, iI_cl, rA, rS, rB, wA, wS, wB, mkp, mk2, uA_s, uA_n, ud_s, ud_n, bI_0, bI_1, nor_s, ↓reduceIte, or_false, false_or, or_true, true_or, or_self, not_true_eq_false, not_false_eq_true, and_true, true_and, and_false, false_and, bI_T, bI_F, Int.reduceToNat, Nat.reduceAdd, Nat.reduceMul, Int.reduceNeg, Option.bind_some, Int.toNat_natCast, x]
theorem em_nta (Ax : hI) {p : Nat} (N : NM A p) (M : NB A B p) (hF : 1000 ≤ F) : f_m_nextName F (iI p) (mk Ax B) = some (iI (nt A p (A 39 p - 1).toNat : Int), mk Ax B) := by
  obtain ⟨hp, hc, hnm, hh, hd⟩ := N
  obtain ⟨m1, m2, m3, m4⟩ := M
  have key : ∀ (i q : Nat), (i : Int) < A 39 p → i < q → f_m_nextName_10 F q (iI p) (iI i) (mk Ax B) = some (iI (nt A p i : Int), mk Ax B) := by
    intro i
    induction i with
    | zero =>
      intro q _ hq
      obtain ⟨q, rfl⟩ : ∃ s, q = s + 1 := ⟨q - 1, by omega⟩
      rw [f_m_nextName_10]
      simp only [f_m_nextName_56]
      unfold nt
      simp (disch := first | omega | (simp (disch := omega) only [uA_n]; done) | fail) only [iI_lit, iI_add, iI_sub, iI_mul, iI_neg, iI_lt, iI_le, iI_eq, zlt_t, zlt_f, zle_t, zle_f, zeq_t, zeq_f, nle_t, nle_f, iI_cl, rA, rS, rB, wA, wS, wB, mkp, mk2, uA_s, uA_n, ud_s, ud_n, bI_0, bI_1, nor_s, ↓reduceIte, or_false, false_or, or_true, true_or, or_self, not_true_eq_false, not_false_eq_true, and_true, true_and, and_false, false_and, bI_T, bI_F, Int.reduceToNat, Nat.reduceAdd, Nat.reduceMul, Int.reduceNeg, Option.bind_some, Int.toNat_natCast]
    | succ i ih =>
      intro q hi hq
      obtain ⟨q, rfl⟩ : ∃ s, q = s + 1 := ⟨q - 1, by omega⟩
      have nm := hnm (i + 1) hi
      have mm := m2 (i + 1) hi
      have nx := ih q (by omega) (by omega)
      have c1 : (8 + ((i + 1 : Nat) : Int)).toNat = 8 + (i + 1) := by omega
      have c2 : ((i + 1 : Nat) : Int) + -1 = (i : Int) := by omega
      have mm' : B (450 + (8 + (i + 1))) p = A 38 (6 * p + (i + 1)) := by rw [← mm]; congr 1; omega
      have ep := em_paper F (p : Int) (8 + ((i + 1 : Nat) : Int)) Ax B (by omega) (by omega) (by omega) (by omega)
      rw [c1, Int.toNat_natCast, mm'] at ep
      have e3 := em_paper F (p : Int) 3 Ax B (by omega) (by omega) (by omega) (by omega)
      have e4 := em_paper F (p : Int) 4 Ax B (by omega) (by omega) (by omega) (by omega)
      rw [Int.toNat_natCast] at e3 e4
      have e3 : f_m_paper F (iI p) (iI 3) (mk Ax B) = some (iI (A 34 p), mk Ax B) := by rw [e3]; show some (iI (B 453 p), _) = _; rw [m4]
      have e4 : f_m_paper F (iI p) (iI 4) (mk Ax B) = some (iI (A 35 p), mk Ax B) := by rw [e4]; show some (iI (B 454 p), _) = _; rw [m3]
      have e8 : (8 : Int32) + iI ((i + 1 : Nat) : Int) = iI (8 + ((i + 1 : Nat) : Int)) := by rw [show (8 : Int32) = iI 8 from rfl, iI_add]
      rw [f_m_nextName_10]
      simp only [f_m_nextName_50, f_m_nextName_56]
      unfold nt
      by_cases h1 : A 38 (6 * p + (i + 1)) = A 35 p
      · rw [if_pos h1]
        simp (disch := first | omega | (simp (disch := omega) only [uA_n]; done) | fail) only [iI_lit, iI_add, iI_sub, iI_mul, iI_neg, iI_lt, iI_le, iI_eq, zlt_t, zlt_f, zle_t, zle_f, zeq_t, zeq_f, nle_t, nle_f, iI_cl, rA, rS, rB, wA, wS, wB, mkp, mk2, uA_s, uA_n, ud_s, ud_n, bI_0, bI_1, nor_s, ↓reduceIte, or_false, false_or, or_true, true_or, or_self, not_true_eq_false, not_false_eq_true, and_true, true_and, and_false, false_and, bI_T, bI_F, Int.reduceToNat, Nat.reduceAdd, Nat.reduceMul, Int.reduceNeg, Option.bind_some, Int.toNat_natCast, ep, e3, e4, h1, c2, nx]
      · rw [if_neg h1]
        by_cases h2 : A 38 (6 * p + (i + 1)) = A 34 p
        · rw [if_pos h2]
          simp (disch := first | omega | (simp (disch := omega) only [uA_n]; done) | fail) only [iI_lit, iI_add, iI_sub, iI_mul, iI_neg, iI_lt, iI_le, iI_eq, zlt_t, zlt_f, zle_t, zle_f, zeq_t, zeq_f, nle_t, nle_f, iI_cl, rA, rS, rB, wA, wS, wB, mkp, mk2, uA_s, uA_n, ud_s, ud_n, bI_0, bI_1, nor_s, ↓reduceIte, or_false, false_or, or_true, true_or, or_self, not_true_eq_false, not_false_eq_true, and_true, true_and, and_false, false_and, bI_T, bI_F, Int.reduceToNat, Nat.reduceAdd, Nat.reduceMul, Int.reduceNeg, Option.bind_some, Int.toNat_natCast, ep, e3, e4, h2, c2, nx]
        · rw [if_neg h2]
          simp (disch := first | omega | (simp (disch := omega) only [uA_n]; done) | fail) only [iI_lit, iI_add, iI_sub, iI_mul, iI_neg, iI_lt, iI_le, iI_eq, zlt_t, zlt_f, zle_t, zle_f, zeq_t, zeq_f, nle_t, nle_f, iI_cl, rA, rS, rB, wA, wS, wB, mkp, mk2, uA_s, uA_n, ud_s, ud_n, bI_0, bI_1, nor_s, ↓reduceIte, or_false, false_or, or_true, true_or, or_self, not_true_eq_false, not_false_eq_true, and_true, true_and, and_false, false_and, bI_T, bI_F, Int.reduceToNat, Nat.reduceAdd, Nat.reduceMul, Int.reduceNeg, Option.bind_some, Int.toNat_natCast, ep, e3, e4]
  have x := key (A 39 p - 1).toNat F (by omega) (by omega)
  have e : (((A 39 p - 1).toNat : Nat) : Int) = A 39 p - 1 := by omega
  rw [e] at x
  unfold f_m_nextName
  simp (disch := first | omega | (simp (disch := omega) only [uA_n]; done) | fail) only [iI_lit, iI_add, iI_sub, iI_mul, iI_neg, iI_lt, iI_le, iI_eq, zlt_t, zlt_f, zle_t, zle_f, zeq_t, zeq_f, nle_t, nle_f, iI_cl, rA, rS, rB, wA, wS, wB, mkp, mk2, uA_s, uA_n, ud_s, ud_n, bI_0, bI_1, nor_s, ↓reduceIte, or_false, false_or, or_true, true_or, or_self, not_true_eq_false, not_false_eq_true, and_true, true_and, and_false, false_and, bI_T, bI_F, Int.reduceToNat, Nat.reduceAdd, Nat.reduceMul, Int.reduceNeg, Option.bind_some, Int.toNat_natCast, em_paper, m1, x]
end NAME
