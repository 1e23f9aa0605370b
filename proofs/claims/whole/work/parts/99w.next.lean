/-! WHICH BILL A HOUSE SELLS NEXT -/
abbrev cS (A : hI) (fl : Nat → Int) (h : Int) (q : Nat) : Prop := A 32 q = 1 ∧ A 35 q = h ∧ A 37 q = 0 ∧ A 16 9 < A 36 q ∧ A 40 q = 0 ∧ A 39 q < 6 ∧ fl q = 0
def nS (A : hI) (fl : Nat → Int) (h : Int) : Nat → Nat → Int → Int
  | 0, _, b => b
  | f + 1, i, b => nS A fl h f (i + 1) (if cS A fl h i ∧ (b = -1 ∨ A 36 i < A 36 b.toNat) then (i : Int) else b)
theorem nS_no {A : hI} {fl : Nat → Int} {h : Int} : ∀ (f i : Nat) (b : Int), (∀ j, i ≤ j → j < i + f → ¬ cS A fl h j) → nS A fl h f i b = b := by
  intro f
  induction f with
  | zero => intro i b _; rfl
  | succ f ih =>
    intro i b hn
    unfold nS
    rw [if_neg (fun z => hn i (Nat.le_refl _) (by omega) z.1)]
    exact ih (i + 1) b (fun j h1 h2 => hn j (by omega) (by omega))
theorem nS_c {A : hI} {f1 f2 : Nat → Int} {h : Int} : ∀ (f i : Nat) (b : Int), (∀ j, i ≤ j → j < i + f → (cS A f1 h j ↔ cS A f2 h j)) → nS A f1 h f i b = nS A f2 h f i b := by
  intro f
  induction f with
  | zero => intro i b _; rfl
  | succ f ih =>
    intro i b hn
    unfold nS
    have e := hn i (Nat.le_refl _) (by omega)
    rw [ih (i + 1) _ (fun j h1 h2 => hn j (by omega) (by omega))]
    by_cases hc : cS A f1 h i ∧ (b = -1 ∨ A 36 i < A 36 b.toNat)
    · rw [if_pos hc, if_pos ⟨e.1 hc.1, hc.2⟩]
    · rw [if_neg hc, if_neg (fun z => hc ⟨e.2 z.1, z.2⟩)]
theorem nS_rg {A : hI} {fl : Nat → Int} {h : Int} : ∀ (f i : Nat) (b : Int), (nS A fl h f i b = b ∧ (b = -1 → ∀ j, i ≤ j → j < i + f → ¬ cS A fl h j)) ∨ ((i : Int) ≤ nS A fl h f i b ∧ nS A fl h f i b < i + f ∧ cS A fl h (nS A fl h f i b).toNat) := by
  intro f
  induction f with
  | zero => intro i b; exact Or.inl ⟨rfl, fun _ j h1 h2 => by omega⟩
  | succ f ih =>
    intro i b
    unfold nS
    by_cases hc : cS A fl h i ∧ (b = -1 ∨ A 36 i < A 36 b.toNat)
    · rw [if_pos hc]
      rcases ih (i + 1) (i : Int) with ⟨e, -⟩ | ⟨e1, e2, e3⟩
      · refine Or.inr ?_
        rw [e]
        exact ⟨Int.le_refl _, by omega, by rw [Int.toNat_natCast]; exact hc.1⟩
      · exact Or.inr ⟨by omega, by omega, e3⟩
    · rw [if_neg hc]
      rcases ih (i + 1) b with ⟨e, e2⟩ | ⟨e1, e2, e3⟩
      · refine Or.inl ⟨e, fun z j h1 h2 => ?_⟩
        by_cases hj : j = i
        · subst hj; exact fun w => hc ⟨w, Or.inl z⟩
        · exact e2 z j (by omega) (by omega)
      · exact Or.inr ⟨by omega, by omega, e3⟩
theorem nS_y {A : hI} {fl : Nat → Int} {h : Int} {f i : Nat} {b : Int} (z : cS A fl h i ∧ (b = -1 ∨ A 36 i < A 36 b.toNat)) : nS A fl h (f + 1) i b = nS A fl h f (i + 1) (i : Int) := by
  rw [nS, if_pos z]
theorem nS_z {A : hI} {fl : Nat → Int} {h : Int} {f i : Nat} {b : Int} (z : ¬ (cS A fl h i ∧ (b = -1 ∨ A 36 i < A 36 b.toNat))) : nS A fl h (f + 1) i b = nS A fl h f (i + 1) b := by
  rw [nS, if_neg z]
section NEXT
variable {K D : Int} {A0 B0 A B A' B' : hI} (F : Nat)
theorem RR.nocS (R : RR K D A0 B0 A B) {fl : Nat → Int} {h : Int} {q : Nat} (hq : q < 60) (he : A 31 15 ≤ q) : ¬ cS A fl h q := fun z => by
  have := R.gP.pe3 q hq he
  have := z.1
  omega
theorem ex_maySell (R : RR K D A0 B0 A B) (Bx : hI) {q : Nat} (hq : q < 60) : f_Papers_maySell F (iI q) (iI (A 16 9)) (mk A Bx) = some (iI (bI (A 32 q = 1 ∧ A 37 q = 0 ∧ A 16 9 < A 36 q ∧ A 40 q = 0 ∧ A 39 q < 6)), mk A Bx) := by
  have hd1 := R.gD.dd1
  have hd2 := R.gD.dd2
  have kr := R.kr hq
  simp only [f_Papers_maySell, f_Papers_maySell_53, f_Papers_maySell_54]
  by_cases h1 : A 32 q = 1
  · have pdu := R.gP.pdu q hq (by omega)
    have pip := R.gP.pip q hq (by omega)
    have pbn := R.gP.pbn q hq h1
    by_cases h2 : A 37 q = 0
    · by_cases h3 : A 16 9 < A 36 q
      · by_cases h4 : A 40 q = 0
        · by_cases h5 : A 39 q < 6
          · rw [bI_t ⟨h1, h2, h3, h4, h5⟩]
            simp (disch := first | omega | (simp (disch := omega) only [uA_n]; done) | fail) only [iI_lit, iI_add, iI_sub, iI_mul, iI_neg, iI_lt, iI_le, iI_eq, zlt_t, zlt_f, zle_t, zle_f, zeq_t, zeq_f, nle_t, nle_f, iI_cl, rA, rS, rB, wA, wS, wB, mkp, mk2, uA_s, uA_n, ud_s, ud_n, bI_0, bI_1, nor_s, ↓reduceIte, or_false, false_or, or_true, true_or, or_self, not_true_eq_false, not_false_eq_true, and_true, true_and, and_false, false_and, bI_T, bI_F, Int.reduceToNat, Nat.reduceAdd, Nat.reduceMul, Int.reduceNeg, Option.bind_some, Int.toNat_natCast, h1, h2, h4]
          · rw [bI_f (fun z => h5 z.2.2.2.2)]
            simp (disch := first | omega | (simp (disch := omega) only [uA_n]; done) | fail) only [iI_lit, iI_add, iI_sub, iI_mul, iI_neg, iI_lt, iI_le, iI_eq, zlt_t, zlt_f, zle_t, zle_f, zeq_t, zeq_f, nle_t, nle_f, iI_cl, rA, rS, rB, wA, wS, wB, mkp, mk2, uA_s, uA_n, ud_s, ud_n, bI_0, bI_1, nor_s, ↓reduceIte, or_false, false_or, or_true, true_or, or_self, not_true_eq_false, not_false_eq_true, and_true, true_and, and_false, false_and, bI_T, bI_F, Int.reduceToNat, Nat.reduceAdd, Nat.reduceMul, Int.reduceNeg, Option.bind_some, Int.toNat_natCast, h1, h2, h4]
        · rw [bI_f (fun z => h4 z.2.2.2.1)]
          simp (disch := first | omega | (simp (disch := omega) only [uA_n]; done) | fail) only [iI_lit, iI_add, iI_sub, iI_mul, iI_neg, iI_lt, iI_le, iI_eq, zlt_t, zlt_f, zle_t, zle_f, zeq_t, zeq_f, nle_t, nle_f, iI_cl, rA, rS, rB, wA, wS, wB, mkp, mk2, uA_s, uA_n, ud_s, ud_n, bI_0, bI_1, nor_s, ↓reduceIte, or_false, false_or, or_true, true_or, or_self, not_true_eq_false, not_false_eq_true, and_true, true_and, and_false, false_and, bI_T, bI_F, Int.reduceToNat, Nat.reduceAdd, Nat.reduceMul, Int.reduceNeg, Option.bind_some, Int.toNat_natCast, h1, h2]
      · rw [bI_f (fun z => h3 z.2.2.1)]
        simp (disch := first | omega | (simp (disch := omega) only [uA_n]; done) | fail) only [iI_lit, iI_add, iI_sub, iI_mul, iI_neg, iI_lt, iI_le, iI_eq, zlt_t, zlt_f, zle_t, zle_f, zeq_t, zeq_f, nle_t, nle_f, iI_cl, rA, rS, rB, wA, wS, wB, mkp, mk2, uA_s, uA_n, ud_s, ud_n, bI_0, bI_1, nor_s, ↓reduceIte, or_false, false_or, or_true, true_or, or_self, not_true_eq_false, not_false_eq_true, and_true, true_and, and_false, false_and, bI_T, bI_F, Int.reduceToNat, Nat.reduceAdd, Nat.reduceMul, Int.reduceNeg, Option.bind_some, Int.toNat_natCast, h1, h2]
    · rw [bI_f (fun z => h2 z.2.1)]
      simp (disch := first | omega | (simp (disch := omega) only [uA_n]; done) | fail) only [iI_lit, iI_add, iI_sub, iI_mul, iI_neg, iI_lt, iI_le, iI_eq, zlt_t, zlt_f, zle_t, zle_f, zeq_t, zeq_f, nle_t, nle_f, iI_cl, rA, rS, rB, wA, wS, wB, mkp, mk2, uA_s, uA_n, ud_s, ud_n, bI_0, bI_1, nor_s, ↓reduceIte, or_false, false_or, or_true, true_or, or_self, not_true_eq_false, not_false_eq_true, and_true, true_and, and_false, false_and, bI_T, bI_F, Int.reduceToNat, Nat.reduceAdd, Nat.reduceMul, Int.reduceNeg, Option.bind_some, Int.toNat_natCast, h1]
  · rw [bI_f (fun z => h1 z.1)]
    simp (disch := first | omega | (simp (disch := omega) only [uA_n]; done) | fail) only [iI_lit, iI_add, iI_sub, iI_mul, iI_neg, iI_lt, iI_le, iI_eq, zlt_t, zlt_f, zle_t, zle_f, zeq_t, zeq_f, nle_t, nle_f, iI_cl, rA, rS, rB, wA, wS, wB, mkp, mk2, uA_s, uA_n, ud_s, ud_n, bI_0, bI_1, nor_s, ↓reduceIte, or_false, false_or, or_true, true_or, or_self, not_true_eq_false, not_false_eq_true, and_true, true_and, and_false, false_and, bI_T, bI_F, Int.reduceToNat, Nat.reduceAdd, Nat.reduceMul, Int.reduceNeg, Option.bind_some, Int.toNat_natCast]
theorem em_maySell (R : RR K D A0 B0 A B) (Ax : hI) {q : Nat} (hq : q < 60) (h1 : A 32 q = 1) : f_m_maySell F (iI q) (mk Ax B) = some (iI (bI (A 32 q = 1 ∧ A 37 q = 0 ∧ A 16 9 < A 36 q ∧ A 40 q = 0 ∧ A 39 q < 6)), mk Ax B) := by
  have hd1 := R.gD.dd1
  have hd2 := R.gD.dd2
  have hd3 := R.gD.dd3
  have pdu := R.gP.pdu q hq (by omega)
  have pip := R.gP.pip q hq (by omega)
  have pst := R.gP.pst q hq (by omega)
  have pbn := R.gP.pbn q hq h1
  have pnc := R.gP.pnc q hq (by omega)
  simp only [f_m_maySell, f_m_maySell_50, f_m_maySell_51]
  by_cases h2 : A 37 q = 0
  · have s6 := pst.1
    rw [h2] at s6
    by_cases h3 : A 16 9 < A 36 q
    · by_cases h4 : A 40 q = 0
      · have s14 := pip.1
        rw [h4] at s14
        by_cases h5 : A 39 q < 6
        · rw [bI_t ⟨h1, h2, h3, h4, h5⟩]
          simp (disch := first | omega | (simp (disch := omega) only [uA_n]; done) | fail) only [iI_lit, iI_add, iI_sub, iI_mul, iI_neg, iI_lt, iI_le, iI_eq, zlt_t, zlt_f, zle_t, zle_f, zeq_t, zeq_f, nle_t, nle_f, iI_cl, rA, rS, rB, wA, wS, wB, mkp, mk2, uA_s, uA_n, ud_s, ud_n, bI_0, bI_1, nor_s, ↓reduceIte, or_false, false_or, or_true, true_or, or_self, not_true_eq_false, not_false_eq_true, and_true, true_and, and_false, false_and, bI_T, bI_F, Int.reduceToNat, Nat.reduceAdd, Nat.reduceMul, Int.reduceNeg, Option.bind_some, Int.toNat_natCast, em_paper, s6, pdu.1, dS, hd3, s14, pnc]
        · rw [bI_f (fun z => h5 z.2.2.2.2)]
          simp (disch := first | omega | (simp (disch := omega) only [uA_n]; done) | fail) only [iI_lit, iI_add, iI_sub, iI_mul, iI_neg, iI_lt, iI_le, iI_eq, zlt_t, zlt_f, zle_t, zle_f, zeq_t, zeq_f, nle_t, nle_f, iI_cl, rA, rS, rB, wA, wS, wB, mkp, mk2, uA_s, uA_n, ud_s, ud_n, bI_0, bI_1, nor_s, ↓reduceIte, or_false, false_or, or_true, true_or, or_self, not_true_eq_false, not_false_eq_true, and_true, true_and, and_false, false_and, bI_T, bI_F, Int.reduceToNat, Nat.reduceAdd, Nat.reduceMul, Int.reduceNeg, Option.bind_some, Int.toNat_natCast, em_paper, s6, pdu.1, dS, hd3, s14, pnc]
      · rw [bI_f (fun z => h4 z.2.2.2.1)]
        simp (disch := first | omega | (simp (disch := omega) only [uA_n]; done) | fail) only [iI_lit, iI_add, iI_sub, iI_mul, iI_neg, iI_lt, iI_le, iI_eq, zlt_t, zlt_f, zle_t, zle_f, zeq_t, zeq_f, nle_t, nle_f, iI_cl, rA, rS, rB, wA, wS, wB, mkp, mk2, uA_s, uA_n, ud_s, ud_n, bI_0, bI_1, nor_s, ↓reduceIte, or_false, false_or, or_true, true_or, or_self, not_true_eq_false, not_false_eq_true, and_true, true_and, and_false, false_and, bI_T, bI_F, Int.reduceToNat, Nat.reduceAdd, Nat.reduceMul, Int.reduceNeg, Option.bind_some, Int.toNat_natCast, em_paper, s6, pdu.1, dS, hd3, pip.1]
    · rw [bI_f (fun z => h3 z.2.2.1)]
      simp (disch := first | omega | (simp (disch := omega) only [uA_n]; done) | fail) only [iI_lit, iI_add, iI_sub, iI_mul, iI_neg, iI_lt, iI_le, iI_eq, zlt_t, zlt_f, zle_t, zle_f, zeq_t, zeq_f, nle_t, nle_f, iI_cl, rA, rS, rB, wA, wS, wB, mkp, mk2, uA_s, uA_n, ud_s, ud_n, bI_0, bI_1, nor_s, ↓reduceIte, or_false, false_or, or_true, true_or, or_self, not_true_eq_false, not_false_eq_true, and_true, true_and, and_false, false_and, bI_T, bI_F, Int.reduceToNat, Nat.reduceAdd, Nat.reduceMul, Int.reduceNeg, Option.bind_some, Int.toNat_natCast, em_paper, s6, pdu.1, dS, hd3]
  · rw [bI_f (fun z => h2 z.2.1)]
    simp (disch := first | omega | (simp (disch := omega) only [uA_n]; done) | fail) only [iI_lit, iI_add, iI_sub, iI_mul, iI_neg, iI_lt, iI_le, iI_eq, zlt_t, zlt_f, zle_t, zle_f, zeq_t, zeq_f, nle_t, nle_f, iI_cl, rA, rS, rB, wA, wS, wB, mkp, mk2, uA_s, uA_n, ud_s, ud_n, bI_0, bI_1, nor_s, ↓reduceIte, or_false, false_or, or_true, true_or, or_self, not_true_eq_false, not_false_eq_true, and_true, true_and, and_false, false_and, bI_T, bI_F, Int.reduceToNat, Nat.reduceAdd, Nat.reduceMul, Int.reduceNeg, Option.bind_some, Int.toNat_natCast, em_paper, pst.1]
theorem ex_next (R : RR K D A0 B0 A B) (Bx : hI) {h : Int} (hh : 0 ≤ h ∧ h < 16) (h45 : ∀ q : Nat, (q : Int) < A 31 15 → 0 ≤ A 45 q ∧ A 45 q ≤ 1) : ∀ (f i q : Nat) (b : Int), f + i = 60 → (i : Int) ≤ A 31 15 → f < q → (b = -1 ∨ (0 ≤ b ∧ b < i ∧ A 32 b.toNat ≠ -1)) → f_Papers_nextToSell_5 F q (iI h) (iI (A 16 9)) (iI b) (iI i) (mk A Bx) = some (iI (nS A (A 45) h f i b), mk A Bx) := by
  have hpe := R.gP.pe2
  intro f
  induction f with
  | zero =>
    intro i q b hi he hq hb
    obtain ⟨q, rfl⟩ : ∃ s, q = s + 1 := ⟨q - 1, by omega⟩
    have e : A 31 15 = (i : Int) := by omega
    rw [f_Papers_nextToSell_5]
    unfold nS
    simp (disch := first | omega | (simp (disch := omega) only [uA_n]; done) | fail) only [iI_lit, iI_add, iI_sub, iI_mul, iI_neg, iI_lt, iI_le, iI_eq, zlt_t, zlt_f, zle_t, zle_f, zeq_t, zeq_f, nle_t, nle_f, iI_cl, rA, rS, rB, wA, wS, wB, mkp, mk2, uA_s, uA_n, ud_s, ud_n, bI_0, bI_1, nor_s, ↓reduceIte, or_false, false_or, or_true, true_or, or_self, not_true_eq_false, not_false_eq_true, and_true, true_and, and_false, false_and, bI_T, bI_F, Int.reduceToNat, Nat.reduceAdd, Nat.reduceMul, Int.reduceNeg, Option.bind_some, Int.toNat_natCast, e]
  | succ f ih =>
    intro i q b hi he hq hb
    obtain ⟨q, rfl⟩ : ∃ s, q = s + 1 := ⟨q - 1, by omega⟩
    by_cases he2 : A 31 15 = (i : Int)
    · rw [nS_no (f + 1) i b (fun j h1 h2 => R.nocS (by omega) (by omega)), f_Papers_nextToSell_5]
      simp (disch := first | omega | (simp (disch := omega) only [uA_n]; done) | fail) only [iI_lit, iI_add, iI_sub, iI_mul, iI_neg, iI_lt, iI_le, iI_eq, zlt_t, zlt_f, zle_t, zle_f, zeq_t, zeq_f, nle_t, nle_f, iI_cl, rA, rS, rB, wA, wS, wB, mkp, mk2, uA_s, uA_n, ud_s, ud_n, bI_0, bI_1, nor_s, ↓reduceIte, or_false, false_or, or_true, true_or, or_self, not_true_eq_false, not_false_eq_true, and_true, true_and, and_false, false_and, bI_T, bI_F, Int.reduceToNat, Nat.reduceAdd, Nat.reduceMul, Int.reduceNeg, Option.bind_some, Int.toNat_natCast, he2]
    · have kr := R.kr (p := i) (by omega)
      have a45 := h45 i (by omega)
      have ms := ex_maySell F R Bx (q := i) (by omega)
      have nx := fun b' (z : b' = -1 ∨ (0 ≤ b' ∧ b' < ((i + 1 : Nat) : Int) ∧ A 32 b'.toNat ≠ -1)) => ih (i + 1) q b' (by omega) (by omega) (by omega) z
      have hb' : b = -1 ∨ (0 ≤ b ∧ b < ((i + 1 : Nat) : Int) ∧ A 32 b.toNat ≠ -1) := by omega
      rw [f_Papers_nextToSell_5]
      simp only [f_Papers_nextToSell_66, f_Papers_nextToSell_69]
      have e31 : ¬ (A 31 15 ≤ (i : Int)) := by omega
      have p35 : A 32 i = -1 ∨ (0 ≤ A 35 i ∧ A 35 i < 16) := by
        by_cases hf : A 32 i = -1
        · exact Or.inl hf
        · have := R.gP.ph i (by omega) hf; have := R.gH.hn2; exact Or.inr (by omega)
      by_cases hcS : cS A (A 45) h i
      · obtain ⟨c1, c2, c3, c4, c5, c6, c7⟩ := hcS
        rw [bI_t ⟨c1, c3, c4, c5, c6⟩] at ms
        have pdu := R.gP.pdu i (by omega) (by omega)
        by_cases hbn : b = -1
        · rw [nS_y ⟨⟨c1, c2, c3, c4, c5, c6, c7⟩, Or.inl hbn⟩]
          refine Eq.trans ?_ (nx (i : Int) (Or.inr ⟨by omega, by omega, by rw [Int.toNat_natCast]; omega⟩))
          subst hbn
          simp (disch := first | omega | (simp (disch := omega) only [uA_n]; done) | fail) only [iI_lit, iI_add, iI_sub, iI_mul, iI_neg, iI_lt, iI_le, iI_eq, zlt_t, zlt_f, zle_t, zle_f, zeq_t, zeq_f, nle_t, nle_f, iI_cl, rA, rS, rB, wA, wS, wB, mkp, mk2, uA_s, uA_n, ud_s, ud_n, bI_0, bI_1, nor_s, ↓reduceIte, or_false, false_or, or_true, true_or, or_self, not_true_eq_false, not_false_eq_true, and_true, true_and, and_false, false_and, bI_T, bI_F, Int.reduceToNat, Nat.reduceAdd, Nat.reduceMul, Int.reduceNeg, Option.bind_some, Int.toNat_natCast, c2, c7, ms]
          rfl
        · have hb2 := hb.resolve_left hbn
          have pdb := R.gP.pdu b.toNat (by omega) hb2.2.2
          by_cases hlt : A 36 i < A 36 b.toNat
          · rw [nS_y ⟨⟨c1, c2, c3, c4, c5, c6, c7⟩, Or.inr hlt⟩]
            refine Eq.trans ?_ (nx (i : Int) (Or.inr ⟨by omega, by omega, by rw [Int.toNat_natCast]; omega⟩))
            simp (disch := first | omega | (simp (disch := omega) only [uA_n]; done) | fail) only [iI_lit, iI_add, iI_sub, iI_mul, iI_neg, iI_lt, iI_le, iI_eq, zlt_t, zlt_f, zle_t, zle_f, zeq_t, zeq_f, nle_t, nle_f, iI_cl, rA, rS, rB, wA, wS, wB, mkp, mk2, uA_s, uA_n, ud_s, ud_n, bI_0, bI_1, nor_s, ↓reduceIte, or_false, false_or, or_true, true_or, or_self, not_true_eq_false, not_false_eq_true, and_true, true_and, and_false, false_and, bI_T, bI_F, Int.reduceToNat, Nat.reduceAdd, Nat.reduceMul, Int.reduceNeg, Option.bind_some, Int.toNat_natCast, c2, c7, ms]
            rfl
          · rw [nS_z (fun z => z.2.elim hbn hlt)]
            refine Eq.trans ?_ (nx b hb')
            simp (disch := first | omega | (simp (disch := omega) only [uA_n]; done) | fail) only [iI_lit, iI_add, iI_sub, iI_mul, iI_neg, iI_lt, iI_le, iI_eq, zlt_t, zlt_f, zle_t, zle_f, zeq_t, zeq_f, nle_t, nle_f, iI_cl, rA, rS, rB, wA, wS, wB, mkp, mk2, uA_s, uA_n, ud_s, ud_n, bI_0, bI_1, nor_s, ↓reduceIte, or_false, false_or, or_true, true_or, or_self, not_true_eq_false, not_false_eq_true, and_true, true_and, and_false, false_and, bI_T, bI_F, Int.reduceToNat, Nat.reduceAdd, Nat.reduceMul, Int.reduceNeg, Option.bind_some, Int.toNat_natCast, c2, c7, ms]
            rfl
      · rw [nS_z (fun z => hcS z.1)]
        refine Eq.trans ?_ (nx b hb')
        by_cases c2 : iI (A 35 i) = iI h
        · by_cases c7 : A 45 i = 0
          · have hms : ¬ (A 32 i = 1 ∧ A 37 i = 0 ∧ A 16 9 < A 36 i ∧ A 40 i = 0 ∧ A 39 i < 6) := fun z => by
              have c2' : A 35 i = h := by
                have := p35.resolve_left (by omega)
                rw [iI_eq (by omega) (by omega) (by omega) (by omega)] at c2
                exact c2
              exact hcS ⟨z.1, c2', z.2.1, z.2.2.1, z.2.2.2.1, z.2.2.2.2, c7⟩
            rw [bI_f hms] at ms
            simp (disch := first | omega | (simp (disch := omega) only [uA_n]; done) | fail) only [iI_lit, iI_add, iI_sub, iI_mul, iI_neg, iI_lt, iI_le, iI_eq, zlt_t, zlt_f, zle_t, zle_f, zeq_t, zeq_f, nle_t, nle_f, iI_cl, rA, rS, rB, wA, wS, wB, mkp, mk2, uA_s, uA_n, ud_s, ud_n, bI_0, bI_1, nor_s, ↓reduceIte, or_false, false_or, or_true, true_or, or_self, not_true_eq_false, not_false_eq_true, and_true, true_and, and_false, false_and, bI_T, bI_F, Int.reduceToNat, Nat.reduceAdd, Nat.reduceMul, Int.reduceNeg, Option.bind_some, Int.toNat_natCast, c2, c7, ms]
            rfl
          · simp (disch := first | omega | (simp (disch := omega) only [uA_n]; done) | fail) only [iI_lit, iI_add, iI_sub, iI_mul, iI_neg, iI_lt, iI_le, iI_eq, zlt_t, zlt_f, zle_t, zle_f, zeq_t, zeq_f, nle_t, nle_f, iI_cl, rA, rS, rB, wA, wS, wB, mkp, mk2, uA_s, uA_n, ud_s, ud_n, bI_0, bI_1, nor_s, ↓reduceIte, or_false, false_or, or_true, true_or, or_self, not_true_eq_false, not_false_eq_true, and_true, true_and, and_false, false_and, bI_T, bI_F, Int.reduceToNat, Nat.reduceAdd, Nat.reduceMul, Int.reduceNeg, Option.bind_some, Int.toNat_natCast, c2]
            rfl
        · refine Eq.trans (b := f_Papers_nextToSell_5 F q (iI h) (iI (A 16 9)) (iI b) (iI (i : Int) + 1) (mk A Bx)) ?_ (congrArg (fun z => f_Papers_nextToSell_5 F q (iI h) (iI (A 16 9)) (iI b) z (mk A Bx)) (iI_s i))
          refine (if_neg (by simp (disch := first | omega | (simp (disch := omega) only [uA_n]; done) | fail) only [iI_lit, iI_add, iI_sub, iI_mul, iI_neg, iI_lt, iI_le, iI_eq, zlt_t, zlt_f, zle_t, zle_f, zeq_t, zeq_f, nle_t, nle_f, iI_cl, rA, rS, rB, wA, wS, wB, mkp, mk2, uA_s, uA_n, ud_s, ud_n, bI_0, bI_1, nor_s, ↓reduceIte, or_false, false_or, or_true, true_or, or_self, not_true_eq_false, not_false_eq_true, and_true, true_and, and_false, false_and, bI_T, bI_F, Int.reduceToNat, Nat.reduceAdd, Nat.reduceMul, Int.reduceNeg, Option.bind_some, Int.toNat_natCast])).trans ((if_neg (by simp (disch := first | omega | (simp (disch := omega) only [uA_n]; done) | fail) only [iI_lit, iI_add, iI_sub, iI_mul, iI_neg, iI_lt, iI_le, iI_eq, zlt_t, zlt_f, zle_t, zle_f, zeq_t, zeq_f, nle_t, nle_f, iI_cl, rA, rS, rB, wA, wS, wB, mkp, mk2, uA_s, uA_n, ud_s, ud_n, bI_0, bI_1, nor_s, ↓reduceIte, or_false, false_or, or_true, true_or, or_self, not_true_eq_false, not_false_eq_true, and_true, true_and, and_false, false_and, bI_T, bI_F, Int.reduceToNat, Nat.reduceAdd, Nat.reduceMul, Int.reduceNeg, Option.bind_some, Int.toNat_natCast])).trans (if_neg (fun z => c2 ?_)))
          have e : (mk A Bx).1 35 (iI (i : Int)).toNatClampNeg = iI (A 35 i) := by simp (disch := first | omega | (simp (disch := omega) only [uA_n]; done) | fail) only [iI_lit, iI_add, iI_sub, iI_mul, iI_neg, iI_lt, iI_le, iI_eq, zlt_t, zlt_f, zle_t, zle_f, zeq_t, zeq_f, nle_t, nle_f, iI_cl, rA, rS, rB, wA, wS, wB, mkp, mk2, uA_s, uA_n, ud_s, ud_n, bI_0, bI_1, nor_s, ↓reduceIte, or_false, false_or, or_true, true_or, or_self, not_true_eq_false, not_false_eq_true, and_true, true_and, and_false, false_and, bI_T, bI_F, Int.reduceToNat, Nat.reduceAdd, Nat.reduceMul, Int.reduceNeg, Option.bind_some, Int.toNat_natCast]
          rw [← e]; exact z
theorem em_nextS (R : RR K D A0 B0 A B) (Ax : hI) {h : Int} (hh : 0 ≤ h ∧ h < 16) (h469 : ∀ q, q < 60 → 0 ≤ B 469 q ∧ B 469 q ≤ 1) : ∀ (f i q : Nat) (b : Int), f + i = 60 → f < q → (b = -1 ∨ (0 ≤ b ∧ b < i ∧ A 32 b.toNat ≠ -1)) → f_m_offered_4 F q (iI h) (iI b) (iI i) (mk Ax B) = some (iI (nS A (B 469) h f i b), mk Ax B) := by
  intro f
  induction f with
  | zero =>
    intro i q b hi hq hb
    obtain ⟨q, rfl⟩ : ∃ s, q = s + 1 := ⟨q - 1, by omega⟩
    obtain rfl : i = 60 := by omega
    rw [f_m_offered_4]
    unfold nS
    simp (disch := first | omega | (simp (disch := omega) only [uA_n]; done) | fail) only [iI_lit, iI_add, iI_sub, iI_mul, iI_neg, iI_lt, iI_le, iI_eq, zlt_t, zlt_f, zle_t, zle_f, zeq_t, zeq_f, nle_t, nle_f, iI_cl, rA, rS, rB, wA, wS, wB, mkp, mk2, uA_s, uA_n, ud_s, ud_n, bI_0, bI_1, nor_s, ↓reduceIte, or_false, false_or, or_true, true_or, or_self, not_true_eq_false, not_false_eq_true, and_true, true_and, and_false, false_and, bI_T, bI_F, Int.reduceToNat, Nat.reduceAdd, Nat.reduceMul, Int.reduceNeg, Option.bind_some, Int.toNat_natCast]
  | succ f ih =>
    intro i q b hi hq hb
    obtain ⟨q, rfl⟩ : ∃ s, q = s + 1 := ⟨q - 1, by omega⟩
    have hi60 : i < 60 := by omega
    have kr := R.kr hi60
    have a469 := h469 i hi60
    have nx := fun b' (z : b' = -1 ∨ (0 ≤ b' ∧ b' < ((i + 1 : Nat) : Int) ∧ A 32 b'.toNat ≠ -1)) => ih (i + 1) q b' (by omega) (by omega) z
    have hb' : b = -1 ∨ (0 ≤ b ∧ b < ((i + 1 : Nat) : Int) ∧ A 32 b.toNat ≠ -1) := by omega
    rw [f_m_offered_4]
    simp only [f_m_offered_81, f_m_offered_83]
    by_cases hf : A 32 i = -1
    · have b0 : B 450 i = 0 := by omega
      rw [nS_z (fun z => by have := z.1.1; omega)]
      refine Eq.trans ?_ (nx b hb')
      simp (disch := first | omega | (simp (disch := omega) only [uA_n]; done) | fail) only [iI_lit, iI_add, iI_sub, iI_mul, iI_neg, iI_lt, iI_le, iI_eq, zlt_t, zlt_f, zle_t, zle_f, zeq_t, zeq_f, nle_t, nle_f, iI_cl, rA, rS, rB, wA, wS, wB, mkp, mk2, uA_s, uA_n, ud_s, ud_n, bI_0, bI_1, nor_s, ↓reduceIte, or_false, false_or, or_true, true_or, or_self, not_true_eq_false, not_false_eq_true, and_true, true_and, and_false, false_and, bI_T, bI_F, Int.reduceToNat, Nat.reduceAdd, Nat.reduceMul, Int.reduceNeg, Option.bind_some, Int.toNat_natCast, em_paper, b0]
      rfl
    · have b0 : B 450 i = 1 := by omega
      have b1 := R.gP.pk i hi60 hf
      have b4 := R.gP.ph i hi60 hf
      have hn2 := R.gH.hn2
      by_cases h1 : A 32 i = 1
      · rw [h1] at b1
        by_cases c2 : A 35 i = h
        · have s4 := b4.1
          rw [c2] at s4
          have ms := em_maySell F R Ax hi60 h1
          by_cases hms : A 32 i = 1 ∧ A 37 i = 0 ∧ A 16 9 < A 36 i ∧ A 40 i = 0 ∧ A 39 i < 6
          · rw [bI_t hms] at ms
            by_cases c7 : B 469 i = 0
            · have pdu := R.gP.pdu i hi60 hf
              have hcS : cS A (B 469) h i := ⟨h1, c2, hms.2.1, hms.2.2.1, hms.2.2.2.1, hms.2.2.2.2, c7⟩
              by_cases hbn : b = -1
              · rw [nS_y ⟨hcS, Or.inl hbn⟩]
                refine Eq.trans ?_ (nx (i : Int) (Or.inr ⟨by omega, by omega, by rw [Int.toNat_natCast]; omega⟩))
                subst hbn
                simp (disch := first | omega | (simp (disch := omega) only [uA_n]; done) | fail) only [iI_lit, iI_add, iI_sub, iI_mul, iI_neg, iI_lt, iI_le, iI_eq, zlt_t, zlt_f, zle_t, zle_f, zeq_t, zeq_f, nle_t, nle_f, iI_cl, rA, rS, rB, wA, wS, wB, mkp, mk2, uA_s, uA_n, ud_s, ud_n, bI_0, bI_1, nor_s, ↓reduceIte, or_false, false_or, or_true, true_or, or_self, not_true_eq_false, not_false_eq_true, and_true, true_and, and_false, false_and, bI_T, bI_F, Int.reduceToNat, Nat.reduceAdd, Nat.reduceMul, Int.reduceNeg, Option.bind_some, Int.toNat_natCast, em_paper, b0, b1, s4, ms, c7]
                rfl
              · have hb2 := hb.resolve_left hbn
                have pdb := R.gP.pdu b.toNat (by omega) hb2.2.2
                by_cases hlt : A 36 i < A 36 b.toNat
                · rw [nS_y ⟨hcS, Or.inr hlt⟩]
                  refine Eq.trans ?_ (nx (i : Int) (Or.inr ⟨by omega, by omega, by rw [Int.toNat_natCast]; omega⟩))
                  simp (disch := first | omega | (simp (disch := omega) only [uA_n]; done) | fail) only [iI_lit, iI_add, iI_sub, iI_mul, iI_neg, iI_lt, iI_le, iI_eq, zlt_t, zlt_f, zle_t, zle_f, zeq_t, zeq_f, nle_t, nle_f, iI_cl, rA, rS, rB, wA, wS, wB, mkp, mk2, uA_s, uA_n, ud_s, ud_n, bI_0, bI_1, nor_s, ↓reduceIte, or_false, false_or, or_true, true_or, or_self, not_true_eq_false, not_false_eq_true, and_true, true_and, and_false, false_and, bI_T, bI_F, Int.reduceToNat, Nat.reduceAdd, Nat.reduceMul, Int.reduceNeg, Option.bind_some, Int.toNat_natCast, em_paper, b0, b1, s4, ms, c7, pdu.1, pdb.1]
                  rfl
                · rw [nS_z (fun z => z.2.elim hbn hlt)]
                  refine Eq.trans ?_ (nx b hb')
                  simp (disch := first | omega | (simp (disch := omega) only [uA_n]; done) | fail) only [iI_lit, iI_add, iI_sub, iI_mul, iI_neg, iI_lt, iI_le, iI_eq, zlt_t, zlt_f, zle_t, zle_f, zeq_t, zeq_f, nle_t, nle_f, iI_cl, rA, rS, rB, wA, wS, wB, mkp, mk2, uA_s, uA_n, ud_s, ud_n, bI_0, bI_1, nor_s, ↓reduceIte, or_false, false_or, or_true, true_or, or_self, not_true_eq_false, not_false_eq_true, and_true, true_and, and_false, false_and, bI_T, bI_F, Int.reduceToNat, Nat.reduceAdd, Nat.reduceMul, Int.reduceNeg, Option.bind_some, Int.toNat_natCast, em_paper, b0, b1, s4, ms, c7, pdu.1, pdb.1]
                  rfl
            · have c7' : B 469 i = 1 := by omega
              rw [nS_z (fun z => c7 z.1.2.2.2.2.2.2)]
              refine Eq.trans ?_ (nx b hb')
              simp (disch := first | omega | (simp (disch := omega) only [uA_n]; done) | fail) only [iI_lit, iI_add, iI_sub, iI_mul, iI_neg, iI_lt, iI_le, iI_eq, zlt_t, zlt_f, zle_t, zle_f, zeq_t, zeq_f, nle_t, nle_f, iI_cl, rA, rS, rB, wA, wS, wB, mkp, mk2, uA_s, uA_n, ud_s, ud_n, bI_0, bI_1, nor_s, ↓reduceIte, or_false, false_or, or_true, true_or, or_self, not_true_eq_false, not_false_eq_true, and_true, true_and, and_false, false_and, bI_T, bI_F, Int.reduceToNat, Nat.reduceAdd, Nat.reduceMul, Int.reduceNeg, Option.bind_some, Int.toNat_natCast, em_paper, b0, b1, s4, ms, c7']
              rfl
          · rw [bI_f hms] at ms
            rw [nS_z (fun z => hms ⟨z.1.1, z.1.2.2.1, z.1.2.2.2.1, z.1.2.2.2.2.1, z.1.2.2.2.2.2.1⟩)]
            refine Eq.trans ?_ (nx b hb')
            simp (disch := first | omega | (simp (disch := omega) only [uA_n]; done) | fail) only [iI_lit, iI_add, iI_sub, iI_mul, iI_neg, iI_lt, iI_le, iI_eq, zlt_t, zlt_f, zle_t, zle_f, zeq_t, zeq_f, nle_t, nle_f, iI_cl, rA, rS, rB, wA, wS, wB, mkp, mk2, uA_s, uA_n, ud_s, ud_n, bI_0, bI_1, nor_s, ↓reduceIte, or_false, false_or, or_true, true_or, or_self, not_true_eq_false, not_false_eq_true, and_true, true_and, and_false, false_and, bI_T, bI_F, Int.reduceToNat, Nat.reduceAdd, Nat.reduceMul, Int.reduceNeg, Option.bind_some, Int.toNat_natCast, em_paper, b0, b1, s4, ms]
            rfl
        · rw [nS_z (fun z => c2 z.1.2.1)]
          refine Eq.trans ?_ (nx b hb')
          simp (disch := first | omega | (simp (disch := omega) only [uA_n]; done) | fail) only [iI_lit, iI_add, iI_sub, iI_mul, iI_neg, iI_lt, iI_le, iI_eq, zlt_t, zlt_f, zle_t, zle_f, zeq_t, zeq_f, nle_t, nle_f, iI_cl, rA, rS, rB, wA, wS, wB, mkp, mk2, uA_s, uA_n, ud_s, ud_n, bI_0, bI_1, nor_s, ↓reduceIte, or_false, false_or, or_true, true_or, or_self, not_true_eq_false, not_false_eq_true, and_true, true_and, and_false, false_and, bI_T, bI_F, Int.reduceToNat, Nat.reduceAdd, Nat.reduceMul, Int.reduceNeg, Option.bind_some, Int.toNat_natCast, em_paper, b0, b1, b4.1]
          rfl
      · rw [nS_z (fun z => h1 z.1.1)]
        refine Eq.trans ?_ (nx b hb')
        simp (disch := first | omega | (simp (disch := omega) only [uA_n]; done) | fail) only [iI_lit, iI_add, iI_sub, iI_mul, iI_neg, iI_lt, iI_le, iI_eq, zlt_t, zlt_f, zle_t, zle_f, zeq_t, zeq_f, nle_t, nle_f, iI_cl, rA, rS, rB, wA, wS, wB, mkp, mk2, uA_s, uA_n, ud_s, ud_n, bI_0, bI_1, nor_s, ↓reduceIte, or_false, false_or, or_true, true_or, or_self, not_true_eq_false, not_false_eq_true, and_true, true_and, and_false, false_and, bI_T, bI_F, Int.reduceToNat, Nat.reduceAdd, Nat.reduceMul, Int.reduceNeg, Option.bind_some, Int.toNat_natCast, em_paper, b0, b1]
        rfl
end NEXT
