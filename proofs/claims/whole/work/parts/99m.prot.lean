/-! A BILL IS PROTESTED; the next ask day -/
def skf (A : hI) (p : Nat) : Nat → Nat → Nat
  | 0, i => i
  | f + 1, i => if A 38 (6 * p + i) = A 35 p then i else skf A p f (i + 1)
theorem skf_rg (A : hI) (p : Nat) : ∀ f i : Nat, i ≤ skf A p f i ∧ skf A p f i ≤ i + f := by
  intro f
  induction f with
  | zero => intro i; exact ⟨Nat.le_refl _, Nat.le_refl _⟩
  | succ f ih =>
    intro i
    unfold skf
    have := ih (i + 1)
    split <;> omega
def adl (A : hI) (p a : Nat) : Int := if A 18 (8 * (A 21 (A 35 p).toNat).toNat + (A 21 (A 38 (6 * p + a)).toNat).toNat) = -1 then 30 else max 1 (A 18 (8 * (A 21 (A 35 p).toNat).toNat + (A 21 (A 38 (6 * p + a)).toNat).toNat))
def nta (A : hI) (p : Nat) : Nat := nt A p (A 39 p - 1).toNat
def sdA (A : hI) (p : Nat) : hI := if nta A p = 0 then uA (uA A 37 p 2) 42 p (-1) else uA A 42 p (A 16 9 + adl A p (nta A p))
def sdB (A B : hI) (p : Nat) : hI := if nta A p = 0 then uA (uA B 456 p 2) 467 p (-1) else uA B 467 p (A 16 9 + adl A p (nta A p))
section PROT
variable {K D : Int} {A0 B0 A B A1 B1 : hI} (F : Nat)
/-- far: both sides, either way -/
theorem RR.far (R : RR K D A0 B0 A B) {a b : Nat} (ha : (a : Int) < A 17 1) (hb : (b : Int) < A 17 1) : A 18 (8 * a + b) = cd (B 404 (8 * a + b)) ∧ B 404 (8 * a + b) = B 404 (8 * b + a) ∧ okV (B 404 (8 * a + b)) := by
  have L := R.gL
  have h8 := L.lt2
  have h := L.lcp (8 * a + b) (by omega)
  have hs := L.lds.sym (fun k hk => by have := L.lrd k (by omega); omega) (a := a) (b := b) (by omega) (by omega)
  have hr := L.lds.1.2.1 a b (by omega) (by omega)
  refine ⟨h, hs, hr.1, hr.2, fun z => ?_⟩
  have := L.lfb a b (by omega) (by omega) z
  have := dCn_rg (B 404) a
  omega
theorem cd_rg {x : Int} (h : okV x) : -1 ≤ cd x ∧ cd x ≤ 210 ∧ (cd x = -1 ↔ x = 999999) ∧ (x ≠ 999999 → cd x = x) := by
  obtain ⟨h1, h2, h3⟩ := h
  unfold cd
  by_cases e : x = 999999
  · rw [if_pos e]; omega
  · rw [if_neg e]
    have := h3 (by omega)
    omega
theorem ex_between (R : RR K D A0 B0 A B) (Bx : hI) {a b : Int} (ha0 : 0 ≤ a) (ha : a < A 17 1) (hb0 : 0 ≤ b) (hb : b < A 17 1) : f_Land_between F (iI a) (iI b) (mk A Bx) = some (iI (A 18 (8 * a.toNat + b.toNat)), mk A Bx) := by
  have h8 := R.gL.lt2
  have e1 := ex_isTown F R Bx a (by omega) (by omega)
  have e2 := ex_isTown F R Bx b (by omega) (by omega)
  rw [bI_t ⟨ha0, ha⟩] at e1
  rw [bI_t ⟨hb0, hb⟩] at e2
  have c1 : (a * 8 + b).toNat = 8 * a.toNat + b.toNat := by omega
  simp only [f_Land_between, f_Land_between_30, f_Land_between_31]
  simp (disch := first | omega | (simp (disch := omega) only [uA_n]; done) | fail) only [iI_lit, iI_add, iI_sub, iI_mul, iI_neg, iI_lt, iI_le, iI_eq, zlt_t, zlt_f, zle_t, zle_f, zeq_t, zeq_f, nle_t, nle_f, iI_cl, rA, rS, rB, wA, wS, wB, mkp, mk2, uA_s, uA_n, ud_s, ud_n, bI_0, bI_1, nor_s, ↓reduceIte, or_false, false_or, or_true, true_or, or_self, not_true_eq_false, not_false_eq_true, and_true, true_and, and_false, false_and, bI_T, bI_F, Int.reduceToNat, Nat.reduceAdd, Nat.reduceMul, Int.reduceNeg, Option.bind_some, Int.toNat_natCast, e1, e2, c1]
theorem ex_farFrom (R : RR K D A0 B0 A B) (Bx : hI) {h t : Int} (h0 : 0 ≤ h) (hh : h < A 19 11) (t0 : 0 ≤ t) (ht : t < A 17 1) : f_World_farFrom F (iI h) (iI t) (mk A Bx) = some (iI (A 18 (8 * t.toNat + (A 21 h.toNat).toNat)), mk A Bx) := by
  have hn := R.gH.hn2
  have tt := R.gH.ht1 h.toNat (by omega)
  have e := ex_between F R Bx t0 ht tt.1 tt.2
  simp only [f_World_farFrom]
  simp (disch := first | omega | (simp (disch := omega) only [uA_n]; done) | fail) only [iI_lit, iI_add, iI_sub, iI_mul, iI_neg, iI_lt, iI_le, iI_eq, zlt_t, zlt_f, zle_t, zle_f, zeq_t, zeq_f, nle_t, nle_f, iI_cl, rA, rS, rB, wA, wS, wB, mkp, mk2, uA_s, uA_n, ud_s, ud_n, bI_0, bI_1, nor_s, ↓reduceIte, or_false, false_or, or_true, true_or, or_self, not_true_eq_false, not_false_eq_true, and_true, true_and, and_false, false_and, bI_T, bI_F, Int.reduceToNat, Nat.reduceAdd, Nat.reduceMul, Int.reduceNeg, Option.bind_some, Int.toNat_natCast, e]
def frP (A A1 : hI) : Prop := ∀ k : Nat, k ≠ 35 ∧ k ≠ 37 ∧ k ≠ 39 ∧ k ≠ 42 → A1 k = A k
def frQ (B B1 : hI) : Prop := ∀ k : Nat, k ≠ 454 ∧ k ≠ 456 ∧ k ≠ 457 ∧ k ≠ 467 → B1 k = B k
theorem adl_rg (R : RR K D A0 B0 A B) {p a : Nat} (h1 : 0 ≤ A1 35 p ∧ A1 35 p < A 19 11) (h2 : 0 ≤ A1 38 (6 * p + a) ∧ A1 38 (6 * p + a) < A 19 11) (fA : frP A A1) : 1 ≤ adl A1 p a ∧ adl A1 p a ≤ 210 := by
  have t1 := R.gH.ht1 (A1 35 p).toNat (by omega)
  have t2 := R.gH.ht1 (A1 38 (6 * p + a)).toNat (by omega)
  have f := R.far (a := (A 21 (A1 35 p).toNat).toNat) (b := (A 21 (A1 38 (6 * p + a)).toNat).toNat) (by omega) (by omega)
  have c := cd_rg f.2.2
  unfold adl
  rw [fA 18 (by omega), fA 21 (by omega), f.1]
  split <;> omega
theorem ex_setAsk (R : RR K D A0 B0 A B) (hF : 1000 ≤ F) (Bx : hI) {p : Nat} (fA : frP A A1) (N : NM A1 p) (hh : A1 35 p < A 19 11) (hnm : ∀ i : Nat, (i : Int) < A1 39 p → A1 38 (6 * p + i) < A 19 11) : f_World_setAskDay F (iI p) (mk A1 Bx) = some ((), mk (sdA A1 p) Bx) := by
  have hn := R.gH.hn2
  have hd1 := R.gD.dd1
  have hd2 := R.gD.dd2
  have x := ex_nta F (A := A1) Bx N hF
  obtain ⟨hp, hc, n1, hh0, hd⟩ := N
  have rg := nt_rg A1 p (A1 39 p - 1).toNat
  unfold sdA
  change f_Papers_nameThatAnswers F (iI p) (mk A1 Bx) = some (iI (if nta A1 p = 0 then -1 else (nta A1 p : Int)), mk A1 Bx) at x
  have hna : nta A1 p ≤ (A1 39 p - 1).toNat := rg.1
  simp only [f_World_setAskDay, f_World_setAskDay_103]
  by_cases h : nta A1 p = 0
  · rw [if_pos h] at x ⊢
    simp (disch := first | omega | (simp (disch := omega) only [uA_n]; done) | fail) only [iI_lit, iI_add, iI_sub, iI_mul, iI_neg, iI_lt, iI_le, iI_eq, zlt_t, zlt_f, zle_t, zle_f, zeq_t, zeq_f, nle_t, nle_f, iI_cl, rA, rS, rB, wA, wS, wB, mkp, mk2, uA_s, uA_n, ud_s, ud_n, bI_0, bI_1, nor_s, ↓reduceIte, or_false, false_or, or_true, true_or, or_self, not_true_eq_false, not_false_eq_true, and_true, true_and, and_false, false_and, bI_T, bI_F, Int.reduceToNat, Nat.reduceAdd, Nat.reduceMul, Int.reduceNeg, Option.bind_some, Int.toNat_natCast, ↓bind_of x]
  · rw [if_neg h] at x ⊢
    generalize nta A1 p = a at *
    have nm := n1 a (by omega)
    have nm2 := hnm a (by omega)
    have t1 := R.gH.ht1 (A1 35 p).toNat (by omega)
    have t2 := R.gH.ht1 (A1 38 (6 * p + a)).toNat (by omega)
    -- farFrom reads cells that are as they were
    have e18 : A1 18 = A 18 := fA 18 (by omega)
    have e21 : A1 21 = A 21 := fA 21 (by omega)
    have e17 : A1 17 = A 17 := fA 17 (by omega)
    have e16 : A1 16 = A 16 := fA 16 (by omega)
    have f := R.far (a := (A 21 (A1 35 p).toNat).toNat) (b := (A 21 (A1 38 (6 * p + a)).toNat).toNat) (by omega) (by omega)
    have c := cd_rg f.2.2
    rw [← f.1] at c
    have h8 := R.gL.lt2
    have c0 : ((p : Int) * 6 + a).toNat = 6 * p + a := by omega
    have c1 : (A 21 (A1 35 p).toNat * 8 + A 21 (A1 38 (6 * p + a)).toNat).toNat = 8 * (A 21 (A1 35 p).toNat).toNat + (A 21 (A1 38 (6 * p + a)).toNat).toNat := by omega
    have ff : f_World_farFrom F (iI (A1 38 (6 * p + a))) (iI (A 21 (A1 35 p).toNat)) (mk A1 Bx) = some (iI (A 18 (8 * (A 21 (A1 35 p).toNat).toNat + (A 21 (A1 38 (6 * p + a)).toNat).toNat)), mk A1 Bx) := by
      simp only [f_World_farFrom, f_Land_between, f_Land_between_30, f_Land_between_31, f_Land_isTown, f_Land_isTown_16, f_Land_isTown_17]
      simp (disch := first | omega | (simp (disch := omega) only [uA_n]; done) | fail) only [iI_lit, iI_add, iI_sub, iI_mul, iI_neg, iI_lt, iI_le, iI_eq, zlt_t, zlt_f, zle_t, zle_f, zeq_t, zeq_f, nle_t, nle_f, iI_cl, rA, rS, rB, wA, wS, wB, mkp, mk2, uA_s, uA_n, ud_s, ud_n, bI_0, bI_1, nor_s, ↓reduceIte, or_false, false_or, or_true, true_or, or_self, not_true_eq_false, not_false_eq_true, and_true, true_and, and_false, false_and, bI_T, bI_F, Int.reduceToNat, Nat.reduceAdd, Nat.reduceMul, Int.reduceNeg, Option.bind_some, Int.toNat_natCast, e18, e21, e17, c1]
    unfold adl
    rw [e18, e21, e16]
    by_cases z : A 18 (8 * (A 21 (A1 35 p).toNat).toNat + (A 21 (A1 38 (6 * p + a)).toNat).toNat) = -1
    · rw [if_pos z]
      rw [z] at ff
      simp (disch := first | omega | (simp (disch := omega) only [uA_n]; done) | fail) only [iI_lit, iI_add, iI_sub, iI_mul, iI_neg, iI_lt, iI_le, iI_eq, zlt_t, zlt_f, zle_t, zle_f, zeq_t, zeq_f, nle_t, nle_f, iI_cl, rA, rS, rB, wA, wS, wB, mkp, mk2, uA_s, uA_n, ud_s, ud_n, bI_0, bI_1, nor_s, ↓reduceIte, or_false, false_or, or_true, true_or, or_self, not_true_eq_false, not_false_eq_true, and_true, true_and, and_false, false_and, bI_T, bI_F, Int.reduceToNat, Nat.reduceAdd, Nat.reduceMul, Int.reduceNeg, Option.bind_some, Int.toNat_natCast, ↓bind_of x, c0, e21, ff, e16]
    · rw [if_neg z]
      generalize A 18 (8 * (A 21 (A1 35 p).toNat).toNat + (A 21 (A1 38 (6 * p + a)).toNat).toNat) = g at *
      have em : ∀ m : mM, f_Math_max F (iI 1) (iI g) m = some (iI (max 1 g), m) := fun m => ex_max F 1 g m (by omega) (by omega) (by omega) (by omega)
      simp (disch := first | omega | (simp (disch := omega) only [uA_n]; done) | fail) only [iI_lit, iI_add, iI_sub, iI_mul, iI_neg, iI_lt, iI_le, iI_eq, zlt_t, zlt_f, zle_t, zle_f, zeq_t, zeq_f, nle_t, nle_f, iI_cl, rA, rS, rB, wA, wS, wB, mkp, mk2, uA_s, uA_n, ud_s, ud_n, bI_0, bI_1, nor_s, ↓reduceIte, or_false, false_or, or_true, true_or, or_self, not_true_eq_false, not_false_eq_true, and_true, true_and, and_false, false_and, bI_T, bI_F, Int.reduceToNat, Nat.reduceAdd, Nat.reduceMul, Int.reduceNeg, Option.bind_some, Int.toNat_natCast, ↓bind_of x, c0, e21, ff, e16, em]
theorem em_setAsk (R : RR K D A0 B0 A B) (hF : 1000 ≤ F) (Ax : hI) {p : Nat} (fA : frP A A1) (fB : frQ B B1) (N : NM A1 p) (M : NB A1 B1 p) (hh : A1 35 p < A 19 11) (hnm : ∀ i : Nat, (i : Int) < A1 39 p → A1 38 (6 * p + i) < A 19 11) : f_m_asksNext F (iI p) (mk Ax B1) = some ((), mk Ax (sdB A1 B1 p)) := by
  have hn := R.gH.hn2
  have hd1 := R.gD.dd1
  have hd2 := R.gD.dd2
  have hd3 := R.gD.dd3
  have x := em_nta F (A := A1) (B := B1) Ax N M hF
  obtain ⟨hp, hc, n1, hh0, hd⟩ := N
  obtain ⟨m1, m2, m3, m4⟩ := M
  have rg := nt_rg A1 p (A1 39 p - 1).toNat
  unfold sdB
  change f_m_nextName F (iI p) (mk Ax B1) = some (iI (nta A1 p : Int), mk Ax B1) at x
  have hna : nta A1 p ≤ (A1 39 p - 1).toNat := rg.1
  simp only [f_m_asksNext, f_m_asksNext_117]
  by_cases h : nta A1 p = 0
  · rw [if_pos h]
    rw [h] at x
    simp (disch := first | omega | (simp (disch := omega) only [uA_n]; done) | fail) only [iI_lit, iI_add, iI_sub, iI_mul, iI_neg, iI_lt, iI_le, iI_eq, zlt_t, zlt_f, zle_t, zle_f, zeq_t, zeq_f, nle_t, nle_f, iI_cl, rA, rS, rB, wA, wS, wB, mkp, mk2, uA_s, uA_n, ud_s, ud_n, bI_0, bI_1, nor_s, ↓reduceIte, or_false, false_or, or_true, true_or, or_self, not_true_eq_false, not_false_eq_true, and_true, true_and, and_false, false_and, bI_T, bI_F, Int.reduceToNat, Nat.reduceAdd, Nat.reduceMul, Int.reduceNeg, Option.bind_some, Int.toNat_natCast, ↓bind_of x, zP]
  · rw [if_neg h]
    generalize nta A1 p = a at *
    have nm := n1 a (by omega)
    have nm2 := hnm a (by omega)
    have mm := m2 a (by omega)
    have t1 := R.gH.ht1 (A1 35 p).toNat (by omega)
    have t2 := R.gH.ht1 (A1 38 (6 * p + a)).toNat (by omega)
    have s1 := R.gH.ht (A1 35 p).toNat (by omega)
    have s2 := R.gH.ht (A1 38 (6 * p + a)).toNat (by omega)
    have e18 : A1 18 = A 18 := fA 18 (by omega)
    have e21 : A1 21 = A 21 := fA 21 (by omega)
    have e16 : A1 16 = A 16 := fA 16 (by omega)
    have b411 : B1 411 = B 411 := fB 411 (by omega)
    have b404 : B1 404 = B 404 := fB 404 (by omega)
    have b400 : B1 400 = B 400 := fB 400 (by omega)
    have f := R.far (a := (A 21 (A1 35 p).toNat).toNat) (b := (A 21 (A1 38 (6 * p + a)).toNat).toNat) (by omega) (by omega)
    have c := cd_rg f.2.2
    have h8 := R.gL.lt2
    unfold adl
    rw [e18, e21, e16, f.1]
    have c1 : (8 + (a : Int)).toNat = 8 + a := by omega
    have mm' : B1 (450 + (8 + a)) p = A1 38 (6 * p + a) := by rw [← mm]; congr 1; omega
    have ep := em_paper F (p : Int) (8 + (a : Int)) Ax B1 (by omega) (by omega) (by omega) (by omega)
    rw [c1, Int.toNat_natCast, mm'] at ep
    have e4 := em_paper F (p : Int) 4 Ax B1 (by omega) (by omega) (by omega) (by omega)
    rw [Int.toNat_natCast] at e4
    have e4 : f_m_paper F (iI p) (iI 4) (mk Ax B1) = some (iI (A1 35 p), mk Ax B1) := by rw [e4]; show some (iI (B1 454 p), _) = _; rw [m3]
    have eh1 := em_hs F (A1 38 (6 * p + a)) 1 Ax B1 (by omega) (by omega) (by omega) (by omega)
    have eh2 := em_hs F (A1 35 p) 1 Ax B1 (by omega) (by omega) (by omega) (by omega)
    have eh1 : f_m_hs F (iI (A1 38 (6 * p + a))) (iI 1) (mk Ax B1) = some (iI (A 21 (A1 38 (6 * p + a)).toNat), mk Ax B1) := by rw [eh1]; show some (iI (B1 411 _), _) = _; rw [b411, s2]
    have eh2 : f_m_hs F (iI (A1 35 p)) (iI 1) (mk Ax B1) = some (iI (A 21 (A1 35 p).toNat), mk Ax B1) := by rw [eh2]; show some (iI (B1 411 _), _) = _; rw [b411, s1]
    have ef := em_farOf F (A 21 (A1 38 (6 * p + a)).toNat) (A 21 (A1 35 p).toNat) Ax B1 (by omega) (by omega) (by omega) (by omega)
    rw [b404, ← f.2.1] at ef
    obtain ⟨-, -, fv⟩ := f
    generalize B 404 (8 * (A 21 (A1 35 p).toNat).toNat + (A 21 (A1 38 (6 * p + a)).toNat).toNat) = g at *
    obtain ⟨g1, g2, g3⟩ := fv
    obtain ⟨c2, c3, c4, c5⟩ := c
    by_cases z : g = 999999
    · rw [if_pos (show cd g = -1 from c4.2 z)]
      simp (disch := first | omega | (simp (disch := omega) only [uA_n]; done) | fail) only [iI_lit, iI_add, iI_sub, iI_mul, iI_neg, iI_lt, iI_le, iI_eq, zlt_t, zlt_f, zle_t, zle_f, zeq_t, zeq_f, nle_t, nle_f, iI_cl, rA, rS, rB, wA, wS, wB, mkp, mk2, uA_s, uA_n, ud_s, ud_n, bI_0, bI_1, nor_s, ↓reduceIte, or_false, false_or, or_true, true_or, or_self, not_true_eq_false, not_false_eq_true, and_true, true_and, and_false, false_and, bI_T, bI_F, Int.reduceToNat, Nat.reduceAdd, Nat.reduceMul, Int.reduceNeg, Option.bind_some, Int.toNat_natCast, ↓bind_of x, ep, e4, eh1, eh2, ef, dS, b400, hd3, zP]
    · have g4 := g3 (by omega)
      rw [if_neg (fun w => z (c4.1 w)), c5 z]
      by_cases y : 1 ≤ g
      · rw [show max 1 g = g by omega]
        simp (disch := first | omega | (simp (disch := omega) only [uA_n]; done) | fail) only [iI_lit, iI_add, iI_sub, iI_mul, iI_neg, iI_lt, iI_le, iI_eq, zlt_t, zlt_f, zle_t, zle_f, zeq_t, zeq_f, nle_t, nle_f, iI_cl, rA, rS, rB, wA, wS, wB, mkp, mk2, uA_s, uA_n, ud_s, ud_n, bI_0, bI_1, nor_s, ↓reduceIte, or_false, false_or, or_true, true_or, or_self, not_true_eq_false, not_false_eq_true, and_true, true_and, and_false, false_and, bI_T, bI_F, Int.reduceToNat, Nat.reduceAdd, Nat.reduceMul, Int.reduceNeg, Option.bind_some, Int.toNat_natCast, ↓bind_of x, ep, e4, eh1, eh2, ef, dS, b400, hd3, zP]
      · rw [show max 1 g = 1 by omega]
        simp (disch := first | omega | (simp (disch := omega) only [uA_n]; done) | fail) only [iI_lit, iI_add, iI_sub, iI_mul, iI_neg, iI_lt, iI_le, iI_eq, zlt_t, zlt_f, zle_t, zle_f, zeq_t, zeq_f, nle_t, nle_f, iI_cl, rA, rS, rB, wA, wS, wB, mkp, mk2, uA_s, uA_n, ud_s, ud_n, bI_0, bI_1, nor_s, ↓reduceIte, or_false, false_or, or_true, true_or, or_self, not_true_eq_false, not_false_eq_true, and_true, true_and, and_false, false_and, bI_T, bI_F, Int.reduceToNat, Nat.reduceAdd, Nat.reduceMul, Int.reduceNeg, Option.bind_some, Int.toNat_natCast, ↓bind_of x, ep, e4, eh1, eh2, ef, dS, b400, hd3, zP]
theorem ex_strike (Bx : hI) {p : Nat} (N : NM A p) : ∀ (f i q : Nat), (f : Int) = A 39 p - i → 1 ≤ i → f < q → ∃ q', f_Papers_strikeHolder_2 F q (iI p) (iI i) (mk A Bx) = some ((), mk (uA A 39 p (skf A p f i)) Bx) ∧ q' = q := by
  obtain ⟨hp, hc, n1, hh0, hd⟩ := N
  intro f
  induction f with
  | zero =>
    intro i q hf hi hq
    obtain ⟨q, rfl⟩ : ∃ s, q = s + 1 := ⟨q - 1, by omega⟩
    refine ⟨q + 1, ?_, rfl⟩
    unfold skf
    rw [uA_id2 (show A 39 p = (i : Int) by omega), f_Papers_strikeHolder_2]
    simp (disch := first | omega | (simp (disch := omega) only [uA_n]; done) | fail) only [iI_lit, iI_add, iI_sub, iI_mul, iI_neg, iI_lt, iI_le, iI_eq, zlt_t, zlt_f, zle_t, zle_f, zeq_t, zeq_f, nle_t, nle_f, iI_cl, rA, rS, rB, wA, wS, wB, mkp, mk2, uA_s, uA_n, ud_s, ud_n, bI_0, bI_1, nor_s, ↓reduceIte, or_false, false_or, or_true, true_or, or_self, not_true_eq_false, not_false_eq_true, and_true, true_and, and_false, false_and, bI_T, bI_F, Int.reduceToNat, Nat.reduceAdd, Nat.reduceMul, Int.reduceNeg, Option.bind_some, Int.toNat_natCast]
  | succ f ih =>
    intro i q hf hi hq
    obtain ⟨q, rfl⟩ : ∃ s, q = s + 1 := ⟨q - 1, by omega⟩
    refine ⟨q + 1, ?_, rfl⟩
    obtain ⟨-, nx, -⟩ := ih (i + 1) q (by omega) (by omega) (by omega)
    have nm := n1 i (by omega)
    have c1 : ((p : Int) * 6 + i).toNat = 6 * p + i := by omega
    unfold skf
    rw [f_Papers_strikeHolder_2]
    simp only [f_Papers_strikeHolder_39]
    by_cases h : A 38 (6 * p + i) = A 35 p
    · rw [if_pos h]
      obtain ⟨q, rfl⟩ : ∃ s, q = s + 1 := ⟨q - 1, by omega⟩
      simp (disch := first | omega | (simp (disch := omega) only [uA_n]; done) | fail) only [iI_lit, iI_add, iI_sub, iI_mul, iI_neg, iI_lt, iI_le, iI_eq, zlt_t, zlt_f, zle_t, zle_f, zeq_t, zeq_f, nle_t, nle_f, iI_cl, rA, rS, rB, wA, wS, wB, mkp, mk2, uA_s, uA_n, ud_s, ud_n, bI_0, bI_1, nor_s, ↓reduceIte, or_false, false_or, or_true, true_or, or_self, not_true_eq_false, not_false_eq_true, and_true, true_and, and_false, false_and, bI_T, bI_F, Int.reduceToNat, Nat.reduceAdd, Nat.reduceMul, Int.reduceNeg, Option.bind_some, Int.toNat_natCast, c1, h, f_Papers_strikeHolder_2]
    · rw [if_neg h]
      refine Eq.trans ?_ nx
      simp (disch := first | omega | (simp (disch := omega) only [uA_n]; done) | fail) only [iI_lit, iI_add, iI_sub, iI_mul, iI_neg, iI_lt, iI_le, iI_eq, zlt_t, zlt_f, zle_t, zle_f, zeq_t, zeq_f, nle_t, nle_f, iI_cl, rA, rS, rB, wA, wS, wB, mkp, mk2, uA_s, uA_n, ud_s, ud_n, bI_0, bI_1, nor_s, ↓reduceIte, or_false, false_or, or_true, true_or, or_self, not_true_eq_false, not_false_eq_true, and_true, true_and, and_false, false_and, bI_T, bI_F, Int.reduceToNat, Nat.reduceAdd, Nat.reduceMul, Int.reduceNeg, Option.bind_some, Int.toNat_natCast, c1]
      rfl
theorem em_strike (hF : 1000 ≤ F) (Ax : hI) {p : Nat} (N : NM A p) (M : NB A B p) : ∀ (f i q : Nat), (f : Int) = A 39 p - i → 1 ≤ i → f < q → f_m_protests_19 F q (iI p) (iI i) (mk Ax B) = f_m_protests_91 F (iI p) (iI (6200 + 20 * (p : Int) + 7)) (iI (skf A p f i)) (mk Ax B) := by
  obtain ⟨hp, hc, n1, hh0, hd⟩ := N
  obtain ⟨m1, m2, m3, m4⟩ := M
  have e7 := em_paper F (p : Int) 7 Ax B (by omega) (by omega) (by omega) (by omega)
  rw [Int.toNat_natCast] at e7
  have e7 : f_m_paper F (iI p) (iI 7) (mk Ax B) = some (iI (A 39 p), mk Ax B) := by rw [e7]; show some (iI (B 457 p), _) = _; rw [m1]
  have e4 := em_paper F (p : Int) 4 Ax B (by omega) (by omega) (by omega) (by omega)
  rw [Int.toNat_natCast] at e4
  have e4 : f_m_paper F (iI p) (iI 4) (mk Ax B) = some (iI (A 35 p), mk Ax B) := by rw [e4]; show some (iI (B 454 p), _) = _; rw [m3]
  intro f
  induction f with
  | zero =>
    intro i q hf hi hq
    obtain ⟨q, rfl⟩ : ∃ s, q = s + 1 := ⟨q - 1, by omega⟩
    rw [f_m_protests_19]
    simp only [f_m_protests_54]
    unfold skf
    simp (disch := first | omega | (simp (disch := omega) only [uA_n]; done) | fail) only [iI_lit, iI_add, iI_sub, iI_mul, iI_neg, iI_lt, iI_le, iI_eq, zlt_t, zlt_f, zle_t, zle_f, zeq_t, zeq_f, nle_t, nle_f, iI_cl, rA, rS, rB, wA, wS, wB, mkp, mk2, uA_s, uA_n, ud_s, ud_n, bI_0, bI_1, nor_s, ↓reduceIte, or_false, false_or, or_true, true_or, or_self, not_true_eq_false, not_false_eq_true, and_true, true_and, and_false, false_and, bI_T, bI_F, Int.reduceToNat, Nat.reduceAdd, Nat.reduceMul, Int.reduceNeg, Option.bind_some, Int.toNat_natCast, e7]
    rw [show A 39 p = (i : Int) by omega]
  | succ f ih =>
    intro i q hf hi hq
    obtain ⟨q, rfl⟩ : ∃ s, q = s + 1 := ⟨q - 1, by omega⟩
    have nx := ih (i + 1) q (by omega) (by omega) (by omega)
    have nm := n1 i (by omega)
    have mm := m2 i (by omega)
    have c1 : (8 + (i : Int)).toNat = 8 + i := by omega
    have mm' : B (450 + (8 + i)) p = A 38 (6 * p + i) := by rw [← mm]; congr 1; omega
    have ep := em_paper F (p : Int) (8 + (i : Int)) Ax B (by omega) (by omega) (by omega) (by omega)
    rw [c1, Int.toNat_natCast, mm'] at ep
    rw [f_m_protests_19]
    simp only [f_m_protests_54]
    unfold skf
    by_cases h : A 38 (6 * p + i) = A 35 p
    · rw [if_pos h]
      simp (disch := first | omega | (simp (disch := omega) only [uA_n]; done) | fail) only [iI_lit, iI_add, iI_sub, iI_mul, iI_neg, iI_lt, iI_le, iI_eq, zlt_t, zlt_f, zle_t, zle_f, zeq_t, zeq_f, nle_t, nle_f, iI_cl, rA, rS, rB, wA, wS, wB, mkp, mk2, uA_s, uA_n, ud_s, ud_n, bI_0, bI_1, nor_s, ↓reduceIte, or_false, false_or, or_true, true_or, or_self, not_true_eq_false, not_false_eq_true, and_true, true_and, and_false, false_and, bI_T, bI_F, Int.reduceToNat, Nat.reduceAdd, Nat.reduceMul, Int.reduceNeg, Option.bind_some, Int.toNat_natCast, e7, ep, e4, h]
    · rw [if_neg h]
      refine Eq.trans ?_ nx
      simp (disch := first | omega | (simp (disch := omega) only [uA_n]; done) | fail) only [iI_lit, iI_add, iI_sub, iI_mul, iI_neg, iI_lt, iI_le, iI_eq, zlt_t, zlt_f, zle_t, zle_f, zeq_t, zeq_f, nle_t, nle_f, iI_cl, rA, rS, rB, wA, wS, wB, mkp, mk2, uA_s, uA_n, ud_s, ud_n, bI_0, bI_1, nor_s, ↓reduceIte, or_false, false_or, or_true, true_or, or_self, not_true_eq_false, not_false_eq_true, and_true, true_and, and_false, false_and, bI_T, bI_F, Int.reduceToNat, Nat.reduceAdd, Nat.reduceMul, Int.reduceNeg, Option.bind_some, Int.toNat_natCast, e7, ep, e4]
      rfl
end PROT
