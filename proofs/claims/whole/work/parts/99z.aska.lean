/-! A DEPOSIT IS ASKED; what is heard -/
section ASKA
variable {K D : Int} {A0 B0 A B A' B' : hI} (F : Nat)
def adG (A A' : hI) : Prop := (∀ k : Nat, k = 16 ∨ (20 ≤ k ∧ k ≤ 21) ∨ (23 ≤ k ∧ k ≤ 26) ∨ k = 46 ∨ k = 53 ∨ k = 17 ∨ k = 18 → A' k = A k) ∧ A' 19 11 = A 19 11 ∧ A' 31 15 = A 31 15
theorem adG.rf (A : hI) : adG A A := ⟨fun _ _ => rfl, rfl, rfl⟩
theorem adG.tr {a b c : hI} (h : adG a b) (g : adG b c) : adG a c := ⟨fun k hk => (g.1 k hk).trans (h.1 k hk), g.2.1.trans h.2.1, g.2.2.trans h.2.2⟩
theorem RR.askDep (R : RR K D A0 B0 A B) (hF : 1000 ≤ F) (hK : K ≤ 1000000000) (Ax Bx : hI) {p : Nat} (hp : p < 60) (h2 : A 32 p = 2) (hl : A 37 p = 0) : ∃ (r : Int) (A' B' : hI), f_World_askDeposit F (iI p) (mk A Bx) = some (iI r, mk A' Bx) ∧ f_m_asked F (iI p) (mk Ax B) = some (iI r, mk Ax B') ∧ RR K D A0 B0 A' B' ∧ (r = 0 ∨ r = 1) ∧ adG A A' := by
  have hn2 := R.gH.hn2
  have hk : A 32 p ≠ -1 := by omega
  have pd := R.gP.pd p hp hk
  have ph := R.gP.ph p hp hk
  have ps := R.gP.ps p hp hk
  have pup := R.gP.pup p hp hk hl (by omega)
  have pde := R.gP.pde p hp h2
  have hn : ∀ q, q < 60 → A 32 q = 3 → A 37 q = 0 → A 41 q ≠ p := fun q hq z1 z2 e => by
    have g := R.gP.ppg q hq z1 z2
    rw [e, Int.toNat_natCast] at g
    have := g.2.2.2.1
    omega
  have e3 := em_paper F (p : Int) 3 Ax B (by omega) (by omega) (by omega) (by omega)
  have e4 := em_paper F (p : Int) 4 Ax B (by omega) (by omega) (by omega) (by omega)
  have e2 := em_paper F (p : Int) 2 Ax B (by omega) (by omega) (by omega) (by omega)
  have e3 : f_m_paper F (iI p) (3 : Int32) (mk Ax B) = some (iI (A 34 p), mk Ax B) := e3.trans (by rw [Int.toNat_natCast]; show some (iI (B 453 p), _) = _; rw [pd.1])
  have e4 : f_m_paper F (iI p) (4 : Int32) (mk Ax B) = some (iI (A 35 p), mk Ax B) := e4.trans (by rw [Int.toNat_natCast]; show some (iI (B 454 p), _) = _; rw [ph.1])
  have e2 : f_m_paper F (iI p) (2 : Int32) (mk Ax B) = some (iI (A 33 p), mk Ax B) := e2.trans (by rw [Int.toNat_natCast]; show some (iI (B 452 p), _) = _; rw [ps.1])
  have xc := ex_houseCan R F hF Bx (A 34 p) (A 35 p) (A 33 p) (by omega) (by omega) (by omega) (by omega) (by omega) (by omega) hK
  obtain ⟨B2, yc, sc⟩ := em_can R F hF Ax (A 34 p) (A 35 p) (A 33 p) (by omega) (by omega) (by omega) (by omega) (by omega) (by omega) hK
  have R2 := R.x3 sc
  have v1 : (mk A Bx).1 34 (iI (p : Int)).toNatClampNeg = iI (A 34 p) := by simp (disch := first | omega | (simp (disch := omega) only [uA_n]; done) | fail) only [iI_lit, iI_add, iI_sub, iI_mul, iI_neg, iI_lt, iI_le, iI_eq, zlt_t, zlt_f, zle_t, zle_f, zeq_t, zeq_f, nle_t, nle_f, iI_cl, rA, rS, rB, wA, wS, wB, mkp, mk2, uA_s, uA_n, ud_s, ud_n, bI_0, bI_1, nor_s, ↓reduceIte, or_false, false_or, or_true, true_or, or_self, not_true_eq_false, not_false_eq_true, and_true, true_and, and_false, false_and, bI_T, bI_F, Int.reduceToNat, Nat.reduceAdd, Nat.reduceMul, Int.reduceNeg, Option.bind_some, Int.toNat_natCast]
  have v2 : (mk A Bx).1 35 (iI (p : Int)).toNatClampNeg = iI (A 35 p) := by simp (disch := first | omega | (simp (disch := omega) only [uA_n]; done) | fail) only [iI_lit, iI_add, iI_sub, iI_mul, iI_neg, iI_lt, iI_le, iI_eq, zlt_t, zlt_f, zle_t, zle_f, zeq_t, zeq_f, nle_t, nle_f, iI_cl, rA, rS, rB, wA, wS, wB, mkp, mk2, uA_s, uA_n, ud_s, ud_n, bI_0, bI_1, nor_s, ↓reduceIte, or_false, false_or, or_true, true_or, or_self, not_true_eq_false, not_false_eq_true, and_true, true_and, and_false, false_and, bI_T, bI_F, Int.reduceToNat, Nat.reduceAdd, Nat.reduceMul, Int.reduceNeg, Option.bind_some, Int.toNat_natCast]
  have v3 : (mk A Bx).1 33 (iI (p : Int)).toNatClampNeg = iI (A 33 p) := by simp (disch := first | omega | (simp (disch := omega) only [uA_n]; done) | fail) only [iI_lit, iI_add, iI_sub, iI_mul, iI_neg, iI_lt, iI_le, iI_eq, zlt_t, zlt_f, zle_t, zle_f, zeq_t, zeq_f, nle_t, nle_f, iI_cl, rA, rS, rB, wA, wS, wB, mkp, mk2, uA_s, uA_n, ud_s, ud_n, bI_0, bI_1, nor_s, ↓reduceIte, or_false, false_or, or_true, true_or, or_self, not_true_eq_false, not_false_eq_true, and_true, true_and, and_false, false_and, bI_T, bI_F, Int.reduceToNat, Nat.reduceAdd, Nat.reduceMul, Int.reduceNeg, Option.bind_some, Int.toNat_natCast]
  by_cases hc : hCan A (A 34 p) (A 35 p) (A 33 p)
  · rw [bI_t hc] at xc yc
    have ed : ((A 34 p).toNat : Int) = A 34 p := by omega
    obtain ⟨X, Y, x1, y1, R3, f1⟩ := R2.xfer F hF Ax Bx (a := (A 34 p).toNat) (to := A 35 p) (s := A 33 p) (by omega) (by omega) (by omega) (by omega) (by omega) (by omega) hK (by rw [ed]; exact hc)
    rw [ed] at x1 y1
    have e32 : X 32 = A 32 := f1 32 (by omega)
    have e37 : X 37 = A 37 := f1 37 (by omega)
    have e41 : X 41 = A 41 := f1 41 (by omega)
    have hk1 : X 32 p ≠ -1 := by rw [e32]; exact hk
    have hs1 : X 32 p = 3 → X 37 p = 0 := by rw [e32, e37]; intro; exact hl
    have hn1 : ∀ q, q < 60 → X 32 q = 3 → X 37 q = 0 → X 41 q ≠ p := by rw [e32, e37, e41]; exact hn
    have R4 := R3.py hp hk1 hs1 hn1
    have x2 := ex_payOff F R3 Bx hp hk1 hs1
    have e2' := em_paper F (p : Int) 2 Ax B2 (by omega) (by omega) (by omega) (by omega)
    have e2' : f_m_paper F (iI p) (2 : Int32) (mk Ax B2) = some (iI (A 33 p), mk Ax B2) := e2'.trans (by rw [Int.toNat_natCast]; show some (iI (B2 452 p), _) = _; rw [sc.1 452 (by omega), ps.1])
    refine ⟨1, pyA X p, pyB X Y p, ?_, ?_, R4, Or.inr rfl, fun k hk => ?_, ?_, ?_⟩
    · unfold f_World_askDeposit
      rw [v1, v2, v3]
      refine (if_neg (by simp (disch := first | omega | (simp (disch := omega) only [uA_n]; done) | fail) only [iI_lit, iI_add, iI_sub, iI_mul, iI_neg, iI_lt, iI_le, iI_eq, zlt_t, zlt_f, zle_t, zle_f, zeq_t, zeq_f, nle_t, nle_f, iI_cl, rA, rS, rB, wA, wS, wB, mkp, mk2, uA_s, uA_n, ud_s, ud_n, bI_0, bI_1, nor_s, ↓reduceIte, or_false, false_or, or_true, true_or, or_self, not_true_eq_false, not_false_eq_true, and_true, true_and, and_false, false_and, bI_T, bI_F, Int.reduceToNat, Nat.reduceAdd, Nat.reduceMul, Int.reduceNeg, Option.bind_some, Int.toNat_natCast])).trans ?_
      refine obd (v := (iI 1, mk A Bx)) xc ?_
      refine (if_neg i1n0).trans ?_
      refine obd (v := ((), mk X Bx)) (by show f_World_transfer F (iI (A 34 p)) (iI (A 35 p)) ((mk A Bx).1 33 (iI (p : Int)).toNatClampNeg) (mk A Bx) = _; rw [v3]; exact x1) ?_
      exact obd (v := ((), mk (pyA X p) Bx)) x2 rfl
    · unfold f_m_asked
      refine obd (v := (iI (A 34 p), mk Ax B)) e3 ?_
      refine obd (v := (iI (A 35 p), mk Ax B)) e4 ?_
      refine obd (v := (iI (A 33 p), mk Ax B)) e2 ?_
      refine obd (v := (iI 1, mk Ax B2)) yc ?_
      refine (if_neg i1n0).trans ?_
      refine obd (v := (iI (A 33 p), mk Ax B2)) e2' ?_
      refine obd (v := ((), mk Ax Y)) y1 ?_
      unfold pyB
      rw [if_neg (show ¬ X 32 p = 3 by rw [e32]; omega)]
      simp (disch := first | omega | (simp (disch := omega) only [uA_n]; done) | fail) only [iI_lit, iI_add, iI_sub, iI_mul, iI_neg, iI_lt, iI_le, iI_eq, zlt_t, zlt_f, zle_t, zle_f, zeq_t, zeq_f, nle_t, nle_f, iI_cl, rA, rS, rB, wA, wS, wB, mkp, mk2, uA_s, uA_n, ud_s, ud_n, bI_0, bI_1, nor_s, ↓reduceIte, or_false, false_or, or_true, true_or, or_self, not_true_eq_false, not_false_eq_true, and_true, true_and, and_false, false_and, bI_T, bI_F, Int.reduceToNat, Nat.reduceAdd, Nat.reduceMul, Int.reduceNeg, Option.bind_some, Int.toNat_natCast, zP0]
    · rw [pyA_o (by omega), f1 k (by omega)]
    · rw [pyA_o (by omega), f1 19 (by omega)]
    · unfold pyA
      split <;> (simp (disch := omega) only [uA_n, uA_s, ud_n]; rw [f1 31 (by omega)])
  · rw [bI_f hc] at xc yc
    obtain ⟨X, Y, x1, y1, R3, f1, f2, f3, f4, f5, f6⟩ := R2.fails2 F hF Ax Bx (h := A 34 p) (p := (p : Int)) (by omega) (by omega) (by omega) (by omega) pup 2
    rw [Int.toNat_natCast] at y1
    refine ⟨0, X, Y, ?_, ?_, R3, Or.inl rfl, fun k hk => f1 k (by omega), f2, by rw [f1 31 (by omega)]⟩
    · unfold f_World_askDeposit
      rw [v1, v2, v3]
      refine (if_neg (by simp (disch := first | omega | (simp (disch := omega) only [uA_n]; done) | fail) only [iI_lit, iI_add, iI_sub, iI_mul, iI_neg, iI_lt, iI_le, iI_eq, zlt_t, zlt_f, zle_t, zle_f, zeq_t, zeq_f, nle_t, nle_f, iI_cl, rA, rS, rB, wA, wS, wB, mkp, mk2, uA_s, uA_n, ud_s, ud_n, bI_0, bI_1, nor_s, ↓reduceIte, or_false, false_or, or_true, true_or, or_self, not_true_eq_false, not_false_eq_true, and_true, true_and, and_false, false_and, bI_T, bI_F, Int.reduceToNat, Nat.reduceAdd, Nat.reduceMul, Int.reduceNeg, Option.bind_some, Int.toNat_natCast])).trans ?_
      refine obd (v := (iI 0, mk A Bx)) xc ?_
      refine (if_pos rfl).trans ?_
      exact obd (v := ((), mk X Bx)) x1 rfl
    · unfold f_m_asked
      refine obd (v := (iI (A 34 p), mk Ax B)) e3 ?_
      refine obd (v := (iI (A 35 p), mk Ax B)) e4 ?_
      refine obd (v := (iI (A 33 p), mk Ax B)) e2 ?_
      refine obd (v := (iI 0, mk Ax B2)) yc ?_
      refine (if_pos rfl).trans ?_
      exact obd (v := ((), mk Ax Y)) y1 rfl
/-- past free papers -/
theorem em_goes0 (R : RR K D A0 B0 A B) (Ax : hI) (v1 : Int32) : ∀ (r i q : Nat), r = 60 - i → i ≤ 60 → A 31 15 ≤ i → r < q → f_m_goesAfter_23 F q v1 (iI i) (mk Ax B) = f_m_goesAfter_83 F v1 (mk Ax B) := by
  intro r
  induction r with
  | zero =>
    intro i q hr hi he hq
    obtain ⟨q, rfl⟩ : ∃ s, q = s + 1 := ⟨q - 1, by omega⟩
    obtain rfl : i = 60 := by omega
    rw [f_m_goesAfter_23]
    simp (disch := first | omega | (simp (disch := omega) only [uA_n]; done) | fail) only [iI_lit, iI_add, iI_sub, iI_mul, iI_neg, iI_lt, iI_le, iI_eq, zlt_t, zlt_f, zle_t, zle_f, zeq_t, zeq_f, nle_t, nle_f, iI_cl, rA, rS, rB, wA, wS, wB, mkp, mk2, uA_s, uA_n, ud_s, ud_n, bI_0, bI_1, nor_s, ↓reduceIte, or_false, false_or, or_true, true_or, or_self, not_true_eq_false, not_false_eq_true, and_true, true_and, and_false, false_and, bI_T, bI_F, Int.reduceToNat, Nat.reduceAdd, Nat.reduceMul, Int.reduceNeg, Option.bind_some, Int.toNat_natCast]
  | succ r ih =>
    intro i q hr hi he hq
    obtain ⟨q, rfl⟩ : ∃ s, q = s + 1 := ⟨q - 1, by omega⟩
    have nx := ih (i + 1) q (by omega) (by omega) (by omega) (by omega)
    have f := R.endf (p := i) (by omega) he
    refine Eq.trans ?_ nx
    rw [f_m_goesAfter_23]
    simp only [f_m_goesAfter_77]
    simp (disch := first | omega | (simp (disch := omega) only [uA_n]; done) | fail) only [iI_lit, iI_add, iI_sub, iI_mul, iI_neg, iI_lt, iI_le, iI_eq, zlt_t, zlt_f, zle_t, zle_f, zeq_t, zeq_f, nle_t, nle_f, iI_cl, rA, rS, rB, wA, wS, wB, mkp, mk2, uA_s, uA_n, ud_s, ud_n, bI_0, bI_1, nor_s, ↓reduceIte, or_false, false_or, or_true, true_or, or_self, not_true_eq_false, not_false_eq_true, and_true, true_and, and_false, false_and, bI_T, bI_F, Int.reduceToNat, Nat.reduceAdd, Nat.reduceMul, Int.reduceNeg, Option.bind_some, Int.toNat_natCast, em_paper, f.2.1]
    rfl
theorem RR.asksOf (hF : 1000 ≤ F) (hK : K ≤ 1000000000) (Ax Bx : hI) {h : Int} (hh : 1 ≤ h ∧ h < 16) : ∀ (r i q q2 : Nat) (A B : hI), (r : Int) = A 31 15 - i → i ≤ 60 → r < q → 60 < q2 + i → RR K D A0 B0 A B → ∃ A' B' : hI, f_World_askDepositsOf_2 F q (iI h) (iI i) (mk A Bx) = some ((), mk A' Bx) ∧ f_m_goesAfter_23 F q2 (iI h) (iI i) (mk Ax B) = f_m_goesAfter_83 F (iI h) (mk Ax B') ∧ RR K D A0 B0 A' B' ∧ adG A A' := by
  intro r
  induction r with
  | zero =>
    intro i q q2 A B hr hi hq hq2 R
    obtain ⟨q, rfl⟩ : ∃ s, q = s + 1 := ⟨q - 1, by omega⟩
    have y := em_goes0 F R Ax (iI h) (60 - i) i q2 rfl hi (by omega) (by omega)
    have e : A 31 15 = (i : Int) := by omega
    refine ⟨A, B, ?_, y, R, adG.rf A⟩
    rw [f_World_askDepositsOf_2]
    simp (disch := first | omega | (simp (disch := omega) only [uA_n]; done) | fail) only [iI_lit, iI_add, iI_sub, iI_mul, iI_neg, iI_lt, iI_le, iI_eq, zlt_t, zlt_f, zle_t, zle_f, zeq_t, zeq_f, nle_t, nle_f, iI_cl, rA, rS, rB, wA, wS, wB, mkp, mk2, uA_s, uA_n, ud_s, ud_n, bI_0, bI_1, nor_s, ↓reduceIte, or_false, false_or, or_true, true_or, or_self, not_true_eq_false, not_false_eq_true, and_true, true_and, and_false, false_and, bI_T, bI_F, Int.reduceToNat, Nat.reduceAdd, Nat.reduceMul, Int.reduceNeg, Option.bind_some, Int.toNat_natCast, e]
  | succ r ih =>
    intro i q q2 A B hr hi hq hq2 R
    obtain ⟨q, rfl⟩ : ∃ s, q = s + 1 := ⟨q - 1, by omega⟩
    obtain ⟨q2, rfl⟩ : ∃ s, q2 = s + 1 := ⟨q2 - 1, by have := R.gP.pe2; omega⟩
    have hpe := R.gP.pe2
    have hi60 : i < 60 := by omega
    have hn2 := R.gH.hn2
    have kr := R.kr hi60
    by_cases hc : A 32 i = 2 ∧ A 37 i = 0 ∧ A 35 i = h
    · obtain ⟨c1, c2, c3⟩ := hc
      obtain ⟨r', X, Y, x1, y1, R1, -, g⟩ := R.askDep F hF hK Ax Bx hi60 c1 c2
      obtain ⟨X2, Y2, x2, y2, R2, g2⟩ := ih (i + 1) q q2 X Y (by rw [g.2.2]; omega) (by omega) (by omega) (by omega) R1
      have b0 : B 450 i = 1 := by omega
      have b1 := R.gP.pk i hi60 (by omega)
      have b4 := (R.gP.ph i hi60 (by omega)).1
      have b6 := (R.gP.pst i hi60 (by omega)).1
      rw [c1] at b1
      rw [c2] at b6
      rw [c3] at b4
      refine ⟨X2, Y2, ?_, ?_, R2, g.tr g2⟩
      · rw [f_World_askDepositsOf_2]
        simp only [f_World_askDepositsOf_57]
        simp (disch := first | omega | (simp (disch := omega) only [uA_n]; done) | fail) only [iI_lit, iI_add, iI_sub, iI_mul, iI_neg, iI_lt, iI_le, iI_eq, zlt_t, zlt_f, zle_t, zle_f, zeq_t, zeq_f, nle_t, nle_f, iI_cl, rA, rS, rB, wA, wS, wB, mkp, mk2, uA_s, uA_n, ud_s, ud_n, bI_0, bI_1, nor_s, ↓reduceIte, or_false, false_or, or_true, true_or, or_self, not_true_eq_false, not_false_eq_true, and_true, true_and, and_false, false_and, bI_T, bI_F, Int.reduceToNat, Nat.reduceAdd, Nat.reduceMul, Int.reduceNeg, Option.bind_some, Int.toNat_natCast, c1, c2, c3]
        refine obd (v := (iI r', mk X Bx)) x1 ?_
        exact x2
      · refine Eq.trans ?_ y2
        rw [f_m_goesAfter_23]
        simp only [f_m_goesAfter_77]
        simp (disch := first | omega | (simp (disch := omega) only [uA_n]; done) | fail) only [iI_lit, iI_add, iI_sub, iI_mul, iI_neg, iI_lt, iI_le, iI_eq, zlt_t, zlt_f, zle_t, zle_f, zeq_t, zeq_f, nle_t, nle_f, iI_cl, rA, rS, rB, wA, wS, wB, mkp, mk2, uA_s, uA_n, ud_s, ud_n, bI_0, bI_1, nor_s, ↓reduceIte, or_false, false_or, or_true, true_or, or_self, not_true_eq_false, not_false_eq_true, and_true, true_and, and_false, false_and, bI_T, bI_F, Int.reduceToNat, Nat.reduceAdd, Nat.reduceMul, Int.reduceNeg, Option.bind_some, Int.toNat_natCast, em_paper, b0, b1, b4, b6]
        refine obd (v := (iI r', mk Ax Y)) y1 ?_
        rfl
    · obtain ⟨X2, Y2, x2, y2, R2, g2⟩ := ih (i + 1) q q2 A B (by omega) (by omega) (by omega) (by omega) R
      refine ⟨X2, Y2, ?_, ?_, R2, g2⟩
      · refine Eq.trans ?_ x2
        rw [f_World_askDepositsOf_2]
        simp only [f_World_askDepositsOf_57]
        by_cases c1 : A 32 i = 2
        · have ph := R.gP.ph i hi60 (by omega)
          by_cases c2 : A 37 i = 0
          · have c3 : A 35 i ≠ h := fun z => hc ⟨c1, c2, z⟩
            simp (disch := first | omega | (simp (disch := omega) only [uA_n]; done) | fail) only [iI_lit, iI_add, iI_sub, iI_mul, iI_neg, iI_lt, iI_le, iI_eq, zlt_t, zlt_f, zle_t, zle_f, zeq_t, zeq_f, nle_t, nle_f, iI_cl, rA, rS, rB, wA, wS, wB, mkp, mk2, uA_s, uA_n, ud_s, ud_n, bI_0, bI_1, nor_s, ↓reduceIte, or_false, false_or, or_true, true_or, or_self, not_true_eq_false, not_false_eq_true, and_true, true_and, and_false, false_and, bI_T, bI_F, Int.reduceToNat, Nat.reduceAdd, Nat.reduceMul, Int.reduceNeg, Option.bind_some, Int.toNat_natCast, c1, c2]
            rfl
          · simp (disch := first | omega | (simp (disch := omega) only [uA_n]; done) | fail) only [iI_lit, iI_add, iI_sub, iI_mul, iI_neg, iI_lt, iI_le, iI_eq, zlt_t, zlt_f, zle_t, zle_f, zeq_t, zeq_f, nle_t, nle_f, iI_cl, rA, rS, rB, wA, wS, wB, mkp, mk2, uA_s, uA_n, ud_s, ud_n, bI_0, bI_1, nor_s, ↓reduceIte, or_false, false_or, or_true, true_or, or_self, not_true_eq_false, not_false_eq_true, and_true, true_and, and_false, false_and, bI_T, bI_F, Int.reduceToNat, Nat.reduceAdd, Nat.reduceMul, Int.reduceNeg, Option.bind_some, Int.toNat_natCast, c1]
            rfl
        · simp (disch := first | omega | (simp (disch := omega) only [uA_n]; done) | fail) only [iI_lit, iI_add, iI_sub, iI_mul, iI_neg, iI_lt, iI_le, iI_eq, zlt_t, zlt_f, zle_t, zle_f, zeq_t, zeq_f, nle_t, nle_f, iI_cl, rA, rS, rB, wA, wS, wB, mkp, mk2, uA_s, uA_n, ud_s, ud_n, bI_0, bI_1, nor_s, ↓reduceIte, or_false, false_or, or_true, true_or, or_self, not_true_eq_false, not_false_eq_true, and_true, true_and, and_false, false_and, bI_T, bI_F, Int.reduceToNat, Nat.reduceAdd, Nat.reduceMul, Int.reduceNeg, Option.bind_some, Int.toNat_natCast]
          rfl
      · refine Eq.trans ?_ y2
        rw [f_m_goesAfter_23]
        simp only [f_m_goesAfter_77]
        by_cases hf : A 32 i = -1
        · have b0 : B 450 i = 0 := by omega
          simp (disch := first | omega | (simp (disch := omega) only [uA_n]; done) | fail) only [iI_lit, iI_add, iI_sub, iI_mul, iI_neg, iI_lt, iI_le, iI_eq, zlt_t, zlt_f, zle_t, zle_f, zeq_t, zeq_f, nle_t, nle_f, iI_cl, rA, rS, rB, wA, wS, wB, mkp, mk2, uA_s, uA_n, ud_s, ud_n, bI_0, bI_1, nor_s, ↓reduceIte, or_false, false_or, or_true, true_or, or_self, not_true_eq_false, not_false_eq_true, and_true, true_and, and_false, false_and, bI_T, bI_F, Int.reduceToNat, Nat.reduceAdd, Nat.reduceMul, Int.reduceNeg, Option.bind_some, Int.toNat_natCast, em_paper, b0]
          rfl
        · have b0 : B 450 i = 1 := by omega
          have b1 := R.gP.pk i hi60 hf
          have b4 := R.gP.ph i hi60 hf
          have b6 := (R.gP.pst i hi60 hf).1
          by_cases c1 : A 32 i = 2
          · rw [c1] at b1
            by_cases c3 : A 35 i = h
            · have s4 := b4.1
              rw [c3] at s4
              have c2 : A 37 i ≠ 0 := fun z => hc ⟨c1, z, c3⟩
              simp (disch := first | omega | (simp (disch := omega) only [uA_n]; done) | fail) only [iI_lit, iI_add, iI_sub, iI_mul, iI_neg, iI_lt, iI_le, iI_eq, zlt_t, zlt_f, zle_t, zle_f, zeq_t, zeq_f, nle_t, nle_f, iI_cl, rA, rS, rB, wA, wS, wB, mkp, mk2, uA_s, uA_n, ud_s, ud_n, bI_0, bI_1, nor_s, ↓reduceIte, or_false, false_or, or_true, true_or, or_self, not_true_eq_false, not_false_eq_true, and_true, true_and, and_false, false_and, bI_T, bI_F, Int.reduceToNat, Nat.reduceAdd, Nat.reduceMul, Int.reduceNeg, Option.bind_some, Int.toNat_natCast, em_paper, b0, b1, s4, b6]
              rfl
            · simp (disch := first | omega | (simp (disch := omega) only [uA_n]; done) | fail) only [iI_lit, iI_add, iI_sub, iI_mul, iI_neg, iI_lt, iI_le, iI_eq, zlt_t, zlt_f, zle_t, zle_f, zeq_t, zeq_f, nle_t, nle_f, iI_cl, rA, rS, rB, wA, wS, wB, mkp, mk2, uA_s, uA_n, ud_s, ud_n, bI_0, bI_1, nor_s, ↓reduceIte, or_false, false_or, or_true, true_or, or_self, not_true_eq_false, not_false_eq_true, and_true, true_and, and_false, false_and, bI_T, bI_F, Int.reduceToNat, Nat.reduceAdd, Nat.reduceMul, Int.reduceNeg, Option.bind_some, Int.toNat_natCast, em_paper, b0, b1, b4.1]
              rfl
          · simp (disch := first | omega | (simp (disch := omega) only [uA_n]; done) | fail) only [iI_lit, iI_add, iI_sub, iI_mul, iI_neg, iI_lt, iI_le, iI_eq, zlt_t, zlt_f, zle_t, zle_f, zeq_t, zeq_f, nle_t, nle_f, iI_cl, rA, rS, rB, wA, wS, wB, mkp, mk2, uA_s, uA_n, ud_s, ud_n, bI_0, bI_1, nor_s, ↓reduceIte, or_false, false_or, or_true, true_or, or_self, not_true_eq_false, not_false_eq_true, and_true, true_and, and_false, false_and, bI_T, bI_F, Int.reduceToNat, Nat.reduceAdd, Nat.reduceMul, Int.reduceNeg, Option.bind_some, Int.toNat_natCast, em_paper, b0, b1]
            rfl
end ASKA
