/-! WHAT IS DUE, WHO IS ASKED: the day's first loops -/
section LOOP
variable {K D : Int} {A0 B0 A B A' B' : hI} (F : Nat)
theorem RR.nD (R : RR K D A0 B0 A B) {D' : Int} (h1 : A 16 9 ≤ D') (h2 : D' ≤ A 16 9 + 1) (hl : ∀ p, p < 60 → A 32 p ≠ -1 → A 37 p = 0 → A 32 p ≠ 2 → D' ≤ A 36 p) : RR K D' A0 B0 A B := by
  obtain ⟨⟨g1, g2, g3, g4, g5, g6, g7, g8, g9, g10, g11⟩, hx, hb⟩ := R
  refine ⟨⟨g1, g2, g3, ?_, g5, g6, ?_, g8, g9, g10, g11⟩, hx, hb⟩
  · refine WP.of g4.pu g4.pe1 g4.pe2 (fun q hq => ?_) g4.ppd
    obtain ⟨z1, z2⟩ := g4.pz hq
    refine ⟨z1, z2.imp id (fun z => ⟨?_, z.2⟩)⟩
    obtain ⟨x1, x2, x3, x4, x5, x6, x7, x8, x9, x10, x11, x12, x13, x14, x15, x16, x17, x18, x19⟩ := z.1
    exact ⟨x1, x2, x3, x4, x5, x6, x7, x8, x9, x10, x11, x12, x13, x14, fun y1 y2 => ⟨hl q hq (by omega) y1 y2, (x15 y1 y2).2⟩, x16, x17, x18, x19⟩
  · obtain ⟨x1, x2, x3, x4, x5, x6⟩ := g7
    exact ⟨x1, x2, x3, h1, h2, x6⟩
theorem RR.endf (R : RR K D A0 B0 A B) {p : Nat} (hp : p < 60) (he : A 31 15 ≤ p) : A 32 p = -1 ∧ B 450 p = 0 ∧ A 37 p = -1 := by
  have h := R.gP.pe3 p hp he
  have kr := R.kr hp
  omega
/-- the reference goes past free papers -/
theorem em_due0 (R : RR K D A0 B0 A B) (Ax : hI) (v1 v2 : Int32) : ∀ (r i q : Nat), r = 60 - i → i ≤ 60 → A 31 15 ≤ i → r < q → f_m_close_39 F q v1 v2 (iI i) (mk Ax B) = f_m_close_98 F F v1 v2 (iI 0) (mk Ax B) := by
  intro r
  induction r with
  | zero =>
    intro i q hr hi he hq
    obtain ⟨q, rfl⟩ : ∃ s, q = s + 1 := ⟨q - 1, by omega⟩
    obtain rfl : i = 60 := by omega
    rw [f_m_close_39]
    simp (disch := first | omega | (simp (disch := omega) only [uA_n]; done) | fail) only [iI_lit, iI_add, iI_sub, iI_mul, iI_neg, iI_lt, iI_le, iI_eq, zlt_t, zlt_f, zle_t, zle_f, zeq_t, zeq_f, nle_t, nle_f, iI_cl, rA, rS, rB, wA, wS, wB, mkp, mk2, uA_s, uA_n, ud_s, ud_n, bI_0, bI_1, nor_s, ↓reduceIte, or_false, false_or, or_true, true_or, or_self, not_true_eq_false, not_false_eq_true, and_true, true_and, and_false, false_and, bI_T, bI_F, Int.reduceToNat, Nat.reduceAdd, Nat.reduceMul, Int.reduceNeg, Option.bind_some, Int.toNat_natCast]
  | succ r ih =>
    intro i q hr hi he hq
    obtain ⟨q, rfl⟩ : ∃ s, q = s + 1 := ⟨q - 1, by omega⟩
    have nx := ih (i + 1) q (by omega) (by omega) (by omega) (by omega)
    have f := R.endf (p := i) (by omega) he
    refine Eq.trans ?_ nx
    rw [f_m_close_39]
    simp only [f_m_close_90]
    simp (disch := first | omega | (simp (disch := omega) only [uA_n]; done) | fail) only [iI_lit, iI_add, iI_sub, iI_mul, iI_neg, iI_lt, iI_le, iI_eq, zlt_t, zlt_f, zle_t, zle_f, zeq_t, zeq_f, nle_t, nle_f, iI_cl, rA, rS, rB, wA, wS, wB, mkp, mk2, uA_s, uA_n, ud_s, ud_n, bI_0, bI_1, nor_s, ↓reduceIte, or_false, false_or, or_true, true_or, or_self, not_true_eq_false, not_false_eq_true, and_true, true_and, and_false, false_and, bI_T, bI_F, Int.reduceToNat, Nat.reduceAdd, Nat.reduceMul, Int.reduceNeg, Option.bind_some, Int.toNat_natCast, em_paper, f.2.1]
    rfl
def dueG (A A' : hI) : Prop := A' 16 = A 16 ∧ A' 19 11 = A 19 11 ∧ A' 31 15 = A 31 15 ∧ A' 36 = A 36 ∧ (∀ q, A' 37 q = 0 → A 37 q = 0 ∧ A' 32 q = A 32 q) ∧ A' 46 = A 46 ∧ A' 53 = A 53
theorem dueG.rf (A : hI) : dueG A A := ⟨rfl, rfl, rfl, rfl, fun _ z => ⟨z, rfl⟩, rfl, rfl⟩
theorem dueG.tr {a b c : hI} (h : dueG a b) (g : dueG b c) : dueG a c := ⟨g.1.trans h.1, g.2.1.trans h.2.1, g.2.2.1.trans h.2.2.1, g.2.2.2.1.trans h.2.2.2.1, fun q z => by
  obtain ⟨g1, g2⟩ := g.2.2.2.2.1 q z
  obtain ⟨h1, h2⟩ := h.2.2.2.2.1 q g1
  exact ⟨h1, g2.trans h2⟩, g.2.2.2.2.2.1.trans h.2.2.2.2.2.1, g.2.2.2.2.2.2.trans h.2.2.2.2.2.2⟩
theorem dueF.g {A A' : hI} {p : Nat} (h : dueF A A' p) : dueG A A' := ⟨h.1, h.2.1, h.2.2.1, h.2.2.2.1, h.2.2.2.2.2.1, h.2.2.2.2.2.2.1, h.2.2.2.2.2.2.2⟩
theorem RR.payDue (hF : 1000 ≤ F) (Ax Bx : hI) (v1 : Int32) : ∀ (r i q q2 : Nat) (K : Int) (A B : hI), (r : Int) = A 31 15 - i → i ≤ 60 → K + 22000 * r ≤ 999000000 → r < q → 60 < q2 + i → RR K (A 16 9) A0 B0 A B → (∀ p, p < i → A 37 p = 0 → A 32 p ≠ 2 → A 36 p ≠ A 16 9) → ∃ A' B' : hI, f_World_payDue_2 F q (iI i) (mk A Bx) = some ((), mk A' Bx) ∧ f_m_close_39 F q2 v1 (iI (A 16 9)) (iI i) (mk Ax B) = f_m_close_98 F F v1 (iI (A 16 9)) (iI 0) (mk Ax B') ∧ RR (K + 22000 * r) (A 16 9) A0 B0 A' B' ∧ dueG A A' ∧ ∀ p, p < 60 → A' 37 p = 0 → A' 32 p ≠ 2 → A' 36 p ≠ A 16 9 := by
  intro r
  induction r with
  | zero =>
    intro i q q2 K A B hr hi hK hq hq2 R hdone
    obtain ⟨q, rfl⟩ : ∃ s, q = s + 1 := ⟨q - 1, by omega⟩
    have y := em_due0 F R Ax v1 (iI (A 16 9)) (60 - i) i q2 rfl hi (by omega) (by omega)
    have e : A 31 15 = (i : Int) := by omega
    refine ⟨A, B, ?_, y, R.k (by omega), dueG.rf A, fun p hp h0 h2 => ?_⟩
    · rw [f_World_payDue_2]
      simp (disch := first | omega | (simp (disch := omega) only [uA_n]; done) | fail) only [iI_lit, iI_add, iI_sub, iI_mul, iI_neg, iI_lt, iI_le, iI_eq, zlt_t, zlt_f, zle_t, zle_f, zeq_t, zeq_f, nle_t, nle_f, iI_cl, rA, rS, rB, wA, wS, wB, mkp, mk2, uA_s, uA_n, ud_s, ud_n, bI_0, bI_1, nor_s, ↓reduceIte, or_false, false_or, or_true, true_or, or_self, not_true_eq_false, not_false_eq_true, and_true, true_and, and_false, false_and, bI_T, bI_F, Int.reduceToNat, Nat.reduceAdd, Nat.reduceMul, Int.reduceNeg, Option.bind_some, Int.toNat_natCast, e]
    · by_cases hpi : p < i
      · exact hdone p hpi h0 h2
      · have f := R.endf hp (by omega)
        omega
  | succ r ih =>
    intro i q q2 K A B hr hi hK hq hq2 R hdone
    obtain ⟨q, rfl⟩ : ∃ s, q = s + 1 := ⟨q - 1, by omega⟩
    obtain ⟨q2, rfl⟩ : ∃ s, q2 = s + 1 := ⟨q2 - 1, by have := R.gP.pe2; omega⟩
    have hpe := R.gP.pe2
    have hd1 := R.gD.dd1
    have hd2 := R.gD.dd2
    have hi60 : i < 60 := by omega
    have kr := R.kr hi60
    by_cases hc : A 37 i = 0 ∧ A 36 i = A 16 9
    · obtain ⟨hl, hd⟩ := hc
      have hk : A 32 i ≠ -1 := by omega
      have hk2 : A 32 i ≠ 2 := fun z => by have := (R.gP.pde i hi60 z).1; omega
      obtain ⟨X, Y, x1, y1, R1, df⟩ := R.due F hF (by omega) Ax Bx hi60 hl hd rfl
      have dg := df.g
      have e16 : X 16 9 = A 16 9 := by rw [dg.1]
      obtain ⟨X2, Y2, x2, y2, R2, dg2, dn2⟩ := ih (i + 1) q q2 (K + 22000) X Y (by rw [dg.2.2.1]; omega) (by omega) (by omega) (by omega) (by omega) (by rw [e16]; exact R1) (fun p hp h0 h2 => by
        rw [e16, dg.2.2.2.1]
        by_cases e : p = i
        · subst e; exact absurd h0 df.2.2.2.2.1
        · obtain ⟨u1, u2⟩ := dg.2.2.2.2.1 p h0
          exact hdone p (by omega) u1 (by rw [← u2]; exact h2))
      rw [e16] at y2 R2 dn2
      have b0 : B 450 i = 1 := by omega
      have b6 := (R.gP.pst i hi60 hk).1
      have b1 := R.gP.pk i hi60 hk
      have b5 := (R.gP.pdu i hi60 hk).1
      rw [hl] at b6
      rw [hd] at b5
      refine ⟨X2, Y2, ?_, ?_, R2.k (by omega), dg.tr dg2, dn2⟩
      · rw [f_World_payDue_2]
        simp only [f_World_payDue_46]
        simp (disch := first | omega | (simp (disch := omega) only [uA_n]; done) | fail) only [iI_lit, iI_add, iI_sub, iI_mul, iI_neg, iI_lt, iI_le, iI_eq, zlt_t, zlt_f, zle_t, zle_f, zeq_t, zeq_f, nle_t, nle_f, iI_cl, rA, rS, rB, wA, wS, wB, mkp, mk2, uA_s, uA_n, ud_s, ud_n, bI_0, bI_1, nor_s, ↓reduceIte, or_false, false_or, or_true, true_or, or_self, not_true_eq_false, not_false_eq_true, and_true, true_and, and_false, false_and, bI_T, bI_F, Int.reduceToNat, Nat.reduceAdd, Nat.reduceMul, Int.reduceNeg, Option.bind_some, Int.toNat_natCast, hl, hd]
        refine obd (v := ((), mk X Bx)) x1 ?_
        exact x2
      · refine Eq.trans ?_ y2
        rw [f_m_close_39]
        simp only [f_m_close_90]
        simp (disch := first | omega | (simp (disch := omega) only [uA_n]; done) | fail) only [iI_lit, iI_add, iI_sub, iI_mul, iI_neg, iI_lt, iI_le, iI_eq, zlt_t, zlt_f, zle_t, zle_f, zeq_t, zeq_f, nle_t, nle_f, iI_cl, rA, rS, rB, wA, wS, wB, mkp, mk2, uA_s, uA_n, ud_s, ud_n, bI_0, bI_1, nor_s, ↓reduceIte, or_false, false_or, or_true, true_or, or_self, not_true_eq_false, not_false_eq_true, and_true, true_and, and_false, false_and, bI_T, bI_F, Int.reduceToNat, Nat.reduceAdd, Nat.reduceMul, Int.reduceNeg, Option.bind_some, Int.toNat_natCast, em_paper, b0, b1, b5, b6]
        refine obd (v := ((), mk Ax Y)) y1 ?_
        rfl
    · obtain ⟨X2, Y2, x2, y2, R2, dg2, dn2⟩ := ih (i + 1) q q2 K A B (by omega) (by omega) (by omega) (by omega) (by omega) R (fun p hp h0 h2 => by
        by_cases e : p = i
        · subst e; exact fun z => hc ⟨h0, z⟩
        · exact hdone p (by omega) h0 h2)
      refine ⟨X2, Y2, ?_, ?_, R2.k (by omega), dg2, dn2⟩
      · refine Eq.trans ?_ x2
        rw [f_World_payDue_2]
        simp only [f_World_payDue_46]
        by_cases hl : A 37 i = 0
        · have hd : A 36 i ≠ A 16 9 := fun z => hc ⟨hl, z⟩
          have du := R.gP.pdu i hi60 (by omega)
          simp (disch := first | omega | (simp (disch := omega) only [uA_n]; done) | fail) only [iI_lit, iI_add, iI_sub, iI_mul, iI_neg, iI_lt, iI_le, iI_eq, zlt_t, zlt_f, zle_t, zle_f, zeq_t, zeq_f, nle_t, nle_f, iI_cl, rA, rS, rB, wA, wS, wB, mkp, mk2, uA_s, uA_n, ud_s, ud_n, bI_0, bI_1, nor_s, ↓reduceIte, or_false, false_or, or_true, true_or, or_self, not_true_eq_false, not_false_eq_true, and_true, true_and, and_false, false_and, bI_T, bI_F, Int.reduceToNat, Nat.reduceAdd, Nat.reduceMul, Int.reduceNeg, Option.bind_some, Int.toNat_natCast, hl]
          rfl
        · simp (disch := first | omega | (simp (disch := omega) only [uA_n]; done) | fail) only [iI_lit, iI_add, iI_sub, iI_mul, iI_neg, iI_lt, iI_le, iI_eq, zlt_t, zlt_f, zle_t, zle_f, zeq_t, zeq_f, nle_t, nle_f, iI_cl, rA, rS, rB, wA, wS, wB, mkp, mk2, uA_s, uA_n, ud_s, ud_n, bI_0, bI_1, nor_s, ↓reduceIte, or_false, false_or, or_true, true_or, or_self, not_true_eq_false, not_false_eq_true, and_true, true_and, and_false, false_and, bI_T, bI_F, Int.reduceToNat, Nat.reduceAdd, Nat.reduceMul, Int.reduceNeg, Option.bind_some, Int.toNat_natCast]
          rfl
      · refine Eq.trans ?_ y2
        rw [f_m_close_39]
        simp only [f_m_close_90]
        by_cases hf : A 32 i = -1
        · have b0 : B 450 i = 0 := by omega
          simp (disch := first | omega | (simp (disch := omega) only [uA_n]; done) | fail) only [iI_lit, iI_add, iI_sub, iI_mul, iI_neg, iI_lt, iI_le, iI_eq, zlt_t, zlt_f, zle_t, zle_f, zeq_t, zeq_f, nle_t, nle_f, iI_cl, rA, rS, rB, wA, wS, wB, mkp, mk2, uA_s, uA_n, ud_s, ud_n, bI_0, bI_1, nor_s, ↓reduceIte, or_false, false_or, or_true, true_or, or_self, not_true_eq_false, not_false_eq_true, and_true, true_and, and_false, false_and, bI_T, bI_F, Int.reduceToNat, Nat.reduceAdd, Nat.reduceMul, Int.reduceNeg, Option.bind_some, Int.toNat_natCast, em_paper, b0]
          rfl
        · have b0 : B 450 i = 1 := by omega
          have b6 := (R.gP.pst i hi60 hf).1
          have b1 := R.gP.pk i hi60 hf
          have b5 := (R.gP.pdu i hi60 hf).1
          have du := R.gP.pdu i hi60 hf
          by_cases hl : A 37 i = 0
          · have hd : A 36 i ≠ A 16 9 := fun z => hc ⟨hl, z⟩
            rw [hl] at b6
            by_cases h2 : A 32 i = 2
            · rw [h2] at b1
              simp (disch := first | omega | (simp (disch := omega) only [uA_n]; done) | fail) only [iI_lit, iI_add, iI_sub, iI_mul, iI_neg, iI_lt, iI_le, iI_eq, zlt_t, zlt_f, zle_t, zle_f, zeq_t, zeq_f, nle_t, nle_f, iI_cl, rA, rS, rB, wA, wS, wB, mkp, mk2, uA_s, uA_n, ud_s, ud_n, bI_0, bI_1, nor_s, ↓reduceIte, or_false, false_or, or_true, true_or, or_self, not_true_eq_false, not_false_eq_true, and_true, true_and, and_false, false_and, bI_T, bI_F, Int.reduceToNat, Nat.reduceAdd, Nat.reduceMul, Int.reduceNeg, Option.bind_some, Int.toNat_natCast, em_paper, b0, b1, b5, b6]
              rfl
            · simp (disch := first | omega | (simp (disch := omega) only [uA_n]; done) | fail) only [iI_lit, iI_add, iI_sub, iI_mul, iI_neg, iI_lt, iI_le, iI_eq, zlt_t, zlt_f, zle_t, zle_f, zeq_t, zeq_f, nle_t, nle_f, iI_cl, rA, rS, rB, wA, wS, wB, mkp, mk2, uA_s, uA_n, ud_s, ud_n, bI_0, bI_1, nor_s, ↓reduceIte, or_false, false_or, or_true, true_or, or_self, not_true_eq_false, not_false_eq_true, and_true, true_and, and_false, false_and, bI_T, bI_F, Int.reduceToNat, Nat.reduceAdd, Nat.reduceMul, Int.reduceNeg, Option.bind_some, Int.toNat_natCast, em_paper, b0, b1, b5, b6]
              rfl
          · simp (disch := first | omega | (simp (disch := omega) only [uA_n]; done) | fail) only [iI_lit, iI_add, iI_sub, iI_mul, iI_neg, iI_lt, iI_le, iI_eq, zlt_t, zlt_f, zle_t, zle_f, zeq_t, zeq_f, nle_t, nle_f, iI_cl, rA, rS, rB, wA, wS, wB, mkp, mk2, uA_s, uA_n, ud_s, ud_n, bI_0, bI_1, nor_s, ↓reduceIte, or_false, false_or, or_true, true_or, or_self, not_true_eq_false, not_false_eq_true, and_true, true_and, and_false, false_and, bI_T, bI_F, Int.reduceToNat, Nat.reduceAdd, Nat.reduceMul, Int.reduceNeg, Option.bind_some, Int.toNat_natCast, em_paper, b0, b1, b5, b6]
            rfl
/-- the reference's flags are taken away -/
theorem em_ask0 (Ax : hI) (v1 v2 : Int32) : ∀ (r i q : Nat) (B : hI), r = 60 - i → i ≤ 60 → (∀ p, i ≤ p → p < 60 → B 450 p = 0) → r < q → ∃ B' : hI, f_m_close_98 F q v1 v2 (iI i) (mk Ax B) = f_m_close_166 F F v1 v2 (iI 1) (mk Ax B') ∧ (∀ k : Nat, k ≠ 469 → B' k = B k) ∧ ∀ p, B' 469 p = if i ≤ p ∧ p < 60 then 0 else B 469 p := by
  intro r
  induction r with
  | zero =>
    intro i q B hr hi hf hq
    obtain ⟨q, rfl⟩ : ∃ s, q = s + 1 := ⟨q - 1, by omega⟩
    obtain rfl : i = 60 := by omega
    refine ⟨B, ?_, fun _ _ => rfl, fun p => by rw [if_neg (by omega)]⟩
    rw [f_m_close_98]
    simp (disch := first | omega | (simp (disch := omega) only [uA_n]; done) | fail) only [iI_lit, iI_add, iI_sub, iI_mul, iI_neg, iI_lt, iI_le, iI_eq, zlt_t, zlt_f, zle_t, zle_f, zeq_t, zeq_f, nle_t, nle_f, iI_cl, rA, rS, rB, wA, wS, wB, mkp, mk2, uA_s, uA_n, ud_s, ud_n, bI_0, bI_1, nor_s, ↓reduceIte, or_false, false_or, or_true, true_or, or_self, not_true_eq_false, not_false_eq_true, and_true, true_and, and_false, false_and, bI_T, bI_F, Int.reduceToNat, Nat.reduceAdd, Nat.reduceMul, Int.reduceNeg, Option.bind_some, Int.toNat_natCast]
  | succ r ih =>
    intro i q B hr hi hf hq
    obtain ⟨q, rfl⟩ : ∃ s, q = s + 1 := ⟨q - 1, by omega⟩
    obtain ⟨B', x1, x2, x3⟩ := ih (i + 1) q (uA B 469 i 0) (by omega) (by omega) (fun p hp hp2 => by rw [uA_n (by omega)]; exact hf p (by omega) hp2) (by omega)
    refine ⟨B', ?_, fun k hk => (x2 k hk).trans (uA_n hk), fun p => ?_⟩
    · refine Eq.trans ?_ x1
      have b0 := hf i (by omega) (by omega)
      rw [f_m_close_98]
      simp only [f_m_close_141]
      have m1 : uA B 469 i 0 399 = B 399 := uA_n (by omega)
      simp (disch := first | omega | (simp (disch := omega) only [uA_n]; done) | fail) only [iI_lit, iI_add, iI_sub, iI_mul, iI_neg, iI_lt, iI_le, iI_eq, zlt_t, zlt_f, zle_t, zle_f, zeq_t, zeq_f, nle_t, nle_f, iI_cl, rA, rS, rB, wA, wS, wB, mkp, mk2, uA_s, uA_n, ud_s, ud_n, bI_0, bI_1, nor_s, ↓reduceIte, or_false, false_or, or_true, true_or, or_self, not_true_eq_false, not_false_eq_true, and_true, true_and, and_false, false_and, bI_T, bI_F, Int.reduceToNat, Nat.reduceAdd, Nat.reduceMul, Int.reduceNeg, Option.bind_some, Int.toNat_natCast, em_paper, b0, zP, mk2 m1]
      rfl
    · rw [x3 p, uA_s]
      by_cases e : p = i
      · subst e; rw [if_neg (by omega), ud_s, if_pos (by omega)]
      · rw [ud_n e]
        by_cases h2 : i + 1 ≤ p ∧ p < 60
        · rw [if_pos h2, if_pos (by omega)]
        · rw [if_neg h2, if_neg (by omega)]
def askG (A A' : hI) : Prop := A' 31 = A 31 ∧ A' 16 = A 16 ∧ A' 19 11 = A 19 11 ∧ A' 46 = A 46 ∧ A' 53 = A 53
theorem RR.askAll (hG : ∀ q, B0 350 q = 0) (hF : 1000 ≤ F) (hK : K ≤ 1000000000) (Ax Bx : hI) (v1 : Int32) : ∀ (r i q q2 : Nat) (B1 A B : hI), (r : Int) = A 31 15 - i → i ≤ 60 → r < q → 60 < q2 + i → (∀ k : Nat, k ≠ 469 → B1 k = B0 k) → RR K D A0 B1 A B → (∀ p, p < i → B 469 p = 0) → ∃ B2 A' B' : hI, f_World_askNames_2 F q (iI i) (mk A Bx) = some ((), mk A' Bx) ∧ f_m_close_98 F q2 v1 (iI (A 16 9)) (iI i) (mk Ax B) = f_m_close_166 F F v1 (iI (A 16 9)) (iI 1) (mk Ax B') ∧ (∀ k : Nat, k ≠ 469 → B2 k = B0 k) ∧ RR K D A0 B2 A' B' ∧ askG A A' ∧ ∀ p, p < 60 → B' 469 p = 0 := by
  intro r
  induction r with
  | zero =>
    intro i q q2 B1 A B hr hi hq hq2 hB1 R hdone
    obtain ⟨q, rfl⟩ : ∃ s, q = s + 1 := ⟨q - 1, by omega⟩
    obtain ⟨B', y1, y2, y3⟩ := em_ask0 F Ax v1 (iI (A 16 9)) (60 - i) i q2 B rfl hi (fun p h1 h2 => (R.endf h2 (by omega)).2.1) (by omega)
    have e : A 31 15 = (i : Int) := by omega
    refine ⟨b9 B1 B', A, B', ?_, y1, fun k hk => (b9_n hk).trans (hB1 k hk), R.rb y2 (fun k hk => b9_n hk) (b9_s _ _).symm, ⟨rfl, rfl, rfl, rfl, rfl⟩, fun p hp => ?_⟩
    · rw [f_World_askNames_2]
      simp (disch := first | omega | (simp (disch := omega) only [uA_n]; done) | fail) only [iI_lit, iI_add, iI_sub, iI_mul, iI_neg, iI_lt, iI_le, iI_eq, zlt_t, zlt_f, zle_t, zle_f, zeq_t, zeq_f, nle_t, nle_f, iI_cl, rA, rS, rB, wA, wS, wB, mkp, mk2, uA_s, uA_n, ud_s, ud_n, bI_0, bI_1, nor_s, ↓reduceIte, or_false, false_or, or_true, true_or, or_self, not_true_eq_false, not_false_eq_true, and_true, true_and, and_false, false_and, bI_T, bI_F, Int.reduceToNat, Nat.reduceAdd, Nat.reduceMul, Int.reduceNeg, Option.bind_some, Int.toNat_natCast, e]
    · rw [y3 p]
      by_cases h : i ≤ p ∧ p < 60
      · rw [if_pos h]
      · rw [if_neg h]; exact hdone p (by omega)
  | succ r ih =>
    intro i q q2 B1 A B hr hi hq hq2 hB1 R hdone
    obtain ⟨q, rfl⟩ : ∃ s, q = s + 1 := ⟨q - 1, by omega⟩
    obtain ⟨q2, rfl⟩ : ∃ s, q2 = s + 1 := ⟨q2 - 1, by have := R.gP.pe2; omega⟩
    have hpe := R.gP.pe2
    have hd1 := R.gD.dd1
    have hd2 := R.gD.dd2
    have hi60 : i < 60 := by omega
    have kr := R.kr hi60
    have b350 : ∀ q, B1 350 q = 0 := fun q => by rw [hB1 350 (by omega)]; exact hG q
    by_cases hc : A 37 i = 1 ∧ A 42 i = A 16 9
    · obtain ⟨hl, hd⟩ := hc
      have hk : A 32 i ≠ -1 := by omega
      obtain ⟨X, Y, x1, y1, R1, g1, g2, g3, g4, g5⟩ := R.askName F b350 hF hK Ax Bx hi60 hl
      have e16 : X 16 9 = A 16 9 := by rw [g2]
      have y469 : Y 469 = B 469 := (R1.sb.1 469 (by omega)).trans (R.sb.1 469 (by omega)).symm
      have R2 := R1.r9 i 0
      obtain ⟨B2, X2, Y2, x2, y2, e2, R3, f2, dn2⟩ := ih (i + 1) q q2 (b9 B1 (uA Y 469 i 0)) X (uA Y 469 i 0) (by rw [g1]; omega) (by omega) (by omega) (by omega) (fun k hk => (b9_n hk).trans (hB1 k hk)) R2 (fun p hp => by
        rw [uA_s]
        by_cases e : p = i
        · subst e; rw [ud_s]
        · rw [ud_n e, y469]; exact hdone p (by omega))
      rw [e16] at y2
      have b0 : B 450 i = 1 := by omega
      have b6 := (R.gP.pst i hi60 hk).1
      have b17 := (R.gP.pas i hi60 hk).1
      rw [hl] at b6
      rw [hd] at b17
      refine ⟨B2, X2, Y2, ?_, ?_, e2, R3, ⟨f2.1.trans g1, f2.2.1.trans g2, f2.2.2.1.trans g3, f2.2.2.2.1.trans g4, f2.2.2.2.2.trans g5⟩, dn2⟩
      · rw [f_World_askNames_2]
        simp only [f_World_askNames_47]
        simp (disch := first | omega | (simp (disch := omega) only [uA_n]; done) | fail) only [iI_lit, iI_add, iI_sub, iI_mul, iI_neg, iI_lt, iI_le, iI_eq, zlt_t, zlt_f, zle_t, zle_f, zeq_t, zeq_f, nle_t, nle_f, iI_cl, rA, rS, rB, wA, wS, wB, mkp, mk2, uA_s, uA_n, ud_s, ud_n, bI_0, bI_1, nor_s, ↓reduceIte, or_false, false_or, or_true, true_or, or_self, not_true_eq_false, not_false_eq_true, and_true, true_and, and_false, false_and, bI_T, bI_F, Int.reduceToNat, Nat.reduceAdd, Nat.reduceMul, Int.reduceNeg, Option.bind_some, Int.toNat_natCast, hl, hd]
        refine obd (v := ((), mk X Bx)) x1 ?_
        exact x2
      · refine Eq.trans ?_ y2
        rw [f_m_close_98]
        simp only [f_m_close_141]
        simp (disch := first | omega | (simp (disch := omega) only [uA_n]; done) | fail) only [iI_lit, iI_add, iI_sub, iI_mul, iI_neg, iI_lt, iI_le, iI_eq, zlt_t, zlt_f, zle_t, zle_f, zeq_t, zeq_f, nle_t, nle_f, iI_cl, rA, rS, rB, wA, wS, wB, mkp, mk2, uA_s, uA_n, ud_s, ud_n, bI_0, bI_1, nor_s, ↓reduceIte, or_false, false_or, or_true, true_or, or_self, not_true_eq_false, not_false_eq_true, and_true, true_and, and_false, false_and, bI_T, bI_F, Int.reduceToNat, Nat.reduceAdd, Nat.reduceMul, Int.reduceNeg, Option.bind_some, Int.toNat_natCast, em_paper, b0, b6, b17]
        refine obd (v := ((), mk Ax Y)) y1 ?_
        have m1 : uA Y 469 i 0 399 = Y 399 := uA_n (by omega)
        simp (disch := first | omega | (simp (disch := omega) only [uA_n]; done) | fail) only [iI_lit, iI_add, iI_sub, iI_mul, iI_neg, iI_lt, iI_le, iI_eq, zlt_t, zlt_f, zle_t, zle_f, zeq_t, zeq_f, nle_t, nle_f, iI_cl, rA, rS, rB, wA, wS, wB, mkp, mk2, uA_s, uA_n, ud_s, ud_n, bI_0, bI_1, nor_s, ↓reduceIte, or_false, false_or, or_true, true_or, or_self, not_true_eq_false, not_false_eq_true, and_true, true_and, and_false, false_and, bI_T, bI_F, Int.reduceToNat, Nat.reduceAdd, Nat.reduceMul, Int.reduceNeg, Option.bind_some, Int.toNat_natCast, zP, mk2 m1]
        rfl
    · obtain ⟨B2, X2, Y2, x2, y2, e2, R3, f2, dn2⟩ := ih (i + 1) q q2 (b9 B1 (uA B 469 i 0)) A (uA B 469 i 0) (by omega) (by omega) (by omega) (by omega) (fun k hk => (b9_n hk).trans (hB1 k hk)) (R.r9 i 0) (fun p hp => by
        rw [uA_s]
        by_cases e : p = i
        · subst e; rw [ud_s]
        · rw [ud_n e]; exact hdone p (by omega))
      refine ⟨B2, X2, Y2, ?_, ?_, e2, R3, f2, dn2⟩
      · refine Eq.trans ?_ x2
        rw [f_World_askNames_2]
        simp only [f_World_askNames_47]
        by_cases hl : A 37 i = 1
        · have hd : A 42 i ≠ A 16 9 := fun z => hc ⟨hl, z⟩
          have du := R.gP.pas i hi60 (by omega)
          simp (disch := first | omega | (simp (disch := omega) only [uA_n]; done) | fail) only [iI_lit, iI_add, iI_sub, iI_mul, iI_neg, iI_lt, iI_le, iI_eq, zlt_t, zlt_f, zle_t, zle_f, zeq_t, zeq_f, nle_t, nle_f, iI_cl, rA, rS, rB, wA, wS, wB, mkp, mk2, uA_s, uA_n, ud_s, ud_n, bI_0, bI_1, nor_s, ↓reduceIte, or_false, false_or, or_true, true_or, or_self, not_true_eq_false, not_false_eq_true, and_true, true_and, and_false, false_and, bI_T, bI_F, Int.reduceToNat, Nat.reduceAdd, Nat.reduceMul, Int.reduceNeg, Option.bind_some, Int.toNat_natCast, hl]
          rfl
        · simp (disch := first | omega | (simp (disch := omega) only [uA_n]; done) | fail) only [iI_lit, iI_add, iI_sub, iI_mul, iI_neg, iI_lt, iI_le, iI_eq, zlt_t, zlt_f, zle_t, zle_f, zeq_t, zeq_f, nle_t, nle_f, iI_cl, rA, rS, rB, wA, wS, wB, mkp, mk2, uA_s, uA_n, ud_s, ud_n, bI_0, bI_1, nor_s, ↓reduceIte, or_false, false_or, or_true, true_or, or_self, not_true_eq_false, not_false_eq_true, and_true, true_and, and_false, false_and, bI_T, bI_F, Int.reduceToNat, Nat.reduceAdd, Nat.reduceMul, Int.reduceNeg, Option.bind_some, Int.toNat_natCast]
          rfl
      · refine Eq.trans ?_ y2
        rw [f_m_close_98]
        simp only [f_m_close_141]
        have m1 : uA B 469 i 0 399 = B 399 := uA_n (by omega)
        by_cases hf : A 32 i = -1
        · have b0 : B 450 i = 0 := by omega
          simp (disch := first | omega | (simp (disch := omega) only [uA_n]; done) | fail) only [iI_lit, iI_add, iI_sub, iI_mul, iI_neg, iI_lt, iI_le, iI_eq, zlt_t, zlt_f, zle_t, zle_f, zeq_t, zeq_f, nle_t, nle_f, iI_cl, rA, rS, rB, wA, wS, wB, mkp, mk2, uA_s, uA_n, ud_s, ud_n, bI_0, bI_1, nor_s, ↓reduceIte, or_false, false_or, or_true, true_or, or_self, not_true_eq_false, not_false_eq_true, and_true, true_and, and_false, false_and, bI_T, bI_F, Int.reduceToNat, Nat.reduceAdd, Nat.reduceMul, Int.reduceNeg, Option.bind_some, Int.toNat_natCast, em_paper, b0, zP, mk2 m1]
          rfl
        · have b0 : B 450 i = 1 := by omega
          have b6 := (R.gP.pst i hi60 hf).1
          have b17 := (R.gP.pas i hi60 hf).1
          have du := R.gP.pas i hi60 hf
          by_cases hl : A 37 i = 1
          · have hd : A 42 i ≠ A 16 9 := fun z => hc ⟨hl, z⟩
            rw [hl] at b6
            simp (disch := first | omega | (simp (disch := omega) only [uA_n]; done) | fail) only [iI_lit, iI_add, iI_sub, iI_mul, iI_neg, iI_lt, iI_le, iI_eq, zlt_t, zlt_f, zle_t, zle_f, zeq_t, zeq_f, nle_t, nle_f, iI_cl, rA, rS, rB, wA, wS, wB, mkp, mk2, uA_s, uA_n, ud_s, ud_n, bI_0, bI_1, nor_s, ↓reduceIte, or_false, false_or, or_true, true_or, or_self, not_true_eq_false, not_false_eq_true, and_true, true_and, and_false, false_and, bI_T, bI_F, Int.reduceToNat, Nat.reduceAdd, Nat.reduceMul, Int.reduceNeg, Option.bind_some, Int.toNat_natCast, em_paper, b0, b6, b17, zP, mk2 m1]
            rfl
          · simp (disch := first | omega | (simp (disch := omega) only [uA_n]; done) | fail) only [iI_lit, iI_add, iI_sub, iI_mul, iI_neg, iI_lt, iI_le, iI_eq, zlt_t, zlt_f, zle_t, zle_f, zeq_t, zeq_f, nle_t, nle_f, iI_cl, rA, rS, rB, wA, wS, wB, mkp, mk2, uA_s, uA_n, ud_s, ud_n, bI_0, bI_1, nor_s, ↓reduceIte, or_false, false_or, or_true, true_or, or_self, not_true_eq_false, not_false_eq_true, and_true, true_and, and_false, false_and, bI_T, bI_F, Int.reduceToNat, Nat.reduceAdd, Nat.reduceMul, Int.reduceNeg, Option.bind_some, Int.toNat_natCast, em_paper, b0, b6, zP, mk2 m1]
            rfl
end LOOP
