/-! ONE BILL is changed; it is protested -/
section BILL
variable {K D : Int} {A0 B0 A B A' B' : hI} (F : Nat)
theorem RR.bl (R : RR K D A0 B0 A B) {p : Nat} (hp : p < 60) (h1 : A 32 p = 1) (hn : ∀ q, q < 60 → A 32 q = 3 → A 37 q = 0 → A 41 q ≠ p) (fA : frP A A') (fB : frQ B B') (qA : ∀ c q, q ≠ p → A' c q = A c q) (qB : ∀ c q, q ≠ p → B' c q = B c q)
    (hH : B' 454 p = A' 35 p ∧ 0 ≤ A' 35 p ∧ A' 35 p < A 19 11) (hS : B' 456 p = A' 37 p ∧ 1 ≤ A' 37 p ∧ A' 37 p ≤ 2) (hN : B' 457 p = A' 39 p ∧ 1 ≤ A' 39 p ∧ A' 39 p ≤ A 39 p) (hQ : B' 467 p = A' 42 p ∧ -1 ≤ A' 42 p ∧ A' 42 p ≤ 1000)
    (hx : A' 37 p = 1 → B 350 p = 0 → ∃ i : Nat, 1 ≤ i ∧ (i : Int) < A' 39 p ∧ A 38 (6 * p + i) ≠ A' 35 p ∧ A 38 (6 * p + i) ≠ A 34 p) : RR K D A0 B0 A' B' := by
  refine R.pap (fun k hk => fA k (by omega)) (fun k hk => fB k (by omega)) ?_
  have hk : A 32 p ≠ -1 := by omega
  obtain ⟨z1, z2⟩ := R.gP.pz hp
  have z := z2.resolve_left (fun z => hk z.1)
  have a38 : A' 38 = A 38 := fA 38 (by omega)
  refine R.gP.loc hp (fun c _ _ _ q hq => qA c q hq) (fun q i _ _ => by rw [a38]) (fun c _ _ q hq => qB c q hq) (fun q _ => by rw [fB 350 (by omega)]) (fA 27 (by omega)) (by rw [fA 19 (by omega)]) (by rw [fA 16 (by omega)]) (by rw [fA 31 (by omega), fA 32 (by omega)]; omega) (by rw [fA 31 (by omega)]; exact Int.le_refl _) (by rw [fA 31 (by omega)]; exact R.gP.pe2) ⟨by rw [fA 31 (by omega), fA 32 (by omega)]; exact z1, Or.inr ⟨?_, ?_, ?_⟩⟩ (fun q hq hqp h3 h4 e => absurd e (hn q hq h3 h4)) (fun y => by rw [fA 32 (by omega)] at y; omega)
  · obtain ⟨x1, x2, x3, x4, x5, x6, x7, x8, x9, x10, x11, x12, x13, x14, x15, x16, x17, x18, x19⟩ := z.1
    unfold PU
    rw [fA 32 (by omega), fA 33 (by omega), fA 34 (by omega), fA 36 (by omega), fA 40 (by omega), fA 41 (by omega), fA 43 (by omega), fA 44 (by omega), fA 27 (by omega), fA 19 (by omega), fA 16 (by omega), fB 450 (by omega), fB 451 (by omega), fB 452 (by omega), fB 453 (by omega), fB 455 (by omega), fB 464 (by omega), fB 465 (by omega), fB 466 (by omega), fB 468 (by omega)]
    exact ⟨x1, x2, x3, x4, x5, hH, x7, ⟨hS.1, by omega, hS.2.2⟩, hN.1, x10, x11, hQ, x13, fun y => absurd h1 y, fun y => by omega, fun y => by omega, fun y => by omega, fun y => by omega, x19⟩
  · intro _
    obtain ⟨u1, u2, u3⟩ := z.2.1 h1
    rw [a38, fA 34 (by omega), fA 19 (by omega)]
    refine ⟨by omega, fun i hi => ?_, fun z y => hx z (by rw [fB 350 (by omega)] at y; exact y)⟩
    rw [fB (458 + i) (by omega)]
    exact u2 i (by omega)
  · intro y
    rw [fA 32 (by omega)] at y
    omega
/-- the protest, both sides -/
theorem RR.protest (R : RR K D A0 B0 A B) (hF : 1000 ≤ F) (Ax Bx : hI) {p : Nat} (hp : p < 60) (h1 : A 32 p = 1) (hn : ∀ q, q < 60 → A 32 q = 3 → A 37 q = 0 → A 41 q ≠ p) : ∃ A' B' : hI, f_World_settle_142 F (iI p) (mk A Bx) = some ((), mk A' Bx) ∧ f_m_protests F (iI p) (mk Ax B) = some ((), mk Ax B') ∧ RR K D A0 B0 A' B' ∧ frP A A' ∧ (∀ c q, q ≠ p → A' c q = A c q) ∧ A' 37 p ≠ 0 := by
  have hn2 := R.gH.hn2
  have hd1 := R.gD.dd1
  have hd2 := R.gD.dd2
  obtain ⟨N, M⟩ := R.nm hp h1
  have P := R.gP
  have hH := P.ph p hp (by omega)
  have hbn := P.pbn p hp h1
  have hbi := fun i hi => (P.pbi p i hp h1 hi).2
  generalize hs : skf A p (A 39 p - 1).toNat 1 = s at *
  have srg := skf_rg A p (A 39 p - 1).toNat 1
  rw [hs] at srg
  -- state 1
  have N1 : NM (uA A 37 p 1) p := by
    obtain ⟨a1, a2, a3, a4, a5⟩ := N
    refine ⟨a1, ?_, fun i hi => ?_, ?_, ?_⟩
    · rw [uA_n (by omega)]; exact a2
    · rw [uA_n (by omega)] at hi ⊢; exact a3 i hi
    · rw [uA_n (by omega)]; exact a4
    · rw [uA_n (by omega)]; exact a5
  have M1 : NB (uA A 37 p 1) (uA B 456 p 1) p := by
    obtain ⟨a1, a2, a3, a4⟩ := M
    refine ⟨?_, fun i hi => ?_, ?_, ?_⟩
    · rw [uA_n (by omega), uA_n (by omega)]; exact a1
    · rw [uA_n (by omega)] at hi ⊢; rw [uA_n (by omega)]; exact a2 i hi
    · rw [uA_n (by omega), uA_n (by omega)]; exact a3
    · rw [uA_n (by omega), uA_n (by omega)]; exact a4
  have sk1 : ∀ f i, skf (uA A 37 p 1) p f i = skf A p f i := by
    intro f
    induction f with
    | zero => intro i; rfl
    | succ f ih => intro i; unfold skf; rw [ih, uA_n (by omega), uA_n (by omega)]
  have e39 : uA A 37 p 1 39 p = A 39 p := by rw [uA_n (by omega)]
  obtain ⟨-, xs, -⟩ := ex_strike F Bx N1 (A 39 p - 1).toNat 1 F (by rw [e39]; omega) (by omega) (by omega)
  have ys := em_strike F hF Ax N1 M1 (A 39 p - 1).toNat 1 F (by rw [e39]; omega) (by omega) (by omega)
  rw [sk1, hs] at xs ys
  -- state 2
  generalize hX : uA (uA A 37 p 1) 39 p (s : Int) = X at *
  generalize hY : uA (uA B 456 p 1) 457 p (s : Int) = Y at *
  have fA : frP A X := fun k hk => by rw [← hX, uA_n (by omega), uA_n (by omega)]
  have fB : frQ B Y := fun k hk => by rw [← hY, uA_n (by omega), uA_n (by omega)]
  have x39 : X 39 p = s := by rw [← hX, uA_s, ud_s]
  have x35 : X 35 = A 35 := by rw [← hX, uA_n (by omega), uA_n (by omega)]
  have x37 : X 37 p = 1 := by rw [← hX, uA_n (by omega), uA_s, ud_s]
  have y457 : Y 457 p = s := by rw [← hY, uA_s, ud_s]
  have y454 : Y 454 = B 454 := by rw [← hY, uA_n (by omega), uA_n (by omega)]
  have y456 : Y 456 p = 1 := by rw [← hY, uA_n (by omega), uA_s, ud_s]
  have x42 : X 42 = A 42 := by rw [← hX, uA_n (by omega), uA_n (by omega)]
  have y467 : Y 467 = B 467 := by rw [← hY, uA_n (by omega), uA_n (by omega)]
  have qA : ∀ c q, q ≠ p → X c q = A c q := fun c q hq => by rw [← hX, pap_q hq, pap_q hq]
  have qB : ∀ c q, q ≠ p → Y c q = B c q := fun c q hq => by rw [← hY, pap_q hq, pap_q hq]
  have N2 : NM X p := by
    obtain ⟨a1, a2, a3, a4, a5⟩ := N
    refine ⟨a1, by omega, fun i hi => ?_, ?_, ?_⟩
    · rw [fA 38 (by omega)]; exact a3 i (by omega)
    · rw [x35]; exact a4
    · rw [fA 34 (by omega)]; exact a5
  have M2 : NB X Y p := by
    obtain ⟨a1, a2, a3, a4⟩ := M
    refine ⟨by omega, fun i hi => ?_, ?_, ?_⟩
    · rw [fA 38 (by omega), fB _ (by omega)]; exact a2 i (by omega)
    · rw [x35, y454]; exact a3
    · rw [fA 34 (by omega), fB 453 (by omega)]; exact a4
  have hh : X 35 p < A 19 11 := by rw [x35]; exact hH.2.2
  have hnm : ∀ i : Nat, (i : Int) < X 39 p → X 38 (6 * p + i) < A 19 11 := fun i hi => by rw [fA 38 (by omega)]; exact (hbi i (by omega)).2
  have xa := ex_setAsk F R hF Bx fA N2 hh hnm
  have ya := em_setAsk F R hF Ax fA fB N2 M2 hh hnm
  have na := nt_rg X p (X 39 p - 1).toNat
  change nta X p ≤ _ ∧ (nta X p ≠ 0 → _) ∧ _ at na
  refine ⟨sdA X p, sdB X Y p, ?_, ?_, ?_, ?_, ?_, ?_⟩
  · simp only [f_World_settle_142, f_World_settle_178, f_Papers_strikeHolder]
    have k1 : A 32 p = 1 := h1
    simp (disch := first | omega | (simp (disch := omega) only [uA_n]; done) | fail) only [iI_lit, iI_add, iI_sub, iI_mul, iI_neg, iI_lt, iI_le, iI_eq, zlt_t, zlt_f, zle_t, zle_f, zeq_t, zeq_f, nle_t, nle_f, iI_cl, rA, rS, rB, wA, wS, wB, mkp, mk2, uA_s, uA_n, ud_s, ud_n, bI_0, bI_1, nor_s, ↓reduceIte, or_false, false_or, or_true, true_or, or_self, not_true_eq_false, not_false_eq_true, and_true, true_and, and_false, false_and, bI_T, bI_F, Int.reduceToNat, Nat.reduceAdd, Nat.reduceMul, Int.reduceNeg, Option.bind_some, Int.toNat_natCast, k1]
    refine obd (v := ((), mk X Bx)) xs ?_
    exact obd (v := ((), mk (sdA X p) Bx)) xa rfl
  · simp only [f_m_protests]
    have e9 : uA B 456 p 1 399 = B 399 := uA_n (by omega)
    simp (disch := first | omega | (simp (disch := omega) only [uA_n]; done) | fail) only [iI_lit, iI_add, iI_sub, iI_mul, iI_neg, iI_lt, iI_le, iI_eq, zlt_t, zlt_f, zle_t, zle_f, zeq_t, zeq_f, nle_t, nle_f, iI_cl, rA, rS, rB, wA, wS, wB, mkp, mk2, uA_s, uA_n, ud_s, ud_n, bI_0, bI_1, nor_s, ↓reduceIte, or_false, false_or, or_true, true_or, or_self, not_true_eq_false, not_false_eq_true, and_true, true_and, and_false, false_and, bI_T, bI_F, Int.reduceToNat, Nat.reduceAdd, Nat.reduceMul, Int.reduceNeg, Option.bind_some, Int.toNat_natCast, zP, mk2 e9]
    refine ys.trans ?_
    simp only [f_m_protests_91]
    have e9' : Y 399 = uA B 456 p 1 399 := by rw [← hY, uA_n (by omega)]
    simp (disch := first | omega | (simp (disch := omega) only [uA_n]; done) | fail) only [iI_lit, iI_add, iI_sub, iI_mul, iI_neg, iI_lt, iI_le, iI_eq, zlt_t, zlt_f, zle_t, zle_f, zeq_t, zeq_f, nle_t, nle_f, iI_cl, rA, rS, rB, wA, wS, wB, mkp, mk2, uA_s, uA_n, ud_s, ud_n, bI_0, bI_1, nor_s, ↓reduceIte, or_false, false_or, or_true, true_or, or_self, not_true_eq_false, not_false_eq_true, and_true, true_and, and_false, false_and, bI_T, bI_F, Int.reduceToNat, Nat.reduceAdd, Nat.reduceMul, Int.reduceNeg, Option.bind_some, Int.toNat_natCast, zP, hY, mk2 e9']
    exact obd (v := ((), mk Ax (sdB X Y p))) ya rfl
  · refine R.bl hp h1 hn ?_ ?_ ?_ ?_ ?_ ?_ ?_ ?_ ?_
    · intro k hk; unfold sdA; split <;> (simp (disch := omega) only [uA_n]; exact fA k hk)
    · intro k hk; unfold sdB; split <;> (simp (disch := omega) only [uA_n]; exact fB k hk)
    · intro c q hq; unfold sdA; split
      · rw [pap_q hq, pap_q hq]; exact qA c q hq
      · rw [pap_q hq]; exact qA c q hq
    · intro c q hq; unfold sdB; split
      · rw [pap_q hq, pap_q hq]; exact qB c q hq
      · rw [pap_q hq]; exact qB c q hq
    · unfold sdA sdB
      split <;> (simp (disch := omega) only [uA_n]; rw [x35, y454]; exact hH)
    · unfold sdA sdB
      split
      · refine ⟨?_, ?_, ?_⟩ <;> simp (disch := omega) only [uA_n, uA_s, ud_s] <;> omega
      · simp (disch := omega) only [uA_n]; omega
    · unfold sdA sdB
      split <;> (simp (disch := omega) only [uA_n]; omega)
    · unfold sdA sdB
      by_cases h0 : nta X p = 0
      · rw [if_pos h0, if_pos h0]; refine ⟨?_, ?_, ?_⟩ <;> simp (disch := omega) only [uA_s, ud_s] <;> omega
      · rw [if_neg h0, if_neg h0]
        have := hbi (nta X p) (by omega)
        have ad := adl_rg (A1 := X) (p := p) (a := nta X p) R (by rw [x35]; exact hH.2) (by rw [fA 38 (by omega)]; omega) fA
        have e16 : X 16 9 = A 16 9 := by rw [fA 16 (by omega)]
        refine ⟨?_, ?_, ?_⟩ <;> simp (disch := omega) only [uA_s, ud_s] <;> omega
    · intro y _
      have h0 : nta X p ≠ 0 := fun h0 => by
        unfold sdA at y
        rw [if_pos h0] at y
        simp (disch := omega) only [uA_n, uA_s, ud_s] at y
        omega
      obtain ⟨n1, n2⟩ := na.2.1 h0
      unfold sdA
      rw [if_neg h0]
      refine ⟨nta X p, by omega, ?_, ?_, ?_⟩
      · rw [uA_n (by omega)]; omega
      · rw [uA_n (by omega), ← fA 38 (by omega)]; exact n1
      · rw [← fA 38 (by omega), ← fA 34 (by omega)]; exact n2
  · intro k hk; unfold sdA; split <;> (simp (disch := omega) only [uA_n]; exact fA k hk)
  · intro c q hq; unfold sdA; split
    · rw [pap_q hq, pap_q hq]; exact qA c q hq
    · rw [pap_q hq]; exact qA c q hq
  · unfold sdA
    split
    · simp (disch := omega) only [uA_n, uA_s, ud_s]; omega
    · rw [uA_n (by omega)]; omega
end BILL
