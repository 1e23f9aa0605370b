/-! THE HOUSES SELL THEIR BILLS -/
theorem sm_lt (n : Nat) (c : Int) (h0 : 0 ≤ c) (hn : c ≤ n) : sm n (fun k => bI ((k : Int) < c)) = c := by
  induction n with
  | zero => show (0 : Int) = _; omega
  | succ n ih =>
    simp only [sm]
    by_cases h : (n : Int) < c
    · have hc : c = (n : Int) + 1 := by omega
      rw [bI_t h, sm_c (g := fun _ => 1) (fun i hi => bI_t (by omega)), sm_const]; omega
    · rw [bI_f h, ih (by omega)]; omega
def selG (A A' : hI) (n : Int) : Prop := (A' 31 = A 31 ∧ A' 19 = A 19 ∧ A' 46 = A 46 ∧ A' 53 = A 53 ∧ A' 23 = A 23 ∧ A' 27 = A 27) ∧ (∀ j : Nat, j ≠ 12 → A' 16 j = A 16 j) ∧ A 16 12 ≤ A' 16 12 ∧ A' 16 12 ≤ A 16 12 + n
theorem selG.rf (A : hI) : selG A A 0 := ⟨⟨rfl, rfl, rfl, rfl, rfl, rfl⟩, fun _ _ => rfl, Int.le_refl _, by omega⟩
theorem selG.tr {a b c : hI} {m n : Int} (h : selG a b m) (g : selG b c n) : selG a c (m + n) := by
  obtain ⟨⟨h1, h2, h3, h4, h5, h6⟩, h7, h8, h9⟩ := h
  obtain ⟨⟨g1, g2, g3, g4, g5, g6⟩, g7, g8, g9⟩ := g
  exact ⟨⟨g1.trans h1, g2.trans h2, g3.trans h3, g4.trans h4, g5.trans h5, g6.trans h6⟩, fun j hj => (g7 j hj).trans (h7 j hj), by omega, by omega⟩
theorem selG.le {a b : hI} {m n : Int} (h : selG a b m) (hn : m ≤ n) : selG a b n := ⟨h.1, h.2.1, h.2.2.1, by have := h.2.2.2; omega⟩
section SELL
variable {K D : Int} {A0 B0 A B A' B' : hI} (F : Nat)
theorem RR.sell1 (hF : 1000 ≤ F) (hK : K ≤ 1000000000) (Ax Bx : hI) {h : Int} (hh : 1 ≤ h) (k2 : Int32 → mM → Option (Unit × mM)) : ∀ (c i q q2 : Nat) (B1 A B : hI) (bill : Int), (c : Int) = sm 60 (fun s => bI (cS A (A 45) h s)) → (i : Int) + c ≤ A 31 15 → c < q → c < q2 → (∀ k : Nat, k ≠ 469 → B1 k = B0 k) → RR K D A0 B1 A B → h < A 19 11 → (∀ s : Nat, (s : Int) < A 31 15 → 0 ≤ A 45 s ∧ A 45 s ≤ 1) → (∀ s, s < 60 → 0 ≤ B 469 s ∧ B 469 s ≤ 1) → (∀ s, s < 60 → A 32 s = 1 → A 35 s = h → A 45 s = B 469 s) → (∀ s, s < 60 → A 32 s = 1 → B 469 s ≠ 0 → A 35 s ≤ h) → (bill = -1 ∨ (0 ≤ bill ∧ bill < 60 ∧ cS A (A 45) h bill.toNat)) → (c = 0 → bill = -1) → ∃ B2 A' B' : hI, f_World_sellBills_66 F k2 q (iI h) (iI bill) (iI i) (mk A Bx) = k2 (iI (h + 1)) (mk A' Bx) ∧ f_m_sells_22 F q2 (iI h) (iI bill) (mk Ax B) = some ((), mk Ax B') ∧ (∀ k : Nat, k ≠ 469 → B2 k = B0 k) ∧ RR K D A0 B2 A' B' ∧ (∀ s, s < 60 → 0 ≤ B' 469 s ∧ B' 469 s ≤ 1) ∧ (∀ s, s < 60 → A' 32 s = 1 → B' 469 s ≠ 0 → A' 35 s ≤ h) ∧ selG A A' c := by
  intro c
  induction c with
  | zero =>
    intro i q q2 B1 A B bill hc hi hq hq2 hB1 R hhn h45 h469 hFR hFI hb hbn
    obtain ⟨q, rfl⟩ : ∃ s, q = s + 1 := ⟨q - 1, by omega⟩
    obtain ⟨q2, rfl⟩ : ∃ s, q2 = s + 1 := ⟨q2 - 1, by omega⟩
    have hpe := R.gP.pe2
    have hn2 := R.gH.hn2
    obtain rfl := hbn rfl
    refine ⟨B1, A, B, ?_, ?_, hB1, R, h469, hFI, selG.rf A⟩
    · rw [f_World_sellBills_66]
      simp only [f_World_sellBills_144]
      by_cases he : A 31 15 ≤ (i : Int)
      · simp (disch := first | omega | (simp (disch := omega) only [uA_n]; done) | fail) only [iI_lit, iI_add, iI_sub, iI_mul, iI_neg, iI_lt, iI_le, iI_eq, zlt_t, zlt_f, zle_t, zle_f, zeq_t, zeq_f, nle_t, nle_f, iI_cl, rA, rS, rB, wA, wS, wB, mkp, mk2, uA_s, uA_n, ud_s, ud_n, bI_0, bI_1, nor_s, ↓reduceIte, or_false, false_or, or_true, true_or, or_self, not_true_eq_false, not_false_eq_true, and_true, true_and, and_false, false_and, bI_T, bI_F, Int.reduceToNat, Nat.reduceAdd, Nat.reduceMul, Int.reduceNeg, Option.bind_some, Int.toNat_natCast]
      · simp (disch := first | omega | (simp (disch := omega) only [uA_n]; done) | fail) only [iI_lit, iI_add, iI_sub, iI_mul, iI_neg, iI_lt, iI_le, iI_eq, zlt_t, zlt_f, zle_t, zle_f, zeq_t, zeq_f, nle_t, nle_f, iI_cl, rA, rS, rB, wA, wS, wB, mkp, mk2, uA_s, uA_n, ud_s, ud_n, bI_0, bI_1, nor_s, ↓reduceIte, or_false, false_or, or_true, true_or, or_self, not_true_eq_false, not_false_eq_true, and_true, true_and, and_false, false_and, bI_T, bI_F, Int.reduceToNat, Nat.reduceAdd, Nat.reduceMul, Int.reduceNeg, Option.bind_some, Int.toNat_natCast]
    · rw [f_m_sells_22]
      simp (disch := first | omega | (simp (disch := omega) only [uA_n]; done) | fail) only [iI_lit, iI_add, iI_sub, iI_mul, iI_neg, iI_lt, iI_le, iI_eq, zlt_t, zlt_f, zle_t, zle_f, zeq_t, zeq_f, nle_t, nle_f, iI_cl, rA, rS, rB, wA, wS, wB, mkp, mk2, uA_s, uA_n, ud_s, ud_n, bI_0, bI_1, nor_s, ↓reduceIte, or_false, false_or, or_true, true_or, or_self, not_true_eq_false, not_false_eq_true, and_true, true_and, and_false, false_and, bI_T, bI_F, Int.reduceToNat, Nat.reduceAdd, Nat.reduceMul, Int.reduceNeg, Option.bind_some, Int.toNat_natCast]
  | succ c ih =>
    intro i q q2 B1 A B bill hc hi hq hq2 hB1 R hhn h45 h469 hFR hFI hb hbn
    obtain ⟨q, rfl⟩ : ∃ s, q = s + 1 := ⟨q - 1, by omega⟩
    obtain ⟨q2, rfl⟩ : ∃ s, q2 = s + 1 := ⟨q2 - 1, by omega⟩
    have hpe := R.gP.pe2
    have hn2 := R.gH.hn2
    have hd1 := R.gD.dd1
    have hd2 := R.gD.dd2
    by_cases hb1 : bill = -1
    · subst hb1
      refine ⟨B1, A, B, ?_, ?_, hB1, R, h469, hFI, (selG.rf A).le (by omega)⟩
      · rw [f_World_sellBills_66]
        simp only [f_World_sellBills_144]
        by_cases he : A 31 15 ≤ (i : Int)
        · simp (disch := first | omega | (simp (disch := omega) only [uA_n]; done) | fail) only [iI_lit, iI_add, iI_sub, iI_mul, iI_neg, iI_lt, iI_le, iI_eq, zlt_t, zlt_f, zle_t, zle_f, zeq_t, zeq_f, nle_t, nle_f, iI_cl, rA, rS, rB, wA, wS, wB, mkp, mk2, uA_s, uA_n, ud_s, ud_n, bI_0, bI_1, nor_s, ↓reduceIte, or_false, false_or, or_true, true_or, or_self, not_true_eq_false, not_false_eq_true, and_true, true_and, and_false, false_and, bI_T, bI_F, Int.reduceToNat, Nat.reduceAdd, Nat.reduceMul, Int.reduceNeg, Option.bind_some, Int.toNat_natCast]
        · simp (disch := first | omega | (simp (disch := omega) only [uA_n]; done) | fail) only [iI_lit, iI_add, iI_sub, iI_mul, iI_neg, iI_lt, iI_le, iI_eq, zlt_t, zlt_f, zle_t, zle_f, zeq_t, zeq_f, nle_t, nle_f, iI_cl, rA, rS, rB, wA, wS, wB, mkp, mk2, uA_s, uA_n, ud_s, ud_n, bI_0, bI_1, nor_s, ↓reduceIte, or_false, false_or, or_true, true_or, or_self, not_true_eq_false, not_false_eq_true, and_true, true_and, and_false, false_and, bI_T, bI_F, Int.reduceToNat, Nat.reduceAdd, Nat.reduceMul, Int.reduceNeg, Option.bind_some, Int.toNat_natCast]
      · rw [f_m_sells_22]
        simp (disch := first | omega | (simp (disch := omega) only [uA_n]; done) | fail) only [iI_lit, iI_add, iI_sub, iI_mul, iI_neg, iI_lt, iI_le, iI_eq, zlt_t, zlt_f, zle_t, zle_f, zeq_t, zeq_f, nle_t, nle_f, iI_cl, rA, rS, rB, wA, wS, wB, mkp, mk2, uA_s, uA_n, ud_s, ud_n, bI_0, bI_1, nor_s, ↓reduceIte, or_false, false_or, or_true, true_or, or_self, not_true_eq_false, not_false_eq_true, and_true, true_and, and_false, false_and, bI_T, bI_F, Int.reduceToNat, Nat.reduceAdd, Nat.reduceMul, Int.reduceNeg, Option.bind_some, Int.toNat_natCast]
    · obtain ⟨b0, b60, hcS⟩ := hb.resolve_left hb1
      obtain ⟨p, rfl⟩ : ∃ p : Nat, bill = p := ⟨bill.toNat, by omega⟩
      rw [Int.toNat_natCast] at hcS
      have hp : p < 60 := by omega
      have hcS0 := hcS
      obtain ⟨c1, c2, c3, c4, c5, c6, c7⟩ := hcS
      have f0 : B 469 p = 0 := (hFR p hp c1 c2).symm.trans c7
      have pend : (p : Int) < A 31 15 := by
        by_cases z : A 31 15 ≤ (p : Int)
        · have := R.gP.pe3 p hp z; omega
        · omega
      obtain ⟨r, A1, Y1, x1, y1, R1, r1, r2, og⟩ := R.offer F hF hK Ax Bx hp c1 c3 c5 c6 (by omega)
      obtain ⟨⟨o1, o2, o3, o4, o5, o6⟩, o7, o8, ⟨o9, o10, o11, o12, o13⟩, o14, o15, o16⟩ := og
      have y469 : Y1 469 = B 469 := (R1.sb.1 469 (by omega)).trans (R.sb.1 469 (by omega)).symm
      -- the flag on both sides
      generalize hv : bI (r = 0) = v
      have hvr : 0 ≤ v ∧ v ≤ 1 := by rw [← hv]; exact bI_nn _
      obtain ⟨B3, Y2, hB3, R2, ey, ey2⟩ : ∃ B3 Y2 : hI, (∀ k : Nat, k ≠ 469 → B3 k = B0 k) ∧ RR K D A0 B3 (uA A1 45 p v) Y2 ∧ Y2 = (if r = 0 then uA Y1 469 p 1 else Y1) ∧ Y2 469 = ud (B 469) p v := by
        have R1' : RR K D A0 B1 (uA A1 45 p v) Y1 := R1.xA (fun k _ h2 _ => uA_n h2)
        by_cases hr : r = 0
        · refine ⟨b9 B1 (uA Y1 469 p 1), uA Y1 469 p 1, fun k hk => (b9_n hk).trans (hB1 k hk), R1'.r9 p 1, (if_pos hr).symm, ?_⟩
          rw [uA_s, y469, ← hv, bI_t hr]
        · refine ⟨B1, Y1, hB1, R1', (if_neg hr).symm, ?_⟩
          rw [y469, ← hv, bI_f hr]
          funext s
          by_cases e : s = p
          · subst e; rw [ud_s]; exact f0
          · rw [ud_n e]
      generalize hX : uA A1 45 p v = X at *
      have fX : ∀ k : Nat, k ≠ 45 → X k = A1 k := fun k hk => by rw [← hX, uA_n hk]
      have x45 : X 45 = ud (A 45) p v := by rw [← hX, uA_s, o5]
      have x16 : X 16 9 = A 16 9 := by rw [fX 16 (by omega)]; exact o7 9 (by omega)
      have sel1 : selG A X 1 := ⟨⟨(fX 31 (by omega)).trans o1, (fX 19 (by omega)).trans o2, (fX 46 (by omega)).trans o3, (fX 53 (by omega)).trans o4, (fX 23 (by omega)).trans o6, (fX 27 (by omega)).trans o9⟩, fun j hj => by rw [fX 16 (by omega)]; exact o7 j hj, by rw [fX 16 (by omega)]; exact o8.1, by rw [fX 16 (by omega)]; exact o8.2⟩
      have xp35 : v = 1 → X 35 p = h := fun z => by
        rw [fX 35 (by omega)]
        have hr : r = 0 := by
          by_cases hr : r = 0
          · exact hr
          · rw [← hv, bI_f hr] at z; omega
        exact (o15 hr).1.trans c2
      have xn35 : v = 0 → X 35 p ≠ h := fun z => by
        rw [fX 35 (by omega), ← c2]
        refine o16 (fun hr => ?_)
        rw [← hv, bI_t hr] at z
        omega
      have csq : ∀ s, s ≠ p → (cS X (X 45) h s ↔ cS A (A 45) h s) := fun s hs => by
        obtain ⟨u1, u2⟩ := o14 s hs
        unfold cS
        rw [x45, ud_n hs, x16, fX 32 (by omega), fX 35 (by omega), fX 37 (by omega), fX 36 (by omega), fX 40 (by omega), fX 39 (by omega), o10, o11, o12, o13, u1, u2]
      have csp : ¬ cS X (X 45) h p := fun z => by
        by_cases hv1 : v = 1
        · have := z.2.2.2.2.2.2
          rw [x45, ud_s] at this
          omega
        · exact xn35 (by omega) z.2.1
      have hsm : sm 60 (fun s => bI (cS X (X 45) h s)) = c := by
        have e : sm 60 (fun s => bI (cS X (X 45) h s)) = sm 60 (ud (fun s => bI (cS A (A 45) h s)) p 0) := by
          refine sm_c fun s hs => ?_
          by_cases e : s = p
          · subst e; rw [ud_s]; exact bI_f csp
          · rw [ud_n e]; exact bI_c (csq s e)
        rw [e, sm_ud hp, ← hc, bI_t hcS0]
        omega
      have x31 : X 31 = A 31 := sel1.1.1
      have h45' : ∀ s : Nat, (s : Int) < X 31 15 → 0 ≤ X 45 s ∧ X 45 s ≤ 1 := fun s hs => by
        rw [x31] at hs
        rw [x45]
        by_cases e : s = p
        · subst e; rw [ud_s]; exact hvr
        · rw [ud_n e]; exact h45 s hs
      have h469' : ∀ s, s < 60 → 0 ≤ Y2 469 s ∧ Y2 469 s ≤ 1 := fun s hs => by
        rw [ey2]
        by_cases e : s = p
        · subst e; rw [ud_s]; exact hvr
        · rw [ud_n e]; exact h469 s hs
      have hFR' : ∀ s, s < 60 → X 32 s = 1 → X 35 s = h → X 45 s = Y2 469 s := fun s hs z1 z2 => by
        rw [x45, ey2]
        by_cases e : s = p
        · subst e; rw [ud_s, ud_s]
        · rw [ud_n e, ud_n e]
          rw [fX 32 (by omega), o10] at z1
          rw [fX 35 (by omega), (o14 s e).1] at z2
          exact hFR s hs z1 z2
      have hFI' : ∀ s, s < 60 → X 32 s = 1 → Y2 469 s ≠ 0 → X 35 s ≤ h := fun s hs z1 z2 => by
        rw [ey2] at z2
        by_cases e : s = p
        · subst e
          rw [ud_s] at z2
          rw [xp35 (by omega)]
          exact Int.le_refl _
        · rw [ud_n e] at z2
          rw [fX 32 (by omega), o10] at z1
          rw [fX 35 (by omega), (o14 s e).1]
          exact hFI s hs z1 z2
      have hhn' : h < X 19 11 := by rw [sel1.1.2.1]; exact hhn
      have hm1 := R2.gH.hm1 h.toNat (by omega)
      have hm := R2.gH.hm h.toNat (by omega)
      have xc := ex_coin F R2 hK Bx (h := h) hh hhn'
      have yc := em_coin F R2 hF hK Ax (h := h) hh hhn'
      have gl := R2.gle (h := h.toNat) (by omega)
      have hld := R2.held (h := h.toNat) (by omega) (by omega)
      have ym := em_hs F h 4 Ax Y2 (by omega) (by omega) (by omega) (by omega)
      have ym : f_m_hs F (iI h) (4 : Int32) (mk Ax Y2) = some (iI (X 23 h.toNat), mk Ax Y2) := ym.trans (by show some (iI (Y2 414 h.toNat), _) = _; rw [hm])
      -- the next one
      generalize hN : nS X (X 45) h 60 0 (-1) = N at *
      have nrg := nS_rg (A := X) (fl := X 45) (h := h) 60 0 (-1)
      rw [hN] at nrg
      have nrg2 : N = -1 ∨ (0 ≤ N ∧ N < 60 ∧ cS X (X 45) h N.toNat) := by
        rcases nrg with ⟨e, -⟩ | ⟨e1, e2, e3⟩
        · exact Or.inl e
        · exact Or.inr ⟨by omega, by omega, e3⟩
      have hN0 : c = 0 → N = -1 := fun z => by
        rcases nrg with ⟨e, -⟩ | ⟨e1, e2, e3⟩
        · exact e
        · exfalso
          have one := sm_one (n := 60) (j := N.toNat) (f := fun s => bI (cS X (X 45) h s)) (by omega) (fun s _ => (bI_nn _).1)
          rw [hsm, bI_t e3] at one
          omega
      have xn := ex_next F R2 Bx (h := h) (by omega) h45' 60 0 F (-1) rfl (by have := R2.gP.pe1; omega) (by omega) (Or.inl rfl)
      rw [hN] at xn
      have yn := em_nextS F R2 Ax (h := h) (by omega) h469' 60 0 F (-1) rfl (by omega) (Or.inl rfl)
      rw [← nS_c (f1 := X 45) (f2 := Y2 469) 60 0 (-1) (fun j _ hj => ⟨fun z => ⟨z.1, z.2.1, z.2.2.1, z.2.2.2.1, z.2.2.2.2.1, z.2.2.2.2.2.1, by rw [← hFR' j (by omega) z.1 z.2.1]; exact z.2.2.2.2.2.2⟩, fun z => ⟨z.1, z.2.1, z.2.2.1, z.2.2.2.1, z.2.2.2.2.1, z.2.2.2.2.2.1, by rw [hFR' j (by omega) z.1 z.2.1]; exact z.2.2.2.2.2.2⟩⟩), hN] at yn
      -- the rest, whichever it is
      have rest : ∀ nb : Int, (nb = -1 ∨ nb = N) → ∃ B2 A' B' : hI, f_World_sellBills_66 F k2 q (iI h) (iI nb) (iI ((i : Int) + 1)) (mk X Bx) = k2 (iI (h + 1)) (mk A' Bx) ∧ f_m_sells_22 F q2 (iI h) (iI nb) (mk Ax Y2) = some ((), mk Ax B') ∧ (∀ k : Nat, k ≠ 469 → B2 k = B0 k) ∧ RR K D A0 B2 A' B' ∧ (∀ s, s < 60 → 0 ≤ B' 469 s ∧ B' 469 s ≤ 1) ∧ (∀ s, s < 60 → A' 32 s = 1 → B' 469 s ≠ 0 → A' 35 s ≤ h) ∧ selG A A' ((c + 1 : Nat) : Int) := fun nb hnb => by
        obtain ⟨B4, X4, Y4, u1, u2, u3, u4, u5, u6, u7⟩ := ih (i + 1) q q2 B3 X Y2 nb hsm.symm (by rw [x31]; omega) (by omega) (by omega) hB3 R2 hhn' h45' h469' hFR' hFI' (by rcases hnb with e | e; exact Or.inl e; rw [e]; exact nrg2) (fun z => by rcases hnb with e | e; exact e; rw [e]; exact hN0 z)
        exact ⟨B4, X4, Y4, u1, u2, u3, u4, u5, u6, (sel1.tr u7).le (by omega)⟩
      -- after the offer, both sides
      have wx : f_World_sellBills_66 F k2 (q + 1) (iI h) (iI p) (iI i) (mk A Bx) = (if iI (X 23 h.toNat) ≤ iI (X 22 h.toNat + 10 * X 61 h.toNat) then f_World_sellBills_66 F k2 q (iI h) (iI (-1)) (iI ((i : Int) + 1)) (mk X Bx) else f_World_sellBills_66 F k2 q (iI h) (iI N) (iI ((i : Int) + 1)) (mk X Bx)) := by
        have w103 : ∀ u : Int, (u = 0 ∨ u = 1) → u = v → f_World_sellBills_103 F k2 (f_World_sellBills_66 F k2 q) (iI h) (iI i) (iI p) (iI u) (mk A1 Bx) = (if iI (X 23 h.toNat) ≤ iI (X 22 h.toNat + 10 * X 61 h.toNat) then f_World_sellBills_66 F k2 q (iI h) (iI (-1)) (iI ((i : Int) + 1)) (mk X Bx) else f_World_sellBills_66 F k2 q (iI h) (iI N) (iI ((i : Int) + 1)) (mk X Bx)) := fun u hu huv => by
          unfold f_World_sellBills_103 f_World_sellBills_137
          refine (if_neg (by simp (disch := first | omega | (simp (disch := omega) only [uA_n]; done) | fail) only [iI_lit, iI_add, iI_sub, iI_mul, iI_neg, iI_lt, iI_le, iI_eq, zlt_t, zlt_f, zle_t, zle_f, zeq_t, zeq_f, nle_t, nle_f, iI_cl, rA, rS, rB, wA, wS, wB, mkp, mk2, uA_s, uA_n, ud_s, ud_n, bI_0, bI_1, nor_s, ↓reduceIte, or_false, false_or, or_true, true_or, or_self, not_true_eq_false, not_false_eq_true, and_true, true_and, and_false, false_and, bI_T, bI_F, Int.reduceToNat, Nat.reduceAdd, Nat.reduceMul, Int.reduceNeg, Option.bind_some, Int.toNat_natCast])).trans ?_
          refine (if_pos (by rcases hu with rfl | rfl; exact Or.inl rfl; exact Or.inr rfl)).trans ?_
          refine obd (v := (iI (X 22 h.toNat + 10 * X 61 h.toNat), mk X Bx)) (by subst huv; simp (disch := first | omega | (simp (disch := omega) only [uA_n]; done) | fail) only [iI_lit, iI_add, iI_sub, iI_mul, iI_neg, iI_lt, iI_le, iI_eq, zlt_t, zlt_f, zle_t, zle_f, zeq_t, zeq_f, nle_t, nle_f, iI_cl, rA, rS, rB, wA, wS, wB, mkp, mk2, uA_s, uA_n, ud_s, ud_n, bI_0, bI_1, nor_s, ↓reduceIte, or_false, false_or, or_true, true_or, or_self, not_true_eq_false, not_false_eq_true, and_true, true_and, and_false, false_and, bI_T, bI_F, Int.reduceToNat, Nat.reduceAdd, Nat.reduceMul, Int.reduceNeg, Option.bind_some, Int.toNat_natCast, hX]; exact xc) ?_
          refine (if_neg (by simp (disch := first | omega | (simp (disch := omega) only [uA_n]; done) | fail) only [iI_lit, iI_add, iI_sub, iI_mul, iI_neg, iI_lt, iI_le, iI_eq, zlt_t, zlt_f, zle_t, zle_f, zeq_t, zeq_f, nle_t, nle_f, iI_cl, rA, rS, rB, wA, wS, wB, mkp, mk2, uA_s, uA_n, ud_s, ud_n, bI_0, bI_1, nor_s, ↓reduceIte, or_false, false_or, or_true, true_or, or_self, not_true_eq_false, not_false_eq_true, and_true, true_and, and_false, false_and, bI_T, bI_F, Int.reduceToNat, Nat.reduceAdd, Nat.reduceMul, Int.reduceNeg, Option.bind_some, Int.toNat_natCast])).trans ?_
          have v1 : (mk X Bx).1 23 (iI h).toNatClampNeg = iI (X 23 h.toNat) := by simp (disch := first | omega | (simp (disch := omega) only [uA_n]; done) | fail) only [iI_lit, iI_add, iI_sub, iI_mul, iI_neg, iI_lt, iI_le, iI_eq, zlt_t, zlt_f, zle_t, zle_f, zeq_t, zeq_f, nle_t, nle_f, iI_cl, rA, rS, rB, wA, wS, wB, mkp, mk2, uA_s, uA_n, ud_s, ud_n, bI_0, bI_1, nor_s, ↓reduceIte, or_false, false_or, or_true, true_or, or_self, not_true_eq_false, not_false_eq_true, and_true, true_and, and_false, false_and, bI_T, bI_F, Int.reduceToNat, Nat.reduceAdd, Nat.reduceMul, Int.reduceNeg, Option.bind_some, Int.toNat_natCast]
          have v2 : (mk X Bx).1 16 9 = iI (X 16 9) := by simp (disch := first | omega | (simp (disch := omega) only [uA_n]; done) | fail) only [iI_lit, iI_add, iI_sub, iI_mul, iI_neg, iI_lt, iI_le, iI_eq, zlt_t, zlt_f, zle_t, zle_f, zeq_t, zeq_f, nle_t, nle_f, iI_cl, rA, rS, rB, wA, wS, wB, mkp, mk2, uA_s, uA_n, ud_s, ud_n, bI_0, bI_1, nor_s, ↓reduceIte, or_false, false_or, or_true, true_or, or_self, not_true_eq_false, not_false_eq_true, and_true, true_and, and_false, false_and, bI_T, bI_F, Int.reduceToNat, Nat.reduceAdd, Nat.reduceMul, Int.reduceNeg, Option.bind_some, Int.toNat_natCast]
          show (if (mk X Bx).1 23 (iI h).toNatClampNeg ≤ iI (X 22 h.toNat + 10 * X 61 h.toNat) then _ else ((f_Papers_nextToSell F (iI h) ((mk X Bx).1 16 9) (mk X Bx)).bind _)) = _
          rw [v1, v2]
          by_cases hle : iI (X 23 h.toNat) ≤ iI (X 22 h.toNat + 10 * X 61 h.toNat)
          · refine (if_pos hle).trans (Eq.trans ?_ (if_pos hle).symm)
            exact congrArg (fun z => f_World_sellBills_66 F k2 q (iI h) (iI (-1)) z (mk X Bx)) (iI_add (i : Int) 1)
          · refine (if_neg hle).trans (Eq.trans ?_ (if_neg hle).symm)
            exact obd (v := (iI N, mk X Bx)) xn (congrArg (fun z => f_World_sellBills_66 F k2 q (iI h) (iI N) z (mk X Bx)) (iI_add (i : Int) 1))
        rw [f_World_sellBills_66]
        refine (if_neg (by simp (disch := first | omega | (simp (disch := omega) only [uA_n]; done) | fail) only [iI_lit, iI_add, iI_sub, iI_mul, iI_neg, iI_lt, iI_le, iI_eq, zlt_t, zlt_f, zle_t, zle_f, zeq_t, zeq_f, nle_t, nle_f, iI_cl, rA, rS, rB, wA, wS, wB, mkp, mk2, uA_s, uA_n, ud_s, ud_n, bI_0, bI_1, nor_s, ↓reduceIte, or_false, false_or, or_true, true_or, or_self, not_true_eq_false, not_false_eq_true, and_true, true_and, and_false, false_and, bI_T, bI_F, Int.reduceToNat, Nat.reduceAdd, Nat.reduceMul, Int.reduceNeg, Option.bind_some, Int.toNat_natCast])).trans ((if_neg (by simp (disch := first | omega | (simp (disch := omega) only [uA_n]; done) | fail) only [iI_lit, iI_add, iI_sub, iI_mul, iI_neg, iI_lt, iI_le, iI_eq, zlt_t, zlt_f, zle_t, zle_f, zeq_t, zeq_f, nle_t, nle_f, iI_cl, rA, rS, rB, wA, wS, wB, mkp, mk2, uA_s, uA_n, ud_s, ud_n, bI_0, bI_1, nor_s, ↓reduceIte, or_false, false_or, or_true, true_or, or_self, not_true_eq_false, not_false_eq_true, and_true, true_and, and_false, false_and, bI_T, bI_F, Int.reduceToNat, Nat.reduceAdd, Nat.reduceMul, Int.reduceNeg, Option.bind_some, Int.toNat_natCast])).trans ?_)
        refine obd (v := (iI r, mk A1 Bx)) x1 ?_
        by_cases hr : r = 0
        · refine (if_pos (by rw [hr]; rfl)).trans ?_
          exact w103 1 (Or.inr rfl) (by rw [← hv, bI_t hr])
        · refine (if_neg (by show ¬ (iI r = iI 0); rw [iI_eq (by omega) (by omega) (by omega) (by omega)]; exact hr)).trans ?_
          exact w103 0 (Or.inl rfl) (by rw [← hv, bI_f hr])
      have wy : f_m_sells_22 F (q2 + 1) (iI h) (iI p) (mk Ax B) = (if iI (X 23 h.toNat) ≤ iI (X 22 h.toNat + 10 * X 61 h.toNat) then f_m_sells_22 F q2 (iI h) (iI (-1)) (mk Ax Y2) else f_m_sells_22 F q2 (iI h) (iI N) (mk Ax Y2)) := by
        have w52 : f_m_sells_52 F (f_m_sells_22 F q2) (iI h) (mk Ax Y2) = (if iI (X 23 h.toNat) ≤ iI (X 22 h.toNat + 10 * X 61 h.toNat) then f_m_sells_22 F q2 (iI h) (iI (-1)) (mk Ax Y2) else f_m_sells_22 F q2 (iI h) (iI N) (mk Ax Y2)) := by
          unfold f_m_sells_52 f_m_sells_75
          refine obd (v := (iI (X 22 h.toNat + 10 * X 61 h.toNat), mk Ax Y2)) yc ?_
          refine obd (v := (iI (X 23 h.toNat), mk Ax Y2)) ym ?_
          by_cases hle : iI (X 23 h.toNat) ≤ iI (X 22 h.toNat + 10 * X 61 h.toNat)
          · exact (if_pos hle).trans (if_pos hle).symm
          · refine Eq.trans ?_ (if_neg hle).symm
            refine (if_neg hle).trans ?_
            exact obd (v := (iI N, mk Ax Y2)) yn rfl
        rw [← w52, f_m_sells_22]
        refine (if_neg (by simp (disch := first | omega | (simp (disch := omega) only [uA_n]; done) | fail) only [iI_lit, iI_add, iI_sub, iI_mul, iI_neg, iI_lt, iI_le, iI_eq, zlt_t, zlt_f, zle_t, zle_f, zeq_t, zeq_f, nle_t, nle_f, iI_cl, rA, rS, rB, wA, wS, wB, mkp, mk2, uA_s, uA_n, ud_s, ud_n, bI_0, bI_1, nor_s, ↓reduceIte, or_false, false_or, or_true, true_or, or_self, not_true_eq_false, not_false_eq_true, and_true, true_and, and_false, false_and, bI_T, bI_F, Int.reduceToNat, Nat.reduceAdd, Nat.reduceMul, Int.reduceNeg, Option.bind_some, Int.toNat_natCast])).trans ?_
        refine obd (v := (iI r, mk Ax Y1)) y1 ?_
        by_cases hr : r = 0
        · rw [if_pos hr] at ey
          have m1 : uA Y1 469 p 1 399 = Y1 399 := uA_n (by omega)
          refine (if_pos (by rw [hr]; rfl)).trans ?_
          refine (if_neg (by simp (disch := first | omega | (simp (disch := omega) only [uA_n]; done) | fail) only [iI_lit, iI_add, iI_sub, iI_mul, iI_neg, iI_lt, iI_le, iI_eq, zlt_t, zlt_f, zle_t, zle_f, zeq_t, zeq_f, nle_t, nle_f, iI_cl, rA, rS, rB, wA, wS, wB, mkp, mk2, uA_s, uA_n, ud_s, ud_n, bI_0, bI_1, nor_s, ↓reduceIte, or_false, false_or, or_true, true_or, or_self, not_true_eq_false, not_false_eq_true, and_true, true_and, and_false, false_and, bI_T, bI_F, Int.reduceToNat, Nat.reduceAdd, Nat.reduceMul, Int.reduceNeg, Option.bind_some, Int.toNat_natCast])).trans ?_
          rw [ey]
          simp (disch := first | omega | (simp (disch := omega) only [uA_n]; done) | fail) only [iI_lit, iI_add, iI_sub, iI_mul, iI_neg, iI_lt, iI_le, iI_eq, zlt_t, zlt_f, zle_t, zle_f, zeq_t, zeq_f, nle_t, nle_f, iI_cl, rA, rS, rB, wA, wS, wB, mkp, mk2, uA_s, uA_n, ud_s, ud_n, bI_0, bI_1, nor_s, ↓reduceIte, or_false, false_or, or_true, true_or, or_self, not_true_eq_false, not_false_eq_true, and_true, true_and, and_false, false_and, bI_T, bI_F, Int.reduceToNat, Nat.reduceAdd, Nat.reduceMul, Int.reduceNeg, Option.bind_some, Int.toNat_natCast, zP, mk2 m1]
        · rw [if_neg hr] at ey
          rw [ey]
          exact if_neg (by show ¬ (iI r = iI 0); rw [iI_eq (by omega) (by omega) (by omega) (by omega)]; exact hr)
      by_cases hle : iI (X 23 h.toNat) ≤ iI (X 22 h.toNat + 10 * X 61 h.toNat)
      · rw [if_pos hle] at wx wy
        rw [wx, wy]
        exact rest (-1) (Or.inl rfl)
      · rw [if_neg hle] at wx wy
        rw [wx, wy]
        exact rest N (Or.inr rfl)
end SELL
