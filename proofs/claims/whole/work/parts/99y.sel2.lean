/-! ALL HOUSES SELL -/
def fgA (A : hI) (e : Nat) : hI := fun k => if k = 45 then (fun s => if s < e then 0 else A 45 s) else A k
theorem fgA_n {A : hI} {e k : Nat} (h : k ≠ 45) : fgA A e k = A k := if_neg h
theorem fgA_s (A : hI) (e : Nat) : fgA A e 45 = fun s => if s < e then 0 else A 45 s := if_pos rfl
theorem fgA_0 (A : hI) : fgA A 0 = A := by
  funext k
  by_cases h : k = 45
  · subst h; rw [fgA_s]; funext s; exact if_neg (by omega)
  · rw [fgA_n h]
theorem fgA_u (A : hI) (e : Nat) : uA (fgA A e) 45 e 0 = fgA A (e + 1) := by
  funext k
  by_cases h : k = 45
  · subst h
    rw [uA_s, fgA_s, fgA_s]
    funext s
    by_cases hs : s = e
    · subst hs; rw [ud_s, if_pos (by omega)]
    · rw [ud_n hs]
      by_cases h2 : s < e
      · rw [if_pos h2, if_pos (by omega)]
      · rw [if_neg h2, if_neg (by omega)]
  · rw [uA_n h, fgA_n h, fgA_n h]
section SEL2
variable {K D : Int} {A0 B0 A B A' B' : hI} (F : Nat)
theorem ex_forget (R : RR K D A0 B0 A B) (hF : 1000 ≤ F) (Bx : hI) : f_Papers_forgetTurnedAway F (mk A Bx) = some ((), mk (fgA A (A 31 15).toNat) Bx) := by
  have h1 := R.gP.pe1
  have h2 := R.gP.pe2
  unfold f_Papers_forgetTurnedAway
  refine loopF (f := fun q (s : Int32 × mM) => f_Papers_forgetTurnedAway_2 F q s.1 s.2) (s := (0, mk A Bx)) (fun i s => s = (iI (i : Int), mk (fgA A i) Bx)) (fun t => t = some ((), mk (fgA A (A 31 15).toNat) Bx)) (A 31 15).toNat (by rw [fgA_0]; rfl) ?_ (by omega)
  rintro q i s hi rfl
  show f_Papers_forgetTurnedAway_2 F (q + 1) (iI (i : Int)) (mk (fgA A i) Bx) = _ ∨ _
  have e31 : fgA A i 31 = A 31 := fgA_n (by omega)
  rw [f_Papers_forgetTurnedAway_2]
  by_cases he : i = (A 31 15).toNat
  · refine Or.inl ?_
    have e : (i : Int) = A 31 15 := by omega
    rw [← he]
    simp (disch := first | omega | (simp (disch := omega) only [uA_n]; done) | fail) only [iI_lit, iI_add, iI_sub, iI_mul, iI_neg, iI_lt, iI_le, iI_eq, zlt_t, zlt_f, zle_t, zle_f, zeq_t, zeq_f, nle_t, nle_f, iI_cl, rA, rS, rB, wA, wS, wB, mkp, mk2, uA_s, uA_n, ud_s, ud_n, bI_0, bI_1, nor_s, ↓reduceIte, or_false, false_or, or_true, true_or, or_self, not_true_eq_false, not_false_eq_true, and_true, true_and, and_false, false_and, bI_T, bI_F, Int.reduceToNat, Nat.reduceAdd, Nat.reduceMul, Int.reduceNeg, Option.bind_some, Int.toNat_natCast, e31, e]
  · refine Or.inr ⟨by omega, (iI ((i + 1 : Nat) : Int), mk (fgA A (i + 1)) Bx), ?_, rfl⟩
    rw [← fgA_u]
    simp (disch := first | omega | (simp (disch := omega) only [uA_n]; done) | fail) only [iI_lit, iI_add, iI_sub, iI_mul, iI_neg, iI_lt, iI_le, iI_eq, zlt_t, zlt_f, zle_t, zle_f, zeq_t, zeq_f, nle_t, nle_f, iI_cl, rA, rS, rB, wA, wS, wB, mkp, mk2, uA_s, uA_n, ud_s, ud_n, bI_0, bI_1, nor_s, ↓reduceIte, or_false, false_or, or_true, true_or, or_self, not_true_eq_false, not_false_eq_true, and_true, true_and, and_false, false_and, bI_T, bI_F, Int.reduceToNat, Nat.reduceAdd, Nat.reduceMul, Int.reduceNeg, Option.bind_some, Int.toNat_natCast, e31]
    rfl
theorem RR.sellAll (hF : 1000 ≤ F) (hK : K ≤ 1000000000) (Ax Bx : hI) (v1 v2 : Int32) : ∀ (r h q q2 : Nat) (B1 A B : hI), (r : Int) = A 19 11 - h → 1 ≤ h → r < q → r < q2 → (∀ k : Nat, k ≠ 469 → B1 k = B0 k) → RR K D A0 B1 A B → (∀ s, s < 60 → 0 ≤ B 469 s ∧ B 469 s ≤ 1) → (∀ s, s < 60 → A 32 s = 1 → B 469 s ≠ 0 → A 35 s < h) → ∃ B2 A' B' : hI, f_World_sellBills_2 F q (iI h) (mk A Bx) = some ((), mk A' Bx) ∧ f_m_close_166 F q2 v1 v2 (iI h) (mk Ax B) = f_m_close_197 F F v1 v2 (iI 1) (mk Ax B') ∧ (∀ k : Nat, k ≠ 469 → B2 k = B0 k) ∧ RR K D A0 B2 A' B' ∧ selG A A' (60 * r) := by
  intro r
  induction r with
  | zero =>
    intro h q q2 B1 A B hr h1 hq hq2 hB1 R h469 hFI
    obtain ⟨q, rfl⟩ : ∃ s, q = s + 1 := ⟨q - 1, by omega⟩
    obtain ⟨q2, rfl⟩ : ∃ s, q2 = s + 1 := ⟨q2 - 1, by omega⟩
    have hn3 := R.gH.hn3
    have hn2 := R.gH.hn2
    have e : A 19 11 = (h : Int) := by omega
    rw [e] at hn3
    refine ⟨B1, A, B, ?_, ?_, hB1, R, selG.rf A⟩
    · rw [f_World_sellBills_2]
      simp (disch := first | omega | (simp (disch := omega) only [uA_n]; done) | fail) only [iI_lit, iI_add, iI_sub, iI_mul, iI_neg, iI_lt, iI_le, iI_eq, zlt_t, zlt_f, zle_t, zle_f, zeq_t, zeq_f, nle_t, nle_f, iI_cl, rA, rS, rB, wA, wS, wB, mkp, mk2, uA_s, uA_n, ud_s, ud_n, bI_0, bI_1, nor_s, ↓reduceIte, or_false, false_or, or_true, true_or, or_self, not_true_eq_false, not_false_eq_true, and_true, true_and, and_false, false_and, bI_T, bI_F, Int.reduceToNat, Nat.reduceAdd, Nat.reduceMul, Int.reduceNeg, Option.bind_some, Int.toNat_natCast, e]
    · rw [f_m_close_166]
      simp (disch := first | omega | (simp (disch := omega) only [uA_n]; done) | fail) only [iI_lit, iI_add, iI_sub, iI_mul, iI_neg, iI_lt, iI_le, iI_eq, zlt_t, zlt_f, zle_t, zle_f, zeq_t, zeq_f, nle_t, nle_f, iI_cl, rA, rS, rB, wA, wS, wB, mkp, mk2, uA_s, uA_n, ud_s, ud_n, bI_0, bI_1, nor_s, ↓reduceIte, or_false, false_or, or_true, true_or, or_self, not_true_eq_false, not_false_eq_true, and_true, true_and, and_false, false_and, bI_T, bI_F, Int.reduceToNat, Nat.reduceAdd, Nat.reduceMul, Int.reduceNeg, Option.bind_some, Int.toNat_natCast, dS, hn3]
  | succ r ih =>
    intro h q q2 B1 A B hr h1 hq hq2 hB1 R h469 hFI
    obtain ⟨q, rfl⟩ : ∃ s, q = s + 1 := ⟨q - 1, by omega⟩
    obtain ⟨q2, rfl⟩ : ∃ s, q2 = s + 1 := ⟨q2 - 1, by omega⟩
    have hn3 := R.gH.hn3
    have hn2 := R.gH.hn2
    have hpe1 := R.gP.pe1
    have hpe2 := R.gP.pe2
    have hd1 := R.gD.dd1
    have hd2 := R.gD.dd2
    have hlt : (h : Int) < A 19 11 := by omega
    have xu := ex_isUp F R Bx (h : Int) (by omega) hlt
    have yu := em_isUp F R Ax (h : Int) (by omega) hlt
    rw [Int.toNat_natCast] at xu yu
    -- on with the next house
    have go : ∀ (B3 X Y : hI) (n : Int), (∀ k : Nat, k ≠ 469 → B3 k = B0 k) → RR K D A0 B3 X Y → (∀ s, s < 60 → 0 ≤ Y 469 s ∧ Y 469 s ≤ 1) → (∀ s, s < 60 → X 32 s = 1 → Y 469 s ≠ 0 → X 35 s ≤ h) → selG A X n → n ≤ 60 → ∃ B2 A' B' : hI, f_World_sellBills_2 F q (iI ((h : Int) + 1)) (mk X Bx) = some ((), mk A' Bx) ∧ f_m_close_166 F q2 v1 v2 (iI ((h : Int) + 1)) (mk Ax Y) = f_m_close_197 F F v1 v2 (iI 1) (mk Ax B') ∧ (∀ k : Nat, k ≠ 469 → B2 k = B0 k) ∧ RR K D A0 B2 A' B' ∧ selG A A' (60 * ((r + 1 : Nat) : Int)) := fun B3 X Y n g1 g2 g3 g4 g5 g6 => by
      obtain ⟨B4, X4, Y4, u1, u2, u3, u4, u5⟩ := ih (h + 1) q q2 B3 X Y (by rw [g5.1.2.1]; omega) (by omega) (by omega) (by omega) g1 g2 g3 (fun s hs z1 z2 => by have := g4 s hs z1 z2; omega)
      exact ⟨B4, X4, Y4, u1, u2, u3, u4, (g5.tr u5).le (by omega)⟩
    by_cases hup : A 27 h = -1
    · rw [bI_t hup] at xu yu
      have xc := ex_coin F R hK Bx (h := (h : Int)) (by omega) hlt
      have yc := em_coin F R hF hK Ax (h := (h : Int)) (by omega) hlt
      rw [Int.toNat_natCast] at xc yc
      have hm := R.gH.hm h (by omega)
      have hm1 := R.gH.hm1 h hlt
      have gl := R.gle (h := h) hlt
      have hld := R.held (h := h) (by omega) (by omega)
      have ym := em_hs F (h : Int) 4 Ax B (by omega) (by omega) (by omega) (by omega)
      have ym : f_m_hs F (iI h) (4 : Int32) (mk Ax B) = some (iI (A 23 h), mk Ax B) := ym.trans (by rw [Int.toNat_natCast]; show some (iI (B 414 h), _) = _; rw [hm])
      by_cases hlow : A 22 h + 10 * A 61 h < A 23 h
      · -- it sells
        have R1 : RR K D A0 B1 (fgA A (A 31 15).toNat) B := R.xA (fun k _ h2 _ => fgA_n h2)
        have xf := ex_forget F R hF Bx
        generalize hX : fgA A (A 31 15).toNat = X at *
        have fX : ∀ k : Nat, k ≠ 45 → X k = A k := fun k hk => by rw [← hX]; exact fgA_n hk
        have x45 : ∀ s, X 45 s = if s < (A 31 15).toNat then 0 else A 45 s := fun s => by rw [← hX, fgA_s]
        have h45 : ∀ s : Nat, (s : Int) < X 31 15 → 0 ≤ X 45 s ∧ X 45 s ≤ 1 := fun s hs => by
          rw [fX 31 (by omega)] at hs
          rw [x45, if_pos (by omega)]; omega
        have e32 : X 32 = A 32 := fX 32 (by omega)
        have e35 : X 35 = A 35 := fX 35 (by omega)
        have hend : ∀ s, s < 60 → A 32 s = 1 → s < (A 31 15).toNat := fun s hs z => by
          by_cases he : A 31 15 ≤ (s : Int)
          · have := R.gP.pe3 s hs he; omega
          · omega
        have hFR : ∀ s, s < 60 → X 32 s = 1 → X 35 s = h → X 45 s = B 469 s := fun s hs z1 z2 => by
          rw [e32] at z1
          rw [e35] at z2
          rw [x45, if_pos (hend s hs z1)]
          by_cases hz : B 469 s = 0
          · exact hz.symm
          · have := hFI s hs z1 hz; omega
        have hFI2 : ∀ s, s < 60 → X 32 s = 1 → B 469 s ≠ 0 → X 35 s ≤ (h : Int) := fun s hs z1 z2 => by
          rw [e32] at z1
          rw [e35]
          have := hFI s hs z1 z2
          omega
        have csend : ∀ s, s < 60 → cS X (X 45) h s → (s : Int) < A 31 15 := fun s hs z => by
          have := hend s hs (by rw [← e32]; exact z.1)
          omega
        have hcle : sm 60 (fun s => bI (cS X (X 45) h s)) ≤ A 31 15 := by
          have l := sm_le (n := 60) (f := fun s => bI (cS X (X 45) h s)) (g := fun s => bI ((s : Int) < A 31 15)) (fun s hs => by
            by_cases z : cS X (X 45) h s
            · rw [bI_t z, bI_t (csend s hs z)]; exact Int.le_refl _
            · rw [bI_f z]; exact (bI_nn _).1)
          rw [sm_lt 60 (A 31 15) hpe1 (by omega)] at l
          exact l
        have hcnn := (sm_cnt 60 (fun s => cS X (X 45) h s)).1
        obtain ⟨c, hc⟩ : ∃ c : Nat, (c : Int) = sm 60 (fun s => bI (cS X (X 45) h s)) := ⟨(sm 60 (fun s => bI (cS X (X 45) h s))).toNat, by omega⟩
        generalize hN : nS X (X 45) h 60 0 (-1) = N at *
        have nrg := nS_rg (A := X) (fl := X 45) (h := (h : Int)) 60 0 (-1)
        rw [hN] at nrg
        have nrg2 : N = -1 ∨ (0 ≤ N ∧ N < 60 ∧ cS X (X 45) h N.toNat) := by
          rcases nrg with ⟨e, -⟩ | ⟨e1, e2, e3⟩
          · exact Or.inl e
          · exact Or.inr ⟨by omega, by omega, e3⟩
        have hN0 : c = 0 → N = -1 := fun z => by
          rcases nrg with ⟨e, -⟩ | ⟨e1, e2, e3⟩
          · exact e
          · exfalso
            have one := sm_one (n := 60) (j := N.toNat) (f := fun s => bI (cS X (X 45) h s)) (by omega) (fun s _ => (bI_nn _).1)
            rw [← hc, bI_t e3] at one
            omega
        have xn := ex_next F R1 Bx (h := (h : Int)) (by omega) h45 60 0 F (-1) rfl (by rw [fX 31 (by omega)]; exact hpe1) (by omega) (Or.inl rfl)
        rw [hN] at xn
        have yn := em_nextS F R1 Ax (h := (h : Int)) (by omega) h469 60 0 F (-1) rfl (by omega) (Or.inl rfl)
        rw [← nS_c (f1 := X 45) (f2 := B 469) 60 0 (-1) (fun j _ hj => ⟨fun z => ⟨z.1, z.2.1, z.2.2.1, z.2.2.2.1, z.2.2.2.2.1, z.2.2.2.2.2.1, by rw [← hFR j (by omega) z.1 z.2.1]; exact z.2.2.2.2.2.2⟩, fun z => ⟨z.1, z.2.1, z.2.2.1, z.2.2.2.1, z.2.2.2.2.1, z.2.2.2.2.2.1, by rw [hFR j (by omega) z.1 z.2.1]; exact z.2.2.2.2.2.2⟩⟩), hN] at yn
        obtain ⟨B3, X3, Y3, s1, s2, s3, s4, s5, s6, s7⟩ := RR.sell1 (D := D) (A0 := A0) (B0 := B0) F hF hK Ax Bx (h := (h : Int)) (by omega) (f_World_sellBills_2 F q) c 0 F F B1 X B N hc (by rw [fX 31 (by omega)]; omega) (by omega) (by omega) hB1 R1 (by rw [fX 19 (by omega)]; exact hlt) h45 h469 hFR hFI2 nrg2 hN0
        have sel0 : selG A X 0 := ⟨⟨fX 31 (by omega), fX 19 (by omega), fX 46 (by omega), fX 53 (by omega), fX 23 (by omega), fX 27 (by omega)⟩, fun j _ => by rw [fX 16 (by omega)], by rw [fX 16 (by omega)]; exact Int.le_refl _, by rw [fX 16 (by omega)]; omega⟩
        obtain ⟨B4, X4, Y4, u1, u2, u3, u4, u5⟩ := go B3 X3 Y3 (0 + c) s3 s4 s5 s6 (sel0.tr s7) (by omega)
        refine ⟨B4, X4, Y4, ?_, ?_, u3, u4, u5⟩
        · refine Eq.trans ?_ (s1.trans u1)
          rw [f_World_sellBills_2]
          refine (if_neg (by simp (disch := first | omega | (simp (disch := omega) only [uA_n]; done) | fail) only [iI_lit, iI_add, iI_sub, iI_mul, iI_neg, iI_lt, iI_le, iI_eq, zlt_t, zlt_f, zle_t, zle_f, zeq_t, zeq_f, nle_t, nle_f, iI_cl, rA, rS, rB, wA, wS, wB, mkp, mk2, uA_s, uA_n, ud_s, ud_n, bI_0, bI_1, nor_s, ↓reduceIte, or_false, false_or, or_true, true_or, or_self, not_true_eq_false, not_false_eq_true, and_true, true_and, and_false, false_and, bI_T, bI_F, Int.reduceToNat, Nat.reduceAdd, Nat.reduceMul, Int.reduceNeg, Option.bind_some, Int.toNat_natCast])).trans ?_
          refine obd (v := (iI 1, mk A Bx)) xu ?_
          refine (if_neg i1n0).trans ?_
          refine obd (v := (iI (A 22 h + 10 * A 61 h), mk A Bx)) xc ?_
          refine (if_neg (by simp (disch := first | omega | (simp (disch := omega) only [uA_n]; done) | fail) only [iI_lit, iI_add, iI_sub, iI_mul, iI_neg, iI_lt, iI_le, iI_eq, zlt_t, zlt_f, zle_t, zle_f, zeq_t, zeq_f, nle_t, nle_f, iI_cl, rA, rS, rB, wA, wS, wB, mkp, mk2, uA_s, uA_n, ud_s, ud_n, bI_0, bI_1, nor_s, ↓reduceIte, or_false, false_or, or_true, true_or, or_self, not_true_eq_false, not_false_eq_true, and_true, true_and, and_false, false_and, bI_T, bI_F, Int.reduceToNat, Nat.reduceAdd, Nat.reduceMul, Int.reduceNeg, Option.bind_some, Int.toNat_natCast])).trans ((if_pos (by simp (disch := first | omega | (simp (disch := omega) only [uA_n]; done) | fail) only [iI_lit, iI_add, iI_sub, iI_mul, iI_neg, iI_lt, iI_le, iI_eq, zlt_t, zlt_f, zle_t, zle_f, zeq_t, zeq_f, nle_t, nle_f, iI_cl, rA, rS, rB, wA, wS, wB, mkp, mk2, uA_s, uA_n, ud_s, ud_n, bI_0, bI_1, nor_s, ↓reduceIte, or_false, false_or, or_true, true_or, or_self, not_true_eq_false, not_false_eq_true, and_true, true_and, and_false, false_and, bI_T, bI_F, Int.reduceToNat, Nat.reduceAdd, Nat.reduceMul, Int.reduceNeg, Option.bind_some, Int.toNat_natCast])).trans ?_)
          refine obd (v := ((), mk X Bx)) xf ?_
          have v2' : (mk X Bx).1 16 9 = iI (X 16 9) := by simp (disch := first | omega | (simp (disch := omega) only [uA_n]; done) | fail) only [iI_lit, iI_add, iI_sub, iI_mul, iI_neg, iI_lt, iI_le, iI_eq, zlt_t, zlt_f, zle_t, zle_f, zeq_t, zeq_f, nle_t, nle_f, iI_cl, rA, rS, rB, wA, wS, wB, mkp, mk2, uA_s, uA_n, ud_s, ud_n, bI_0, bI_1, nor_s, ↓reduceIte, or_false, false_or, or_true, true_or, or_self, not_true_eq_false, not_false_eq_true, and_true, true_and, and_false, false_and, bI_T, bI_F, Int.reduceToNat, Nat.reduceAdd, Nat.reduceMul, Int.reduceNeg, Option.bind_some, Int.toNat_natCast]
          refine obd (v := (iI N, mk X Bx)) (by show f_Papers_nextToSell F (iI h) ((mk X Bx).1 16 9) (mk X Bx) = _; rw [v2']; exact xn) ?_
          rfl
        · refine Eq.trans ?_ u2
          rw [f_m_close_166]
          simp only [f_m_close_189]
          refine (if_neg (by simp (disch := first | omega | (simp (disch := omega) only [uA_n]; done) | fail) only [iI_lit, iI_add, iI_sub, iI_mul, iI_neg, iI_lt, iI_le, iI_eq, zlt_t, zlt_f, zle_t, zle_f, zeq_t, zeq_f, nle_t, nle_f, iI_cl, rA, rS, rB, wA, wS, wB, mkp, mk2, uA_s, uA_n, ud_s, ud_n, bI_0, bI_1, nor_s, ↓reduceIte, or_false, false_or, or_true, true_or, or_self, not_true_eq_false, not_false_eq_true, and_true, true_and, and_false, false_and, bI_T, bI_F, Int.reduceToNat, Nat.reduceAdd, Nat.reduceMul, Int.reduceNeg, Option.bind_some, Int.toNat_natCast, dS, hn3])).trans ?_
          refine obd (v := (iI 1, mk Ax B)) yu ?_
          refine (if_neg i1n0).trans ?_
          refine obd (v := ((), mk Ax Y3)) ?_ (congrArg (fun z => f_m_close_166 F q2 v1 v2 z (mk Ax Y3)) (iI_add (h : Int) 1))
          unfold f_m_sells
          refine obd (v := (iI (A 22 h + 10 * A 61 h), mk Ax B)) yc ?_
          refine obd (v := (iI (A 23 h), mk Ax B)) ym ?_
          refine (if_neg (by simp (disch := first | omega | (simp (disch := omega) only [uA_n]; done) | fail) only [iI_lit, iI_add, iI_sub, iI_mul, iI_neg, iI_lt, iI_le, iI_eq, zlt_t, zlt_f, zle_t, zle_f, zeq_t, zeq_f, nle_t, nle_f, iI_cl, rA, rS, rB, wA, wS, wB, mkp, mk2, uA_s, uA_n, ud_s, ud_n, bI_0, bI_1, nor_s, ↓reduceIte, or_false, false_or, or_true, true_or, or_self, not_true_eq_false, not_false_eq_true, and_true, true_and, and_false, false_and, bI_T, bI_F, Int.reduceToNat, Nat.reduceAdd, Nat.reduceMul, Int.reduceNeg, Option.bind_some, Int.toNat_natCast])).trans ?_
          exact obd (v := (iI N, mk Ax B)) yn s2
      · obtain ⟨B4, X4, Y4, u1, u2, u3, u4, u5⟩ := go B1 A B 0 hB1 R h469 (fun s hs z1 z2 => by have := hFI s hs z1 z2; omega) (selG.rf A) (by omega)
        refine ⟨B4, X4, Y4, ?_, ?_, u3, u4, u5⟩
        · refine Eq.trans ?_ u1
          rw [f_World_sellBills_2]
          simp only [f_World_sellBills_144]
          refine (if_neg (by simp (disch := first | omega | (simp (disch := omega) only [uA_n]; done) | fail) only [iI_lit, iI_add, iI_sub, iI_mul, iI_neg, iI_lt, iI_le, iI_eq, zlt_t, zlt_f, zle_t, zle_f, zeq_t, zeq_f, nle_t, nle_f, iI_cl, rA, rS, rB, wA, wS, wB, mkp, mk2, uA_s, uA_n, ud_s, ud_n, bI_0, bI_1, nor_s, ↓reduceIte, or_false, false_or, or_true, true_or, or_self, not_true_eq_false, not_false_eq_true, and_true, true_and, and_false, false_and, bI_T, bI_F, Int.reduceToNat, Nat.reduceAdd, Nat.reduceMul, Int.reduceNeg, Option.bind_some, Int.toNat_natCast])).trans ?_
          refine obd (v := (iI 1, mk A Bx)) xu ?_
          refine (if_neg i1n0).trans ?_
          refine obd (v := (iI (A 22 h + 10 * A 61 h), mk A Bx)) xc ?_
          refine (if_neg (by simp (disch := first | omega | (simp (disch := omega) only [uA_n]; done) | fail) only [iI_lit, iI_add, iI_sub, iI_mul, iI_neg, iI_lt, iI_le, iI_eq, zlt_t, zlt_f, zle_t, zle_f, zeq_t, zeq_f, nle_t, nle_f, iI_cl, rA, rS, rB, wA, wS, wB, mkp, mk2, uA_s, uA_n, ud_s, ud_n, bI_0, bI_1, nor_s, ↓reduceIte, or_false, false_or, or_true, true_or, or_self, not_true_eq_false, not_false_eq_true, and_true, true_and, and_false, false_and, bI_T, bI_F, Int.reduceToNat, Nat.reduceAdd, Nat.reduceMul, Int.reduceNeg, Option.bind_some, Int.toNat_natCast])).trans ((if_neg (by simp (disch := first | omega | (simp (disch := omega) only [uA_n]; done) | fail) only [iI_lit, iI_add, iI_sub, iI_mul, iI_neg, iI_lt, iI_le, iI_eq, zlt_t, zlt_f, zle_t, zle_f, zeq_t, zeq_f, nle_t, nle_f, iI_cl, rA, rS, rB, wA, wS, wB, mkp, mk2, uA_s, uA_n, ud_s, ud_n, bI_0, bI_1, nor_s, ↓reduceIte, or_false, false_or, or_true, true_or, or_self, not_true_eq_false, not_false_eq_true, and_true, true_and, and_false, false_and, bI_T, bI_F, Int.reduceToNat, Nat.reduceAdd, Nat.reduceMul, Int.reduceNeg, Option.bind_some, Int.toNat_natCast])).trans (congrArg (fun z => f_World_sellBills_2 F q z (mk A Bx)) (iI_add (h : Int) 1)))
        · refine Eq.trans ?_ u2
          rw [f_m_close_166]
          simp only [f_m_close_189]
          refine (if_neg (by simp (disch := first | omega | (simp (disch := omega) only [uA_n]; done) | fail) only [iI_lit, iI_add, iI_sub, iI_mul, iI_neg, iI_lt, iI_le, iI_eq, zlt_t, zlt_f, zle_t, zle_f, zeq_t, zeq_f, nle_t, nle_f, iI_cl, rA, rS, rB, wA, wS, wB, mkp, mk2, uA_s, uA_n, ud_s, ud_n, bI_0, bI_1, nor_s, ↓reduceIte, or_false, false_or, or_true, true_or, or_self, not_true_eq_false, not_false_eq_true, and_true, true_and, and_false, false_and, bI_T, bI_F, Int.reduceToNat, Nat.reduceAdd, Nat.reduceMul, Int.reduceNeg, Option.bind_some, Int.toNat_natCast, dS, hn3])).trans ?_
          refine obd (v := (iI 1, mk Ax B)) yu ?_
          refine (if_neg i1n0).trans ?_
          refine obd (v := ((), mk Ax B)) ?_ (congrArg (fun z => f_m_close_166 F q2 v1 v2 z (mk Ax B)) (iI_add (h : Int) 1))
          unfold f_m_sells
          refine obd (v := (iI (A 22 h + 10 * A 61 h), mk Ax B)) yc ?_
          refine obd (v := (iI (A 23 h), mk Ax B)) ym ?_
          refine (if_pos (by simp (disch := first | omega | (simp (disch := omega) only [uA_n]; done) | fail) only [iI_lit, iI_add, iI_sub, iI_mul, iI_neg, iI_lt, iI_le, iI_eq, zlt_t, zlt_f, zle_t, zle_f, zeq_t, zeq_f, nle_t, nle_f, iI_cl, rA, rS, rB, wA, wS, wB, mkp, mk2, uA_s, uA_n, ud_s, ud_n, bI_0, bI_1, nor_s, ↓reduceIte, or_false, false_or, or_true, true_or, or_self, not_true_eq_false, not_false_eq_true, and_true, true_and, and_false, false_and, bI_T, bI_F, Int.reduceToNat, Nat.reduceAdd, Nat.reduceMul, Int.reduceNeg, Option.bind_some, Int.toNat_natCast])).trans ?_
          obtain ⟨F', hF'⟩ : ∃ F', F = F' + 1 := ⟨F - 1, by omega⟩
          have : ∀ Q : Nat, Q = F → f_m_sells_22 F Q (iI h) (-1) (mk Ax B) = some ((), mk Ax B) := fun Q hQ => by
            obtain ⟨Q', rfl⟩ : ∃ Q', Q = Q' + 1 := ⟨Q - 1, by omega⟩
            rw [f_m_sells_22]
            exact if_pos rfl
          exact this F rfl
    · rw [bI_f hup] at xu yu
      obtain ⟨B4, X4, Y4, u1, u2, u3, u4, u5⟩ := go B1 A B 0 hB1 R h469 (fun s hs z1 z2 => by have := hFI s hs z1 z2; omega) (selG.rf A) (by omega)
      refine ⟨B4, X4, Y4, ?_, ?_, u3, u4, u5⟩
      · refine Eq.trans ?_ u1
        rw [f_World_sellBills_2]
        simp only [f_World_sellBills_144]
        refine (if_neg (by simp (disch := first | omega | (simp (disch := omega) only [uA_n]; done) | fail) only [iI_lit, iI_add, iI_sub, iI_mul, iI_neg, iI_lt, iI_le, iI_eq, zlt_t, zlt_f, zle_t, zle_f, zeq_t, zeq_f, nle_t, nle_f, iI_cl, rA, rS, rB, wA, wS, wB, mkp, mk2, uA_s, uA_n, ud_s, ud_n, bI_0, bI_1, nor_s, ↓reduceIte, or_false, false_or, or_true, true_or, or_self, not_true_eq_false, not_false_eq_true, and_true, true_and, and_false, false_and, bI_T, bI_F, Int.reduceToNat, Nat.reduceAdd, Nat.reduceMul, Int.reduceNeg, Option.bind_some, Int.toNat_natCast])).trans ?_
        refine obd (v := (iI 0, mk A Bx)) xu ?_
        exact (if_pos rfl).trans (congrArg (fun z => f_World_sellBills_2 F q z (mk A Bx)) (iI_add (h : Int) 1))
      · refine Eq.trans ?_ u2
        rw [f_m_close_166]
        simp only [f_m_close_189]
        refine (if_neg (by simp (disch := first | omega | (simp (disch := omega) only [uA_n]; done) | fail) only [iI_lit, iI_add, iI_sub, iI_mul, iI_neg, iI_lt, iI_le, iI_eq, zlt_t, zlt_f, zle_t, zle_f, zeq_t, zeq_f, nle_t, nle_f, iI_cl, rA, rS, rB, wA, wS, wB, mkp, mk2, uA_s, uA_n, ud_s, ud_n, bI_0, bI_1, nor_s, ↓reduceIte, or_false, false_or, or_true, true_or, or_self, not_true_eq_false, not_false_eq_true, and_true, true_and, and_false, false_and, bI_T, bI_F, Int.reduceToNat, Nat.reduceAdd, Nat.reduceMul, Int.reduceNeg, Option.bind_some, Int.toNat_natCast, dS, hn3])).trans ?_
        refine obd (v := (iI 0, mk Ax B)) yu ?_
        exact (if_pos rfl).trans (congrArg (fun z => f_m_close_166 F q2 v1 v2 z (mk Ax B)) (iI_add (h : Int) 1))
end SEL2
