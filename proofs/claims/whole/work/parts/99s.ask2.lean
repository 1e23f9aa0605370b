/-! A NAME IS ASKED, whole -/
section ASK2
variable {K D : Int} {A0 B0 A B A' B' : hI} (F : Nat)
theorem RR.askName (R : RR K D A0 B0 A B) (hG : ∀ q, B0 350 q = 0) (hF : 1000 ≤ F) (hK : K ≤ 1000000000) (Ax Bx : hI) {p : Nat} (hp : p < 60) (hs : A 37 p = 1) : ∃ A' B' : hI, f_World_askName F (iI p) (mk A Bx) = some ((), mk A' Bx) ∧ f_m_asksName F (iI p) (mk Ax B) = some ((), mk Ax B') ∧ RR K D A0 B0 A' B' ∧ A' 31 = A 31 ∧ A' 16 = A 16 ∧ A' 19 11 = A 19 11 ∧ A' 46 = A 46 ∧ A' 53 = A 53 := by
  have hn2 := R.gH.hn2
  have kr := R.kr hp
  have h1 : A 32 p = 1 := by
    by_cases h1 : A 32 p = 1
    · exact h1
    · exact absurd hs (R.gP.pnb p hp (by omega) h1).2.2
  have b350 : ∀ q, B 350 q = 0 := fun q => by rw [R.sb.1 350 (by omega)]; exact hG q
  have hn := R.nopl (p := p) (by omega)
  obtain ⟨N, M⟩ := R.nm hp h1
  have P := R.gP
  have hbn := P.pbn p hp h1
  have hbi := fun i hi => (P.pbi p i hp h1 hi).2
  have pd := P.pd p hp (by omega)
  have ph := P.ph p hp (by omega)
  have ps := P.ps p hp (by omega)
  have pst := P.pst p hp (by omega)
  have pnc := P.pnc p hp (by omega)
  have pas := P.pas p hp (by omega)
  obtain ⟨j, j1, j2, j3, j4⟩ := P.ppr p hp h1 hs (b350 p)
  have ha0 : nta A p ≠ 0 := nt_some j1 (by omega) j3 j4
  have na := nt_rg A p (A 39 p - 1).toNat
  change nta A p ≤ _ ∧ (nta A p ≠ 0 → _) ∧ _ at na
  obtain ⟨n1, n2⟩ := na.2.1 ha0
  have x0 := ex_nta F (A := A) Bx N hF
  have y0 := em_nta F (A := A) (B := B) Ax N M hF
  change f_Papers_nameThatAnswers F (iI p) (mk A Bx) = some (iI (if nta A p = 0 then -1 else (nta A p : Int)), mk A Bx) at x0
  change f_m_nextName F (iI p) (mk Ax B) = some (iI (nta A p : Int), mk Ax B) at y0
  rw [if_neg ha0] at x0
  have har : nta A p ≤ (A 39 p - 1).toNat := na.1
  clear na
  generalize nta A p = a at *
  have nm := hbi a (by omega)
  have mm := M.2.1 a (by omega)
  -- the ghost
  have eh : ∀ k : Nat, k ≠ 350 → uA B 350 p 1 k = B k := fun k hk => uA_n hk
  have G1 : RR K D A0 (uA B 350 p 1) A (uA B 350 p 1) := R.gh eh (SB.rf _) (fun q _ _ _ _ z => absurd (b350 q) z)
  generalize hBh : uA B 350 p 1 = Bh at *
  have bh : Bh 350 = ud (B 350) p 1 := by rw [← hBh, uA_s]
  generalize hX : uA A 39 p (a : Int) = X at *
  generalize hY : uA Bh 457 p (a : Int) = Y at *
  have fA : ∀ k : Nat, k ≠ 39 → X k = A k := fun k hk => by rw [← hX, uA_n hk]
  have x39 : X 39 p = a := by rw [← hX, uA_s, ud_s]
  have y457 : Y 457 p = a := by rw [← hY, uA_s, ud_s]
  have fB : ∀ k : Nat, k ≠ 457 → Y k = Bh k := fun k hk => by rw [← hY, uA_n hk]
  have G2 : RR K D A0 Bh X Y := by
    refine G1.bl hp h1 hn (fun k hk => fA k (by omega)) (fun k hk => fB k (by omega)) (fun c q hq => by rw [← hX, pap_q hq]) (fun c q hq => by rw [← hY, pap_q hq]) ?_ ?_ ?_ ?_ (fun _ z => ?_)
    · rw [fB 454 (by omega), fA 35 (by omega), eh 454 (by omega)]; exact ph
    · rw [fB 456 (by omega), fA 37 (by omega), eh 456 (by omega)]; omega
    · omega
    · rw [fB 467 (by omega), fA 42 (by omega), eh 467 (by omega)]; exact pas
    · rw [bh, ud_s] at z; omega
  have em : mk Ax (uA B 457 p (a : Int)) = mk Ax Y := by rw [← hY, ← hBh, uA_sw _ (show (350 : Nat) ≠ 457 by omega), mk_g]
  have fin : ∀ X4 Y4 : hI, RR K D A0 Bh X4 Y4 → (X4 37 p = 1 → ∃ i : Nat, 1 ≤ i ∧ (i : Int) < X4 39 p ∧ X4 38 (6 * p + i) ≠ X4 35 p ∧ X4 38 (6 * p + i) ≠ X4 34 p) → RR K D A0 B0 X4 (uA Y4 350 p 0) := fun X4 Y4 G4 ex => by
    have y350 : Y4 350 = Bh 350 := G4.sb.1 350 (by omega)
    refine G4.gh (fun k hk => uA_n hk) ?_ (fun q hq z1 z2 z3 z4 => ?_)
    · refine R.sb.tr ⟨fun k hk => ?_, ?_, ?_, ?_, ?_⟩
      · by_cases h : k = 350
        · subst h
          rw [uA_s, y350, bh]
          funext q
          by_cases e : q = p
          · subst e; rw [ud_s, b350]
          · rw [ud_n e, ud_n e]
        · rw [uA_n h, G4.sb.1 k hk, eh k h]
      · rw [uA_n (by omega), G4.sb.2.1, eh 304 (by omega)]
      · rw [uA_n (by omega), G4.sb.2.2.1, eh 304 (by omega)]
      · rw [uA_n (by omega), G4.sb.2.2.2.1, eh 304 (by omega)]
      · rw [uA_n (by omega), G4.sb.2.2.2.2, eh 304 (by omega)]
    · have e : q = p := by
        by_cases e : q = p
        · exact e
        · rw [y350, bh, ud_n e] at z4
          exact absurd (b350 q) z4
      subst e
      exact ex z2
  generalize hNm : A 38 (6 * p + a) = nme at *
  have e19 : X 19 11 = A 19 11 := by rw [fA 19 (by omega)]
  have xu := ex_isUp F G2 Bx nme (by omega) (by omega)
  have yu := em_isUp F G2 Ax nme (by omega) (by omega)
  -- the ways to it
  have ep := em_paper F (p : Int) (8 + (a : Int)) Ax B (by omega) (by omega) (by omega) (by omega)
  rw [show (8 + (a : Int)).toNat = 8 + a by omega, Int.toNat_natCast, show B (450 + (8 + a)) p = nme by rw [← mm]; congr 1; omega] at ep
  have ep : f_m_paper F (iI p) (8 + iI (a : Int)) (mk Ax B) = some (iI nme, mk Ax B) := by rw [show (8 : Int32) = iI 8 from rfl, iI_add]; exact ep
  have e4 := em_paper F (p : Int) 4 Ax B (by omega) (by omega) (by omega) (by omega)
  have e4 : f_m_paper F (iI p) (4 : Int32) (mk Ax B) = some (iI (A 35 p), mk Ax B) := e4.trans (by rw [Int.toNat_natCast]; show some (iI (B 454 p), _) = _; rw [ph.1])
  have c1 : ((p : Int) * 6 + a).toNat = 6 * p + a := by omega
  have wx : ∀ (u : Int) (r : Option (Unit × mM)), f_Houses_isUp F (iI nme) (mk X Bx) = some (iI u, mk X Bx) → (if iI u = 0 then f_World_askName_117 F (iI p) (mk X Bx) else ((f_World_houseCan F (iI nme) (iI (A 35 p)) (iI (A 33 p)) (mk X Bx)).bind fun q3 => (if q3.1 = 0 then ((f_World_fail F (iI p) (iI nme) (1 : Int32) q3.2).bind fun q4 => f_World_askName_117 F (iI p) q4.2) else ((f_World_transfer F (iI nme) (iI (A 35 p)) (q3.2.1 33 (iI p).toNatClampNeg) q3.2).bind fun q5 => f_World_askName_117 F (iI p) ((m_up q5.2.1 35 (iI p).toNatClampNeg (iI nme)), q5.2.2))))) = r → f_World_askName F (iI p) (mk A Bx) = r := fun u r hu hr => by
    unfold f_World_askName
    refine obd (v := (iI (a : Int), mk A Bx)) x0 ?_
    refine (if_neg (by simp (disch := first | omega | (simp (disch := omega) only [uA_n]; done) | fail) only [iI_lit, iI_add, iI_sub, iI_mul, iI_neg, iI_lt, iI_le, iI_eq, zlt_t, zlt_f, zle_t, zle_f, zeq_t, zeq_f, nle_t, nle_f, iI_cl, rA, rS, rB, wA, wS, wB, mkp, mk2, uA_s, uA_n, ud_s, ud_n, bI_0, bI_1, nor_s, ↓reduceIte, or_false, false_or, or_true, true_or, or_self, not_true_eq_false, not_false_eq_true, and_true, true_and, and_false, false_and, bI_T, bI_F, Int.reduceToNat, Nat.reduceAdd, Nat.reduceMul, Int.reduceNeg, Option.bind_some, Int.toNat_natCast])).trans ((if_neg (by simp (disch := first | omega | (simp (disch := omega) only [uA_n]; done) | fail) only [iI_lit, iI_add, iI_sub, iI_mul, iI_neg, iI_lt, iI_le, iI_eq, zlt_t, zlt_f, zle_t, zle_f, zeq_t, zeq_f, nle_t, nle_f, iI_cl, rA, rS, rB, wA, wS, wB, mkp, mk2, uA_s, uA_n, ud_s, ud_n, bI_0, bI_1, nor_s, ↓reduceIte, or_false, false_or, or_true, true_or, or_self, not_true_eq_false, not_false_eq_true, and_true, true_and, and_false, false_and, bI_T, bI_F, Int.reduceToNat, Nat.reduceAdd, Nat.reduceMul, Int.reduceNeg, Option.bind_some, Int.toNat_natCast])).trans ((if_neg (by simp (disch := first | omega | (simp (disch := omega) only [uA_n]; done) | fail) only [iI_lit, iI_add, iI_sub, iI_mul, iI_neg, iI_lt, iI_le, iI_eq, zlt_t, zlt_f, zle_t, zle_f, zeq_t, zeq_f, nle_t, nle_f, iI_cl, rA, rS, rB, wA, wS, wB, mkp, mk2, uA_s, uA_n, ud_s, ud_n, bI_0, bI_1, nor_s, ↓reduceIte, or_false, false_or, or_true, true_or, or_self, not_true_eq_false, not_false_eq_true, and_true, true_and, and_false, false_and, bI_T, bI_F, Int.reduceToNat, Nat.reduceAdd, Nat.reduceMul, Int.reduceNeg, Option.bind_some, Int.toNat_natCast])).trans ?_))
    refine obd (v := (iI u, mk X Bx)) (by simp (disch := first | omega | (simp (disch := omega) only [uA_n]; done) | fail) only [iI_lit, iI_add, iI_sub, iI_mul, iI_neg, iI_lt, iI_le, iI_eq, zlt_t, zlt_f, zle_t, zle_f, zeq_t, zeq_f, nle_t, nle_f, iI_cl, rA, rS, rB, wA, wS, wB, mkp, mk2, uA_s, uA_n, ud_s, ud_n, bI_0, bI_1, nor_s, ↓reduceIte, or_false, false_or, or_true, true_or, or_self, not_true_eq_false, not_false_eq_true, and_true, true_and, and_false, false_and, bI_T, bI_F, Int.reduceToNat, Nat.reduceAdd, Nat.reduceMul, Int.reduceNeg, Option.bind_some, Int.toNat_natCast, c1, hNm, hX]; exact hu) ?_
    rw [← hr]
    have v1 : (mk A Bx).1 38 ((iI (p : Int) * 6 + iI (a : Int))).toNatClampNeg = iI nme := by simp (disch := first | omega | (simp (disch := omega) only [uA_n]; done) | fail) only [iI_lit, iI_add, iI_sub, iI_mul, iI_neg, iI_lt, iI_le, iI_eq, zlt_t, zlt_f, zle_t, zle_f, zeq_t, zeq_f, nle_t, nle_f, iI_cl, rA, rS, rB, wA, wS, wB, mkp, mk2, uA_s, uA_n, ud_s, ud_n, bI_0, bI_1, nor_s, ↓reduceIte, or_false, false_or, or_true, true_or, or_self, not_true_eq_false, not_false_eq_true, and_true, true_and, and_false, false_and, bI_T, bI_F, Int.reduceToNat, Nat.reduceAdd, Nat.reduceMul, Int.reduceNeg, Option.bind_some, Int.toNat_natCast, c1, hNm]
    have v2 : (mk X Bx).1 35 (iI (p : Int)).toNatClampNeg = iI (A 35 p) := by simp (disch := first | omega | (simp (disch := omega) only [uA_n]; done) | fail) only [iI_lit, iI_add, iI_sub, iI_mul, iI_neg, iI_lt, iI_le, iI_eq, zlt_t, zlt_f, zle_t, zle_f, zeq_t, zeq_f, nle_t, nle_f, iI_cl, rA, rS, rB, wA, wS, wB, mkp, mk2, uA_s, uA_n, ud_s, ud_n, bI_0, bI_1, nor_s, ↓reduceIte, or_false, false_or, or_true, true_or, or_self, not_true_eq_false, not_false_eq_true, and_true, true_and, and_false, false_and, bI_T, bI_F, Int.reduceToNat, Nat.reduceAdd, Nat.reduceMul, Int.reduceNeg, Option.bind_some, Int.toNat_natCast, fA]
    have v3 : (mk X Bx).1 33 (iI (p : Int)).toNatClampNeg = iI (A 33 p) := by simp (disch := first | omega | (simp (disch := omega) only [uA_n]; done) | fail) only [iI_lit, iI_add, iI_sub, iI_mul, iI_neg, iI_lt, iI_le, iI_eq, zlt_t, zlt_f, zle_t, zle_f, zeq_t, zeq_f, nle_t, nle_f, iI_cl, rA, rS, rB, wA, wS, wB, mkp, mk2, uA_s, uA_n, ud_s, ud_n, bI_0, bI_1, nor_s, ↓reduceIte, or_false, false_or, or_true, true_or, or_self, not_true_eq_false, not_false_eq_true, and_true, true_and, and_false, false_and, bI_T, bI_F, Int.reduceToNat, Nat.reduceAdd, Nat.reduceMul, Int.reduceNeg, Option.bind_some, Int.toNat_natCast, fA]
    show (if iI u = 0 then f_World_askName_117 F (iI p) (mk X Bx) else ((f_World_houseCan F ((mk A Bx).1 38 ((iI (p : Int) * 6 + iI (a : Int))).toNatClampNeg) ((mk X Bx).1 35 (iI (p : Int)).toNatClampNeg) ((mk X Bx).1 33 (iI (p : Int)).toNatClampNeg) (mk X Bx)).bind fun q3 => (if q3.1 = 0 then ((f_World_fail F (iI p) ((mk A Bx).1 38 ((iI (p : Int) * 6 + iI (a : Int))).toNatClampNeg) (1 : Int32) q3.2).bind fun q4 => f_World_askName_117 F (iI p) q4.2) else ((f_World_transfer F ((mk A Bx).1 38 ((iI (p : Int) * 6 + iI (a : Int))).toNatClampNeg) ((mk X Bx).1 35 (iI (p : Int)).toNatClampNeg) (q3.2.1 33 (iI p).toNatClampNeg) q3.2).bind fun q5 => f_World_askName_117 F (iI p) ((m_up q5.2.1 35 (iI p).toNatClampNeg ((mk A Bx).1 38 ((iI (p : Int) * 6 + iI (a : Int))).toNatClampNeg)), q5.2.2))))) = _
    rw [v1, v2, v3]
  have e2 := em_paper F (p : Int) 2 Ax Y (by omega) (by omega) (by omega) (by omega)
  have e2 : f_m_paper F (iI p) (2 : Int32) (mk Ax Y) = some (iI (A 33 p), mk Ax Y) := e2.trans (by rw [Int.toNat_natCast]; show some (iI (Y 452 p), _) = _; rw [fB 452 (by omega), eh 452 (by omega), ps.1])
  have wy : ∀ (u : Int) (r : Option (Unit × mM)), f_m_isUp F (iI nme) (mk Ax Y) = some (iI u, mk Ax Y) → (if iI u = 0 then f_m_asksName_97 F (iI p) (iI nme) (iI (A 35 p)) (mk Ax Y) else ((f_m_paper F (iI p) (2 : Int32) (mk Ax Y)).bind fun q5 => ((f_m_can F (iI nme) (iI (A 35 p)) q5.1 q5.2).bind fun q6 => (if q6.1 = 0 then f_m_asksName_97 F (iI p) (iI nme) (iI (A 35 p)) q6.2 else ((f_m_paper F (iI p) (2 : Int32) q6.2).bind fun q7 => ((f_m_gives F (iI nme) (iI (A 35 p)) q7.1 q7.2).bind fun q8 => (if (((6200 : Int32) + ((20 : Int32) * (iI p))) + (4 : Int32)) < 0 ∨ 9732 ≤ (((6200 : Int32) + ((20 : Int32) * (iI p))) + (4 : Int32)).toNatClampNeg then none else f_m_asksName_114 F (iI p) ((m_up q8.2.1 305 (((6200 : Int32) + ((20 : Int32) * (iI p))) + (4 : Int32)).toNatClampNeg (iI nme)), q8.2.2)))))))) = r → f_m_asksName F (iI p) (mk Ax B) = r := fun u r hu hr => by
    unfold f_m_asksName
    refine obd (v := (iI (a : Int), mk Ax B)) y0 ?_
    refine obd (v := (iI nme, mk Ax B)) ep ?_
    refine obd (v := (iI (A 35 p), mk Ax B)) e4 ?_
    refine (if_neg (by simp (disch := first | omega | (simp (disch := omega) only [uA_n]; done) | fail) only [iI_lit, iI_add, iI_sub, iI_mul, iI_neg, iI_lt, iI_le, iI_eq, zlt_t, zlt_f, zle_t, zle_f, zeq_t, zeq_f, nle_t, nle_f, iI_cl, rA, rS, rB, wA, wS, wB, mkp, mk2, uA_s, uA_n, ud_s, ud_n, bI_0, bI_1, nor_s, ↓reduceIte, or_false, false_or, or_true, true_or, or_self, not_true_eq_false, not_false_eq_true, and_true, true_and, and_false, false_and, bI_T, bI_F, Int.reduceToNat, Nat.reduceAdd, Nat.reduceMul, Int.reduceNeg, Option.bind_some, Int.toNat_natCast])).trans ?_
    have m1 : Y 399 = B 399 := by rw [fB 399 (by omega), eh 399 (by omega)]
    refine obd (v := (iI u, mk Ax Y)) (by simp (disch := first | omega | (simp (disch := omega) only [uA_n]; done) | fail) only [iI_lit, iI_add, iI_sub, iI_mul, iI_neg, iI_lt, iI_le, iI_eq, zlt_t, zlt_f, zle_t, zle_f, zeq_t, zeq_f, nle_t, nle_f, iI_cl, rA, rS, rB, wA, wS, wB, mkp, mk2, uA_s, uA_n, ud_s, ud_n, bI_0, bI_1, nor_s, ↓reduceIte, or_false, false_or, or_true, true_or, or_self, not_true_eq_false, not_false_eq_true, and_true, true_and, and_false, false_and, bI_T, bI_F, Int.reduceToNat, Nat.reduceAdd, Nat.reduceMul, Int.reduceNeg, Option.bind_some, Int.toNat_natCast, zP, mk2 m1, em]; exact hu) ?_
    exact hr
  -- what any of the ways ends with
  by_cases hup : A 27 nme.toNat = -1
  · rw [fA 27 (by omega), bI_t hup] at xu yu
    have xc := ex_houseCan G2 F hF Bx nme (A 35 p) (A 33 p) (by omega) (by omega) (by omega) (by omega) (by omega) (by omega) hK
    obtain ⟨Y2, yc, sc⟩ := em_can G2 F hF Ax nme (A 35 p) (A 33 p) (by omega) (by omega) (by omega) (by omega) (by omega) (by omega) hK
    have G2' := G2.x3 sc
    by_cases hc : hCan X nme (A 35 p) (A 33 p)
    · rw [bI_t hc] at xc yc
      have en : ((nme.toNat : Nat) : Int) = nme := by omega
      obtain ⟨X3, Y3, x3, y3, G3, f3⟩ := G2'.xfer F hF Ax Bx (a := nme.toNat) (to := A 35 p) (s := A 33 p) (by omega) (by omega) (by omega) (by omega) (by omega) (by omega) hK (by rw [en]; exact hc)
      rw [en] at x3 y3
      obtain ⟨X4, Y4, x4, y4, G4, f4, ex⟩ := G3.sask F hF Ax Bx hp (by rw [f3 32 (by omega), fA 32 (by omega)]; exact h1) (by rw [f3 37 (by omega), fA 37 (by omega)]; exact hs) (H := nme) (by rw [f3 19 (by omega)]; omega)
      refine ⟨X4, uA Y4 350 p 0, wx 1 _ xu ?_, wy 1 _ yu ?_, fin X4 Y4 G4 ex, ?_, ?_, ?_, ?_, ?_⟩
      · refine (if_neg i1n0).trans ?_
        refine obd (v := (iI 1, mk X Bx)) xc ?_
        refine (if_neg i1n0).trans ?_
        have v3 : (mk X Bx).1 33 (iI (p : Int)).toNatClampNeg = iI (A 33 p) := by simp (disch := first | omega | (simp (disch := omega) only [uA_n]; done) | fail) only [iI_lit, iI_add, iI_sub, iI_mul, iI_neg, iI_lt, iI_le, iI_eq, zlt_t, zlt_f, zle_t, zle_f, zeq_t, zeq_f, nle_t, nle_f, iI_cl, rA, rS, rB, wA, wS, wB, mkp, mk2, uA_s, uA_n, ud_s, ud_n, bI_0, bI_1, nor_s, ↓reduceIte, or_false, false_or, or_true, true_or, or_self, not_true_eq_false, not_false_eq_true, and_true, true_and, and_false, false_and, bI_T, bI_F, Int.reduceToNat, Nat.reduceAdd, Nat.reduceMul, Int.reduceNeg, Option.bind_some, Int.toNat_natCast, fA]
        refine obd (v := ((), mk X3 Bx)) (by show f_World_transfer F (iI nme) (iI (A 35 p)) ((mk X Bx).1 33 (iI (p : Int)).toNatClampNeg) (mk X Bx) = _; rw [v3]; exact x3) ?_
        unfold f_World_askName_117
        refine obd (v := ((), mk X4 Bx)) (by simp (disch := first | omega | (simp (disch := omega) only [uA_n]; done) | fail) only [iI_lit, iI_add, iI_sub, iI_mul, iI_neg, iI_lt, iI_le, iI_eq, zlt_t, zlt_f, zle_t, zle_f, zeq_t, zeq_f, nle_t, nle_f, iI_cl, rA, rS, rB, wA, wS, wB, mkp, mk2, uA_s, uA_n, ud_s, ud_n, bI_0, bI_1, nor_s, ↓reduceIte, or_false, false_or, or_true, true_or, or_self, not_true_eq_false, not_false_eq_true, and_true, true_and, and_false, false_and, bI_T, bI_F, Int.reduceToNat, Nat.reduceAdd, Nat.reduceMul, Int.reduceNeg, Option.bind_some, Int.toNat_natCast]; exact x4) rfl
      · refine (if_neg i1n0).trans ?_
        refine obd (v := (iI (A 33 p), mk Ax Y)) e2 ?_
        refine obd (v := (iI 1, mk Ax Y2)) yc ?_
        refine (if_neg i1n0).trans ?_
        have e2' := em_paper F (p : Int) 2 Ax Y2 (by omega) (by omega) (by omega) (by omega)
        have e2' : f_m_paper F (iI p) (2 : Int32) (mk Ax Y2) = some (iI (A 33 p), mk Ax Y2) := e2'.trans (by rw [Int.toNat_natCast]; show some (iI (Y2 452 p), _) = _; rw [sc.1 452 (by omega), fB 452 (by omega), eh 452 (by omega), ps.1])
        refine obd (v := (iI (A 33 p), mk Ax Y2)) e2' ?_
        refine obd (v := ((), mk Ax Y3)) y3 ?_
        refine (if_neg (by simp (disch := first | omega | (simp (disch := omega) only [uA_n]; done) | fail) only [iI_lit, iI_add, iI_sub, iI_mul, iI_neg, iI_lt, iI_le, iI_eq, zlt_t, zlt_f, zle_t, zle_f, zeq_t, zeq_f, nle_t, nle_f, iI_cl, rA, rS, rB, wA, wS, wB, mkp, mk2, uA_s, uA_n, ud_s, ud_n, bI_0, bI_1, nor_s, ↓reduceIte, or_false, false_or, or_true, true_or, or_self, not_true_eq_false, not_false_eq_true, and_true, true_and, and_false, false_and, bI_T, bI_F, Int.reduceToNat, Nat.reduceAdd, Nat.reduceMul, Int.reduceNeg, Option.bind_some, Int.toNat_natCast])).trans ?_
        unfold f_m_asksName_114
        have m1 : uA Y3 454 p nme 399 = Y3 399 := uA_n (by omega)
        refine obd (v := ((), mk Ax (uA Y4 350 p 0))) (by rw [mk_g]; simp (disch := first | omega | (simp (disch := omega) only [uA_n]; done) | fail) only [iI_lit, iI_add, iI_sub, iI_mul, iI_neg, iI_lt, iI_le, iI_eq, zlt_t, zlt_f, zle_t, zle_f, zeq_t, zeq_f, nle_t, nle_f, iI_cl, rA, rS, rB, wA, wS, wB, mkp, mk2, uA_s, uA_n, ud_s, ud_n, bI_0, bI_1, nor_s, ↓reduceIte, or_false, false_or, or_true, true_or, or_self, not_true_eq_false, not_false_eq_true, and_true, true_and, and_false, false_and, bI_T, bI_F, Int.reduceToNat, Nat.reduceAdd, Nat.reduceMul, Int.reduceNeg, Option.bind_some, Int.toNat_natCast, zP, mk2 m1]; exact y4) rfl
      · rw [f4 31 (by omega), f3 31 (by omega), fA 31 (by omega)]
      · rw [f4 16 (by omega), f3 16 (by omega), fA 16 (by omega)]
      · rw [f4 19 (by omega), f3 19 (by omega), fA 19 (by omega)]
      · rw [f4 46 (by omega), f3 46 (by omega), fA 46 (by omega)]
      · rw [f4 53 (by omega), f3 53 (by omega), fA 53 (by omega)]
    · rw [bI_f hc] at xc yc
      obtain ⟨X3, Y3, x3, y3, G3, f3, f3a, f3b, f3c, f3d, f3e⟩ := G2'.fails2 F hF Ax Bx (h := nme) (p := (p : Int)) (by omega) (by omega) (by omega) (by omega) (by rw [fA 27 (by omega)]; exact hup) 1
      rw [Int.toNat_natCast, fA 35 (by omega)] at y3
      have hpa := G3.gP.ph p hp (by rw [f3 32 (by omega), fA 32 (by omega)]; omega)
      obtain ⟨X4, Y4, x4, y4, G4, f4, ex⟩ := G3.sask F hF Ax Bx hp (by rw [f3 32 (by omega), fA 32 (by omega)]; exact h1) (by rw [f3c p hp (by rw [fA 32 (by omega)]; exact h1), fA 37 (by omega)]; exact hs) (H := X3 35 p) hpa.2
      rw [uA_id] at x4
      rw [uA_id2 hpa.1] at y4
      have yu2 := em_isUp F G2' Ax nme (by omega) (by omega)
      rw [fA 27 (by omega), bI_t hup] at yu2
      refine ⟨X4, uA Y4 350 p 0, wx 1 _ xu ?_, wy 1 _ yu ?_, fin X4 Y4 G4 ex, ?_, ?_, ?_, ?_, ?_⟩
      · refine (if_neg i1n0).trans ?_
        refine obd (v := (iI 0, mk X Bx)) xc ?_
        refine (if_pos rfl).trans ?_
        refine obd (v := ((), mk X3 Bx)) x3 ?_
        unfold f_World_askName_117
        exact obd (v := ((), mk X4 Bx)) x4 rfl
      · refine (if_neg i1n0).trans ?_
        refine obd (v := (iI (A 33 p), mk Ax Y)) e2 ?_
        refine obd (v := (iI 0, mk Ax Y2)) yc ?_
        refine (if_pos rfl).trans ?_
        unfold f_m_asksName_97
        refine obd (v := (iI 1, mk Ax Y2)) yu2 ?_
        refine (if_neg i1n0).trans ?_
        refine obd (v := ((), mk Ax Y3)) y3 ?_
        unfold f_m_asksName_114
        exact obd (v := ((), mk Ax (uA Y4 350 p 0))) (by rw [mk_g]; exact y4) rfl
      · rw [f4 31 (by omega), f3 31 (by omega), fA 31 (by omega)]
      · rw [f4 16 (by omega), f3 16 (by omega), fA 16 (by omega)]
      · rw [f4 19 (by omega), f3a, fA 19 (by omega)]
      · rw [f4 46 (by omega), f3 46 (by omega), fA 46 (by omega)]
      · rw [f4 53 (by omega), f3 53 (by omega), fA 53 (by omega)]
  · rw [fA 27 (by omega), bI_f hup] at xu yu
    have hpa := G2.gP.ph p hp (by rw [fA 32 (by omega)]; omega)
    obtain ⟨X4, Y4, x4, y4, G4, f4, ex⟩ := G2.sask F hF Ax Bx hp (by rw [fA 32 (by omega)]; exact h1) (by rw [fA 37 (by omega)]; exact hs) (H := X 35 p) hpa.2
    rw [uA_id] at x4
    rw [uA_id2 hpa.1] at y4
    refine ⟨X4, uA Y4 350 p 0, wx 0 _ xu ?_, wy 0 _ yu ?_, fin X4 Y4 G4 ex, ?_, ?_, ?_, ?_, ?_⟩
    · refine (if_pos rfl).trans ?_
      unfold f_World_askName_117
      exact obd (v := ((), mk X4 Bx)) x4 rfl
    · refine (if_pos rfl).trans ?_
      unfold f_m_asksName_97
      refine obd (v := (iI 0, mk Ax Y)) yu ?_
      refine (if_pos rfl).trans ?_
      unfold f_m_asksName_114
      exact obd (v := ((), mk Ax (uA Y4 350 p 0))) (by rw [mk_g]; exact y4) rfl
    · rw [f4 31 (by omega), fA 31 (by omega)]
    · rw [f4 16 (by omega), fA 16 (by omega)]
    · rw [f4 19 (by omega), fA 19 (by omega)]
    · rw [f4 46 (by omega), fA 46 (by omega)]
    · rw [f4 53 (by omega), fA 53 (by omega)]
end ASK2
