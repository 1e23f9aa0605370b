/-! RUNS ON BANKS -/
def bkG (A A' : hI) : Prop := (∀ k : Nat, (20 ≤ k ∧ k ≤ 21) ∨ (23 ≤ k ∧ k ≤ 26) ∨ k = 46 ∨ k = 53 ∨ k = 17 ∨ k = 18 → A' k = A k) ∧ (∀ j : Nat, j ≠ 13 → A' 16 j = A 16 j) ∧ A' 19 11 = A 19 11 ∧ A' 31 15 = A 31 15
theorem bkG.rf (A : hI) : bkG A A := ⟨fun _ _ => rfl, fun _ _ => rfl, rfl, rfl⟩
theorem bkG.tr {a b c : hI} (h : bkG a b) (g : bkG b c) : bkG a c := ⟨fun k hk => (g.1 k hk).trans (h.1 k hk), fun j hj => (g.2.1 j hj).trans (h.2.1 j hj), g.2.2.1.trans h.2.2.1, g.2.2.2.trans h.2.2.2⟩
theorem adG.b {A A' : hI} (h : adG A A') : bkG A A' := ⟨fun k hk => h.1 k (by omega), fun j _ => by rw [h.1 16 (by omega)], h.2.1, h.2.2⟩
section RUNS
variable {K D : Int} {A0 B0 A B A' B' : hI} (F : Nat)
theorem RR.goes72 (R : RR K D A0 B0 A B) (hF : 1000 ≤ F) (hK : K ≤ 1000000000) (Ax Bx : hI) {h : Nat} (h1 : 1 ≤ h) (hh : (h : Int) < A 19 11) (k2 : Int32 → mM → Option (Unit × mM)) : ∃ A' B' : hI, f_World_runOnBanks_72 F k2 (iI h) (mk A Bx) = k2 (iI ((h + 1 : Nat) : Int)) (mk A' Bx) ∧ f_m_goesAfter_83 F (iI h) (mk Ax B) = some ((), mk Ax B') ∧ RR K D A0 B0 A' B' ∧ bkG A A' := by
  have hn2 := R.gH.hn2
  have hd1 := R.gD.dd1
  have hd2 := R.gD.dd2
  have hd3 := R.gD.dd3
  have ds1 := R.gD.ds1
  have ds2 := R.gD.ds2
  have ds3 := R.gD.ds3
  have hca := R.gH.hca h (by omega)
  have hca1 := R.gH.hca1 h h1 hh
  have xr := ex_hearR F R Bx hh (d := A 16 9) hd1 hd2
  have ys := em_hearS F R hF Ax hh (d := A 16 9) hd1 hd2
  have hv := R.hsv0 hh hd1 hd2
  have hr := R.hrv0 hh hd1 hd2
  have y7 := em_hs F (h : Int) 7 Ax B (by omega) (by omega) (by omega) (by omega)
  have y7 : f_m_hs F (iI h) (7 : Int32) (mk Ax B) = some (iI (A 26 h), mk Ax B) := y7.trans (by rw [Int.toNat_natCast]; show some (iI (B 417 h), _) = _; rw [hca])
  have v9 : (mk A Bx).1 16 9 = iI (A 16 9) := by simp (disch := first | omega | (simp (disch := omega) only [uA_n]; done) | fail) only [iI_lit, iI_add, iI_sub, iI_mul, iI_neg, iI_lt, iI_le, iI_eq, zlt_t, zlt_f, zle_t, zle_f, zeq_t, zeq_f, nle_t, nle_f, iI_cl, rA, rS, rB, wA, wS, wB, mkp, mk2, uA_s, uA_n, ud_s, ud_n, bI_0, bI_1, nor_s, ↓reduceIte, or_false, false_or, or_true, true_or, or_self, not_true_eq_false, not_false_eq_true, and_true, true_and, and_false, false_and, bI_T, bI_F, Int.reduceToNat, Nat.reduceAdd, Nat.reduceMul, Int.reduceNeg, Option.bind_some, Int.toNat_natCast]
  have v13 : (mk A Bx).1 16 13 = iI (A 16 13) := by simp (disch := first | omega | (simp (disch := omega) only [uA_n]; done) | fail) only [iI_lit, iI_add, iI_sub, iI_mul, iI_neg, iI_lt, iI_le, iI_eq, zlt_t, zlt_f, zle_t, zle_f, zeq_t, zeq_f, nle_t, nle_f, iI_cl, rA, rS, rB, wA, wS, wB, mkp, mk2, uA_s, uA_n, ud_s, ud_n, bI_0, bI_1, nor_s, ↓reduceIte, or_false, false_or, or_true, true_or, or_self, not_true_eq_false, not_false_eq_true, and_true, true_and, and_false, false_and, bI_T, bI_F, Int.reduceToNat, Nat.reduceAdd, Nat.reduceMul, Int.reduceNeg, Option.bind_some, Int.toNat_natCast]
  have v26 : (mk A Bx).1 26 (iI (h : Int)).toNatClampNeg = iI (A 26 h) := by simp (disch := first | omega | (simp (disch := omega) only [uA_n]; done) | fail) only [iI_lit, iI_add, iI_sub, iI_mul, iI_neg, iI_lt, iI_le, iI_eq, zlt_t, zlt_f, zle_t, zle_f, zeq_t, zeq_f, nle_t, nle_f, iI_cl, rA, rS, rB, wA, wS, wB, mkp, mk2, uA_s, uA_n, ud_s, ud_n, bI_0, bI_1, nor_s, ↓reduceIte, or_false, false_or, or_true, true_or, or_self, not_true_eq_false, not_false_eq_true, and_true, true_and, and_false, false_and, bI_T, bI_F, Int.reduceToNat, Nat.reduceAdd, Nat.reduceMul, Int.reduceNeg, Option.bind_some, Int.toNat_natCast]
  have w0 : (mk Ax B).1 305 (0 : Int32).toNatClampNeg = iI (A 16 9) := by simp (disch := first | omega | (simp (disch := omega) only [uA_n]; done) | fail) only [iI_lit, iI_add, iI_sub, iI_mul, iI_neg, iI_lt, iI_le, iI_eq, zlt_t, zlt_f, zle_t, zle_f, zeq_t, zeq_f, nle_t, nle_f, iI_cl, rA, rS, rB, wA, wS, wB, mkp, mk2, uA_s, uA_n, ud_s, ud_n, bI_0, bI_1, nor_s, ↓reduceIte, or_false, false_or, or_true, true_or, or_self, not_true_eq_false, not_false_eq_true, and_true, true_and, and_false, false_and, bI_T, bI_F, Int.reduceToNat, Nat.reduceAdd, Nat.reduceMul, Int.reduceNeg, Option.bind_some, Int.toNat_natCast, dS, hd3]
  have w9 : (mk Ax B).1 305 (9 : Int32).toNatClampNeg = iI (A 16 13) := by simp (disch := first | omega | (simp (disch := omega) only [uA_n]; done) | fail) only [iI_lit, iI_add, iI_sub, iI_mul, iI_neg, iI_lt, iI_le, iI_eq, zlt_t, zlt_f, zle_t, zle_f, zeq_t, zeq_f, nle_t, nle_f, iI_cl, rA, rS, rB, wA, wS, wB, mkp, mk2, uA_s, uA_n, ud_s, ud_n, bI_0, bI_1, nor_s, ↓reduceIte, or_false, false_or, or_true, true_or, or_self, not_true_eq_false, not_false_eq_true, and_true, true_and, and_false, false_and, bI_T, bI_F, Int.reduceToNat, Nat.reduceAdd, Nat.reduceMul, Int.reduceNeg, Option.bind_some, Int.toNat_natCast, dS, ds3]
  have e1 : iI (h : Int) + 1 = iI ((h + 1 : Nat) : Int) := iI_s h
  -- the reference, down to 109
  have wy : f_m_goesAfter_83 F (iI h) (mk Ax B) = f_m_goesAfter_109 F (iI h) (iI (hrv A h (A 16 9))) (mk Ax B) := by
    unfold f_m_goesAfter_83
    rw [w0]
    refine obd (v := (iI (hsv A h (A 16 9)), mk Ax B)) ys ?_
    by_cases c : hsv A h (A 16 9) = -1
    · have e : hrv A h (A 16 9) = -1 := if_pos c
      rw [e]
      refine (if_neg ?_).trans rfl
      rw [c]; show ¬ ((0 : Int32) ≤ iI (-1)); decide
    · have e : hrv A h (A 16 9) = A 7 (6 * (hsv A h (A 16 9)).toNat + 5) := if_neg c
      rw [e]
      refine (if_pos (by show (0 : Int32) ≤ iI (hsv A h (A 16 9)); rw [show (0 : Int32) = iI 0 from rfl, iI_le (by omega) (by omega) (by omega) (by omega)]; omega)).trans ?_
      have s5 := em_shown5 F R Ax (k := (hsv A h (A 16 9)).toNat) (by have := hv.2.2 c; omega) (i := 5) (by omega)
      rw [show (((hsv A h (A 16 9)).toNat : Nat) : Int) = hsv A h (A 16 9) by omega] at s5
      exact obd (v := (iI (A 7 (6 * (hsv A h (A 16 9)).toNat + 5)), mk Ax B)) s5 rfl
  generalize hrv A h (A 16 9) = rv at *
  have no : (f_World_runOnBanks_72 F k2 (iI h) (mk A Bx) = f_World_runOnBanks_129 F k2 (iI h) (mk A Bx)) → f_m_goesAfter_109 F (iI h) (iI rv) (mk Ax B) = some ((), mk Ax B) → ∃ A' B' : hI, f_World_runOnBanks_72 F k2 (iI h) (mk A Bx) = k2 (iI ((h + 1 : Nat) : Int)) (mk A' Bx) ∧ f_m_goesAfter_83 F (iI h) (mk Ax B) = some ((), mk Ax B') ∧ RR K D A0 B0 A' B' ∧ bkG A A' := fun hx hy => by
    refine ⟨A, B, hx.trans ?_, wy.trans hy, R, bkG.rf A⟩
    unfold f_World_runOnBanks_129
    rw [e1]
  by_cases c1 : A 26 h ≤ 0
  · refine no ?_ ?_
    · unfold f_World_runOnBanks_72
      exact (if_neg (by simp (disch := first | omega | (simp (disch := omega) only [uA_n]; done) | fail) only [iI_lit, iI_add, iI_sub, iI_mul, iI_neg, iI_lt, iI_le, iI_eq, zlt_t, zlt_f, zle_t, zle_f, zeq_t, zeq_f, nle_t, nle_f, iI_cl, rA, rS, rB, wA, wS, wB, mkp, mk2, uA_s, uA_n, ud_s, ud_n, bI_0, bI_1, nor_s, ↓reduceIte, or_false, false_or, or_true, true_or, or_self, not_true_eq_false, not_false_eq_true, and_true, true_and, and_false, false_and, bI_T, bI_F, Int.reduceToNat, Nat.reduceAdd, Nat.reduceMul, Int.reduceNeg, Option.bind_some, Int.toNat_natCast])).trans (if_pos (by simp (disch := first | omega | (simp (disch := omega) only [uA_n]; done) | fail) only [iI_lit, iI_add, iI_sub, iI_mul, iI_neg, iI_lt, iI_le, iI_eq, zlt_t, zlt_f, zle_t, zle_f, zeq_t, zeq_f, nle_t, nle_f, iI_cl, rA, rS, rB, wA, wS, wB, mkp, mk2, uA_s, uA_n, ud_s, ud_n, bI_0, bI_1, nor_s, ↓reduceIte, or_false, false_or, or_true, true_or, or_self, not_true_eq_false, not_false_eq_true, and_true, true_and, and_false, false_and, bI_T, bI_F, Int.reduceToNat, Nat.reduceAdd, Nat.reduceMul, Int.reduceNeg, Option.bind_some, Int.toNat_natCast]))
    · unfold f_m_goesAfter_109 f_m_goesAfter_147
      by_cases c3 : rv = -1
      · exact if_pos (by rw [c3]; rfl)
      · refine (if_neg (by simp (disch := first | omega | (simp (disch := omega) only [uA_n]; done) | fail) only [iI_lit, iI_add, iI_sub, iI_mul, iI_neg, iI_lt, iI_le, iI_eq, zlt_t, zlt_f, zle_t, zle_f, zeq_t, zeq_f, nle_t, nle_f, iI_cl, rA, rS, rB, wA, wS, wB, mkp, mk2, uA_s, uA_n, ud_s, ud_n, bI_0, bI_1, nor_s, ↓reduceIte, or_false, false_or, or_true, true_or, or_self, not_true_eq_false, not_false_eq_true, and_true, true_and, and_false, false_and, bI_T, bI_F, Int.reduceToNat, Nat.reduceAdd, Nat.reduceMul, Int.reduceNeg, Option.bind_some, Int.toNat_natCast])).trans ?_
        refine obd (v := (iI (A 26 h), mk Ax B)) y7 ?_
        exact if_pos (by show iI (A 26 h) ≤ iI rv; rw [iI_le (by omega) (by omega) (by omega) (by omega)]; omega)
  · have x1 : ∀ r, (if (mk A Bx).1 16 13 = (-1 : Int32) then ((f_World_heardReserve F (iI h) ((mk A Bx).1 16 9) (mk A Bx)).bind fun q4 => (if q4.1 = (-1 : Int32) then f_World_runOnBanks_129 F k2 (iI h) q4.2 else (if (q4.2.1 26 (iI (h : Int)).toNatClampNeg) ≤ q4.1 then f_World_runOnBanks_129 F k2 (iI h) q4.2 else ((f_World_presentCopies F (iI h) (400 : Int32) q4.2).bind fun q5 => f_World_runOnBanks_129 F k2 (iI h) q5.2)))) else f_World_runOnBanks_129 F k2 (iI h) (mk A Bx)) = r → f_World_runOnBanks_72 F k2 (iI h) (mk A Bx) = r := fun r hr => by
      unfold f_World_runOnBanks_72
      exact (if_neg (by simp (disch := first | omega | (simp (disch := omega) only [uA_n]; done) | fail) only [iI_lit, iI_add, iI_sub, iI_mul, iI_neg, iI_lt, iI_le, iI_eq, zlt_t, zlt_f, zle_t, zle_f, zeq_t, zeq_f, nle_t, nle_f, iI_cl, rA, rS, rB, wA, wS, wB, mkp, mk2, uA_s, uA_n, ud_s, ud_n, bI_0, bI_1, nor_s, ↓reduceIte, or_false, false_or, or_true, true_or, or_self, not_true_eq_false, not_false_eq_true, and_true, true_and, and_false, false_and, bI_T, bI_F, Int.reduceToNat, Nat.reduceAdd, Nat.reduceMul, Int.reduceNeg, Option.bind_some, Int.toNat_natCast])).trans ((if_neg (by simp (disch := first | omega | (simp (disch := omega) only [uA_n]; done) | fail) only [iI_lit, iI_add, iI_sub, iI_mul, iI_neg, iI_lt, iI_le, iI_eq, zlt_t, zlt_f, zle_t, zle_f, zeq_t, zeq_f, nle_t, nle_f, iI_cl, rA, rS, rB, wA, wS, wB, mkp, mk2, uA_s, uA_n, ud_s, ud_n, bI_0, bI_1, nor_s, ↓reduceIte, or_false, false_or, or_true, true_or, or_self, not_true_eq_false, not_false_eq_true, and_true, true_and, and_false, false_and, bI_T, bI_F, Int.reduceToNat, Nat.reduceAdd, Nat.reduceMul, Int.reduceNeg, Option.bind_some, Int.toNat_natCast])).trans hr)
    by_cases c2 : A 16 13 = -1
    · by_cases c3 : rv = -1
      · refine no (x1 _ ?_) ?_
        · rw [v13, v9]
          refine (if_pos (by rw [c2]; rfl)).trans ?_
          refine obd (v := (iI rv, mk A Bx)) xr ?_
          exact if_pos (by rw [c3]; rfl)
        · unfold f_m_goesAfter_109 f_m_goesAfter_147
          exact if_pos (by rw [c3]; rfl)
      · have n3 : ¬ (iI rv = (-1 : Int32)) := by rw [show (-1 : Int32) = iI (-1) from rfl, iI_eq (by omega) (by omega) (by omega) (by omega)]; exact c3
        by_cases c4 : A 26 h ≤ rv
        · refine no (x1 _ ?_) ?_
          · rw [v13, v9]
            refine (if_pos (by rw [c2]; rfl)).trans ?_
            refine obd (v := (iI rv, mk A Bx)) xr ?_
            refine (if_neg n3).trans (if_pos ?_)
            show (mk A Bx).1 26 (iI (h : Int)).toNatClampNeg ≤ iI rv
            rw [v26, iI_le (by omega) (by omega) (by omega) (by omega)]; exact c4
          · unfold f_m_goesAfter_109 f_m_goesAfter_147
            refine (if_neg n3).trans ?_
            refine obd (v := (iI (A 26 h), mk Ax B)) y7 ?_
            exact if_pos (by show iI (A 26 h) ≤ iI rv; rw [iI_le (by omega) (by omega) (by omega) (by omega)]; exact c4)
        · have n4 : ¬ (iI (A 26 h) ≤ iI rv) := by rw [iI_le (by omega) (by omega) (by omega) (by omega)]; exact c4
          obtain ⟨r, X, Y, p1, p2, R1, p3, p4, p5, p6⟩ := R.pres F hF Ax Bx h1 hh (n := 400) (by omega) hK
          refine ⟨X, Y, x1 _ ?_, wy.trans ?_, R1, ⟨fun k hk => p5 k (by omega), p6, by rw [p5 19 (by omega)], by rw [p5 31 (by omega)]⟩⟩
          · rw [v13, v9]
            refine (if_pos (by rw [c2]; rfl)).trans ?_
            refine obd (v := (iI rv, mk A Bx)) xr ?_
            refine (if_neg n3).trans ((if_neg (by show ¬ ((mk A Bx).1 26 (iI (h : Int)).toNatClampNeg ≤ iI rv); rw [v26]; exact n4)).trans ?_)
            refine obd (v := (iI r, mk X Bx)) p1 ?_
            unfold f_World_runOnBanks_129
            rw [e1]
          · unfold f_m_goesAfter_109 f_m_goesAfter_147
            refine (if_neg n3).trans ?_
            refine obd (v := (iI (A 26 h), mk Ax B)) y7 ?_
            refine (if_neg n4).trans ?_
            refine (if_pos (by show (mk Ax B).1 305 (9 : Int32).toNatClampNeg = (-1 : Int32); rw [w9, c2]; rfl)).trans ?_
            exact obd (v := (iI r, mk Ax Y)) p2 rfl
    · have n2 : ¬ (iI (A 16 13) = (-1 : Int32)) := by rw [show (-1 : Int32) = iI (-1) from rfl, iI_eq (by omega) (by omega) (by omega) (by omega)]; exact c2
      refine no (x1 _ ?_) ?_
      · rw [v13]
        exact if_neg n2
      · unfold f_m_goesAfter_109 f_m_goesAfter_147
        by_cases c3 : rv = -1
        · exact if_pos (by rw [c3]; rfl)
        · refine (if_neg (by rw [show (-1 : Int32) = iI (-1) from rfl, iI_eq (by omega) (by omega) (by omega) (by omega)]; exact c3)).trans ?_
          refine obd (v := (iI (A 26 h), mk Ax B)) y7 ?_
          by_cases c4 : A 26 h ≤ rv
          · exact if_pos (by show iI (A 26 h) ≤ iI rv; rw [iI_le (by omega) (by omega) (by omega) (by omega)]; exact c4)
          · refine (if_neg (by show ¬ (iI (A 26 h) ≤ iI rv); rw [iI_le (by omega) (by omega) (by omega) (by omega)]; exact c4)).trans ?_
            exact if_neg (by show ¬ ((mk Ax B).1 305 (9 : Int32).toNatClampNeg = (-1 : Int32)); rw [w9]; exact n2)
theorem RR.fallen (R : RR K D A0 B0 A B) {h : Nat} {d : Int} : hfv A h d ≤ A 19 12 ∧ 0 ≤ A 19 12 ∧ A 19 12 ≤ 16 := by
  have hn1 := R.gH.hn1
  have hn2 := R.gH.hn2
  have hfa := R.gH.hfa
  have c := sm_cnt (A 19 11).toNat (fun h => A 27 h ≠ -1)
  have e : (A 19 11).toNat = (A 19 11 - 1).toNat + 1 := by omega
  have s := sm_suc (A 19 11 - 1).toNat (fun h => bI (A 27 h ≠ -1))
  rw [← e] at s
  have l := sm_le (n := (A 19 11 - 1).toNat) (f := fun j => bI (hfc A h d (j + 1))) (g := fun j => bI (A 27 (j + 1) ≠ -1)) (fun j _ => by
    by_cases z : hfc A h d (j + 1)
    · rw [bI_t z, bI_t z.1]; exact Int.le_refl _
    · rw [bI_f z]; exact (bI_nn _).1)
  have b0 := (bI_nn (A 27 0 ≠ -1)).1
  unfold hfv
  omega
theorem RR.runs1 (R : RR K D A0 B0 A B) (hF : 1000 ≤ F) (hK : K ≤ 1000000000) (Ax Bx : hI) {h : Nat} (h1 : 1 ≤ h) (hh : (h : Int) < A 19 11) (k2 : Int32 → mM → Option (Unit × mM)) : ∃ A' B' : hI, (if ((mk A Bx).1 19 12) ≤ ((mk A Bx).1 25 (iI (h : Int)).toNatClampNeg) then f_World_runOnBanks_72 F k2 (iI h) (mk A Bx) else ((f_World_heardFailures F (iI h) ((mk A Bx).1 16 9) (mk A Bx)).bind fun q2 => (if q2.1 ≤ (q2.2.1 25 (iI (h : Int)).toNatClampNeg) then f_World_runOnBanks_72 F k2 (iI h) q2.2 else ((f_World_askDepositsOf F (iI h) q2.2).bind fun q3 => f_World_runOnBanks_72 F k2 (iI h) q3.2)))) = k2 (iI ((h + 1 : Nat) : Int)) (mk A' Bx) ∧ f_m_goesAfter F (iI h) (mk Ax B) = some ((), mk Ax B') ∧ RR K D A0 B0 A' B' ∧ bkG A A' := by
  have hn2 := R.gH.hn2
  have hd1 := R.gD.dd1
  have hd2 := R.gD.dd2
  have hd3 := R.gD.dd3
  have hpe1 := R.gP.pe1
  have hpe2 := R.gP.pe2
  have hbo := R.gH.hbo h h1 (by omega)
  have hbo1 := R.gH.hbo1 h h1 hh
  have xf := ex_hearF F R hF Bx hh (d := A 16 9) hd1 hd2
  have yf := em_hearF F R hF Ax hh (d := A 16 9) hd1 hd2
  have fr := R.fallen (h := h) (d := A 16 9)
  have rg := hfv_rg A h (A 16 9) (by omega)
  have y6 := em_hs F (h : Int) 6 Ax B (by omega) (by omega) (by omega) (by omega)
  have y6 : f_m_hs F (iI h) (6 : Int32) (mk Ax B) = some (iI (A 25 h), mk Ax B) := y6.trans (by rw [Int.toNat_natCast]; show some (iI (B 416 h), _) = _; rw [hbo])
  have v9 : (mk A Bx).1 16 9 = iI (A 16 9) := by simp (disch := first | omega | (simp (disch := omega) only [uA_n]; done) | fail) only [iI_lit, iI_add, iI_sub, iI_mul, iI_neg, iI_lt, iI_le, iI_eq, zlt_t, zlt_f, zle_t, zle_f, zeq_t, zeq_f, nle_t, nle_f, iI_cl, rA, rS, rB, wA, wS, wB, mkp, mk2, uA_s, uA_n, ud_s, ud_n, bI_0, bI_1, nor_s, ↓reduceIte, or_false, false_or, or_true, true_or, or_self, not_true_eq_false, not_false_eq_true, and_true, true_and, and_false, false_and, bI_T, bI_F, Int.reduceToNat, Nat.reduceAdd, Nat.reduceMul, Int.reduceNeg, Option.bind_some, Int.toNat_natCast]
  have v12 : (mk A Bx).1 19 12 = iI (A 19 12) := by simp (disch := first | omega | (simp (disch := omega) only [uA_n]; done) | fail) only [iI_lit, iI_add, iI_sub, iI_mul, iI_neg, iI_lt, iI_le, iI_eq, zlt_t, zlt_f, zle_t, zle_f, zeq_t, zeq_f, nle_t, nle_f, iI_cl, rA, rS, rB, wA, wS, wB, mkp, mk2, uA_s, uA_n, ud_s, ud_n, bI_0, bI_1, nor_s, ↓reduceIte, or_false, false_or, or_true, true_or, or_self, not_true_eq_false, not_false_eq_true, and_true, true_and, and_false, false_and, bI_T, bI_F, Int.reduceToNat, Nat.reduceAdd, Nat.reduceMul, Int.reduceNeg, Option.bind_some, Int.toNat_natCast]
  have v25 : (mk A Bx).1 25 (iI (h : Int)).toNatClampNeg = iI (A 25 h) := by simp (disch := first | omega | (simp (disch := omega) only [uA_n]; done) | fail) only [iI_lit, iI_add, iI_sub, iI_mul, iI_neg, iI_lt, iI_le, iI_eq, zlt_t, zlt_f, zle_t, zle_f, zeq_t, zeq_f, nle_t, nle_f, iI_cl, rA, rS, rB, wA, wS, wB, mkp, mk2, uA_s, uA_n, ud_s, ud_n, bI_0, bI_1, nor_s, ↓reduceIte, or_false, false_or, or_true, true_or, or_self, not_true_eq_false, not_false_eq_true, and_true, true_and, and_false, false_and, bI_T, bI_F, Int.reduceToNat, Nat.reduceAdd, Nat.reduceMul, Int.reduceNeg, Option.bind_some, Int.toNat_natCast]
  have w0 : (mk Ax B).1 305 (0 : Int32).toNatClampNeg = iI (A 16 9) := by simp (disch := first | omega | (simp (disch := omega) only [uA_n]; done) | fail) only [iI_lit, iI_add, iI_sub, iI_mul, iI_neg, iI_lt, iI_le, iI_eq, zlt_t, zlt_f, zle_t, zle_f, zeq_t, zeq_f, nle_t, nle_f, iI_cl, rA, rS, rB, wA, wS, wB, mkp, mk2, uA_s, uA_n, ud_s, ud_n, bI_0, bI_1, nor_s, ↓reduceIte, or_false, false_or, or_true, true_or, or_self, not_true_eq_false, not_false_eq_true, and_true, true_and, and_false, false_and, bI_T, bI_F, Int.reduceToNat, Nat.reduceAdd, Nat.reduceMul, Int.reduceNeg, Option.bind_some, Int.toNat_natCast, dS, hd3]
  generalize hfv A h (A 16 9) = hv at *
  have wy : ∀ r, (if iI hv ≤ iI (A 25 h) then f_m_goesAfter_83 F (iI h) (mk Ax B) else f_m_goesAfter_23 F F (iI h) (0 : Int32) (mk Ax B)) = r → f_m_goesAfter F (iI h) (mk Ax B) = r := fun r hr => by
    unfold f_m_goesAfter
    rw [w0]
    refine obd (v := (iI hv, mk Ax B)) yf ?_
    exact obd (v := (iI (A 25 h), mk Ax B)) y6 hr
  rw [v12, v25, v9]
  by_cases c1 : A 19 12 ≤ A 25 h
  · obtain ⟨X, Y, x1, y1, R1, g1⟩ := R.goes72 F hF hK Ax Bx h1 hh k2
    refine ⟨X, Y, ?_, wy _ ?_, R1, g1⟩
    · exact (if_pos (by rw [iI_le (by omega) (by omega) (by omega) (by omega)]; exact c1)).trans x1
    · exact (if_pos (by rw [iI_le (by omega) (by omega) (by omega) (by omega)]; omega)).trans y1
  · by_cases c2 : hv ≤ A 25 h
    · obtain ⟨X, Y, x1, y1, R1, g1⟩ := R.goes72 F hF hK Ax Bx h1 hh k2
      refine ⟨X, Y, ?_, wy _ ?_, R1, g1⟩
      · refine (if_neg (by rw [iI_le (by omega) (by omega) (by omega) (by omega)]; exact c1)).trans ?_
        refine obd (v := (iI hv, mk A Bx)) xf ?_
        refine (if_pos ?_).trans x1
        show iI hv ≤ (mk A Bx).1 25 (iI (h : Int)).toNatClampNeg
        rw [v25, iI_le (by omega) (by omega) (by omega) (by omega)]; exact c2
      · exact (if_pos (by rw [iI_le (by omega) (by omega) (by omega) (by omega)]; exact c2)).trans y1
    · obtain ⟨A1, B1, a1, a2, R1, g1⟩ := RR.asksOf (D := D) (A0 := A0) (B0 := B0) F hF hK Ax Bx (h := (h : Int)) (by omega) (A 31 15).toNat 0 F F A B (by omega) (by omega) (by omega) (by omega) R
      obtain ⟨X, Y, x1, y1, R2, g2⟩ := R1.goes72 F hF hK Ax Bx h1 (by rw [g1.2.1]; exact hh) k2
      refine ⟨X, Y, ?_, wy _ ?_, R2, g1.b.tr g2⟩
      · refine (if_neg (by rw [iI_le (by omega) (by omega) (by omega) (by omega)]; exact c1)).trans ?_
        refine obd (v := (iI hv, mk A Bx)) xf ?_
        refine (if_neg ?_).trans ?_
        · show ¬ (iI hv ≤ (mk A Bx).1 25 (iI (h : Int)).toNatClampNeg)
          rw [v25, iI_le (by omega) (by omega) (by omega) (by omega)]; exact c2
        · refine obd (v := ((), mk A1 Bx)) a1 ?_
          exact x1
      · refine (if_neg (by rw [iI_le (by omega) (by omega) (by omega) (by omega)]; exact c2)).trans ?_
        exact Eq.trans a2 y1
/-- all houses; what comes behind -/
def f_close_end (F : Nat) (v1 v2 : Int32) (m : mM) : Option (Unit × mM) := (if (v2 - v2 / (7 : Int32) * (7 : Int32)) = (6 : Int32) then ((f_m_ships F m).bind fun q13 => ((f_m_sheets F q13.2).bind fun q14 => (if v1 = 0 then f_m_close_274 F v2 q14.2 else ((f_m_rules F (1 : Int32) (-1 : Int32) q14.2).bind fun q15 => (if q15.1 = 0 then f_m_close_274 F v2 q15.2 else ((f_m_within F (q15.2.1 304 21) (0 : Int32) (20 : Int32) q15.2).bind fun q16 => f_m_close_274 F v2 ((m_up q16.2.1 305 (10 : Int32).toNatClampNeg q16.1), q16.2.2))))))) else f_m_close_274 F v2 m)
theorem RR.runAll (hF : 1000 ≤ F) (hK : K ≤ 1000000000) (Ax Bx : hI) (v1 v2 : Int32) : ∀ (r h q q2 : Nat) (A B : hI), (r : Int) = A 19 11 - h → 1 ≤ h → r < q → r < q2 → RR K D A0 B0 A B → ∃ A' B' : hI, f_World_runOnBanks_2 F q (iI h) (mk A Bx) = some ((), mk A' Bx) ∧ f_m_close_197 F q2 v1 v2 (iI h) (mk Ax B) = f_close_end F v1 v2 (mk Ax B') ∧ RR K D A0 B0 A' B' ∧ bkG A A' := by
  intro r
  induction r with
  | zero =>
    intro h q q2 A B hr h1 hq hq2 R
    obtain ⟨q, rfl⟩ : ∃ s, q = s + 1 := ⟨q - 1, by omega⟩
    obtain ⟨q2, rfl⟩ : ∃ s, q2 = s + 1 := ⟨q2 - 1, by omega⟩
    have hn3 := R.gH.hn3
    have hn2 := R.gH.hn2
    have e : A 19 11 = (h : Int) := by omega
    rw [e] at hn3
    refine ⟨A, B, ?_, ?_, R, bkG.rf A⟩
    · rw [f_World_runOnBanks_2]
      simp (disch := first | omega | (simp (disch := omega) only [uA_n]; done) | fail) only [iI_lit, iI_add, iI_sub, iI_mul, iI_neg, iI_lt, iI_le, iI_eq, zlt_t, zlt_f, zle_t, zle_f, zeq_t, zeq_f, nle_t, nle_f, iI_cl, rA, rS, rB, wA, wS, wB, mkp, mk2, uA_s, uA_n, ud_s, ud_n, bI_0, bI_1, nor_s, ↓reduceIte, or_false, false_or, or_true, true_or, or_self, not_true_eq_false, not_false_eq_true, and_true, true_and, and_false, false_and, bI_T, bI_F, Int.reduceToNat, Nat.reduceAdd, Nat.reduceMul, Int.reduceNeg, Option.bind_some, Int.toNat_natCast, e]
    · rw [f_m_close_197]
      exact if_pos (by simp (disch := first | omega | (simp (disch := omega) only [uA_n]; done) | fail) only [iI_lit, iI_add, iI_sub, iI_mul, iI_neg, iI_lt, iI_le, iI_eq, zlt_t, zlt_f, zle_t, zle_f, zeq_t, zeq_f, nle_t, nle_f, iI_cl, rA, rS, rB, wA, wS, wB, mkp, mk2, uA_s, uA_n, ud_s, ud_n, bI_0, bI_1, nor_s, ↓reduceIte, or_false, false_or, or_true, true_or, or_self, not_true_eq_false, not_false_eq_true, and_true, true_and, and_false, false_and, bI_T, bI_F, Int.reduceToNat, Nat.reduceAdd, Nat.reduceMul, Int.reduceNeg, Option.bind_some, Int.toNat_natCast, dS, hn3])
  | succ r ih =>
    intro h q q2 A B hr h1 hq hq2 R
    obtain ⟨q, rfl⟩ : ∃ s, q = s + 1 := ⟨q - 1, by omega⟩
    obtain ⟨q2, rfl⟩ : ∃ s, q2 = s + 1 := ⟨q2 - 1, by omega⟩
    have hn3 := R.gH.hn3
    have hn2 := R.gH.hn2
    have hlt : (h : Int) < A 19 11 := by omega
    have xu := ex_isUp F R Bx (h : Int) (by omega) hlt
    have yu := em_isUp F R Ax (h : Int) (by omega) hlt
    rw [Int.toNat_natCast] at xu yu
    by_cases hup : A 27 h = -1
    · rw [bI_t hup] at xu yu
      obtain ⟨A1, B1, a1, a2, R1, g1⟩ := R.runs1 F hF hK Ax Bx h1 hlt (f_World_runOnBanks_2 F q)
      obtain ⟨X, Y, x1, y1, R2, g2⟩ := ih (h + 1) q q2 A1 B1 (by rw [g1.2.2.1]; omega) (by omega) (by omega) (by omega) R1
      refine ⟨X, Y, ?_, ?_, R2, g1.tr g2⟩
      · rw [f_World_runOnBanks_2]
        refine (if_neg (by simp (disch := first | omega | (simp (disch := omega) only [uA_n]; done) | fail) only [iI_lit, iI_add, iI_sub, iI_mul, iI_neg, iI_lt, iI_le, iI_eq, zlt_t, zlt_f, zle_t, zle_f, zeq_t, zeq_f, nle_t, nle_f, iI_cl, rA, rS, rB, wA, wS, wB, mkp, mk2, uA_s, uA_n, ud_s, ud_n, bI_0, bI_1, nor_s, ↓reduceIte, or_false, false_or, or_true, true_or, or_self, not_true_eq_false, not_false_eq_true, and_true, true_and, and_false, false_and, bI_T, bI_F, Int.reduceToNat, Nat.reduceAdd, Nat.reduceMul, Int.reduceNeg, Option.bind_some, Int.toNat_natCast])).trans ?_
        refine obd (v := (iI 1, mk A Bx)) xu ?_
        refine (if_neg i1n0).trans ((if_neg (by simp (disch := first | omega | (simp (disch := omega) only [uA_n]; done) | fail) only [iI_lit, iI_add, iI_sub, iI_mul, iI_neg, iI_lt, iI_le, iI_eq, zlt_t, zlt_f, zle_t, zle_f, zeq_t, zeq_f, nle_t, nle_f, iI_cl, rA, rS, rB, wA, wS, wB, mkp, mk2, uA_s, uA_n, ud_s, ud_n, bI_0, bI_1, nor_s, ↓reduceIte, or_false, false_or, or_true, true_or, or_self, not_true_eq_false, not_false_eq_true, and_true, true_and, and_false, false_and, bI_T, bI_F, Int.reduceToNat, Nat.reduceAdd, Nat.reduceMul, Int.reduceNeg, Option.bind_some, Int.toNat_natCast])).trans ?_)
        exact a1.trans x1
      · refine Eq.trans ?_ y1
        rw [f_m_close_197]
        simp only [f_m_close_220]
        refine (if_neg (by simp (disch := first | omega | (simp (disch := omega) only [uA_n]; done) | fail) only [iI_lit, iI_add, iI_sub, iI_mul, iI_neg, iI_lt, iI_le, iI_eq, zlt_t, zlt_f, zle_t, zle_f, zeq_t, zeq_f, nle_t, nle_f, iI_cl, rA, rS, rB, wA, wS, wB, mkp, mk2, uA_s, uA_n, ud_s, ud_n, bI_0, bI_1, nor_s, ↓reduceIte, or_false, false_or, or_true, true_or, or_self, not_true_eq_false, not_false_eq_true, and_true, true_and, and_false, false_and, bI_T, bI_F, Int.reduceToNat, Nat.reduceAdd, Nat.reduceMul, Int.reduceNeg, Option.bind_some, Int.toNat_natCast, dS, hn3])).trans ?_
        refine obd (v := (iI 1, mk Ax B)) yu ?_
        refine (if_neg i1n0).trans ?_
        exact obd (v := ((), mk Ax B1)) a2 (congrArg (fun z => f_m_close_197 F q2 v1 v2 z (mk Ax B1)) (iI_s h))
    · rw [bI_f hup] at xu yu
      obtain ⟨X, Y, x1, y1, R2, g2⟩ := ih (h + 1) q q2 A B (by omega) (by omega) (by omega) (by omega) R
      refine ⟨X, Y, ?_, ?_, R2, g2⟩
      · refine Eq.trans ?_ x1
        rw [f_World_runOnBanks_2]
        simp only [f_World_runOnBanks_129]
        refine (if_neg (by simp (disch := first | omega | (simp (disch := omega) only [uA_n]; done) | fail) only [iI_lit, iI_add, iI_sub, iI_mul, iI_neg, iI_lt, iI_le, iI_eq, zlt_t, zlt_f, zle_t, zle_f, zeq_t, zeq_f, nle_t, nle_f, iI_cl, rA, rS, rB, wA, wS, wB, mkp, mk2, uA_s, uA_n, ud_s, ud_n, bI_0, bI_1, nor_s, ↓reduceIte, or_false, false_or, or_true, true_or, or_self, not_true_eq_false, not_false_eq_true, and_true, true_and, and_false, false_and, bI_T, bI_F, Int.reduceToNat, Nat.reduceAdd, Nat.reduceMul, Int.reduceNeg, Option.bind_some, Int.toNat_natCast])).trans ?_
        refine obd (v := (iI 0, mk A Bx)) xu ?_
        exact (if_pos rfl).trans (congrArg (fun z => f_World_runOnBanks_2 F q z (mk A Bx)) (iI_s h))
      · refine Eq.trans ?_ y1
        rw [f_m_close_197]
        simp only [f_m_close_220]
        refine (if_neg (by simp (disch := first | omega | (simp (disch := omega) only [uA_n]; done) | fail) only [iI_lit, iI_add, iI_sub, iI_mul, iI_neg, iI_lt, iI_le, iI_eq, zlt_t, zlt_f, zle_t, zle_f, zeq_t, zeq_f, nle_t, nle_f, iI_cl, rA, rS, rB, wA, wS, wB, mkp, mk2, uA_s, uA_n, ud_s, ud_n, bI_0, bI_1, nor_s, ↓reduceIte, or_false, false_or, or_true, true_or, or_self, not_true_eq_false, not_false_eq_true, and_true, true_and, and_false, false_and, bI_T, bI_F, Int.reduceToNat, Nat.reduceAdd, Nat.reduceMul, Int.reduceNeg, Option.bind_some, Int.toNat_natCast, dS, hn3])).trans ?_
        refine obd (v := (iI 0, mk Ax B)) yu ?_
        exact (if_pos rfl).trans (congrArg (fun z => f_m_close_197 F q2 v1 v2 z (mk Ax B)) (iI_s h))
end RUNS
