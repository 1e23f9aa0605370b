/-! A PAPER COMES DUE, whole -/
theorem i1n0 : ¬ (iI 1 = 0) := by decide
section DUE2
variable {K D : Int} {A0 B0 A B A' B' : hI} (F : Nat)
/-- it isn't paid -/
theorem RR.unpaid (R : RR K D A0 B0 A B) (hF : 1000 ≤ F) (Ax Bx : hI) {p : Nat} (hp : p < 60) (hk : A 32 p ≠ -1) (hl : A 37 p = 0) (hn : ∀ q, q < 60 → A 32 q = 3 → A 37 q = 0 → A 41 q ≠ p) : ∃ A' B' : hI, f_World_settle_130 F (iI p) (iI (A 34 p)) (iI (bI (A 27 (A 34 p).toNat = -1))) (mk A Bx) = some ((), mk A' Bx) ∧ f_m_comesDue_173 F (iI p) (iI (A 34 p)) (iI (A 35 p)) (mk Ax B) = some ((), mk Ax B') ∧ RR K D A0 B0 A' B' ∧ (∀ k : Nat, k ≠ 19 ∧ ¬ (27 ≤ k ∧ k ≤ 30) ∧ k ≠ 35 ∧ k ≠ 37 ∧ k ≠ 39 ∧ k ≠ 40 ∧ k ≠ 42 → A' k = A k) ∧ A' 19 11 = A 19 11 ∧ A' 37 p ≠ 0 ∧ ∀ q, A' 37 q = 0 → A 37 q = 0 := by
  have hn2 := R.gH.hn2
  have pd := R.gP.pd p hp hk
  have ph := R.gP.ph p hp hk
  have pst := R.gP.pst p hp hk
  have kr := R.kr hp
  have iu := em_isUp F R Ax (A 34 p) (by omega) (by omega)
  by_cases hup : A 27 (A 34 p).toNat = -1
  · rw [bI_t hup] at iu ⊢
    obtain ⟨X, Y, x1, y1, R1, f1, f2, f3, f4, f5, f6⟩ := R.fails2 F hF Ax Bx (h := A 34 p) (p := (p : Int)) (by omega) (by omega) (by omega) (by omega) hup 0
    rw [Int.toNat_natCast] at y1
    have e32 : X 32 = A 32 := f1 32 (by omega)
    have e41 : X 41 = A 41 := f1 41 (by omega)
    have b1 := R1.gP.pk p hp (by rw [e32]; exact hk)
    rw [e32] at b1
    by_cases h1 : A 32 p = 1
    · obtain ⟨X2, Y2, x2, y2, R2, g1, g2, g3⟩ := R1.protest F hF Ax Bx hp (by rw [e32]; exact h1) (fun q hq z1 z2 => by rw [e41]; exact hn q hq (by rw [← e32]; exact z1) (f5 q z2))
      refine ⟨X2, Y2, ?_, ?_, R2, fun k hk => ?_, ?_, g3, fun q z => ?_⟩
      · unfold f_World_settle_130
        refine (if_neg i1n0).trans ?_
        exact obd (v := ((), mk X Bx)) x1 x2
      · unfold f_m_comesDue_173
        refine obd (v := (iI 1, mk Ax B)) iu ?_
        refine (if_neg i1n0).trans ?_
        refine obd (v := ((), mk Ax Y)) y1 ?_
        unfold f_m_comesDue_189 f_m_comesDue_204
        rw [h1] at b1
        refine obd (v := (iI 1, mk Ax Y)) (by simp (disch := first | omega | (simp (disch := omega) only [uA_n]; done) | fail) only [iI_lit, iI_add, iI_sub, iI_mul, iI_neg, iI_lt, iI_le, iI_eq, zlt_t, zlt_f, zle_t, zle_f, zeq_t, zeq_f, nle_t, nle_f, iI_cl, rA, rS, rB, wA, wS, wB, mkp, mk2, uA_s, uA_n, ud_s, ud_n, bI_0, bI_1, nor_s, ↓reduceIte, or_false, false_or, or_true, true_or, or_self, not_true_eq_false, not_false_eq_true, and_true, true_and, and_false, false_and, bI_T, bI_F, Int.reduceToNat, Nat.reduceAdd, Nat.reduceMul, Int.reduceNeg, Option.bind_some, Int.toNat_natCast, em_paper, b1]) ?_
        refine (if_pos rfl).trans ?_
        exact obd (v := ((), mk Ax Y2)) y2 rfl
      · rw [g1 k (by omega), f1 k (by omega)]
      · rw [g1 19 (by omega)]; exact f2
      · by_cases e : q = p
        · rw [e]; exact hl
        · rw [g2 37 q e] at z; exact f5 q z
    · refine ⟨X, Y, ?_, ?_, R1, fun k hk => f1 k (by omega), f2, f6 p hp rfl h1, f5⟩
      · unfold f_World_settle_130
        refine (if_neg i1n0).trans ?_
        refine obd (v := ((), mk X Bx)) x1 ?_
        simp only [f_World_settle_142, f_World_settle_178]
        simp (disch := first | omega | (simp (disch := omega) only [uA_n]; done) | fail) only [iI_lit, iI_add, iI_sub, iI_mul, iI_neg, iI_lt, iI_le, iI_eq, zlt_t, zlt_f, zle_t, zle_f, zeq_t, zeq_f, nle_t, nle_f, iI_cl, rA, rS, rB, wA, wS, wB, mkp, mk2, uA_s, uA_n, ud_s, ud_n, bI_0, bI_1, nor_s, ↓reduceIte, or_false, false_or, or_true, true_or, or_self, not_true_eq_false, not_false_eq_true, and_true, true_and, and_false, false_and, bI_T, bI_F, Int.reduceToNat, Nat.reduceAdd, Nat.reduceMul, Int.reduceNeg, Option.bind_some, Int.toNat_natCast, e32]
      · unfold f_m_comesDue_173
        refine obd (v := (iI 1, mk Ax B)) iu ?_
        refine (if_neg i1n0).trans ?_
        refine obd (v := ((), mk Ax Y)) y1 ?_
        simp only [f_m_comesDue_189, f_m_comesDue_204]
        simp (disch := first | omega | (simp (disch := omega) only [uA_n]; done) | fail) only [iI_lit, iI_add, iI_sub, iI_mul, iI_neg, iI_lt, iI_le, iI_eq, zlt_t, zlt_f, zle_t, zle_f, zeq_t, zeq_f, nle_t, nle_f, iI_cl, rA, rS, rB, wA, wS, wB, mkp, mk2, uA_s, uA_n, ud_s, ud_n, bI_0, bI_1, nor_s, ↓reduceIte, or_false, false_or, or_true, true_or, or_self, not_true_eq_false, not_false_eq_true, and_true, true_and, and_false, false_and, bI_T, bI_F, Int.reduceToNat, Nat.reduceAdd, Nat.reduceMul, Int.reduceNeg, Option.bind_some, Int.toNat_natCast, em_paper, b1]
  · rw [bI_f hup] at iu ⊢
    have h1 : A 32 p = 1 := by
      by_cases h1 : A 32 p = 1
      · exact h1
      · exact absurd (R.gP.pup p hp hk hl h1) hup
    have b1 := R.gP.pk p hp hk
    rw [h1] at b1
    obtain ⟨X2, Y2, x2, y2, R2, g1, g2, g3⟩ := R.protest F hF Ax Bx hp h1 hn
    refine ⟨X2, Y2, ?_, ?_, R2, fun k hk => g1 k (by omega), by rw [g1 19 (by omega)], g3, fun q z => ?_⟩
    · unfold f_World_settle_130
      exact (if_pos rfl).trans x2
    · unfold f_m_comesDue_173
      refine obd (v := (iI 0, mk Ax B)) iu ?_
      refine (if_pos rfl).trans ?_
      unfold f_m_comesDue_189 f_m_comesDue_204
      refine obd (v := (iI 1, mk Ax B)) (by simp (disch := first | omega | (simp (disch := omega) only [uA_n]; done) | fail) only [iI_lit, iI_add, iI_sub, iI_mul, iI_neg, iI_lt, iI_le, iI_eq, zlt_t, zlt_f, zle_t, zle_f, zeq_t, zeq_f, nle_t, nle_f, iI_cl, rA, rS, rB, wA, wS, wB, mkp, mk2, uA_s, uA_n, ud_s, ud_n, bI_0, bI_1, nor_s, ↓reduceIte, or_false, false_or, or_true, true_or, or_self, not_true_eq_false, not_false_eq_true, and_true, true_and, and_false, false_and, bI_T, bI_F, Int.reduceToNat, Nat.reduceAdd, Nat.reduceMul, Int.reduceNeg, Option.bind_some, Int.toNat_natCast, em_paper, b1]) ?_
      refine (if_pos rfl).trans ?_
      exact obd (v := ((), mk Ax Y2)) y2 rfl
    · by_cases e : q = p
      · rw [e]; exact hl
      · rw [g2 37 q e] at z; exact z
/-- what a due paper's turn leaves -/
def dueF (A A' : hI) (p : Nat) : Prop := A' 16 = A 16 ∧ A' 19 11 = A 19 11 ∧ A' 31 15 = A 31 15 ∧ A' 36 = A 36 ∧ A' 37 p ≠ 0 ∧ (∀ q, A' 37 q = 0 → A 37 q = 0 ∧ A' 32 q = A 32 q) ∧ A' 46 = A 46 ∧ A' 53 = A 53
theorem RR.due0 (R : RR K D A0 B0 A B) (hF : 1000 ≤ F) (hK : K ≤ 1000000000) (Ax Bx : hI) {p : Nat} (hp : p < 60) (hk : A 32 p ≠ -1) (hl : A 37 p = 0) (hn : ∀ q, q < 60 → A 32 q = 3 → A 37 q = 0 → A 41 q ≠ p) : ∃ A' B' : hI, f_World_settle_92 F (iI p) (iI (A 34 p)) (iI (A 35 p)) (iI (A 33 p)) (iI (bI (A 27 (A 34 p).toNat = -1))) (mk A Bx) = some ((), mk A' Bx) ∧ f_m_comesDue_79 F (iI p) (iI (A 34 p)) (iI (A 35 p)) (iI (A 33 p)) (mk Ax B) = some ((), mk Ax B') ∧ RR K D A0 B0 A' B' ∧ dueF A A' p := by
  have hn2 := R.gH.hn2
  have pd := R.gP.pd p hp hk
  have ph := R.gP.ph p hp hk
  have ps := R.gP.ps p hp hk
  have iu := em_isUp F R Ax (A 34 p) (by omega) (by omega)
  have payF : ∀ {A' B' : hI}, (∀ k : Nat, ¬ (3 ≤ k ∧ k ≤ 6) ∧ k ≠ 22 ∧ ¬ (55 ≤ k ∧ k ≤ 61) ∧ k ≠ 31 ∧ k ≠ 32 ∧ k ≠ 35 ∧ k ≠ 37 ∧ k ≠ 40 → A' k = A k) ∧ A' 37 p = -1 ∧ A' 31 15 = A 31 15 ∧ (∀ q, q ≠ p → A' 37 q = A 37 q ∧ A' 32 q = A 32 q) → dueF A A' p := by
    rintro A' B' ⟨f1, f2, f3, f4⟩
    refine ⟨f1 16 (by omega), by rw [f1 19 (by omega)], f3, f1 36 (by omega), by omega, fun q z => ?_, f1 46 (by omega), f1 53 (by omega)⟩
    by_cases e : q = p
    · subst e; omega
    · rw [(f4 q e).1] at z; exact ⟨z, (f4 q e).2⟩
  by_cases hself : A 35 p = A 34 p
  · obtain ⟨X, Y, x1, y1, R1, f⟩ := R.pay F hF hK Ax Bx hp hk (fun _ => hl) hn (Or.inl hself.symm)
    refine ⟨X, Y, ?_, ?_, R1, payF (B' := Y) f⟩
    · unfold f_World_settle_92
      exact (if_pos (by rw [hself])).trans x1
    · unfold f_m_comesDue_79
      exact (if_pos (by rw [hself])).trans y1
  · have nself : ¬ (iI (A 35 p) = iI (A 34 p)) := by rw [iI_eq (by omega) (by omega) (by omega) (by omega)]; exact hself
    have bad : ∀ B2 : hI, RR K D A0 B0 A B2 → ∃ A' B' : hI, f_World_settle_130 F (iI p) (iI (A 34 p)) (iI (bI (A 27 (A 34 p).toNat = -1))) (mk A Bx) = some ((), mk A' Bx) ∧ f_m_comesDue_173 F (iI p) (iI (A 34 p)) (iI (A 35 p)) (mk Ax B2) = some ((), mk Ax B') ∧ RR K D A0 B0 A' B' ∧ dueF A A' p := fun B2 R2 => by
      obtain ⟨X, Y, x1, y1, R3, f1, f2, f3, f4⟩ := R2.unpaid F hF Ax Bx hp hk hl hn
      exact ⟨X, Y, x1, y1, R3, f1 16 (by omega), f2, by rw [f1 31 (by omega)], f1 36 (by omega), f3, fun q z => ⟨f4 q z, by rw [f1 32 (by omega)]⟩, f1 46 (by omega), f1 53 (by omega)⟩
    by_cases hup : A 27 (A 34 p).toNat = -1
    · have xc := ex_houseCan R F hF Bx (A 34 p) (A 35 p) (A 33 p) (by omega) (by omega) (by omega) (by omega) (by omega) (by omega) hK
      obtain ⟨B2, yc, sc⟩ := em_can R F hF Ax (A 34 p) (A 35 p) (A 33 p) (by omega) (by omega) (by omega) (by omega) (by omega) (by omega) hK
      have R2 := R.x3 sc
      by_cases hc : hCan A (A 34 p) (A 35 p) (A 33 p)
      · rw [bI_t hc] at xc yc
        obtain ⟨X, Y, x1, y1, R1, f⟩ := R2.pay F hF hK Ax Bx hp hk (fun _ => hl) hn hc
        refine ⟨X, Y, ?_, ?_, R1, payF (B' := Y) f⟩
        · unfold f_World_settle_92
          rw [bI_t hup]
          refine (if_neg nself).trans ((if_neg i1n0).trans ?_)
          refine obd (v := (iI 1, mk A Bx)) xc ?_
          exact (if_neg i1n0).trans x1
        · unfold f_m_comesDue_79
          rw [bI_t hup] at iu
          refine (if_neg nself).trans ?_
          refine obd (v := (iI 1, mk Ax B)) iu ?_
          refine (if_neg i1n0).trans ?_
          refine obd (v := (iI 1, mk Ax B2)) yc ?_
          exact (if_neg i1n0).trans y1
      · rw [bI_f hc] at xc yc
        obtain ⟨X, Y, x1, y1, R1, f⟩ := bad B2 R2
        refine ⟨X, Y, ?_, ?_, R1, f⟩
        · rw [bI_t hup] at x1 ⊢
          unfold f_World_settle_92
          refine (if_neg nself).trans ((if_neg i1n0).trans ?_)
          refine obd (v := (iI 0, mk A Bx)) xc ?_
          exact (if_pos rfl).trans x1
        · unfold f_m_comesDue_79
          rw [bI_t hup] at iu
          refine (if_neg nself).trans ?_
          refine obd (v := (iI 1, mk Ax B)) iu ?_
          refine (if_neg i1n0).trans ?_
          refine obd (v := (iI 0, mk Ax B2)) yc ?_
          exact (if_pos rfl).trans y1
    · obtain ⟨X, Y, x1, y1, R1, f⟩ := bad B R
      refine ⟨X, Y, ?_, ?_, R1, f⟩
      · rw [bI_f hup] at x1 ⊢
        unfold f_World_settle_92
        exact (if_neg nself).trans ((if_pos rfl).trans x1)
      · unfold f_m_comesDue_79
        rw [bI_f hup] at iu
        refine (if_neg nself).trans ?_
        refine obd (v := (iI 0, mk Ax B)) iu ?_
        exact (if_pos rfl).trans y1
theorem RR.due (R : RR K D A0 B0 A B) (hF : 1000 ≤ F) (hK : K ≤ 999000000) (Ax Bx : hI) {p : Nat} (hp : p < 60) (hl : A 37 p = 0) (hd : A 36 p = A 16 9) (hD : D = A 16 9) : ∃ A' B' : hI, f_World_settle F (iI p) (mk A Bx) = some ((), mk A' Bx) ∧ f_m_comesDue F (iI p) (mk Ax B) = some ((), mk Ax B') ∧ RR (K + 22000) D A0 B0 A' B' ∧ dueF A A' p := by
  have hn2 := R.gH.hn2
  have hd1 := R.gD.dd1
  have hd2 := R.gD.dd2
  have hd3 := R.gD.dd3
  have kr := R.kr hp
  have hk : A 32 p ≠ -1 := by omega
  have pd := R.gP.pd p hp hk
  have ph := R.gP.ph p hp hk
  have ps := R.gP.ps p hp hk
  have pbt := R.gP.pbt p hp hk
  have xu := ex_isUp F R Bx (A 34 p) (by omega) (by omega)
  have yu := em_isUp F R Ax (A 34 p) (by omega) (by omega)
  have hn : ∀ q, q < 60 → A 32 q = 3 → A 37 q = 0 → A 41 q ≠ p := fun q hq z1 z2 e => by
    have g := R.gP.ppg q hq z1 z2
    rw [e, Int.toNat_natCast] at g
    have := R.gP.pli q hq (by omega) z2 (by omega)
    omega
  have e3 := em_paper F (p : Int) 3 Ax B (by omega) (by omega) (by omega) (by omega)
  have e4 := em_paper F (p : Int) 4 Ax B (by omega) (by omega) (by omega) (by omega)
  have e2 := em_paper F (p : Int) 2 Ax B (by omega) (by omega) (by omega) (by omega)
  have e18 := em_paper F (p : Int) 18 Ax B (by omega) (by omega) (by omega) (by omega)
  have e3 : f_m_paper F (iI p) (3 : Int32) (mk Ax B) = some (iI (A 34 p), mk Ax B) := e3.trans (by rw [Int.toNat_natCast]; show some (iI (B 453 p), _) = _; rw [pd.1])
  have e4 : f_m_paper F (iI p) (4 : Int32) (mk Ax B) = some (iI (A 35 p), mk Ax B) := e4.trans (by rw [Int.toNat_natCast]; show some (iI (B 454 p), _) = _; rw [ph.1])
  have e2 : f_m_paper F (iI p) (2 : Int32) (mk Ax B) = some (iI (A 33 p), mk Ax B) := e2.trans (by rw [Int.toNat_natCast]; show some (iI (B 452 p), _) = _; rw [ps.1])
  have e18 : f_m_paper F (iI p) (18 : Int32) (mk Ax B) = some (iI (A 43 p), mk Ax B) := e18.trans (by rw [Int.toNat_natCast]; show some (iI (B 468 p), _) = _; rw [pbt.1])
  have g := R.gle (h := (A 34 p).toNat) (by omega)
  have hg := R.gH.hg (A 34 p).toNat (by omega)
  by_cases hh : A 27 (A 34 p).toNat = -1 ∧ A 43 p = 1
  · obtain ⟨hup, hbt⟩ := hh
    have fv := R.flvr (w := 0) (by omega) (A 16 9 / 7)
    have xf := ex_filled F R hF Bx (w := 0) (by omega) (week := A 16 9 / 7) (by omega) (by omega)
    have yf := em_weekOf F R hF Ax (w := 0) (by omega) (week := A 16 9 / 7) (by omega) (by omega)
    generalize flv A 0 (A 16 9 / 7) = f at *
    have hm : 0 ≤ A 33 p * f ∧ A 33 p * f ≤ 2200000 := by
      constructor
      · exact Int.mul_nonneg (by omega) (by omega)
      · have := Int.mul_le_mul (show A 33 p ≤ 11000 by omega) (show f ≤ 200 by omega) (show 0 ≤ f by omega) (show (0 : Int) ≤ 11000 by omega)
        omega
    generalize hv : A 33 p * f = v at *
    have R1 := (R.gain (a := (A 34 p).toNat) (v := v / 100) (by omega) (by omega)).k (K' := K + 22000) (by omega)
    generalize hX : uA A 22 (A 34 p).toNat (A 22 (A 34 p).toNat + v / 100) = X at *
    generalize hY : uA B 412 (A 34 p).toNat (B 412 (A 34 p).toNat + v / 100) = Y at *
    have f1 : ∀ k : Nat, k ≠ 22 → X k = A k := fun k hk => by rw [← hX, uA_n hk]
    obtain ⟨X2, Y2, x2, y2, R2, df⟩ := R1.due0 F hF (by omega) Ax Bx hp (by rw [f1 32 (by omega)]; exact hk) (by rw [f1 37 (by omega)]; exact hl) (by rw [f1 32 (by omega), f1 37 (by omega), f1 41 (by omega)]; exact hn)
    rw [f1 33 (by omega), f1 34 (by omega), f1 35 (by omega), f1 27 (by omega), bI_t hup] at x2
    rw [f1 33 (by omega), f1 34 (by omega), f1 35 (by omega)] at y2
    refine ⟨X2, Y2, ?_, ?_, R2, ?_⟩
    · rw [bI_t hup] at xu
      have xf : f_Seasons_filled F (iI 0) (iI (A 16 9 / 7)) (mk A Bx) = some (iI f, mk A Bx) := xf
      unfold f_World_settle
      simp (disch := first | omega | (simp (disch := omega) only [uA_n]; done) | fail) only [iI_lit, iI_add, iI_sub, iI_mul, iI_neg, iI_lt, iI_le, iI_eq, zlt_t, zlt_f, zle_t, zle_f, zeq_t, zeq_f, nle_t, nle_f, iI_cl, rA, rS, rB, wA, wS, wB, mkp, mk2, uA_s, uA_n, ud_s, ud_n, bI_0, bI_1, nor_s, ↓reduceIte, or_false, false_or, or_true, true_or, or_self, not_true_eq_false, not_false_eq_true, and_true, true_and, and_false, false_and, bI_T, bI_F, Int.reduceToNat, Nat.reduceAdd, Nat.reduceMul, Int.reduceNeg, Option.bind_some, Int.toNat_natCast, xu, hbt, iI_div, xf, hv, hX]
      exact x2
    · rw [bI_t hup] at yu
      have yf : f_m_weekOf F (iI 0) (iI (A 16 9 / 7)) (mk Ax B) = some (iI f, mk Ax B) := yf
      unfold f_m_comesDue
      refine obd (v := (iI (A 34 p), mk Ax B)) e3 ?_
      refine obd (v := (iI (A 35 p), mk Ax B)) e4 ?_
      refine obd (v := (iI (A 33 p), mk Ax B)) e2 ?_
      refine obd (v := (iI (A 43 p), mk Ax B)) e18 ?_
      refine (if_pos (by rw [hbt]; rfl)).trans ?_
      refine obd (v := (iI 1, mk Ax B)) yu ?_
      refine (if_neg i1n0).trans ?_
      have m1 : Y 399 = B 399 := by rw [← hY, uA_n (by omega)]
      simp (disch := first | omega | (simp (disch := omega) only [uA_n]; done) | fail) only [iI_lit, iI_add, iI_sub, iI_mul, iI_neg, iI_lt, iI_le, iI_eq, zlt_t, zlt_f, zle_t, zle_f, zeq_t, zeq_f, nle_t, nle_f, iI_cl, rA, rS, rB, wA, wS, wB, mkp, mk2, uA_s, uA_n, ud_s, ud_n, bI_0, bI_1, nor_s, ↓reduceIte, or_false, false_or, or_true, true_or, or_self, not_true_eq_false, not_false_eq_true, and_true, true_and, and_false, false_and, bI_T, bI_F, Int.reduceToNat, Nat.reduceAdd, Nat.reduceMul, Int.reduceNeg, Option.bind_some, Int.toNat_natCast, zH, dS, hd3, iI_div, yf, hv, mk2 m1, hY]
      exact y2
    · obtain ⟨d1, d2, d3, d4, d5, d6, d7, d8⟩ := df
      exact ⟨d1.trans (f1 16 (by omega)), d2.trans (by rw [f1 19 (by omega)]), d3.trans (by rw [f1 31 (by omega)]), d4.trans (f1 36 (by omega)), d5, fun q z => by rw [← f1 37 (by omega), ← f1 32 (by omega)]; exact d6 q z, d7.trans (f1 46 (by omega)), d8.trans (f1 53 (by omega))⟩
  · obtain ⟨X2, Y2, x2, y2, R2, df⟩ := R.due0 F hF (by omega) Ax Bx hp hk hl hn
    refine ⟨X2, Y2, ?_, ?_, R2.k (by omega), df⟩
    · unfold f_World_settle
      by_cases hup : A 27 (A 34 p).toNat = -1
      · have hbt : A 43 p ≠ 1 := fun z => hh ⟨hup, z⟩
        rw [bI_t hup] at xu x2
        simp (disch := first | omega | (simp (disch := omega) only [uA_n]; done) | fail) only [iI_lit, iI_add, iI_sub, iI_mul, iI_neg, iI_lt, iI_le, iI_eq, zlt_t, zlt_f, zle_t, zle_f, zeq_t, zeq_f, nle_t, nle_f, iI_cl, rA, rS, rB, wA, wS, wB, mkp, mk2, uA_s, uA_n, ud_s, ud_n, bI_0, bI_1, nor_s, ↓reduceIte, or_false, false_or, or_true, true_or, or_self, not_true_eq_false, not_false_eq_true, and_true, true_and, and_false, false_and, bI_T, bI_F, Int.reduceToNat, Nat.reduceAdd, Nat.reduceMul, Int.reduceNeg, Option.bind_some, Int.toNat_natCast, xu]
        exact x2
      · rw [bI_f hup] at xu x2
        simp (disch := first | omega | (simp (disch := omega) only [uA_n]; done) | fail) only [iI_lit, iI_add, iI_sub, iI_mul, iI_neg, iI_lt, iI_le, iI_eq, zlt_t, zlt_f, zle_t, zle_f, zeq_t, zeq_f, nle_t, nle_f, iI_cl, rA, rS, rB, wA, wS, wB, mkp, mk2, uA_s, uA_n, ud_s, ud_n, bI_0, bI_1, nor_s, ↓reduceIte, or_false, false_or, or_true, true_or, or_self, not_true_eq_false, not_false_eq_true, and_true, true_and, and_false, false_and, bI_T, bI_F, Int.reduceToNat, Nat.reduceAdd, Nat.reduceMul, Int.reduceNeg, Option.bind_some, Int.toNat_natCast, xu]
        exact x2
    · unfold f_m_comesDue
      refine obd (v := (iI (A 34 p), mk Ax B)) e3 ?_
      refine obd (v := (iI (A 35 p), mk Ax B)) e4 ?_
      refine obd (v := (iI (A 33 p), mk Ax B)) e2 ?_
      refine obd (v := (iI (A 43 p), mk Ax B)) e18 ?_
      by_cases hbt : A 43 p = 1
      · have hup : ¬ A 27 (A 34 p).toNat = -1 := fun z => hh ⟨z, hbt⟩
        rw [bI_f hup] at yu
        refine (if_pos (by rw [hbt]; rfl)).trans ?_
        refine obd (v := (iI 0, mk Ax B)) yu ?_
        exact (if_pos rfl).trans y2
      · refine (if_neg (fun z => hbt ?_)).trans y2
        have z : iI (A 43 p) = iI 1 := z
        rw [iI_eq (by omega) (by omega) (by omega) (by omega)] at z
        exact z
end DUE2
