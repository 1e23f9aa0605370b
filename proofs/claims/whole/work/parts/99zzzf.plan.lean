/-! A PLAN, whole -/
section PLANS
variable {K D : Int} {A B A' A1 w S : hI} (F : Nat) {Ax B0 : hI} {Bs : mM → Prop} {v1 : Int32} {W : Nat} {Kb d0 r0 : Int} {i : Nat}
theorem sm_fst1 {f : Nat → Int} (h0 : f 0 = 0) (h1 : ∀ i, f i ≤ 1) : ∀ n : Nat, sm (n + 1) f ≤ n := by
  intro n
  induction n with
  | zero => show sm 0 f + f 0 ≤ _; rw [h0]; exact Int.le_refl _
  | succ n ih =>
    have := h1 (n + 1)
    show sm (n + 1) f + f (n + 1) ≤ _
    omega
theorem fl_rg (h : WH w S) : 0 ≤ w 19 12 ∧ w 19 12 ≤ 15 := by
  have a := h.hn1
  have b := h.hn2
  have cn := sm_cnt (w 19 11).toNat (fun h => w 27 h ≠ -1)
  have t : ∀ h : Nat, bI (w 27 h ≠ -1) ≤ 1 := fun h => by unfold bI; split <;> omega
  have s := sm_fst1 (f := fun h => bI (w 27 h ≠ -1)) (bI_f (fun z => z h.hd0)) t ((w 19 11).toNat - 1)
  rw [show (w 19 11).toNat - 1 + 1 = (w 19 11).toNat by omega] at s
  have e := h.hfa
  rw [e]
  omega
def m315 (M : mM) (g : Nat → Int32) : mM := (fun k => if k = 315 then g else M.1 k, M.2)
theorem m315_self (M : mM) : m315 M (M.1 315) = M := Prod.ext (funext fun k => by show (if k = 315 then _ else _) = _; split <;> simp_all) rfl
theorem m315_2 (M : mM) (g g2 : Nat → Int32) : m315 (m315 M g) g2 = m315 M g2 := Prod.ext (funext fun k => by show (if k = 315 then _ else (if k = 315 then _ else _)) = (if k = 315 then _ else _); split <;> rfl) rfl
theorem pm_cp (hW : W ≤ 4) (k70 : Int32 → Int32 → Int32 → Int32 → Int32 → Int32 → Int32 → mM → Option (Int32 × mM)) (v3 v4 v5 v6 v7 : Int32) : ∀ (r j q : Nat) (M : mM), r + j = 4 * W → r < q → ∃ g, f_m_plan_303 F k70 q v1 (iI (W : Int)) v3 v4 v5 v6 v7 (iI (j : Int)) M = f_m_plan_331 F k70 v1 (iI (W : Int)) v3 v4 v5 v6 v7 (m315 M g) ∧ ∀ t, g t = if j ≤ t ∧ t < 4 * W then M.1 316 t else M.1 315 t := by
  intro r
  induction r with
  | zero =>
    intro j q M e hq
    obtain ⟨q, rfl⟩ : ∃ k, q = k + 1 := ⟨q - 1, by omega⟩
    refine ⟨M.1 315, ?_, fun t => (if_neg (by omega)).symm⟩
    rw [f_m_plan_303, m315_self]
    exact if_pos (by simp (disch := first | omega | (simp (disch := omega) only [uA_n]; done) | fail) only [iI_lit, iI_add, iI_sub, iI_mul, iI_neg, iI_lt, iI_le, iI_eq, zlt_t, zlt_f, zle_t, zle_f, zeq_t, zeq_f, nle_t, nle_f, iI_cl, rA, rS, rB, wA, wS, wB, mkp, mk2, uA_s, uA_n, ud_s, ud_n, bI_0, bI_1, nor_s, ↓reduceIte, or_false, false_or, or_true, true_or, or_self, not_true_eq_false, not_false_eq_true, and_true, true_and, and_false, false_and, bI_T, bI_F, Int.reduceToNat, Nat.reduceAdd, Nat.reduceMul, Int.reduceNeg, Option.bind_some, Int.toNat_natCast])
  | succ r ih =>
    intro j q M e hq
    obtain ⟨q, rfl⟩ : ∃ k, q = k + 1 := ⟨q - 1, by omega⟩
    have kj : (iI (j : Int)).toNatClampNeg = j := by rw [iI_cl (by omega) (by omega), Int.toNat_natCast]
    have n1 : iI (j : Int) + 1 = iI ((j + 1 : Nat) : Int) := by rw [← iI_s]; rfl
    obtain ⟨g, x, hg⟩ := ih (j + 1) q (m315 M (upd (M.1 315) j (M.1 316 j))) (by omega) (by omega)
    rw [m315_2] at x
    refine ⟨g, Eq.trans ?_ x, fun t => ?_⟩
    · rw [f_m_plan_303]
      refine (if_neg (by simp (disch := first | omega | (simp (disch := omega) only [uA_n]; done) | fail) only [iI_lit, iI_add, iI_sub, iI_mul, iI_neg, iI_lt, iI_le, iI_eq, zlt_t, zlt_f, zle_t, zle_f, zeq_t, zeq_f, nle_t, nle_f, iI_cl, rA, rS, rB, wA, wS, wB, mkp, mk2, uA_s, uA_n, ud_s, ud_n, bI_0, bI_1, nor_s, ↓reduceIte, or_false, false_or, or_true, true_or, or_self, not_true_eq_false, not_false_eq_true, and_true, true_and, and_false, false_and, bI_T, bI_F, Int.reduceToNat, Nat.reduceAdd, Nat.reduceMul, Int.reduceNeg, Option.bind_some, Int.toNat_natCast])).trans ?_
      refine (if_neg (by simp (disch := first | omega | (simp (disch := omega) only [uA_n]; done) | fail) only [iI_lit, iI_add, iI_sub, iI_mul, iI_neg, iI_lt, iI_le, iI_eq, zlt_t, zlt_f, zle_t, zle_f, zeq_t, zeq_f, nle_t, nle_f, iI_cl, rA, rS, rB, wA, wS, wB, mkp, mk2, uA_s, uA_n, ud_s, ud_n, bI_0, bI_1, nor_s, ↓reduceIte, or_false, false_or, or_true, true_or, or_self, not_true_eq_false, not_false_eq_true, and_true, true_and, and_false, false_and, bI_T, bI_F, Int.reduceToNat, Nat.reduceAdd, Nat.reduceMul, Int.reduceNeg, Option.bind_some, Int.toNat_natCast])).trans ?_
      rw [kj, n1]
      rfl
    · rw [hg t]
      show (if j + 1 ≤ t ∧ t < 4 * W then M.1 316 t else upd (M.1 315) j (M.1 316 j) t) = _
      by_cases c : t = j
      · subst c
        rw [if_neg (by omega), upd_s, if_pos (by omega)]
      · rw [upd_n c]
        by_cases c2 : j + 1 ≤ t ∧ t < 4 * W
        · rw [if_pos c2, if_pos (by omega)]
        · rw [if_neg c2, if_neg (by omega)]
def better (x fl rf s f r : Int) : Prop := x < s ∨ (x = s ∧ (fl < f ∨ (fl = f ∧ rf < r)))
/-- the end of a row, the reference -/
theorem pm_fin (P : PLC F Ax B0 Bs v1 W Kb d0 r0 A1) (hF : 10000 ≤ F) {p : List Int} (hK : K ≤ 998000000) (h : PV F Ax B0 Bs K p A A) {M : mM} (hM : Rch F Bs p M) {x rf s f r : Int} (hx : x = if A 16 13 = -1 then 0 else 1) (hrf : rf = A 16 12 - r0) (hf1 : 0 ≤ rf) (hf2 : rf ≤ 25200) (hs : 0 ≤ s ∧ s ≤ 2) (hf : 0 ≤ f ∧ f ≤ 15) (hr : 0 ≤ r ∧ r ≤ 25200) (k70 : Int32 → Int32 → Int32 → Int32 → Int32 → Int32 → Int32 → mM → Option (Int32 × mM)) (v3 v7 : Int32) (q : Nat) : (0 ≤ A 19 12 ∧ A 19 12 ≤ 15) ∧ (-1 ≤ A 16 13 ∧ A 16 13 ≤ 700) ∧ ∃ M1, Bs M1 ∧ M1.1 315 = M.1 315 ∧ M1.1 316 = M.1 316 ∧ (better x (A 19 12) rf s f r → f_m_plan_79 F k70 (q + 1) v1 (iI (W : Int)) v3 (iI s) (iI f) (iI r) v7 (iI (W : Int)) M = f_m_plan_303 F k70 F v1 (iI (W : Int)) v3 (iI x) (iI (A 19 12)) (iI rf) v7 0 M1) ∧ (¬ better x (A 19 12) rf s f r → f_m_plan_79 F k70 (q + 1) v1 (iI (W : Int)) v3 (iI s) (iI f) (iI r) v7 (iI (W : Int)) M = f_m_plan_331 F k70 v1 (iI (W : Int)) v3 (iI s) (iI f) (iI r) v7 M1) := by
  have hW := P.hW
  have yd := (numb F P.hF hK h hM).2.2
  obtain ⟨B, rfl, y, fb⟩ := h.2 M hM
  have R : RR K (A 16 9) A B A B := ⟨y, SX.rf _, SB.rf _⟩
  have z8 := R.gD.de3
  have z9 := R.gD.ds3
  have s1 := R.gD.ds1
  have s2 := R.gD.ds2
  have fr := fl_rg R.gH
  have b8 : B 2400 8 = r0 := by rw [fb.1 2400 (by omega)]; exact P.hB
  have ye := em_end F hF Ax B
  have rd : ((mk Ax B).1 305 (8 : Int32).toNatClampNeg) - ((mk Ax B).1 314 (8 : Int32).toNatClampNeg) = iI rf := by
    have r314 : (mk Ax B).1 314 8 = iI r0 := (congrArg iI b8 : _)
    have e8 : (8 : Int32).toNatClampNeg = 8 := rfl
    rw [e8, r314, hrf]
    simp (disch := first | omega | (simp (disch := omega) only [uA_n]; done) | fail) only [iI_lit, iI_add, iI_sub, iI_mul, iI_neg, iI_lt, iI_le, iI_eq, zlt_t, zlt_f, zle_t, zle_f, zeq_t, zeq_f, nle_t, nle_f, iI_cl, rA, rS, rB, wA, wS, wB, mkp, mk2, uA_s, uA_n, ud_s, ud_n, bI_0, bI_1, nor_s, ↓reduceIte, or_false, false_or, or_true, true_or, or_self, not_true_eq_false, not_false_eq_true, and_true, true_and, and_false, false_and, bI_T, bI_F, Int.reduceToNat, Nat.reduceAdd, Nat.reduceMul, Int.reduceNeg, Option.bind_some, Int.toNat_natCast, dS, z8]
  have hx2 : 0 ≤ x ∧ x ≤ 1 := by rw [hx]; split <;> omega
  refine ⟨fr, ⟨s1, s2⟩, mk Ax (imB B 0 2000), P.hE B fb, ?_, ?_, ?_⟩
  · funext j
    rw [rB (k := 315) (B := B) (by omega) (by omega) (by omega) (by omega) (by omega), rB (k := 315) (B := imB B 0 2000) (by omega) (by omega) (by omega) (by omega) (by omega), imB_o (by omega)]
  · funext j
    rw [rB (k := 316) (B := B) (by omega) (by omega) (by omega) (by omega) (by omega), rB (k := 316) (B := imB B 0 2000) (by omega) (by omega) (by omega) (by omega) (by omega), imB_o (by omega)]
  have Z : ∀ z, f_m_plan_193 F k70 v1 (iI (W : Int)) v3 (iI s) (iI f) (iI r) v7 (iI x) (mk Ax B) = z → f_m_plan_79 F k70 (q + 1) v1 (iI (W : Int)) v3 (iI s) (iI f) (iI r) v7 (iI (W : Int)) (mk Ax B) = z := fun z h => by
    rw [f_m_plan_79]
    refine (if_pos (by simp (disch := first | omega | (simp (disch := omega) only [uA_n]; done) | fail) only [iI_lit, iI_add, iI_sub, iI_mul, iI_neg, iI_lt, iI_le, iI_eq, zlt_t, zlt_f, zle_t, zle_f, zeq_t, zeq_f, nle_t, nle_f, iI_cl, rA, rS, rB, wA, wS, wB, mkp, mk2, uA_s, uA_n, ud_s, ud_n, bI_0, bI_1, nor_s, ↓reduceIte, or_false, false_or, or_true, true_or, or_self, not_true_eq_false, not_false_eq_true, and_true, true_and, and_false, false_and, bI_T, bI_F, Int.reduceToNat, Nat.reduceAdd, Nat.reduceMul, Int.reduceNeg, Option.bind_some, Int.toNat_natCast])).trans ?_
    by_cases c : A 16 13 = -1
    · rw [if_pos c] at hx
      subst hx
      exact (if_pos (by rw [c] at z9; simp (disch := first | omega | (simp (disch := omega) only [uA_n]; done) | fail) only [iI_lit, iI_add, iI_sub, iI_mul, iI_neg, iI_lt, iI_le, iI_eq, zlt_t, zlt_f, zle_t, zle_f, zeq_t, zeq_f, nle_t, nle_f, iI_cl, rA, rS, rB, wA, wS, wB, mkp, mk2, uA_s, uA_n, ud_s, ud_n, bI_0, bI_1, nor_s, ↓reduceIte, or_false, false_or, or_true, true_or, or_self, not_true_eq_false, not_false_eq_true, and_true, true_and, and_false, false_and, bI_T, bI_F, Int.reduceToNat, Nat.reduceAdd, Nat.reduceMul, Int.reduceNeg, Option.bind_some, Int.toNat_natCast, dS, z9])).trans h
    · rw [if_neg c] at hx
      subst hx
      exact (if_neg (by simp (disch := first | omega | (simp (disch := omega) only [uA_n]; done) | fail) only [iI_lit, iI_add, iI_sub, iI_mul, iI_neg, iI_lt, iI_le, iI_eq, zlt_t, zlt_f, zle_t, zle_f, zeq_t, zeq_f, nle_t, nle_f, iI_cl, rA, rS, rB, wA, wS, wB, mkp, mk2, uA_s, uA_n, ud_s, ud_n, bI_0, bI_1, nor_s, ↓reduceIte, or_false, false_or, or_true, true_or, or_self, not_true_eq_false, not_false_eq_true, and_true, true_and, and_false, false_and, bI_T, bI_F, Int.reduceToNat, Nat.reduceAdd, Nat.reduceMul, Int.reduceNeg, Option.bind_some, Int.toNat_natCast, dS, z9])).trans h
  have T1 : f_m_plan_274 F k70 v1 (iI (W : Int)) v3 (iI s) (iI f) (iI r) v7 (iI x) (iI rf) (iI (A 19 12)) 1 (mk Ax B) = f_m_plan_303 F k70 F v1 (iI (W : Int)) v3 (iI x) (iI (A 19 12)) (iI rf) v7 0 (mk Ax (imB B 0 2000)) := by
    unfold f_m_plan_274
    exact obd ye (if_neg (by decide))
  have T0 : f_m_plan_274 F k70 v1 (iI (W : Int)) v3 (iI s) (iI f) (iI r) v7 (iI x) (iI rf) (iI (A 19 12)) 0 (mk Ax B) = f_m_plan_331 F k70 v1 (iI (W : Int)) v3 (iI s) (iI f) (iI r) v7 (mk Ax (imB B 0 2000)) := by
    unfold f_m_plan_274
    exact obd ye (if_pos rfl)
  unfold better
  have U : ∀ z, (if iI x = iI s then (if iI (A 19 12) = iI f then (if iI r ≤ iI rf then f_m_plan_274 F k70 v1 (iI (W : Int)) v3 (iI s) (iI f) (iI r) v7 (iI x) (iI rf) (iI (A 19 12)) 0 (mk Ax B) else f_m_plan_274 F k70 v1 (iI (W : Int)) v3 (iI s) (iI f) (iI r) v7 (iI x) (iI rf) (iI (A 19 12)) 1 (mk Ax B)) else (if iI f ≤ iI (A 19 12) then f_m_plan_274 F k70 v1 (iI (W : Int)) v3 (iI s) (iI f) (iI r) v7 (iI x) (iI rf) (iI (A 19 12)) 0 (mk Ax B) else f_m_plan_274 F k70 v1 (iI (W : Int)) v3 (iI s) (iI f) (iI r) v7 (iI x) (iI rf) (iI (A 19 12)) 1 (mk Ax B))) else (if iI s ≤ iI x then f_m_plan_274 F k70 v1 (iI (W : Int)) v3 (iI s) (iI f) (iI r) v7 (iI x) (iI rf) (iI (A 19 12)) 0 (mk Ax B) else f_m_plan_274 F k70 v1 (iI (W : Int)) v3 (iI s) (iI f) (iI r) v7 (iI x) (iI rf) (iI (A 19 12)) 1 (mk Ax B))) = z → f_m_plan_193 F k70 v1 (iI (W : Int)) v3 (iI s) (iI f) (iI r) v7 (iI x) (mk Ax B) = z := fun z h => by
    unfold f_m_plan_193
    refine obd yd ?_
    show (if iI x = iI s then (if iI (A 19 12) = iI f then (if iI r ≤ (((mk Ax B).1 305 (8 : Int32).toNatClampNeg) - ((mk Ax B).1 314 (8 : Int32).toNatClampNeg)) then f_m_plan_274 F k70 v1 (iI (W : Int)) v3 (iI s) (iI f) (iI r) v7 (iI x) (((mk Ax B).1 305 (8 : Int32).toNatClampNeg) - ((mk Ax B).1 314 (8 : Int32).toNatClampNeg)) (iI (A 19 12)) 0 (mk Ax B) else f_m_plan_274 F k70 v1 (iI (W : Int)) v3 (iI s) (iI f) (iI r) v7 (iI x) (((mk Ax B).1 305 (8 : Int32).toNatClampNeg) - ((mk Ax B).1 314 (8 : Int32).toNatClampNeg)) (iI (A 19 12)) 1 (mk Ax B)) else (if iI f ≤ iI (A 19 12) then f_m_plan_274 F k70 v1 (iI (W : Int)) v3 (iI s) (iI f) (iI r) v7 (iI x) (((mk Ax B).1 305 (8 : Int32).toNatClampNeg) - ((mk Ax B).1 314 (8 : Int32).toNatClampNeg)) (iI (A 19 12)) 0 (mk Ax B) else f_m_plan_274 F k70 v1 (iI (W : Int)) v3 (iI s) (iI f) (iI r) v7 (iI x) (((mk Ax B).1 305 (8 : Int32).toNatClampNeg) - ((mk Ax B).1 314 (8 : Int32).toNatClampNeg)) (iI (A 19 12)) 1 (mk Ax B))) else (if iI s ≤ iI x then f_m_plan_274 F k70 v1 (iI (W : Int)) v3 (iI s) (iI f) (iI r) v7 (iI x) (((mk Ax B).1 305 (8 : Int32).toNatClampNeg) - ((mk Ax B).1 314 (8 : Int32).toNatClampNeg)) (iI (A 19 12)) 0 (mk Ax B) else f_m_plan_274 F k70 v1 (iI (W : Int)) v3 (iI s) (iI f) (iI r) v7 (iI x) (((mk Ax B).1 305 (8 : Int32).toNatClampNeg) - ((mk Ax B).1 314 (8 : Int32).toNatClampNeg)) (iI (A 19 12)) 1 (mk Ax B))) = z
    rw [rd]
    exact h
  have i1 : (iI x = iI s) = (x = s) := iI_eq (by omega) (by omega) (by omega) (by omega)
  have i2 : (iI (A 19 12) = iI f) = (A 19 12 = f) := iI_eq (by omega) (by omega) (by omega) (by omega)
  have i3 : (iI r ≤ iI rf) = (r ≤ rf) := iI_le (by omega) (by omega) (by omega) (by omega)
  have i4 : (iI f ≤ iI (A 19 12)) = (f ≤ A 19 12) := iI_le (by omega) (by omega) (by omega) (by omega)
  have i5 : (iI s ≤ iI x) = (s ≤ x) := iI_le (by omega) (by omega) (by omega) (by omega)
  refine ⟨fun hb => Z _ (U _ ?_), fun hb => Z _ (U _ ?_)⟩
  · rw [← T1]
    by_cases c1 : x = s
    · refine (if_pos (i1.mpr c1)).trans ?_
      by_cases c2 : A 19 12 = f
      · refine (if_pos (i2.mpr c2)).trans ?_
        exact if_neg (fun z => by have := i3.mp z; omega)
      · refine (if_neg (fun z => c2 (i2.mp z))).trans ?_
        exact if_neg (fun z => by have := i4.mp z; omega)
    · refine (if_neg (fun z => c1 (i1.mp z))).trans ?_
      exact if_neg (fun z => by have := i5.mp z; omega)
  · rw [← T0]
    by_cases c1 : x = s
    · refine (if_pos (i1.mpr c1)).trans ?_
      by_cases c2 : A 19 12 = f
      · refine (if_pos (i2.mpr c2)).trans ?_
        exact if_pos (i3.mpr (by omega))
      · refine (if_neg (fun z => c2 (i2.mp z))).trans ?_
        exact if_pos (i4.mpr (by omega))
    · refine (if_neg (fun z => c1 (i1.mp z))).trans ?_
      exact if_pos (i5.mpr (by omega))
end PLANS
