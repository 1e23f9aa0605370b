/-! WHAT IS HEARD -/
def frc (A : hI) (i h : Nat) : Int := A 18 (8 * (A 21 i).toNat + (A 21 h).toNat)
abbrev hfc (A : hI) (h : Nat) (d : Int) (i : Nat) : Prop := A 27 i ≠ -1 ∧ d - 29 ≤ A 27 i ∧ frc A i h ≠ -1 ∧ A 27 i + frc A i h ≤ d
def hfv (A : hI) (h : Nat) (d : Int) : Int := sm (A 19 11 - 1).toNat (fun j => bI (hfc A h d (j + 1)))
def hsv (A : hI) (h : Nat) (d : Int) : Int := if frc A 0 h = -1 ∨ d - frc A 0 h - 6 < 0 then -1 else min ((d - frc A 0 h - 6) / 7) (A 16 9 / 7 - 1)
def hrv (A : hI) (h : Nat) (d : Int) : Int := if hsv A h d = -1 then -1 else A 7 (6 * (hsv A h d).toNat + 5)
section HEAR
variable {K D : Int} {A0 B0 A B A' B' : hI} (F : Nat)
theorem RR.frc0 (R : RR K D A0 B0 A B) {i h : Nat} (hi : (i : Int) < A 19 11) (hh : (h : Int) < A 19 11) : frc A i h = cd (B 404 (8 * (A 21 i).toNat + (A 21 h).toNat)) ∧ okV (B 404 (8 * (A 21 i).toNat + (A 21 h).toNat)) ∧ -1 ≤ frc A i h ∧ frc A i h ≤ 210 ∧ (frc A i h = -1 ↔ B 404 (8 * (A 21 i).toNat + (A 21 h).toNat) = 999999) := by
  have t1 := R.gH.ht1 i hi
  have t2 := R.gH.ht1 h hh
  have f := R.far (a := (A 21 i).toNat) (b := (A 21 h).toNat) (by omega) (by omega)
  have c := cd_rg f.2.2
  unfold frc
  rw [f.1]
  exact ⟨rfl, f.2.2, c.1, c.2.1, c.2.2.1⟩
theorem hfv_rg (A : hI) (h : Nat) (d : Int) (hn : 1 ≤ A 19 11) : 0 ≤ hfv A h d ∧ hfv A h d ≤ A 19 11 - 1 := by
  have c := sm_cnt (A 19 11 - 1).toNat (fun j => hfc A h d (j + 1))
  unfold hfv
  omega
theorem ex_hearF (R : RR K D A0 B0 A B) (hF : 1000 ≤ F) (Bx : hI) {h : Nat} (hh : (h : Int) < A 19 11) {d : Int} (hd : 0 ≤ d) (hd2 : d ≤ 700) : f_World_heardFailures F (iI h) (iI d) (mk A Bx) = some (iI (hfv A h d), mk A Bx) := by
  have hn1 := R.gH.hn1
  have hn2 := R.gH.hn2
  unfold f_World_heardFailures hfv
  refine loopF (f := fun q (s : Int32 × Int32 × mM) => f_World_heardFailures_5 F q (iI h) (iI d) s.1 s.2.1 s.2.2) (s := (0, 1, mk A Bx)) (fun i s => s = (iI (sm i (fun j => bI (hfc A h d (j + 1)))), iI ((i + 1 : Nat) : Int), mk A Bx)) (fun t => t = some (iI (sm (A 19 11 - 1).toNat (fun j => bI (hfc A h d (j + 1)))), mk A Bx)) (A 19 11 - 1).toNat rfl ?_ (by omega)
  rintro q i s hi rfl
  show f_World_heardFailures_5 F (q + 1) (iI h) (iI d) (iI (sm i (fun j => bI (hfc A h d (j + 1))))) (iI ((i + 1 : Nat) : Int)) (mk A Bx) = _ ∨ _
  rw [f_World_heardFailures_5]
  simp only [f_World_heardFailures_81, f_World_heardFailures_82, f_World_heardFailures_84]
  have c := (sm_cnt i (fun j => hfc A h d (j + 1)))
  by_cases he : i = (A 19 11 - 1).toNat
  · subst he
    refine Or.inl ?_
    have e : (((A 19 11 - 1).toNat + 1 : Nat) : Int) = A 19 11 := by omega
    simp (disch := first | omega | (simp (disch := omega) only [uA_n]; done) | fail) only [iI_lit, iI_add, iI_sub, iI_mul, iI_neg, iI_lt, iI_le, iI_eq, zlt_t, zlt_f, zle_t, zle_f, zeq_t, zeq_f, nle_t, nle_f, iI_cl, rA, rS, rB, wA, wS, wB, mkp, mk2, uA_s, uA_n, ud_s, ud_n, bI_0, bI_1, nor_s, ↓reduceIte, or_false, false_or, or_true, true_or, or_self, not_true_eq_false, not_false_eq_true, and_true, true_and, and_false, false_and, bI_T, bI_F, Int.reduceToNat, Nat.reduceAdd, Nat.reduceMul, Int.reduceNeg, Option.bind_some, Int.toNat_natCast, e]
  · have hu := R.up (a := i + 1) (by omega)
    have ff := R.frc0 (i := i + 1) (h := h) (by omega) hh
    have t1 := R.gH.ht1 (i + 1) (by omega)
    have x := ex_farFrom F R Bx (h := (h : Int)) (t := A 21 (i + 1)) (by omega) hh t1.1 t1.2
    rw [Int.toNat_natCast] at x
    change f_World_farFrom F (iI h) (iI (A 21 (i + 1))) (mk A Bx) = some (iI (frc A (i + 1) h), mk A Bx) at x
    refine Or.inr ⟨by omega, (iI (sm (i + 1) (fun j => bI (hfc A h d (j + 1)))), iI ((i + 1 + 1 : Nat) : Int), mk A Bx), ?_, rfl⟩
    simp only [sm]
    generalize sm i (fun j => bI (hfc A h d (j + 1))) = acc at *
    by_cases h1 : A 27 (i + 1) = -1
    · rw [bI_f (fun z => z.1 h1)]
      simp (disch := first | omega | (simp (disch := omega) only [uA_n]; done) | fail) only [iI_lit, iI_add, iI_sub, iI_mul, iI_neg, iI_lt, iI_le, iI_eq, zlt_t, zlt_f, zle_t, zle_f, zeq_t, zeq_f, nle_t, nle_f, iI_cl, rA, rS, rB, wA, wS, wB, mkp, mk2, uA_s, uA_n, ud_s, ud_n, bI_0, bI_1, nor_s, ↓reduceIte, or_false, false_or, or_true, true_or, or_self, not_true_eq_false, not_false_eq_true, and_true, true_and, and_false, false_and, bI_T, bI_F, Int.reduceToNat, Nat.reduceAdd, Nat.reduceMul, Int.reduceNeg, Option.bind_some, Int.toNat_natCast, h1, show acc + 0 = acc by omega]
      rfl
    · by_cases h2 : d - 29 ≤ A 27 (i + 1)
      · by_cases h3 : frc A (i + 1) h = -1
        · rw [bI_f (fun z => z.2.2.1 h3)]
          rw [h3] at x
          simp (disch := first | omega | (simp (disch := omega) only [uA_n]; done) | fail) only [iI_lit, iI_add, iI_sub, iI_mul, iI_neg, iI_lt, iI_le, iI_eq, zlt_t, zlt_f, zle_t, zle_f, zeq_t, zeq_f, nle_t, nle_f, iI_cl, rA, rS, rB, wA, wS, wB, mkp, mk2, uA_s, uA_n, ud_s, ud_n, bI_0, bI_1, nor_s, ↓reduceIte, or_false, false_or, or_true, true_or, or_self, not_true_eq_false, not_false_eq_true, and_true, true_and, and_false, false_and, bI_T, bI_F, Int.reduceToNat, Nat.reduceAdd, Nat.reduceMul, Int.reduceNeg, Option.bind_some, Int.toNat_natCast, x]
          rfl
        · by_cases h4 : A 27 (i + 1) + frc A (i + 1) h ≤ d
          · rw [bI_t ⟨h1, h2, h3, h4⟩]
            simp (disch := first | omega | (simp (disch := omega) only [uA_n]; done) | fail) only [iI_lit, iI_add, iI_sub, iI_mul, iI_neg, iI_lt, iI_le, iI_eq, zlt_t, zlt_f, zle_t, zle_f, zeq_t, zeq_f, nle_t, nle_f, iI_cl, rA, rS, rB, wA, wS, wB, mkp, mk2, uA_s, uA_n, ud_s, ud_n, bI_0, bI_1, nor_s, ↓reduceIte, or_false, false_or, or_true, true_or, or_self, not_true_eq_false, not_false_eq_true, and_true, true_and, and_false, false_and, bI_T, bI_F, Int.reduceToNat, Nat.reduceAdd, Nat.reduceMul, Int.reduceNeg, Option.bind_some, Int.toNat_natCast, x]
            rfl
          · rw [bI_f (fun z => h4 z.2.2.2)]
            simp (disch := first | omega | (simp (disch := omega) only [uA_n]; done) | fail) only [iI_lit, iI_add, iI_sub, iI_mul, iI_neg, iI_lt, iI_le, iI_eq, zlt_t, zlt_f, zle_t, zle_f, zeq_t, zeq_f, nle_t, nle_f, iI_cl, rA, rS, rB, wA, wS, wB, mkp, mk2, uA_s, uA_n, ud_s, ud_n, bI_0, bI_1, nor_s, ↓reduceIte, or_false, false_or, or_true, true_or, or_self, not_true_eq_false, not_false_eq_true, and_true, true_and, and_false, false_and, bI_T, bI_F, Int.reduceToNat, Nat.reduceAdd, Nat.reduceMul, Int.reduceNeg, Option.bind_some, Int.toNat_natCast, x]
            rfl
      · rw [bI_f (fun z => h2 z.2.1)]
        simp (disch := first | omega | (simp (disch := omega) only [uA_n]; done) | fail) only [iI_lit, iI_add, iI_sub, iI_mul, iI_neg, iI_lt, iI_le, iI_eq, zlt_t, zlt_f, zle_t, zle_f, zeq_t, zeq_f, nle_t, nle_f, iI_cl, rA, rS, rB, wA, wS, wB, mkp, mk2, uA_s, uA_n, ud_s, ud_n, bI_0, bI_1, nor_s, ↓reduceIte, or_false, false_or, or_true, true_or, or_self, not_true_eq_false, not_false_eq_true, and_true, true_and, and_false, false_and, bI_T, bI_F, Int.reduceToNat, Nat.reduceAdd, Nat.reduceMul, Int.reduceNeg, Option.bind_some, Int.toNat_natCast, show acc + 0 = acc by omega]
        rfl
theorem em_hearF (R : RR K D A0 B0 A B) (hF : 1000 ≤ F) (Ax : hI) {h : Nat} (hh : (h : Int) < A 19 11) {d : Int} (hd : 0 ≤ d) (hd2 : d ≤ 700) : f_m_heardOf F (iI h) (iI d) (mk Ax B) = some (iI (hfv A h d), mk Ax B) := by
  have hn1 := R.gH.hn1
  have hn2 := R.gH.hn2
  have hn3 := R.gH.hn3
  have h8 := R.gL.lt2
  unfold f_m_heardOf hfv
  refine loopF (f := fun q (s : Int32 × Int32 × mM) => f_m_heardOf_5 F q (iI h) (iI d) s.1 s.2.1 s.2.2) (s := (0, 1, mk Ax B)) (fun i s => s = (iI (sm i (fun j => bI (hfc A h d (j + 1)))), iI ((i + 1 : Nat) : Int), mk Ax B)) (fun t => t = some (iI (sm (A 19 11 - 1).toNat (fun j => bI (hfc A h d (j + 1)))), mk Ax B)) (A 19 11 - 1).toNat rfl ?_ (by omega)
  rintro q i s hi rfl
  show f_m_heardOf_5 F (q + 1) (iI h) (iI d) (iI (sm i (fun j => bI (hfc A h d (j + 1))))) (iI ((i + 1 : Nat) : Int)) (mk Ax B) = _ ∨ _
  rw [f_m_heardOf_5]
  simp only [f_m_heardOf_82, f_m_heardOf_83, f_m_heardOf_85]
  have c := (sm_cnt i (fun j => hfc A h d (j + 1)))
  by_cases he : i = (A 19 11 - 1).toNat
  · subst he
    refine Or.inl ?_
    have e : (((A 19 11 - 1).toNat + 1 : Nat) : Int) = A 19 11 := by omega
    simp (disch := first | omega | (simp (disch := omega) only [uA_n]; done) | fail) only [iI_lit, iI_add, iI_sub, iI_mul, iI_neg, iI_lt, iI_le, iI_eq, zlt_t, zlt_f, zle_t, zle_f, zeq_t, zeq_f, nle_t, nle_f, iI_cl, rA, rS, rB, wA, wS, wB, mkp, mk2, uA_s, uA_n, ud_s, ud_n, bI_0, bI_1, nor_s, ↓reduceIte, or_false, false_or, or_true, true_or, or_self, not_true_eq_false, not_false_eq_true, and_true, true_and, and_false, false_and, bI_T, bI_F, Int.reduceToNat, Nat.reduceAdd, Nat.reduceMul, Int.reduceNeg, Option.bind_some, Int.toNat_natCast, dS, hn3, e]
  · have hu := R.up (a := i + 1) (by omega)
    have ff := R.frc0 (i := i + 1) (h := h) (by omega) hh
    have yu := em_isUp F R Ax ((i + 1 : Nat) : Int) (by omega) (by omega)
    rw [Int.toNat_natCast] at yu
    have t1 := R.gH.ht1 (i + 1) (by omega)
    have t2 := R.gH.ht1 h hh
    have s1 := R.gH.ht (i + 1) (by omega)
    have s2 := R.gH.ht h (by omega)
    have ef := em_farOf F (A 21 (i + 1)) (A 21 h) Ax B (by omega) (by omega) (by omega) (by omega)
    have e1 := em_hs F ((i + 1 : Nat) : Int) 1 Ax B (by omega) (by omega) (by omega) (by omega)
    have e1 : f_m_hs F (iI ((i + 1 : Nat) : Int)) (iI 1) (mk Ax B) = some (iI (A 21 (i + 1)), mk Ax B) := e1.trans (by rw [Int.toNat_natCast]; show some (iI (B 411 (i + 1)), _) = _; rw [s1])
    have e2 := em_hs F (h : Int) 1 Ax B (by omega) (by omega) (by omega) (by omega)
    have e2 : f_m_hs F (iI (h : Int)) (iI 1) (mk Ax B) = some (iI (A 21 h), mk Ax B) := e2.trans (by rw [Int.toNat_natCast]; show some (iI (B 411 h), _) = _; rw [s2])
    obtain ⟨f1, f2, f3, f4, f5⟩ := ff
    have fv : B 404 (8 * (A 21 (i + 1)).toNat + (A 21 h).toNat) ≠ 999999 → frc A (i + 1) h = B 404 (8 * (A 21 (i + 1)).toNat + (A 21 h).toNat) := fun z => f1.trans (if_neg z)
    generalize B 404 (8 * (A 21 (i + 1)).toNat + (A 21 h).toNat) = g at *
    obtain ⟨g1, g2, g3⟩ := f2
    refine Or.inr ⟨by omega, (iI (sm (i + 1) (fun j => bI (hfc A h d (j + 1)))), iI ((i + 1 + 1 : Nat) : Int), mk Ax B), ?_, rfl⟩
    simp only [sm]
    generalize sm i (fun j => bI (hfc A h d (j + 1))) = acc at *
    by_cases h1 : A 27 (i + 1) = -1
    · rw [bI_f (fun z => z.1 h1)]
      rw [bI_t h1] at yu
      simp (disch := first | omega | (simp (disch := omega) only [uA_n]; done) | fail) only [iI_lit, iI_add, iI_sub, iI_mul, iI_neg, iI_lt, iI_le, iI_eq, zlt_t, zlt_f, zle_t, zle_f, zeq_t, zeq_f, nle_t, nle_f, iI_cl, rA, rS, rB, wA, wS, wB, mkp, mk2, uA_s, uA_n, ud_s, ud_n, bI_0, bI_1, nor_s, ↓reduceIte, or_false, false_or, or_true, true_or, or_self, not_true_eq_false, not_false_eq_true, and_true, true_and, and_false, false_and, bI_T, bI_F, Int.reduceToNat, Nat.reduceAdd, Nat.reduceMul, Int.reduceNeg, Option.bind_some, Int.toNat_natCast, dS, hn3, yu, show acc + 0 = acc by omega]
      rfl
    · rw [bI_f h1] at yu
      have hd8 := (R.gH.hdn (i + 1) (by omega)).resolve_left (fun z => h1 z.1)
      have e8 := em_hs F ((i + 1 : Nat) : Int) 8 Ax B (by omega) (by omega) (by omega) (by omega)
      have e8 : f_m_hs F (iI ((i + 1 : Nat) : Int)) (iI 8) (mk Ax B) = some (iI (A 27 (i + 1)), mk Ax B) := e8.trans (by rw [Int.toNat_natCast]; show some (iI (B 418 (i + 1)), _) = _; rw [hd8.2.2.2.1])
      by_cases h2 : d - 29 ≤ A 27 (i + 1)
      · by_cases h5 : A 27 (i + 1) ≤ d
        · by_cases h6 : A 27 (i + 1) + g ≤ d
          · have hg : g ≠ 999999 := by omega
            have := fv hg
            rw [bI_t ⟨h1, h2, by omega, by omega⟩]
            simp (disch := first | omega | (simp (disch := omega) only [uA_n]; done) | fail) only [iI_lit, iI_add, iI_sub, iI_mul, iI_neg, iI_lt, iI_le, iI_eq, zlt_t, zlt_f, zle_t, zle_f, zeq_t, zeq_f, nle_t, nle_f, iI_cl, rA, rS, rB, wA, wS, wB, mkp, mk2, uA_s, uA_n, ud_s, ud_n, bI_0, bI_1, nor_s, ↓reduceIte, or_false, false_or, or_true, true_or, or_self, not_true_eq_false, not_false_eq_true, and_true, true_and, and_false, false_and, bI_T, bI_F, Int.reduceToNat, Nat.reduceAdd, Nat.reduceMul, Int.reduceNeg, Option.bind_some, Int.toNat_natCast, dS, hn3, yu, e8, e1, e2, ef]
            rfl
          · rw [bI_f (fun z => by
              have hg : g ≠ 999999 := fun w => z.2.2.1 (f5.2 w)
              have := fv hg
              have := z.2.2.2
              omega)]
            simp (disch := first | omega | (simp (disch := omega) only [uA_n]; done) | fail) only [iI_lit, iI_add, iI_sub, iI_mul, iI_neg, iI_lt, iI_le, iI_eq, zlt_t, zlt_f, zle_t, zle_f, zeq_t, zeq_f, nle_t, nle_f, iI_cl, rA, rS, rB, wA, wS, wB, mkp, mk2, uA_s, uA_n, ud_s, ud_n, bI_0, bI_1, nor_s, ↓reduceIte, or_false, false_or, or_true, true_or, or_self, not_true_eq_false, not_false_eq_true, and_true, true_and, and_false, false_and, bI_T, bI_F, Int.reduceToNat, Nat.reduceAdd, Nat.reduceMul, Int.reduceNeg, Option.bind_some, Int.toNat_natCast, dS, hn3, yu, e8, e1, e2, ef]
            rfl
        · rw [bI_f (fun z => by have := z.2.2.2; have := z.2.2.1; omega)]
          simp (disch := first | omega | (simp (disch := omega) only [uA_n]; done) | fail) only [iI_lit, iI_add, iI_sub, iI_mul, iI_neg, iI_lt, iI_le, iI_eq, zlt_t, zlt_f, zle_t, zle_f, zeq_t, zeq_f, nle_t, nle_f, iI_cl, rA, rS, rB, wA, wS, wB, mkp, mk2, uA_s, uA_n, ud_s, ud_n, bI_0, bI_1, nor_s, ↓reduceIte, or_false, false_or, or_true, true_or, or_self, not_true_eq_false, not_false_eq_true, and_true, true_and, and_false, false_and, bI_T, bI_F, Int.reduceToNat, Nat.reduceAdd, Nat.reduceMul, Int.reduceNeg, Option.bind_some, Int.toNat_natCast, dS, hn3, yu, e8]
          rfl
      · rw [bI_f (fun z => h2 z.2.1)]
        simp (disch := first | omega | (simp (disch := omega) only [uA_n]; done) | fail) only [iI_lit, iI_add, iI_sub, iI_mul, iI_neg, iI_lt, iI_le, iI_eq, zlt_t, zlt_f, zle_t, zle_f, zeq_t, zeq_f, nle_t, nle_f, iI_cl, rA, rS, rB, wA, wS, wB, mkp, mk2, uA_s, uA_n, ud_s, ud_n, bI_0, bI_1, nor_s, ↓reduceIte, or_false, false_or, or_true, true_or, or_self, not_true_eq_false, not_false_eq_true, and_true, true_and, and_false, false_and, bI_T, bI_F, Int.reduceToNat, Nat.reduceAdd, Nat.reduceMul, Int.reduceNeg, Option.bind_some, Int.toNat_natCast, dS, hn3, yu, e8]
        rfl
theorem RR.hsv0 (R : RR K D A0 B0 A B) {h : Nat} (hh : (h : Int) < A 19 11) {d : Int} (hd : 0 ≤ d) (hd2 : d ≤ 700) : -1 ≤ hsv A h d ∧ hsv A h d ≤ 99 ∧ (hsv A h d ≠ -1 → 7 * hsv A h d + 7 ≤ A 16 9) := by
  have hd1 := R.gD.dd1
  have hd3 := R.gD.dd2
  have hn1 := R.gH.hn1
  have ff := R.frc0 (i := 0) (h := h) (by omega) hh
  unfold hsv
  by_cases c : frc A 0 h = -1 ∨ d - frc A 0 h - 6 < 0
  · rw [if_pos c]; omega
  · rw [if_neg c]; omega
theorem ex_hearS (R : RR K D A0 B0 A B) (Bx : hI) {h : Nat} (hh : (h : Int) < A 19 11) {d : Int} (hd : 0 ≤ d) (hd2 : d ≤ 700) : f_World_heardSheet F (iI h) (iI d) (mk A Bx) = some (iI (hsv A h d), mk A Bx) := by
  have hd1 := R.gD.dd1
  have hd3 := R.gD.dd2
  have hn1 := R.gH.hn1
  have ff := R.frc0 (i := 0) (h := h) (by omega) hh
  have t0 := R.gH.ht1 0 (by omega)
  have x := ex_farFrom F R Bx (h := (h : Int)) (t := A 21 0) (by omega) hh t0.1 t0.2
  rw [Int.toNat_natCast] at x
  change f_World_farFrom F (iI h) (iI (A 21 0)) (mk A Bx) = some (iI (frc A 0 h), mk A Bx) at x
  unfold hsv
  simp only [f_World_heardSheet, f_World_heardSheet_33, f_World_sheetCount]
  generalize frc A 0 h = f at *
  by_cases c1 : f = -1
  · rw [if_pos (Or.inl c1)]
    rw [c1] at x
    simp (disch := first | omega | (simp (disch := omega) only [uA_n]; done) | fail) only [iI_lit, iI_add, iI_sub, iI_mul, iI_neg, iI_lt, iI_le, iI_eq, zlt_t, zlt_f, zle_t, zle_f, zeq_t, zeq_f, nle_t, nle_f, iI_cl, rA, rS, rB, wA, wS, wB, mkp, mk2, uA_s, uA_n, ud_s, ud_n, bI_0, bI_1, nor_s, ↓reduceIte, or_false, false_or, or_true, true_or, or_self, not_true_eq_false, not_false_eq_true, and_true, true_and, and_false, false_and, bI_T, bI_F, Int.reduceToNat, Nat.reduceAdd, Nat.reduceMul, Int.reduceNeg, Option.bind_some, Int.toNat_natCast, x]
  · by_cases c2 : d - f - 6 < 0
    · rw [if_pos (Or.inr c2)]
      simp (disch := first | omega | (simp (disch := omega) only [uA_n]; done) | fail) only [iI_lit, iI_add, iI_sub, iI_mul, iI_neg, iI_lt, iI_le, iI_eq, zlt_t, zlt_f, zle_t, zle_f, zeq_t, zeq_f, nle_t, nle_f, iI_cl, rA, rS, rB, wA, wS, wB, mkp, mk2, uA_s, uA_n, ud_s, ud_n, bI_0, bI_1, nor_s, ↓reduceIte, or_false, false_or, or_true, true_or, or_self, not_true_eq_false, not_false_eq_true, and_true, true_and, and_false, false_and, bI_T, bI_F, Int.reduceToNat, Nat.reduceAdd, Nat.reduceMul, Int.reduceNeg, Option.bind_some, Int.toNat_natCast, x]
    · rw [if_neg (fun z => z.elim c1 c2)]
      have em : ∀ m : mM, f_Math_min_II F (iI ((d - f - 6) / 7)) (iI (A 16 9 / 7 - 1)) m = some (iI (min ((d - f - 6) / 7) (A 16 9 / 7 - 1)), m) := fun m => ex_min F _ _ m (by omega) (by omega) (by omega) (by omega)
      simp (disch := first | omega | (simp (disch := omega) only [uA_n]; done) | fail) only [iI_lit, iI_add, iI_sub, iI_mul, iI_neg, iI_lt, iI_le, iI_eq, zlt_t, zlt_f, zle_t, zle_f, zeq_t, zeq_f, nle_t, nle_f, iI_cl, rA, rS, rB, wA, wS, wB, mkp, mk2, uA_s, uA_n, ud_s, ud_n, bI_0, bI_1, nor_s, ↓reduceIte, or_false, false_or, or_true, true_or, or_self, not_true_eq_false, not_false_eq_true, and_true, true_and, and_false, false_and, bI_T, bI_F, Int.reduceToNat, Nat.reduceAdd, Nat.reduceMul, Int.reduceNeg, Option.bind_some, Int.toNat_natCast, x, iI_div, em]
theorem em_hearS (R : RR K D A0 B0 A B) (hF : 1000 ≤ F) (Ax : hI) {h : Nat} (hh : (h : Int) < A 19 11) {d : Int} (hd : 0 ≤ d) (hd2 : d ≤ 700) : f_m_sheetOf F (iI h) (iI d) (mk Ax B) = some (iI (hsv A h d), mk Ax B) := by
  have hd1 := R.gD.dd1
  have hd3 := R.gD.dd2
  have hdd := R.gD.dd3
  have hn1 := R.gH.hn1
  have hn2 := R.gH.hn2
  have h8 := R.gL.lt2
  have ff := R.frc0 (i := 0) (h := h) (by omega) hh
  have a0 := R.gH.hk0.2
  have t2 := R.gH.ht1 h hh
  have s2 := R.gH.ht h (by omega)
  have ef := em_farOf F 0 (A 21 h) Ax B (by omega) (by omega) (by omega) (by omega)
  have e2 := em_hs F (h : Int) 1 Ax B (by omega) (by omega) (by omega) (by omega)
  have e2 : f_m_hs F (iI (h : Int)) (iI 1) (mk Ax B) = some (iI (A 21 h), mk Ax B) := e2.trans (by rw [Int.toNat_natCast]; show some (iI (B 411 h), _) = _; rw [s2])
  obtain ⟨f1, f2, f3, f4, f5⟩ := ff
  rw [a0] at f1 f2 f5
  have fv : B 404 (8 * (0 : Int).toNat + (A 21 h).toNat) ≠ 999999 → frc A 0 h = B 404 (8 * (0 : Int).toNat + (A 21 h).toNat) := fun z => f1.trans (if_neg z)
  generalize B 404 (8 * (0 : Int).toNat + (A 21 h).toNat) = g at *
  obtain ⟨g1, g2, g3⟩ := f2
  have spec : ∀ n : Int, 0 ≤ n → (n ≤ hsv A h d ↔ (7 * n + 6 < A 16 9 ∧ 7 * n + 6 + g ≤ d)) := fun n hn => by
    unfold hsv
    by_cases hg : g = 999999
    · rw [if_pos (Or.inl (f5.2 hg))]; omega
    · have := fv hg
      by_cases c2 : d - frc A 0 h - 6 < 0
      · rw [if_pos (Or.inr c2)]; omega
      · rw [if_neg (fun z => z.elim (fun w => hg (f5.1 w)) c2)]; omega
  have hv := R.hsv0 hh hd hd2
  generalize hsv A h d = V at *
  have key : ∀ (n q : Nat), V < n → n ≤ 100 → n < q → f_m_sheetOf_3 F q (iI h) (iI d) (iI ((n : Int) - 1)) (mk Ax B) = some (iI V, mk Ax B) := by
    intro n
    induction n with
    | zero =>
      intro q hV _ hq
      obtain ⟨q, rfl⟩ : ∃ s, q = s + 1 := ⟨q - 1, by omega⟩
      obtain rfl : V = -1 := by omega
      rw [f_m_sheetOf_3]
      simp only [f_m_sheetOf_52]
      simp (disch := first | omega | (simp (disch := omega) only [uA_n]; done) | fail) only [iI_lit, iI_add, iI_sub, iI_mul, iI_neg, iI_lt, iI_le, iI_eq, zlt_t, zlt_f, zle_t, zle_f, zeq_t, zeq_f, nle_t, nle_f, iI_cl, rA, rS, rB, wA, wS, wB, mkp, mk2, uA_s, uA_n, ud_s, ud_n, bI_0, bI_1, nor_s, ↓reduceIte, or_false, false_or, or_true, true_or, or_self, not_true_eq_false, not_false_eq_true, and_true, true_and, and_false, false_and, bI_T, bI_F, Int.reduceToNat, Nat.reduceAdd, Nat.reduceMul, Int.reduceNeg, Option.bind_some, Int.toNat_natCast, show ((0 : Nat) : Int) - 1 = -1 from rfl]
    | succ n ih =>
      intro q hV hn hq
      obtain ⟨q, rfl⟩ : ∃ s, q = s + 1 := ⟨q - 1, by omega⟩
      have e1 : ((n + 1 : Nat) : Int) - 1 = (n : Int) := by omega
      have e3 : (n : Int) + -1 = (n : Int) - 1 := by omega
      have sp := spec n (by omega)
      rw [e1, f_m_sheetOf_3]
      simp only [f_m_sheetOf_46, f_m_sheetOf_52]
      by_cases hVn : V = n
      · subst hVn
        have sp := sp.1 (Int.le_refl _)
        simp (disch := first | omega | (simp (disch := omega) only [uA_n]; done) | fail) only [iI_lit, iI_add, iI_sub, iI_mul, iI_neg, iI_lt, iI_le, iI_eq, zlt_t, zlt_f, zle_t, zle_f, zeq_t, zeq_f, nle_t, nle_f, iI_cl, rA, rS, rB, wA, wS, wB, mkp, mk2, uA_s, uA_n, ud_s, ud_n, bI_0, bI_1, nor_s, ↓reduceIte, or_false, false_or, or_true, true_or, or_self, not_true_eq_false, not_false_eq_true, and_true, true_and, and_false, false_and, bI_T, bI_F, Int.reduceToNat, Nat.reduceAdd, Nat.reduceMul, Int.reduceNeg, Option.bind_some, Int.toNat_natCast, dS, hdd, e2, ef]
      · have nx := ih q (by omega) (by omega) (by omega)
        by_cases c1 : 7 * (n : Int) + 6 < A 16 9
        · have c2 : ¬ (7 * (n : Int) + 6 + g ≤ d) := fun z => by have := sp.2 ⟨c1, z⟩; omega
          simp (disch := first | omega | (simp (disch := omega) only [uA_n]; done) | fail) only [iI_lit, iI_add, iI_sub, iI_mul, iI_neg, iI_lt, iI_le, iI_eq, zlt_t, zlt_f, zle_t, zle_f, zeq_t, zeq_f, nle_t, nle_f, iI_cl, rA, rS, rB, wA, wS, wB, mkp, mk2, uA_s, uA_n, ud_s, ud_n, bI_0, bI_1, nor_s, ↓reduceIte, or_false, false_or, or_true, true_or, or_self, not_true_eq_false, not_false_eq_true, and_true, true_and, and_false, false_and, bI_T, bI_F, Int.reduceToNat, Nat.reduceAdd, Nat.reduceMul, Int.reduceNeg, Option.bind_some, Int.toNat_natCast, dS, hdd, e2, ef, e3, nx]
        · simp (disch := first | omega | (simp (disch := omega) only [uA_n]; done) | fail) only [iI_lit, iI_add, iI_sub, iI_mul, iI_neg, iI_lt, iI_le, iI_eq, zlt_t, zlt_f, zle_t, zle_f, zeq_t, zeq_f, nle_t, nle_f, iI_cl, rA, rS, rB, wA, wS, wB, mkp, mk2, uA_s, uA_n, ud_s, ud_n, bI_0, bI_1, nor_s, ↓reduceIte, or_false, false_or, or_true, true_or, or_self, not_true_eq_false, not_false_eq_true, and_true, true_and, and_false, false_and, bI_T, bI_F, Int.reduceToNat, Nat.reduceAdd, Nat.reduceMul, Int.reduceNeg, Option.bind_some, Int.toNat_natCast, dS, hdd, e3, nx]
  exact key 100 F (by omega) (by omega) (by omega)
theorem RR.hrv0 (R : RR K D A0 B0 A B) {h : Nat} (hh : (h : Int) < A 19 11) {d : Int} (hd : 0 ≤ d) (hd2 : d ≤ 700) : -1 ≤ hrv A h d ∧ hrv A h d ≤ 999 := by
  have hv := R.hsv0 hh hd hd2
  unfold hrv
  by_cases c : hsv A h d = -1
  · rw [if_pos c]; omega
  · rw [if_neg c]
    have w := R.gW.ww (hsv A h d).toNat 5 (by have := hv.2.2 c; omega) (by omega)
    have w2 := R.gW.wr (hsv A h d).toNat (by have := hv.2.2 c; omega)
    rw [w]
    split
    · exact ⟨by have := w2.1; show -1 ≤ B 485 _; omega, w2.2⟩
    · omega
theorem ex_hearR (R : RR K D A0 B0 A B) (Bx : hI) {h : Nat} (hh : (h : Int) < A 19 11) {d : Int} (hd : 0 ≤ d) (hd2 : d ≤ 700) : f_World_heardReserve F (iI h) (iI d) (mk A Bx) = some (iI (hrv A h d), mk A Bx) := by
  have hv := R.hsv0 hh hd hd2
  have x := ex_hearS F R Bx hh hd hd2
  unfold hrv
  simp only [f_World_heardReserve, f_World_heardReserve_30]
  by_cases c : hsv A h d = -1
  · rw [if_pos c]
    rw [c] at x
    simp (disch := first | omega | (simp (disch := omega) only [uA_n]; done) | fail) only [iI_lit, iI_add, iI_sub, iI_mul, iI_neg, iI_lt, iI_le, iI_eq, zlt_t, zlt_f, zle_t, zle_f, zeq_t, zeq_f, nle_t, nle_f, iI_cl, rA, rS, rB, wA, wS, wB, mkp, mk2, uA_s, uA_n, ud_s, ud_n, bI_0, bI_1, nor_s, ↓reduceIte, or_false, false_or, or_true, true_or, or_self, not_true_eq_false, not_false_eq_true, and_true, true_and, and_false, false_and, bI_T, bI_F, Int.reduceToNat, Nat.reduceAdd, Nat.reduceMul, Int.reduceNeg, Option.bind_some, Int.toNat_natCast, x]
  · rw [if_neg c]
    have c1 : (hsv A h d * 6 + 5).toNat = 6 * (hsv A h d).toNat + 5 := by omega
    simp (disch := first | omega | (simp (disch := omega) only [uA_n]; done) | fail) only [iI_lit, iI_add, iI_sub, iI_mul, iI_neg, iI_lt, iI_le, iI_eq, zlt_t, zlt_f, zle_t, zle_f, zeq_t, zeq_f, nle_t, nle_f, iI_cl, rA, rS, rB, wA, wS, wB, mkp, mk2, uA_s, uA_n, ud_s, ud_n, bI_0, bI_1, nor_s, ↓reduceIte, or_false, false_or, or_true, true_or, or_self, not_true_eq_false, not_false_eq_true, and_true, true_and, and_false, false_and, bI_T, bI_F, Int.reduceToNat, Nat.reduceAdd, Nat.reduceMul, Int.reduceNeg, Option.bind_some, Int.toNat_natCast, x, c1]
theorem em_shown5 (R : RR K D A0 B0 A B) (Ax : hI) {k : Nat} (hk : 7 * (k : Int) + 7 ≤ A 16 9) {i : Nat} (hi : i < 6) : f_m_shown F (iI k) (iI i) (mk Ax B) = some (iI (A 7 (6 * k + i)), mk Ax B) := by
  have hd3 := R.gD.dd2
  have w := R.gW.ww k i hk hi
  rw [w]
  unfold f_m_shown f_m_shown_43
  have z6 : (mk Ax B).1 305 (((9032 : Int32) + ((7 : Int32) * (iI (k : Int)))) + (6 : Int32)).toNatClampNeg = iI (B 486 k) := by simp (disch := first | omega | (simp (disch := omega) only [uA_n]; done) | fail) only [iI_lit, iI_add, iI_sub, iI_mul, iI_neg, iI_lt, iI_le, iI_eq, zlt_t, zlt_f, zle_t, zle_f, zeq_t, zeq_f, nle_t, nle_f, iI_cl, rA, rS, rB, wA, wS, wB, mkp, mk2, uA_s, uA_n, ud_s, ud_n, bI_0, bI_1, nor_s, ↓reduceIte, or_false, false_or, or_true, true_or, or_self, not_true_eq_false, not_false_eq_true, and_true, true_and, and_false, false_and, bI_T, bI_F, Int.reduceToNat, Nat.reduceAdd, Nat.reduceMul, Int.reduceNeg, Option.bind_some, Int.toNat_natCast, zY]
  have zi : (mk Ax B).1 305 (((9032 : Int32) + ((7 : Int32) * (iI (k : Int)))) + iI (i : Int)).toNatClampNeg = iI (B (480 + i) k) := by simp (disch := first | omega | (simp (disch := omega) only [uA_n]; done) | fail) only [iI_lit, iI_add, iI_sub, iI_mul, iI_neg, iI_lt, iI_le, iI_eq, zlt_t, zlt_f, zle_t, zle_f, zeq_t, zeq_f, nle_t, nle_f, iI_cl, rA, rS, rB, wA, wS, wB, mkp, mk2, uA_s, uA_n, ud_s, ud_n, bI_0, bI_1, nor_s, ↓reduceIte, or_false, false_or, or_true, true_or, or_self, not_true_eq_false, not_false_eq_true, and_true, true_and, and_false, false_and, bI_T, bI_F, Int.reduceToNat, Nat.reduceAdd, Nat.reduceMul, Int.reduceNeg, Option.bind_some, Int.toNat_natCast, zY]
  refine (if_neg (by simp (disch := first | omega | (simp (disch := omega) only [uA_n]; done) | fail) only [iI_lit, iI_add, iI_sub, iI_mul, iI_neg, iI_lt, iI_le, iI_eq, zlt_t, zlt_f, zle_t, zle_f, zeq_t, zeq_f, nle_t, nle_f, iI_cl, rA, rS, rB, wA, wS, wB, mkp, mk2, uA_s, uA_n, ud_s, ud_n, bI_0, bI_1, nor_s, ↓reduceIte, or_false, false_or, or_true, true_or, or_self, not_true_eq_false, not_false_eq_true, and_true, true_and, and_false, false_and, bI_T, bI_F, Int.reduceToNat, Nat.reduceAdd, Nat.reduceMul, Int.reduceNeg, Option.bind_some, Int.toNat_natCast])).trans ?_
  rw [z6]
  by_cases c : (iI (B 486 k) >>> (iI (i : Int) &&& 31)) &&& 1 = 1
  · rw [if_pos c, if_pos c]
    refine (if_neg (by simp (disch := first | omega | (simp (disch := omega) only [uA_n]; done) | fail) only [iI_lit, iI_add, iI_sub, iI_mul, iI_neg, iI_lt, iI_le, iI_eq, zlt_t, zlt_f, zle_t, zle_f, zeq_t, zeq_f, nle_t, nle_f, iI_cl, rA, rS, rB, wA, wS, wB, mkp, mk2, uA_s, uA_n, ud_s, ud_n, bI_0, bI_1, nor_s, ↓reduceIte, or_false, false_or, or_true, true_or, or_self, not_true_eq_false, not_false_eq_true, and_true, true_and, and_false, false_and, bI_T, bI_F, Int.reduceToNat, Nat.reduceAdd, Nat.reduceMul, Int.reduceNeg, Option.bind_some, Int.toNat_natCast])).trans ?_
    rw [zi]
  · rw [if_neg c, if_neg c]
    rfl
end HEAR
