/-! CALLS: number, week, goesOn, down -/
section CAL5
variable {K D : Int} {A0 B0 A B : hI} {i : Nat} (F : Nat)
theorem c_number (h : Inv i A B) (v : Int32) : CP i A B (f_x_number F v) (f_m_number F v) := by
  obtain ⟨z, hz1, hz2, rfl⟩ : ∃ z : Int, -2147483648 ≤ z ∧ z < 2147483648 ∧ v = iI z := ⟨_, (i32rg v).1, (i32rg v).2, iI_of v⟩
  have R := h.rr
  have xn := fun Bx => ex_isNumber F z (mk A Bx) hz1 hz2
  have yn := fun Ax => em_isNumber F z (mk Ax B) hz1 hz2
  by_cases c : 0 ≤ z ∧ z < 300
  · rw [bI_t c] at xn yn
    intro Ax Bx
    have ns := R.gN.nst z.toNat (by omega)
    refine ⟨iI (A 56 z.toNat), A, B, ?_, ?_, h.up⟩
    · unfold f_x_number
      refine obd (xn Bx) ?_
      refine (if_neg i1n0).trans ?_
      refine (if_neg (by simp (disch := first | omega | (simp (disch := omega) only [uA_n]; done) | fail) only [iI_lit, iI_add, iI_sub, iI_mul, iI_neg, iI_lt, iI_le, iI_eq, zlt_t, zlt_f, zle_t, zle_f, zeq_t, zeq_f, nle_t, nle_f, iI_cl, rA, rS, rB, wA, wS, wB, mkp, mk2, uA_s, uA_n, ud_s, ud_n, bI_0, bI_1, nor_s, ↓reduceIte, or_false, false_or, or_true, true_or, or_self, not_true_eq_false, not_false_eq_true, and_true, true_and, and_false, false_and, bI_T, bI_F, Int.reduceToNat, Nat.reduceAdd, Nat.reduceMul, Int.reduceNeg, Option.bind_some, Int.toNat_natCast])).trans ?_
      simp (disch := first | omega | (simp (disch := omega) only [uA_n]; done) | fail) only [iI_lit, iI_add, iI_sub, iI_mul, iI_neg, iI_lt, iI_le, iI_eq, zlt_t, zlt_f, zle_t, zle_f, zeq_t, zeq_f, nle_t, nle_f, iI_cl, rA, rS, rB, wA, wS, wB, mkp, mk2, uA_s, uA_n, ud_s, ud_n, bI_0, bI_1, nor_s, ↓reduceIte, or_false, false_or, or_true, true_or, or_self, not_true_eq_false, not_false_eq_true, and_true, true_and, and_false, false_and, bI_T, bI_F, Int.reduceToNat, Nat.reduceAdd, Nat.reduceMul, Int.reduceNeg, Option.bind_some, Int.toNat_natCast]
    · simp only [f_m_number, f_m_number_21]
      refine obd (yn Ax) ?_
      refine (if_neg i1n0).trans ?_
      refine obd (em_stateOf F z Ax B c.1 c.2) ?_
      rw [ns]
  · rw [bI_f c] at xn yn
    refine cp_no F h (v := -3) (by omega) (by omega) (fun Bx => ?_) (fun Ax => ?_)
    · unfold f_x_number
      refine obd (xn Bx) ?_
      exact (if_pos rfl)
    · simp only [f_m_number, f_m_number_21]
      refine obd (yn Ax) ?_
      exact (if_pos rfl)
theorem c_week (h : Inv i A B) (hF : 1000 ≤ F) (v w : Int32) : CP i A B (f_x_week F v w) (f_m_week F v w) := by
  obtain ⟨z, hz1, hz2, rfl⟩ : ∃ z : Int, -2147483648 ≤ z ∧ z < 2147483648 ∧ v = iI z := ⟨_, (i32rg v).1, (i32rg v).2, iI_of v⟩
  obtain ⟨y, hy1, hy2, rfl⟩ : ∃ z : Int, -2147483648 ≤ z ∧ z < 2147483648 ∧ w = iI z := ⟨_, (i32rg w).1, (i32rg w).2, iI_of w⟩
  have R := h.rr
  have xn := fun Bx : hI => ex_isSeason F z (mk A Bx) hz1 hz2
  have yn := fun Ax => em_in F z 0 1 (mk Ax B) hz1 hz2 (by omega) (by omega) (by omega) (by omega)
  by_cases c : 0 ≤ z ∧ z < 2
  · rw [show bI (0 ≤ z ∧ z < 2) = 1 from bI_t c] at xn
    rw [show bI (0 ≤ z ∧ z ≤ 1) = 1 from bI_t (by omega)] at yn
    by_cases c1 : 0 ≤ y
    · obtain ⟨n, rfl⟩ : ∃ n : Nat, z = n := ⟨z.toNat, by omega⟩
      intro Ax Bx
      have xf := ex_filled F R hF Bx (w := n) (by omega) (week := y) (by omega) (by omega)
      have yf := em_weekOf F R hF Ax (w := n) (by omega) (week := y) (by omega) (by omega)
      refine ⟨iI (flv A n y), A, B, ?_, ?_, h.up⟩
      · unfold f_x_week
        refine obd (xn Bx) ?_
        refine (if_neg i1n0).trans ?_
        refine (if_pos (by simp (disch := first | omega | (simp (disch := omega) only [uA_n]; done) | fail) only [iI_lit, iI_add, iI_sub, iI_mul, iI_neg, iI_lt, iI_le, iI_eq, zlt_t, zlt_f, zle_t, zle_f, zeq_t, zeq_f, nle_t, nle_f, iI_cl, rA, rS, rB, wA, wS, wB, mkp, mk2, uA_s, uA_n, ud_s, ud_n, bI_0, bI_1, nor_s, ↓reduceIte, or_false, false_or, or_true, true_or, or_self, not_true_eq_false, not_false_eq_true, and_true, true_and, and_false, false_and, bI_T, bI_F, Int.reduceToNat, Nat.reduceAdd, Nat.reduceMul, Int.reduceNeg, Option.bind_some, Int.toNat_natCast])).trans ?_
        exact obd xf rfl
      · simp only [f_m_week, f_m_week_28]
        refine obd (yn Ax) ?_
        refine (if_neg i1n0).trans ?_
        refine (if_neg (by simp (disch := first | omega | (simp (disch := omega) only [uA_n]; done) | fail) only [iI_lit, iI_add, iI_sub, iI_mul, iI_neg, iI_lt, iI_le, iI_eq, zlt_t, zlt_f, zle_t, zle_f, zeq_t, zeq_f, nle_t, nle_f, iI_cl, rA, rS, rB, wA, wS, wB, mkp, mk2, uA_s, uA_n, ud_s, ud_n, bI_0, bI_1, nor_s, ↓reduceIte, or_false, false_or, or_true, true_or, or_self, not_true_eq_false, not_false_eq_true, and_true, true_and, and_false, false_and, bI_T, bI_F, Int.reduceToNat, Nat.reduceAdd, Nat.reduceMul, Int.reduceNeg, Option.bind_some, Int.toNat_natCast])).trans ?_
        exact obd yf rfl
    · refine cp_no F h (v := -3) (by omega) (by omega) (fun Bx => ?_) (fun Ax => ?_)
      · simp only [f_x_week, f_x_week_11]
        refine obd (xn Bx) ?_
        refine (if_neg i1n0).trans ?_
        exact (if_neg (by simp (disch := first | omega | (simp (disch := omega) only [uA_n]; done) | fail) only [iI_lit, iI_add, iI_sub, iI_mul, iI_neg, iI_lt, iI_le, iI_eq, zlt_t, zlt_f, zle_t, zle_f, zeq_t, zeq_f, nle_t, nle_f, iI_cl, rA, rS, rB, wA, wS, wB, mkp, mk2, uA_s, uA_n, ud_s, ud_n, bI_0, bI_1, nor_s, ↓reduceIte, or_false, false_or, or_true, true_or, or_self, not_true_eq_false, not_false_eq_true, and_true, true_and, and_false, false_and, bI_T, bI_F, Int.reduceToNat, Nat.reduceAdd, Nat.reduceMul, Int.reduceNeg, Option.bind_some, Int.toNat_natCast]))
      · simp only [f_m_week, f_m_week_22, f_m_week_28]
        refine obd (yn Ax) ?_
        refine (if_neg i1n0).trans ?_
        exact (if_pos (by simp (disch := first | omega | (simp (disch := omega) only [uA_n]; done) | fail) only [iI_lit, iI_add, iI_sub, iI_mul, iI_neg, iI_lt, iI_le, iI_eq, zlt_t, zlt_f, zle_t, zle_f, zeq_t, zeq_f, nle_t, nle_f, iI_cl, rA, rS, rB, wA, wS, wB, mkp, mk2, uA_s, uA_n, ud_s, ud_n, bI_0, bI_1, nor_s, ↓reduceIte, or_false, false_or, or_true, true_or, or_self, not_true_eq_false, not_false_eq_true, and_true, true_and, and_false, false_and, bI_T, bI_F, Int.reduceToNat, Nat.reduceAdd, Nat.reduceMul, Int.reduceNeg, Option.bind_some, Int.toNat_natCast]))
  · rw [show bI (0 ≤ z ∧ z < 2) = 0 from bI_f c] at xn
    rw [show bI (0 ≤ z ∧ z ≤ 1) = 0 from bI_f (by omega)] at yn
    refine cp_no F h (v := -3) (by omega) (by omega) (fun Bx => ?_) (fun Ax => ?_)
    · simp only [f_x_week, f_x_week_11]
      refine obd (xn Bx) ?_
      exact (if_pos rfl)
    · simp only [f_m_week, f_m_week_22, f_m_week_28]
      refine obd (yn Ax) ?_
      exact (if_pos rfl)
theorem c_down (h : Inv i A B) (v w : Int32) : CP i A B (f_x_down F v w) (f_m_down F v w) := by
  obtain ⟨z, hz1, hz2, rfl⟩ : ∃ z : Int, -2147483648 ≤ z ∧ z < 2147483648 ∧ v = iI z := ⟨_, (i32rg v).1, (i32rg v).2, iI_of v⟩
  obtain ⟨y, hy1, hy2, rfl⟩ : ∃ z : Int, -2147483648 ≤ z ∧ z < 2147483648 ∧ w = iI z := ⟨_, (i32rg w).1, (i32rg w).2, iI_of w⟩
  have R := h.rr
  have hn2 := R.gH.hn2
  have xh := fun Bx => ex_isHouse F R Bx z hz1 hz2
  have yh := fun Ax => em_isHouse F R Ax z hz1 hz2
  have ei := fun Ax => em_in F y 0 3 (mk Ax B) hy1 hy2 (by omega) (by omega) (by omega) (by omega)
  by_cases c0 : 0 ≤ z ∧ z < A 19 11
  · rw [bI_t c0] at xh yh
    have xu := fun Bx => ex_isUp F R Bx z c0.1 c0.2
    have yu := fun Ax => em_isUp F R Ax z c0.1 c0.2
    have hd := R.gH.hdn z.toNat (by omega)
    by_cases c1 : A 27 z.toNat = -1
    · rw [bI_t c1] at xu yu
      refine cp_no F h (v := -2) (by omega) (by omega) (fun Bx => ?_) (fun Ax => ?_)
      · unfold f_x_down
        refine obd (xh Bx) ?_
        refine (if_neg i1n0).trans ?_
        refine obd (xu Bx) ?_
        exact (if_neg i1n0)
      · unfold f_m_down
        refine obd (yh Ax) ?_
        refine (if_neg i1n0).trans ?_
        refine obd (yu Ax) ?_
        exact (if_neg i1n0)
    · rw [bI_f c1] at xu yu
      obtain ⟨-, -, -, h8, h9, h10, h11⟩ := hd.resolve_left (fun q => c1 q.1)
      by_cases c2 : 0 ≤ y ∧ y ≤ 3
      · rw [show bI (0 ≤ y ∧ y ≤ 3) = 1 from bI_t c2] at ei
        have key : ∀ (t : Nat) (r : Int), y = t → t < 4 → B (418 + t) z.toNat = r → (∀ Bx : hI, f_x_down F (iI z) (iI y) (mk A Bx) = some (iI r, mk A Bx)) → CP i A B (f_x_down F (iI z) (iI y)) (f_m_down F (iI z) (iI y)) := fun t r ht h4 hr x Ax Bx => by
          refine ⟨iI r, A, B, x Bx, ?_, h.up⟩
          simp only [f_m_down, f_m_down_57]
          refine obd (yh Ax) ?_
          refine (if_neg i1n0).trans ?_
          refine obd (yu Ax) ?_
          refine (if_pos rfl).trans ?_
          refine obd (ei Ax) ?_
          refine (if_neg i1n0).trans ?_
          have e := em_hs F z (8 + y) Ax B (by omega) (by omega) (by omega) (by omega)
          rw [show 410 + (8 + y).toNat = 418 + t by omega, hr] at e
          refine obd (v := (iI r, mk Ax B)) ?_ rfl
          refine Eq.trans ?_ e
          exact congrArg (fun q => f_m_hs F (iI z) q (mk Ax B)) (iI_add 8 y)
        rcases (show y = 0 ∨ y = 1 ∨ y = 2 ∨ y = 3 by omega) with e | e | e | e
        · refine key 0 _ (by omega) (by omega) h8 (fun Bx => ?_)
          unfold f_x_down
          refine obd (xh Bx) ?_
          refine (if_neg i1n0).trans ?_
          refine obd (xu Bx) ?_
          refine (if_pos rfl).trans ?_
          refine (if_pos (by rw [e]; rfl)).trans ?_
          refine (if_neg (by simp (disch := first | omega | (simp (disch := omega) only [uA_n]; done) | fail) only [iI_lit, iI_add, iI_sub, iI_mul, iI_neg, iI_lt, iI_le, iI_eq, zlt_t, zlt_f, zle_t, zle_f, zeq_t, zeq_f, nle_t, nle_f, iI_cl, rA, rS, rB, wA, wS, wB, mkp, mk2, uA_s, uA_n, ud_s, ud_n, bI_0, bI_1, nor_s, ↓reduceIte, or_false, false_or, or_true, true_or, or_self, not_true_eq_false, not_false_eq_true, and_true, true_and, and_false, false_and, bI_T, bI_F, Int.reduceToNat, Nat.reduceAdd, Nat.reduceMul, Int.reduceNeg, Option.bind_some, Int.toNat_natCast])).trans ?_
          simp (disch := first | omega | (simp (disch := omega) only [uA_n]; done) | fail) only [iI_lit, iI_add, iI_sub, iI_mul, iI_neg, iI_lt, iI_le, iI_eq, zlt_t, zlt_f, zle_t, zle_f, zeq_t, zeq_f, nle_t, nle_f, iI_cl, rA, rS, rB, wA, wS, wB, mkp, mk2, uA_s, uA_n, ud_s, ud_n, bI_0, bI_1, nor_s, ↓reduceIte, or_false, false_or, or_true, true_or, or_self, not_true_eq_false, not_false_eq_true, and_true, true_and, and_false, false_and, bI_T, bI_F, Int.reduceToNat, Nat.reduceAdd, Nat.reduceMul, Int.reduceNeg, Option.bind_some, Int.toNat_natCast]
        · refine key 1 _ (by omega) (by omega) h9 (fun Bx => ?_)
          unfold f_x_down
          refine obd (xh Bx) ?_
          refine (if_neg i1n0).trans ?_
          refine obd (xu Bx) ?_
          refine (if_pos rfl).trans ?_
          refine (if_neg (by rw [e]; decide)).trans ?_
          refine (if_pos (by rw [e]; rfl)).trans ?_
          refine (if_neg (by simp (disch := first | omega | (simp (disch := omega) only [uA_n]; done) | fail) only [iI_lit, iI_add, iI_sub, iI_mul, iI_neg, iI_lt, iI_le, iI_eq, zlt_t, zlt_f, zle_t, zle_f, zeq_t, zeq_f, nle_t, nle_f, iI_cl, rA, rS, rB, wA, wS, wB, mkp, mk2, uA_s, uA_n, ud_s, ud_n, bI_0, bI_1, nor_s, ↓reduceIte, or_false, false_or, or_true, true_or, or_self, not_true_eq_false, not_false_eq_true, and_true, true_and, and_false, false_and, bI_T, bI_F, Int.reduceToNat, Nat.reduceAdd, Nat.reduceMul, Int.reduceNeg, Option.bind_some, Int.toNat_natCast])).trans ?_
          simp (disch := first | omega | (simp (disch := omega) only [uA_n]; done) | fail) only [iI_lit, iI_add, iI_sub, iI_mul, iI_neg, iI_lt, iI_le, iI_eq, zlt_t, zlt_f, zle_t, zle_f, zeq_t, zeq_f, nle_t, nle_f, iI_cl, rA, rS, rB, wA, wS, wB, mkp, mk2, uA_s, uA_n, ud_s, ud_n, bI_0, bI_1, nor_s, ↓reduceIte, or_false, false_or, or_true, true_or, or_self, not_true_eq_false, not_false_eq_true, and_true, true_and, and_false, false_and, bI_T, bI_F, Int.reduceToNat, Nat.reduceAdd, Nat.reduceMul, Int.reduceNeg, Option.bind_some, Int.toNat_natCast]
        · refine key 2 _ (by omega) (by omega) h10 (fun Bx => ?_)
          unfold f_x_down
          refine obd (xh Bx) ?_
          refine (if_neg i1n0).trans ?_
          refine obd (xu Bx) ?_
          refine (if_pos rfl).trans ?_
          refine (if_neg (by rw [e]; decide)).trans ?_
          refine (if_neg (by rw [e]; decide)).trans ?_
          refine (if_pos (by rw [e]; rfl)).trans ?_
          refine (if_neg (by simp (disch := first | omega | (simp (disch := omega) only [uA_n]; done) | fail) only [iI_lit, iI_add, iI_sub, iI_mul, iI_neg, iI_lt, iI_le, iI_eq, zlt_t, zlt_f, zle_t, zle_f, zeq_t, zeq_f, nle_t, nle_f, iI_cl, rA, rS, rB, wA, wS, wB, mkp, mk2, uA_s, uA_n, ud_s, ud_n, bI_0, bI_1, nor_s, ↓reduceIte, or_false, false_or, or_true, true_or, or_self, not_true_eq_false, not_false_eq_true, and_true, true_and, and_false, false_and, bI_T, bI_F, Int.reduceToNat, Nat.reduceAdd, Nat.reduceMul, Int.reduceNeg, Option.bind_some, Int.toNat_natCast])).trans ?_
          simp (disch := first | omega | (simp (disch := omega) only [uA_n]; done) | fail) only [iI_lit, iI_add, iI_sub, iI_mul, iI_neg, iI_lt, iI_le, iI_eq, zlt_t, zlt_f, zle_t, zle_f, zeq_t, zeq_f, nle_t, nle_f, iI_cl, rA, rS, rB, wA, wS, wB, mkp, mk2, uA_s, uA_n, ud_s, ud_n, bI_0, bI_1, nor_s, ↓reduceIte, or_false, false_or, or_true, true_or, or_self, not_true_eq_false, not_false_eq_true, and_true, true_and, and_false, false_and, bI_T, bI_F, Int.reduceToNat, Nat.reduceAdd, Nat.reduceMul, Int.reduceNeg, Option.bind_some, Int.toNat_natCast]
        · refine key 3 _ (by omega) (by omega) h11 (fun Bx => ?_)
          unfold f_x_down
          refine obd (xh Bx) ?_
          refine (if_neg i1n0).trans ?_
          refine obd (xu Bx) ?_
          refine (if_pos rfl).trans ?_
          refine (if_neg (by rw [e]; decide)).trans ?_
          refine (if_neg (by rw [e]; decide)).trans ?_
          refine (if_neg (by rw [e]; decide)).trans ?_
          refine (if_pos (by rw [e]; rfl)).trans ?_
          refine (if_neg (by simp (disch := first | omega | (simp (disch := omega) only [uA_n]; done) | fail) only [iI_lit, iI_add, iI_sub, iI_mul, iI_neg, iI_lt, iI_le, iI_eq, zlt_t, zlt_f, zle_t, zle_f, zeq_t, zeq_f, nle_t, nle_f, iI_cl, rA, rS, rB, wA, wS, wB, mkp, mk2, uA_s, uA_n, ud_s, ud_n, bI_0, bI_1, nor_s, ↓reduceIte, or_false, false_or, or_true, true_or, or_self, not_true_eq_false, not_false_eq_true, and_true, true_and, and_false, false_and, bI_T, bI_F, Int.reduceToNat, Nat.reduceAdd, Nat.reduceMul, Int.reduceNeg, Option.bind_some, Int.toNat_natCast])).trans ?_
          simp (disch := first | omega | (simp (disch := omega) only [uA_n]; done) | fail) only [iI_lit, iI_add, iI_sub, iI_mul, iI_neg, iI_lt, iI_le, iI_eq, zlt_t, zlt_f, zle_t, zle_f, zeq_t, zeq_f, nle_t, nle_f, iI_cl, rA, rS, rB, wA, wS, wB, mkp, mk2, uA_s, uA_n, ud_s, ud_n, bI_0, bI_1, nor_s, ↓reduceIte, or_false, false_or, or_true, true_or, or_self, not_true_eq_false, not_false_eq_true, and_true, true_and, and_false, false_and, bI_T, bI_F, Int.reduceToNat, Nat.reduceAdd, Nat.reduceMul, Int.reduceNeg, Option.bind_some, Int.toNat_natCast]
      · rw [show bI (0 ≤ y ∧ y ≤ 3) = 0 from bI_f c2] at ei
        refine cp_no F h (v := -7) (by omega) (by omega) (fun Bx => ?_) (fun Ax => ?_)
        · unfold f_x_down
          refine obd (xh Bx) ?_
          refine (if_neg i1n0).trans ?_
          refine obd (xu Bx) ?_
          refine (if_pos rfl).trans ?_
          refine (if_neg (by simp (disch := first | omega | (simp (disch := omega) only [uA_n]; done) | fail) only [iI_lit, iI_add, iI_sub, iI_mul, iI_neg, iI_lt, iI_le, iI_eq, zlt_t, zlt_f, zle_t, zle_f, zeq_t, zeq_f, nle_t, nle_f, iI_cl, rA, rS, rB, wA, wS, wB, mkp, mk2, uA_s, uA_n, ud_s, ud_n, bI_0, bI_1, nor_s, ↓reduceIte, or_false, false_or, or_true, true_or, or_self, not_true_eq_false, not_false_eq_true, and_true, true_and, and_false, false_and, bI_T, bI_F, Int.reduceToNat, Nat.reduceAdd, Nat.reduceMul, Int.reduceNeg, Option.bind_some, Int.toNat_natCast])).trans ?_
          refine (if_neg (by simp (disch := first | omega | (simp (disch := omega) only [uA_n]; done) | fail) only [iI_lit, iI_add, iI_sub, iI_mul, iI_neg, iI_lt, iI_le, iI_eq, zlt_t, zlt_f, zle_t, zle_f, zeq_t, zeq_f, nle_t, nle_f, iI_cl, rA, rS, rB, wA, wS, wB, mkp, mk2, uA_s, uA_n, ud_s, ud_n, bI_0, bI_1, nor_s, ↓reduceIte, or_false, false_or, or_true, true_or, or_self, not_true_eq_false, not_false_eq_true, and_true, true_and, and_false, false_and, bI_T, bI_F, Int.reduceToNat, Nat.reduceAdd, Nat.reduceMul, Int.reduceNeg, Option.bind_some, Int.toNat_natCast])).trans ?_
          refine (if_neg (by simp (disch := first | omega | (simp (disch := omega) only [uA_n]; done) | fail) only [iI_lit, iI_add, iI_sub, iI_mul, iI_neg, iI_lt, iI_le, iI_eq, zlt_t, zlt_f, zle_t, zle_f, zeq_t, zeq_f, nle_t, nle_f, iI_cl, rA, rS, rB, wA, wS, wB, mkp, mk2, uA_s, uA_n, ud_s, ud_n, bI_0, bI_1, nor_s, ↓reduceIte, or_false, false_or, or_true, true_or, or_self, not_true_eq_false, not_false_eq_true, and_true, true_and, and_false, false_and, bI_T, bI_F, Int.reduceToNat, Nat.reduceAdd, Nat.reduceMul, Int.reduceNeg, Option.bind_some, Int.toNat_natCast])).trans ?_
          exact (if_neg (by simp (disch := first | omega | (simp (disch := omega) only [uA_n]; done) | fail) only [iI_lit, iI_add, iI_sub, iI_mul, iI_neg, iI_lt, iI_le, iI_eq, zlt_t, zlt_f, zle_t, zle_f, zeq_t, zeq_f, nle_t, nle_f, iI_cl, rA, rS, rB, wA, wS, wB, mkp, mk2, uA_s, uA_n, ud_s, ud_n, bI_0, bI_1, nor_s, ↓reduceIte, or_false, false_or, or_true, true_or, or_self, not_true_eq_false, not_false_eq_true, and_true, true_and, and_false, false_and, bI_T, bI_F, Int.reduceToNat, Nat.reduceAdd, Nat.reduceMul, Int.reduceNeg, Option.bind_some, Int.toNat_natCast]))
        · simp only [f_m_down, f_m_down_57]
          refine obd (yh Ax) ?_
          refine (if_neg i1n0).trans ?_
          refine obd (yu Ax) ?_
          refine (if_pos rfl).trans ?_
          refine obd (ei Ax) ?_
          exact (if_pos rfl)
  · rw [bI_f c0] at xh yh
    refine cp_no F h (v := -3) (by omega) (by omega) (fun Bx => ?_) (fun Ax => ?_)
    · unfold f_x_down
      refine obd (xh Bx) ?_
      exact (if_pos rfl)
    · unfold f_m_down
      refine obd (yh Ax) ?_
      exact (if_pos rfl)
end CAL5
