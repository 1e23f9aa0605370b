/-! CALLS: tell -/
section CAL7
variable {K D : Int} {A0 B0 A B : hI} {i : Nat} (F : Nat)
theorem RR.tell (R : RR K D A0 B0 A B) {p : Nat} {v : Int} (hv : -1 ≤ v ∧ v ≤ 200 ∧ (52 ≤ p → v ≤ 20)) : RR K D A0 B0 (uA A 53 p v) (uA B 475 p v) := by
  have hA : ∀ k : Nat, k ≠ 53 → uA A 53 p v k = A k := fun k hk => uA_n hk
  have hB : ∀ k : Nat, k ≠ 475 → uA B 475 p v k = B k := fun k hk => uA_n hk
  have h4 : ∀ j : Nat, j ≠ 99 → uA B 475 p v 400 j = B 400 j := fun j _ => by rw [hB 400 (by omega)]
  have e53 : uA A 53 p v 53 = ud (A 53) p v := uA_s ..
  have e475 : uA B 475 p v 475 = ud (B 475) p v := uA_s ..
  refine ⟨⟨(by apply R.gL.c <;> first | rfl | exact hA _ (by omega) | exact congrFun (hA _ (by omega)) _ | exact hB _ (by omega) | exact h4 _ (by omega) | (intro k hk1 hk2; exact hB k (by omega)) | (simp (disch := omega) only [uA_s, uA_n, ud_n]; done)), (by apply R.gH.c <;> first | rfl | exact hA _ (by omega) | exact congrFun (hA _ (by omega)) _ | exact hB _ (by omega) | exact h4 _ (by omega) | (intro k hk1 hk2; exact hB k (by omega)) | (simp (disch := omega) only [uA_s, uA_n, ud_n]; done)), (by apply R.gN.c <;> first | rfl | exact hA _ (by omega) | exact congrFun (hA _ (by omega)) _ | exact hB _ (by omega) | exact h4 _ (by omega) | (intro k hk1 hk2; exact hB k (by omega)) | (simp (disch := omega) only [uA_s, uA_n, ud_n]; done)), (by apply R.gP.c <;> first | rfl | exact hA _ (by omega) | exact congrFun (hA _ (by omega)) _ | exact hB _ (by omega) | exact h4 _ (by omega) | (intro k hk1 hk2; exact hB k (by omega)) | (simp (disch := omega) only [uA_s, uA_n, ud_n]; done)), (by apply R.gT.c <;> first | rfl | exact hA _ (by omega) | exact congrFun (hA _ (by omega)) _ | exact hB _ (by omega) | exact h4 _ (by omega) | (intro k hk1 hk2; exact hB k (by omega)) | (simp (disch := omega) only [uA_s, uA_n, ud_n]; done)), ?_, (by apply R.gD.c <;> first | rfl | exact hA _ (by omega) | exact congrFun (hA _ (by omega)) _ | exact hB _ (by omega) | exact h4 _ (by omega) | (intro k hk1 hk2; exact hB k (by omega)) | (simp (disch := omega) only [uA_s, uA_n, ud_n]; done)), (by apply R.gW.c <;> first | rfl | exact hA _ (by omega) | exact congrFun (hA _ (by omega)) _ | exact hB _ (by omega) | exact h4 _ (by omega) | (intro k hk1 hk2; exact hB k (by omega)) | (simp (disch := omega) only [uA_s, uA_n, ud_n]; done)), (by apply R.gX.c <;> first | rfl | exact hA _ (by omega) | exact congrFun (hA _ (by omega)) _ | exact hB _ (by omega) | exact h4 _ (by omega) | (intro k hk1 hk2; exact hB k (by omega)) | (simp (disch := omega) only [uA_s, uA_n, ud_n]; done)), (by apply R.gG.c <;> first | rfl | exact hA _ (by omega) | exact congrFun (hA _ (by omega)) _ | exact hB _ (by omega) | exact h4 _ (by omega) | (intro k hk1 hk2; exact hB k (by omega)) | (simp (disch := omega) only [uA_s, uA_n, ud_n]; done)), (by apply R.gI.c <;> first | rfl | exact hA _ (by omega) | exact congrFun (hA _ (by omega)) _ | exact hB _ (by omega) | exact h4 _ (by omega) | (intro k hk1 hk2; exact hB k (by omega)) | (simp (disch := omega) only [uA_s, uA_n, ud_n]; done))⟩, R.sx.tr ?_, R.sb.tr (SB.st (fun k hk => hB k (by omega)))⟩
  · obtain ⟨x1, x2⟩ := R.gS
    unfold WS
    simp only [e53, e475]
    refine ⟨fun j hj => ?_, fun j hj => ?_⟩
    · by_cases q : j = p
      · subst q; rw [ud_s, ud_s]
      · rw [ud_n q, ud_n q]; exact x1 j hj
    · by_cases q : j = p
      · subst q; rw [ud_s]; exact hv
      · rw [ud_n q]; exact x2 j hj
  · exact SX.st (fun k hk => hA k (by omega)) (by rw [hA 16 (by omega)]) (by rw [hA 16 (by omega)]) (by rw [hA 55 (by omega)]) (by rw [hA 55 (by omega)]) (fun c _ => by rw [hA 59 (by omega)])
theorem cp_zero (h : Inv i A B) {v : Int} (hv : -8 ≤ v) (hv2 : v ≤ -2) {fx fm : mM → Option (Int32 × mM)} (x : ∀ Bx : hI, fx (mk A Bx) = ((f_x_refuseByZero F (iI v) (mk A Bx)).bind fun q => some (q.1, q.2))) (y : ∀ Ax : hI, fm (mk Ax B) = ((f_m_hush F (iI v) (mk Ax B)).bind fun q => some (q.1, q.2))) : CP i A B fx fm := by
  intro Ax Bx
  obtain ⟨A2, B2, x1, y1, I1⟩ := both_zero F h hv hv2 Ax Bx
  exact ⟨iI 0, A2, B2, (x Bx).trans (obd x1 rfl), (y Ax).trans (obd y1 rfl), I1⟩
theorem c_tell (h : Inv i A B) (v w u : Int32) : CP i A B (f_x_tell F v w u) (f_m_tell F v w u) := by
  obtain ⟨z, hz1, hz2, rfl⟩ : ∃ z : Int, -2147483648 ≤ z ∧ z < 2147483648 ∧ v = iI z := ⟨_, (i32rg v).1, (i32rg v).2, iI_of v⟩
  obtain ⟨y, hy1, hy2, rfl⟩ : ∃ z : Int, -2147483648 ≤ z ∧ z < 2147483648 ∧ w = iI z := ⟨_, (i32rg w).1, (i32rg w).2, iI_of w⟩
  obtain ⟨b, hb1, hb2, rfl⟩ : ∃ z : Int, -2147483648 ≤ z ∧ z < 2147483648 ∧ u = iI z := ⟨_, (i32rg u).1, (i32rg u).2, iI_of u⟩
  have R := h.rr
  have xn := fun Bx : hI => ex_isSeason F z (mk A Bx) hz1 hz2
  have yn := fun Ax => em_in F z 0 1 (mk Ax B) hz1 hz2 (by omega) (by omega) (by omega) (by omega)
  have e1 := fun Ax => em_in F y 0 51 (mk Ax B) hy1 hy2 (by omega) (by omega) (by omega) (by omega)
  by_cases c : 0 ≤ z ∧ z < 2
  · rw [show bI (0 ≤ z ∧ z < 2) = 1 from bI_t c] at xn
    rw [show bI (0 ≤ z ∧ z ≤ 1) = 1 from bI_t (by omega)] at yn
    by_cases c1 : 0 ≤ y ∧ y ≤ 51
    · rw [show bI (0 ≤ y ∧ y ≤ 51) = 1 from bI_t c1] at e1
      have zw := zW c.1 c.2 c1.1 (show y < 52 by omega)
      have put : (b = -1 ∨ maySt z b) → (∀ Ax Bx : hI, f_x_tell_51 F (iI z) (iI y) (iI b) (mk A Bx) = some (iI (A 53 (52 * z.toNat + y.toNat)), mk (uA A 53 (52 * z.toNat + y.toNat) b) Bx) ∧ f_m_tell_46 F (iI z) (iI y) (iI b) (mk Ax B) = some (iI (A 53 (52 * z.toNat + y.toNat)), mk Ax (uA B 475 (52 * z.toNat + y.toNat) b))) ∧ Inv (i + 1) (uA A 53 (52 * z.toNat + y.toNat) b) (uA B 475 (52 * z.toNat + y.toNat) b) := fun hb => by
        have hb' : -1 ≤ b ∧ b ≤ 200 ∧ (52 ≤ 52 * z.toNat + y.toNat → b ≤ 20) := by
          unfold maySt at hb
          rcases hb with hb | ⟨hb, hb2⟩
          · omega
          · split at hb2 <;> omega
        have se := R.gS.se (52 * z.toNat + y.toNat) (by omega)
        refine ⟨fun Ax Bx => ⟨?_, ?_⟩, h.land (R.tell hb') (by rw [uA_n (by omega)])⟩
        · have n1 : (z * 52 + y).toNat = 52 * z.toNat + y.toNat := by omega
          simp only [f_x_tell_51, f_Seasons_put]
          simp (disch := first | omega | (simp (disch := omega) only [uA_n]; done) | fail) only [iI_lit, iI_add, iI_sub, iI_mul, iI_neg, iI_lt, iI_le, iI_eq, zlt_t, zlt_f, zle_t, zle_f, zeq_t, zeq_f, nle_t, nle_f, iI_cl, rA, rS, rB, wA, wS, wB, mkp, mk2, uA_s, uA_n, ud_s, ud_n, bI_0, bI_1, nor_s, ↓reduceIte, or_false, false_or, or_true, true_or, or_self, not_true_eq_false, not_false_eq_true, and_true, true_and, and_false, false_and, bI_T, bI_F, Int.reduceToNat, Nat.reduceAdd, Nat.reduceMul, Int.reduceNeg, Option.bind_some, Int.toNat_natCast, n1]
        · have m0 : uA B 475 (52 * z.toNat + y.toNat) b 399 = B 399 := uA_n (by omega)
          unfold f_m_tell_46
          refine (if_neg (by simp (disch := first | omega | (simp (disch := omega) only [uA_n]; done) | fail) only [iI_lit, iI_add, iI_sub, iI_mul, iI_neg, iI_lt, iI_le, iI_eq, zlt_t, zlt_f, zle_t, zle_f, zeq_t, zeq_f, nle_t, nle_f, iI_cl, rA, rS, rB, wA, wS, wB, mkp, mk2, uA_s, uA_n, ud_s, ud_n, bI_0, bI_1, nor_s, ↓reduceIte, or_false, false_or, or_true, true_or, or_self, not_true_eq_false, not_false_eq_true, and_true, true_and, and_false, false_and, bI_T, bI_F, Int.reduceToNat, Nat.reduceAdd, Nat.reduceMul, Int.reduceNeg, Option.bind_some, Int.toNat_natCast])).trans ?_
          simp (disch := first | omega | (simp (disch := omega) only [uA_n]; done) | fail) only [iI_lit, iI_add, iI_sub, iI_mul, iI_neg, iI_lt, iI_le, iI_eq, zlt_t, zlt_f, zle_t, zle_f, zeq_t, zeq_f, nle_t, nle_f, iI_cl, rA, rS, rB, wA, wS, wB, mkp, mk2, uA_s, uA_n, ud_s, ud_n, bI_0, bI_1, nor_s, ↓reduceIte, or_false, false_or, or_true, true_or, or_self, not_true_eq_false, not_false_eq_true, and_true, true_and, and_false, false_and, bI_T, bI_F, Int.reduceToNat, Nat.reduceAdd, Nat.reduceMul, Int.reduceNeg, Option.bind_some, Int.toNat_natCast, zw, se, mk2 m0]
      by_cases c2 : b = -1
      · obtain ⟨p1, p2⟩ := put (Or.inl c2)
        intro Ax Bx
        refine ⟨iI (A 53 (52 * z.toNat + y.toNat)), uA A 53 (52 * z.toNat + y.toNat) b, uA B 475 (52 * z.toNat + y.toNat) b, ?_, ?_, p2⟩
        · unfold f_x_tell
          refine obd (xn Bx) ?_
          refine (if_neg i1n0).trans ?_
          refine (if_neg (by simp (disch := first | omega | (simp (disch := omega) only [uA_n]; done) | fail) only [iI_lit, iI_add, iI_sub, iI_mul, iI_neg, iI_lt, iI_le, iI_eq, zlt_t, zlt_f, zle_t, zle_f, zeq_t, zeq_f, nle_t, nle_f, iI_cl, rA, rS, rB, wA, wS, wB, mkp, mk2, uA_s, uA_n, ud_s, ud_n, bI_0, bI_1, nor_s, ↓reduceIte, or_false, false_or, or_true, true_or, or_self, not_true_eq_false, not_false_eq_true, and_true, true_and, and_false, false_and, bI_T, bI_F, Int.reduceToNat, Nat.reduceAdd, Nat.reduceMul, Int.reduceNeg, Option.bind_some, Int.toNat_natCast])).trans ?_
          refine (if_pos (by simp (disch := first | omega | (simp (disch := omega) only [uA_n]; done) | fail) only [iI_lit, iI_add, iI_sub, iI_mul, iI_neg, iI_lt, iI_le, iI_eq, zlt_t, zlt_f, zle_t, zle_f, zeq_t, zeq_f, nle_t, nle_f, iI_cl, rA, rS, rB, wA, wS, wB, mkp, mk2, uA_s, uA_n, ud_s, ud_n, bI_0, bI_1, nor_s, ↓reduceIte, or_false, false_or, or_true, true_or, or_self, not_true_eq_false, not_false_eq_true, and_true, true_and, and_false, false_and, bI_T, bI_F, Int.reduceToNat, Nat.reduceAdd, Nat.reduceMul, Int.reduceNeg, Option.bind_some, Int.toNat_natCast])).trans ?_
          refine (if_pos (by rw [c2]; decide)).trans ?_
          exact (p1 Ax Bx).1
        · unfold f_m_tell
          refine obd (yn Ax) ?_
          refine (if_neg i1n0).trans ?_
          refine obd (e1 Ax) ?_
          refine (if_neg i1n0).trans ?_
          refine (if_pos (by rw [c2]; decide)).trans ?_
          exact (p1 Ax Bx).2
      · have inst : Decidable (maySt z b) := by unfold maySt; exact inferInstance
        have xm := fun Bx : hI => ex_mayStand F z b (mk A Bx) c.1 c.2 hb1 hb2
        have ym := fun Ax : hI => em_isThere F z b (mk Ax B) c.1 c.2 hb1 hb2
        by_cases c3 : maySt z b
        · rw [show bI (maySt z b) = 1 from bI_t c3] at xm ym
          obtain ⟨p1, p2⟩ := put (Or.inr c3)
          intro Ax Bx
          refine ⟨iI (A 53 (52 * z.toNat + y.toNat)), uA A 53 (52 * z.toNat + y.toNat) b, uA B 475 (52 * z.toNat + y.toNat) b, ?_, ?_, p2⟩
          · unfold f_x_tell
            refine obd (xn Bx) ?_
            refine (if_neg i1n0).trans ?_
            refine (if_neg (by simp (disch := first | omega | (simp (disch := omega) only [uA_n]; done) | fail) only [iI_lit, iI_add, iI_sub, iI_mul, iI_neg, iI_lt, iI_le, iI_eq, zlt_t, zlt_f, zle_t, zle_f, zeq_t, zeq_f, nle_t, nle_f, iI_cl, rA, rS, rB, wA, wS, wB, mkp, mk2, uA_s, uA_n, ud_s, ud_n, bI_0, bI_1, nor_s, ↓reduceIte, or_false, false_or, or_true, true_or, or_self, not_true_eq_false, not_false_eq_true, and_true, true_and, and_false, false_and, bI_T, bI_F, Int.reduceToNat, Nat.reduceAdd, Nat.reduceMul, Int.reduceNeg, Option.bind_some, Int.toNat_natCast])).trans ?_
            refine (if_pos (by simp (disch := first | omega | (simp (disch := omega) only [uA_n]; done) | fail) only [iI_lit, iI_add, iI_sub, iI_mul, iI_neg, iI_lt, iI_le, iI_eq, zlt_t, zlt_f, zle_t, zle_f, zeq_t, zeq_f, nle_t, nle_f, iI_cl, rA, rS, rB, wA, wS, wB, mkp, mk2, uA_s, uA_n, ud_s, ud_n, bI_0, bI_1, nor_s, ↓reduceIte, or_false, false_or, or_true, true_or, or_self, not_true_eq_false, not_false_eq_true, and_true, true_and, and_false, false_and, bI_T, bI_F, Int.reduceToNat, Nat.reduceAdd, Nat.reduceMul, Int.reduceNeg, Option.bind_some, Int.toNat_natCast])).trans ?_
            refine (if_neg (by simp (disch := first | omega | (simp (disch := omega) only [uA_n]; done) | fail) only [iI_lit, iI_add, iI_sub, iI_mul, iI_neg, iI_lt, iI_le, iI_eq, zlt_t, zlt_f, zle_t, zle_f, zeq_t, zeq_f, nle_t, nle_f, iI_cl, rA, rS, rB, wA, wS, wB, mkp, mk2, uA_s, uA_n, ud_s, ud_n, bI_0, bI_1, nor_s, ↓reduceIte, or_false, false_or, or_true, true_or, or_self, not_true_eq_false, not_false_eq_true, and_true, true_and, and_false, false_and, bI_T, bI_F, Int.reduceToNat, Nat.reduceAdd, Nat.reduceMul, Int.reduceNeg, Option.bind_some, Int.toNat_natCast])).trans ?_
            refine obd (xm Bx) ?_
            refine (if_neg i1n0).trans ?_
            exact (p1 Ax Bx).1
          · unfold f_m_tell
            refine obd (yn Ax) ?_
            refine (if_neg i1n0).trans ?_
            refine obd (e1 Ax) ?_
            refine (if_neg i1n0).trans ?_
            refine (if_neg (by simp (disch := first | omega | (simp (disch := omega) only [uA_n]; done) | fail) only [iI_lit, iI_add, iI_sub, iI_mul, iI_neg, iI_lt, iI_le, iI_eq, zlt_t, zlt_f, zle_t, zle_f, zeq_t, zeq_f, nle_t, nle_f, iI_cl, rA, rS, rB, wA, wS, wB, mkp, mk2, uA_s, uA_n, ud_s, ud_n, bI_0, bI_1, nor_s, ↓reduceIte, or_false, false_or, or_true, true_or, or_self, not_true_eq_false, not_false_eq_true, and_true, true_and, and_false, false_and, bI_T, bI_F, Int.reduceToNat, Nat.reduceAdd, Nat.reduceMul, Int.reduceNeg, Option.bind_some, Int.toNat_natCast])).trans ?_
            refine obd (ym Ax) ?_
            refine (if_neg i1n0).trans ?_
            exact (p1 Ax Bx).2
        · rw [show bI (maySt z b) = 0 from bI_f c3] at xm ym
          refine cp_zero F h (v := -7) (by omega) (by omega) (fun Bx => ?_) (fun Ax => ?_)
          · unfold f_x_tell
            refine obd (xn Bx) ?_
            refine (if_neg i1n0).trans ?_
            refine (if_neg (by simp (disch := first | omega | (simp (disch := omega) only [uA_n]; done) | fail) only [iI_lit, iI_add, iI_sub, iI_mul, iI_neg, iI_lt, iI_le, iI_eq, zlt_t, zlt_f, zle_t, zle_f, zeq_t, zeq_f, nle_t, nle_f, iI_cl, rA, rS, rB, wA, wS, wB, mkp, mk2, uA_s, uA_n, ud_s, ud_n, bI_0, bI_1, nor_s, ↓reduceIte, or_false, false_or, or_true, true_or, or_self, not_true_eq_false, not_false_eq_true, and_true, true_and, and_false, false_and, bI_T, bI_F, Int.reduceToNat, Nat.reduceAdd, Nat.reduceMul, Int.reduceNeg, Option.bind_some, Int.toNat_natCast])).trans ?_
            refine (if_pos (by simp (disch := first | omega | (simp (disch := omega) only [uA_n]; done) | fail) only [iI_lit, iI_add, iI_sub, iI_mul, iI_neg, iI_lt, iI_le, iI_eq, zlt_t, zlt_f, zle_t, zle_f, zeq_t, zeq_f, nle_t, nle_f, iI_cl, rA, rS, rB, wA, wS, wB, mkp, mk2, uA_s, uA_n, ud_s, ud_n, bI_0, bI_1, nor_s, ↓reduceIte, or_false, false_or, or_true, true_or, or_self, not_true_eq_false, not_false_eq_true, and_true, true_and, and_false, false_and, bI_T, bI_F, Int.reduceToNat, Nat.reduceAdd, Nat.reduceMul, Int.reduceNeg, Option.bind_some, Int.toNat_natCast])).trans ?_
            refine (if_neg (by simp (disch := first | omega | (simp (disch := omega) only [uA_n]; done) | fail) only [iI_lit, iI_add, iI_sub, iI_mul, iI_neg, iI_lt, iI_le, iI_eq, zlt_t, zlt_f, zle_t, zle_f, zeq_t, zeq_f, nle_t, nle_f, iI_cl, rA, rS, rB, wA, wS, wB, mkp, mk2, uA_s, uA_n, ud_s, ud_n, bI_0, bI_1, nor_s, ↓reduceIte, or_false, false_or, or_true, true_or, or_self, not_true_eq_false, not_false_eq_true, and_true, true_and, and_false, false_and, bI_T, bI_F, Int.reduceToNat, Nat.reduceAdd, Nat.reduceMul, Int.reduceNeg, Option.bind_some, Int.toNat_natCast])).trans ?_
            refine obd (xm Bx) ?_
            exact (if_pos rfl)
          · unfold f_m_tell
            refine obd (yn Ax) ?_
            refine (if_neg i1n0).trans ?_
            refine obd (e1 Ax) ?_
            refine (if_neg i1n0).trans ?_
            refine (if_neg (by simp (disch := first | omega | (simp (disch := omega) only [uA_n]; done) | fail) only [iI_lit, iI_add, iI_sub, iI_mul, iI_neg, iI_lt, iI_le, iI_eq, zlt_t, zlt_f, zle_t, zle_f, zeq_t, zeq_f, nle_t, nle_f, iI_cl, rA, rS, rB, wA, wS, wB, mkp, mk2, uA_s, uA_n, ud_s, ud_n, bI_0, bI_1, nor_s, ↓reduceIte, or_false, false_or, or_true, true_or, or_self, not_true_eq_false, not_false_eq_true, and_true, true_and, and_false, false_and, bI_T, bI_F, Int.reduceToNat, Nat.reduceAdd, Nat.reduceMul, Int.reduceNeg, Option.bind_some, Int.toNat_natCast])).trans ?_
            refine obd (ym Ax) ?_
            exact (if_pos rfl)
    · rw [show bI (0 ≤ y ∧ y ≤ 51) = 0 from bI_f c1] at e1
      refine cp_zero F h (v := -3) (by omega) (by omega) (fun Bx => ?_) (fun Ax => ?_)
      · simp only [f_x_tell, f_x_tell_17]
        refine obd (xn Bx) ?_
        refine (if_neg i1n0).trans ?_
        by_cases c2 : y < 0
        · exact (if_pos (by simp (disch := first | omega | (simp (disch := omega) only [uA_n]; done) | fail) only [iI_lit, iI_add, iI_sub, iI_mul, iI_neg, iI_lt, iI_le, iI_eq, zlt_t, zlt_f, zle_t, zle_f, zeq_t, zeq_f, nle_t, nle_f, iI_cl, rA, rS, rB, wA, wS, wB, mkp, mk2, uA_s, uA_n, ud_s, ud_n, bI_0, bI_1, nor_s, ↓reduceIte, or_false, false_or, or_true, true_or, or_self, not_true_eq_false, not_false_eq_true, and_true, true_and, and_false, false_and, bI_T, bI_F, Int.reduceToNat, Nat.reduceAdd, Nat.reduceMul, Int.reduceNeg, Option.bind_some, Int.toNat_natCast]))
        · refine (if_neg (by simp (disch := first | omega | (simp (disch := omega) only [uA_n]; done) | fail) only [iI_lit, iI_add, iI_sub, iI_mul, iI_neg, iI_lt, iI_le, iI_eq, zlt_t, zlt_f, zle_t, zle_f, zeq_t, zeq_f, nle_t, nle_f, iI_cl, rA, rS, rB, wA, wS, wB, mkp, mk2, uA_s, uA_n, ud_s, ud_n, bI_0, bI_1, nor_s, ↓reduceIte, or_false, false_or, or_true, true_or, or_self, not_true_eq_false, not_false_eq_true, and_true, true_and, and_false, false_and, bI_T, bI_F, Int.reduceToNat, Nat.reduceAdd, Nat.reduceMul, Int.reduceNeg, Option.bind_some, Int.toNat_natCast])).trans ?_
          exact (if_neg (by simp (disch := first | omega | (simp (disch := omega) only [uA_n]; done) | fail) only [iI_lit, iI_add, iI_sub, iI_mul, iI_neg, iI_lt, iI_le, iI_eq, zlt_t, zlt_f, zle_t, zle_f, zeq_t, zeq_f, nle_t, nle_f, iI_cl, rA, rS, rB, wA, wS, wB, mkp, mk2, uA_s, uA_n, ud_s, ud_n, bI_0, bI_1, nor_s, ↓reduceIte, or_false, false_or, or_true, true_or, or_self, not_true_eq_false, not_false_eq_true, and_true, true_and, and_false, false_and, bI_T, bI_F, Int.reduceToNat, Nat.reduceAdd, Nat.reduceMul, Int.reduceNeg, Option.bind_some, Int.toNat_natCast]))
      · simp only [f_m_tell, f_m_tell_19]
        refine obd (yn Ax) ?_
        refine (if_neg i1n0).trans ?_
        refine obd (e1 Ax) ?_
        exact (if_pos rfl)
  · rw [show bI (0 ≤ z ∧ z < 2) = 0 from bI_f c] at xn
    rw [show bI (0 ≤ z ∧ z ≤ 1) = 0 from bI_f (by omega)] at yn
    refine cp_zero F h (v := -3) (by omega) (by omega) (fun Bx => ?_) (fun Ax => ?_)
    · simp only [f_x_tell, f_x_tell_17]
      refine obd (xn Bx) ?_
      exact (if_pos rfl)
    · simp only [f_m_tell, f_m_tell_19]
      refine obd (yn Ax) ?_
      exact (if_pos rfl)
end CAL7
