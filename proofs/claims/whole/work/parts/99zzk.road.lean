/-! CALLS: road -/
section
variable {K D : Int} {A0 B0 A B : hI} {i : Nat} (F : Nat)
theorem RR.road (R : RR K D A0 B0 A B) {n a b : Nat} {w : Int} (hn : (n : Int) = A 17 2) (h16 : n < 16) (ha : (a : Int) < A 17 1) (hb : (b : Int) < A 17 1) (hw : 1 ≤ w ∧ w ≤ 30) {A' B' : hI} {g : Nat → Int} (hA : ∀ k : Nat, ¬ (17 ≤ k ∧ k ≤ 18) → A' k = A k) (e17 : A' 17 = ud (A 17) 2 (A 17 2 + 1)) (e18 : ∀ j : Nat, j < 64 → A' 18 j = cd (dRd (B 404) a b w j)) (hB : ∀ k : Nat, ¬ (400 ≤ k ∧ k ≤ 404) → B' k = B k) (f401 : B' 401 = ud (B 401) n a) (f402 : B' 402 = ud (B 402) n b) (f403 : B' 403 = ud (B 403) n w) (f404 : B' 404 = g) (f400 : B' 400 = ud (B 400) 3 (A 17 2 + 1)) (hg : dOK (n + 1) (B' 401) (B' 402) (B' 403) g) : RR K D A0 B0 A' B' := by
  have h4 : ∀ j : Nat, j ≠ 3 → B' 400 j = B 400 j := fun j hj => by rw [f400, ud_n hj]
  have L := R.gL
  have l1 := L.lt2
  have ok : dOK (n + 1) (B' 401) (B' 402) (B' 403) (dRd (B 404) a b w) := by
    have ld := L.lds
    rw [show (A 17 2).toNat = n by omega] at ld
    refine dRd_ok ld (by omega) (by omega) (by omega) (fun k hk => ?_) ?_ ?_ ?_
    · rw [f401, f402, f403, ud_n (by omega), ud_n (by omega), ud_n (by omega)]; exact ⟨rfl, rfl, rfl⟩
    · rw [f401, ud_s]; omega
    · rw [f402, ud_s]; omega
    · rw [f403, ud_s]
  have e : ∀ j, j < 64 → g j = dRd (B 404) a b w j := fun j hj => hg.one ok hj
  refine ⟨⟨?_, ?_, (by apply R.gN.c <;> first | rfl | exact hA _ (by omega) | exact congrFun (hA _ (by omega)) _ | exact hB _ (by omega) | exact h4 _ (by omega) | (intro k hk1 hk2; exact hB k (by omega)) | (simp (disch := omega) only [uA_s, uA_n, ud_n]; done)), (by apply R.gP.c <;> first | rfl | exact hA _ (by omega) | exact congrFun (hA _ (by omega)) _ | exact hB _ (by omega) | exact h4 _ (by omega) | (intro k hk1 hk2; exact hB k (by omega)) | (simp (disch := omega) only [uA_s, uA_n, ud_n]; done)), (by apply R.gT.c <;> first | rfl | exact hA _ (by omega) | exact congrFun (hA _ (by omega)) _ | exact hB _ (by omega) | exact h4 _ (by omega) | (intro k hk1 hk2; exact hB k (by omega)) | (simp (disch := omega) only [uA_s, uA_n, ud_n]; done)), (by apply R.gS.c <;> first | rfl | exact hA _ (by omega) | exact congrFun (hA _ (by omega)) _ | exact hB _ (by omega) | exact h4 _ (by omega) | (intro k hk1 hk2; exact hB k (by omega)) | (simp (disch := omega) only [uA_s, uA_n, ud_n]; done)), (by apply R.gD.c <;> first | rfl | exact hA _ (by omega) | exact congrFun (hA _ (by omega)) _ | exact hB _ (by omega) | exact h4 _ (by omega) | (intro k hk1 hk2; exact hB k (by omega)) | (simp (disch := omega) only [uA_s, uA_n, ud_n]; done)), (by apply R.gW.c <;> first | rfl | exact hA _ (by omega) | exact congrFun (hA _ (by omega)) _ | exact hB _ (by omega) | exact h4 _ (by omega) | (intro k hk1 hk2; exact hB k (by omega)) | (simp (disch := omega) only [uA_s, uA_n, ud_n]; done)), (by apply R.gX.c <;> first | rfl | exact hA _ (by omega) | exact congrFun (hA _ (by omega)) _ | exact hB _ (by omega) | exact h4 _ (by omega) | (intro k hk1 hk2; exact hB k (by omega)) | (simp (disch := omega) only [uA_s, uA_n, ud_n]; done)), (by apply R.gG.c <;> first | rfl | exact hA _ (by omega) | exact congrFun (hA _ (by omega)) _ | exact hB _ (by omega) | exact h4 _ (by omega) | (intro k hk1 hk2; exact hB k (by omega)) | (simp (disch := omega) only [uA_s, uA_n, ud_n]; done)), (by apply R.gI.c <;> first | rfl | exact hA _ (by omega) | exact congrFun (hA _ (by omega)) _ | exact hB _ (by omega) | exact h4 _ (by omega) | (intro k hk1 hk2; exact hB k (by omega)) | (simp (disch := omega) only [uA_s, uA_n, ud_n]; done))⟩, R.sx.tr ?_, R.sb.tr (SB.st (fun k hk => hB k (by omega)))⟩
  · obtain ⟨x1, x2, x3, x4, x5, x6, x7, x8, x9, x10⟩ := R.gL
    unfold WL
    rw [f404, f400, e17]
    refine ⟨by rw [ud_n (by omega)]; exact x1, by rw [ud_n (by omega)]; exact x2, by rw [ud_n (by omega), ud_n (by omega)]; exact x3, by rw [ud_s]; omega, by rw [ud_s]; omega, by rw [ud_s, ud_s], fun k hk => ?_, ?_, fun i j hi hj hlt => ?_, fun j hj => ?_⟩
    · rw [ud_s] at hk
      rw [f401, f402, f403]
      by_cases q : k = n
      · subst q; rw [ud_s, ud_s, ud_s]; omega
      · rw [ud_n q, ud_n q, ud_n q]; exact x7 k (by omega)
    · rw [ud_s, show (A 17 2 + 1).toNat = n + 1 by omega]; exact hg
    · have ec : dCn g i = dCn (dRd (B 404) a b w) i := by
        unfold dCn
        exact sm_c fun j hj => by rw [e (8 * i + j) (by omega)]
      rw [e _ (by omega)] at hlt ⊢
      rw [ec]
      exact dRd_fin (fun k hk => by have := x7 k (by omega); omega) x8 x9 (by omega) (by omega) (by omega) hw.2 hi hj hlt
    · rw [e18 j hj, e j hj]; rfl
  · apply R.gH.c <;> first | exact hA _ (by omega) | exact congrFun (hA _ (by omega)) _ | exact hB _ (by omega) | exact h4 _ (by omega) | (rw [e17, ud_n (by omega)])
  · exact SX.st (fun k hk => hA k (by omega)) (by rw [hA 16 (by omega)]) (by rw [hA 16 (by omega)]) (by rw [hA 55 (by omega)]) (by rw [hA 55 (by omega)]) (fun c _ => by rw [hA 59 (by omega)])
theorem pairRoad (R : RR K D A0 B0 A B) (hF : 1000 ≤ F) (Ax Bx : hI) {a b : Nat} {w : Int} (h16 : A 17 2 < 16) (ha : (a : Int) < A 17 1) (hb : (b : Int) < A 17 1) (hw : 1 ≤ w ∧ w ≤ 30) : ∃ A' B' : hI, f_Land_addRoad F (iI (a : Int)) (iI (b : Int)) (iI w) (mk A Bx) = some ((), mk A' Bx) ∧ f_m_road_94 F (iI w) (iI (16 + 3 * A 17 2)) (mk Ax (uA (uA B 401 (A 17 2).toNat a) 402 (A 17 2).toNat b)) = some (iI (A 17 2 + 1), mk Ax B') ∧ RR K D A0 B0 A' B' ∧ A' 17 2 = A 17 2 + 1 ∧ A' 16 = A 16 := by
  have L := R.gL
  have l1 := L.lt2
  have r1 := L.lr1
  have r3 := L.lr3
  obtain ⟨n, hn⟩ : ∃ n : Nat, A 17 2 = n := ⟨(A 17 2).toNat, by omega⟩
  have okd : ∀ x, x < 64 → okV (B 404 x) := fun x hx => by
    have hr := L.lds.1.2.1 (x / 8) (x % 8) (by omega) (by omega)
    rw [show 8 * (x / 8) + x % 8 = x by omega] at hr
    refine ⟨hr.1, hr.2, fun z => ?_⟩
    have q := L.lfb (x / 8) (x % 8) (by omega) (by omega)
    rw [show 8 * (x / 8) + x % 8 = x by omega] at q
    have := q z
    have := dCn_rg (B 404) (x / 8)
    omega
  have ld := L.lds
  have rd := L.lrd
  have oke : ∀ x, x < 64 → okV (dRd (B 404) a b w x) := fun x hx => by
    have q := dRd_fin (fun k hk => by have := rd k (by omega); omega) ld L.lfb (a := a) (b := b) (w := w) (by omega) (by omega) (by omega) hw.2 (i := x / 8) (j := x % 8) (by omega) (by omega)
    have u := dRd_at (B 404) a b w (i := x / 8) (j := x % 8) (by omega) (by omega)
    rw [show 8 * (x / 8) + x % 8 = x by omega] at q u
    have y0 := okd x hx
    have y1 := okd (8 * (x / 8) + a) (by omega)
    have y2 := okd (8 * b + x % 8) (by omega)
    have y3 := okd (8 * (x / 8) + b) (by omega)
    have y4 := okd (8 * a + x % 8) (by omega)
    refine ⟨by omega, by omega, fun z => ?_⟩
    have := q z
    have := dCn_rg (dRd (B 404) a b w) (x / 8)
    omega
  have x1 := ex_addRoad (F := F) (Bx := Bx) (A := uA A 17 2 (A 17 2 + 1)) (d := B 404) (a := a) (b := b) (w := w) hF (by omega) (by omega) ⟨by omega, hw.2⟩ (fun x hx => by rw [uA_n (by omega)]; exact L.lcp x hx) okd oke (fun i j hi hj => dRd_tri ld (by omega) (by omega) (by omega) hi hj)
  let B1 : hI := uA (uA (uA (uA B 401 n a) 402 n b) 403 n w) 400 3 (A 17 2 + 1)
  have b401 : B1 401 = ud (B 401) n a := by show uA (uA (uA (uA B 401 n a) 402 n b) 403 n w) 400 3 (A 17 2 + 1) 401 = _; simp (disch := omega) only [uA_n, uA_s]
  have b402 : B1 402 = ud (B 402) n b := by show uA (uA (uA (uA B 401 n a) 402 n b) 403 n w) 400 3 (A 17 2 + 1) 402 = _; simp (disch := omega) only [uA_n, uA_s]
  have b403 : B1 403 = ud (B 403) n w := by show uA (uA (uA (uA B 401 n a) 402 n b) 403 n w) 400 3 (A 17 2 + 1) 403 = _; simp (disch := omega) only [uA_n, uA_s]
  have b400 : B1 400 = ud (B 400) 3 (A 17 2 + 1) := by show uA (uA (uA (uA B 401 n a) 402 n b) 403 n w) 400 3 (A 17 2 + 1) 400 = _; simp (disch := omega) only [uA_n, uA_s]
  have bo : ∀ k : Nat, ¬ (400 ≤ k ∧ k ≤ 403) → B1 k = B k := fun k hk => by show uA (uA (uA (uA B 401 n a) 402 n b) 403 n w) 400 3 (A 17 2 + 1) k = _; simp (disch := omega) only [uA_n]
  obtain ⟨g, y1, og⟩ := em_measure (F := F) (Ax := Ax) (B := B1) hF (n := n + 1) (by omega) (by rw [b400, ud_s]; omega) (fun k hk => by
    rw [b401, b402, b403]
    by_cases q : k = n
    · subst q; rw [ud_s, ud_s, ud_s]; omega
    · rw [ud_n q, ud_n q, ud_n q]; exact rd k (by omega))
  have z401 : sB B1 g 401 = ud (B 401) n a := by rw [sB_n (by omega), b401]
  have z402 : sB B1 g 402 = ud (B 402) n b := by rw [sB_n (by omega), b402]
  have z403 : sB B1 g 403 = ud (B 403) n w := by rw [sB_n (by omega), b403]
  have z400 : sB B1 g 400 = ud (B 400) 3 (A 17 2 + 1) := by rw [sB_n (by omega), b400]
  refine ⟨sA (uA A 17 2 (A 17 2 + 1)) (gT (dRd (B 404) a b w) (B 404) (uA A 17 2 (A 17 2 + 1) 18) 64), sB B1 g, ?_, ?_, R.road (n := n) (a := a) (b := b) (w := w) (g := g) hn.symm (by omega) ha hb hw (fun k hk => ?_) ?_ (fun j hj => ?_) (fun k hk => ?_) z401 z402 z403 (sB_s _ _) z400 ?_, ?_, ?_⟩
  · unfold f_Land_addRoad
    refine Eq.trans ?_ x1
    simp (disch := first | omega | (simp (disch := omega) only [uA_n]; done) | fail) only [iI_lit, iI_add, iI_sub, iI_mul, iI_neg, iI_lt, iI_le, iI_eq, zlt_t, zlt_f, zle_t, zle_f, zeq_t, zeq_f, nle_t, nle_f, iI_cl, rA, rS, rB, wA, wS, wB, mkp, mk2, uA_s, uA_n, ud_s, ud_n, bI_0, bI_1, nor_s, ↓reduceIte, or_false, false_or, or_true, true_or, or_self, not_true_eq_false, not_false_eq_true, and_true, true_and, and_false, false_and, bI_T, bI_F, Int.reduceToNat, Nat.reduceAdd, Nat.reduceMul, Int.reduceNeg, Option.bind_some, Int.toNat_natCast]
  · rw [hn] at r3
    have m0 : B1 399 = B 399 := bo 399 (by omega)
    unfold f_m_road_94
    rw [hn, Int.toNat_natCast]
    refine (if_neg (by simp (disch := first | omega | (simp (disch := omega) only [uA_n]; done) | fail) only [iI_lit, iI_add, iI_sub, iI_mul, iI_neg, iI_lt, iI_le, iI_eq, zlt_t, zlt_f, zle_t, zle_f, zeq_t, zeq_f, nle_t, nle_f, iI_cl, rA, rS, rB, wA, wS, wB, mkp, mk2, uA_s, uA_n, ud_s, ud_n, bI_0, bI_1, nor_s, ↓reduceIte, or_false, false_or, or_true, true_or, or_self, not_true_eq_false, not_false_eq_true, and_true, true_and, and_false, false_and, bI_T, bI_F, Int.reduceToNat, Nat.reduceAdd, Nat.reduceMul, Int.reduceNeg, Option.bind_some, Int.toNat_natCast])).trans ?_
    refine obd (v := ((), mk Ax (sB B1 g))) (Eq.trans ?_ y1) ?_
    · have m1 : uA (uA (uA (uA B 401 n a) 402 n b) 403 n w) 400 3 ((n : Int) + 1) 399 = uA (uA B 401 n a) 402 n b 399 := by simp (disch := omega) only [uA_n]
      simp (disch := first | omega | (simp (disch := omega) only [uA_n]; done) | fail) only [iI_lit, iI_add, iI_sub, iI_mul, iI_neg, iI_lt, iI_le, iI_eq, zlt_t, zlt_f, zle_t, zle_f, zeq_t, zeq_f, nle_t, nle_f, iI_cl, rA, rS, rB, wA, wS, wB, mkp, mk2, uA_s, uA_n, ud_s, ud_n, bI_0, bI_1, nor_s, ↓reduceIte, or_false, false_or, or_true, true_or, or_self, not_true_eq_false, not_false_eq_true, and_true, true_and, and_false, false_and, bI_T, bI_F, Int.reduceToNat, Nat.reduceAdd, Nat.reduceMul, Int.reduceNeg, Option.bind_some, Int.toNat_natCast, zR, dS, r3, mk2 m1]
      show f_m_measure F (mk Ax (uA (uA (uA (uA B 401 n a) 402 n b) 403 n w) 400 3 ((n : Int) + 1))) = f_m_measure F (mk Ax (uA (uA (uA (uA B 401 n a) 402 n b) 403 n w) 400 3 (A 17 2 + 1)))
      rw [hn]
    · refine congrArg some (Prod.ext ?_ rfl)
      have z := congrFun z400 3
      rw [ud_s, hn] at z
      simp (disch := first | omega | (simp (disch := omega) only [uA_n]; done) | fail) only [iI_lit, iI_add, iI_sub, iI_mul, iI_neg, iI_lt, iI_le, iI_eq, zlt_t, zlt_f, zle_t, zle_f, zeq_t, zeq_f, nle_t, nle_f, iI_cl, rA, rS, rB, wA, wS, wB, mkp, mk2, uA_s, uA_n, ud_s, ud_n, bI_0, bI_1, nor_s, ↓reduceIte, or_false, false_or, or_true, true_or, or_self, not_true_eq_false, not_false_eq_true, and_true, true_and, and_false, false_and, bI_T, bI_F, Int.reduceToNat, Nat.reduceAdd, Nat.reduceMul, Int.reduceNeg, Option.bind_some, Int.toNat_natCast, dS, z]
  · rw [sA_n (by omega), uA_n (by omega)]
  · rw [sA_n (by omega), uA_s]
  · rw [sA_s, gT_v _ _ _ _ hj]; unfold pv; rw [if_pos hj]
  · rw [sB_n (by omega), bo k (by omega)]
  · rw [z401, z402, z403]
    rw [b401, b402, b403] at og
    exact og
  · rw [sA_n (by omega), uA_s, ud_s]
  · rw [sA_n (by omega), uA_n (by omega)]
theorem c_road (h : Inv i A B) (hF : 1000 ≤ F) (v1 v2 v3 : Int32) : CP i A B (f_x_road F v1 v2 v3) (f_m_road F v1 v2 v3) := by
  obtain ⟨a, aa, ab, rfl⟩ : ∃ z : Int, -2147483648 ≤ z ∧ z < 2147483648 ∧ v1 = iI z := ⟨_, (i32rg v1).1, (i32rg v1).2, iI_of v1⟩
  obtain ⟨b, ba, bb, rfl⟩ : ∃ z : Int, -2147483648 ≤ z ∧ z < 2147483648 ∧ v2 = iI z := ⟨_, (i32rg v2).1, (i32rg v2).2, iI_of v2⟩
  obtain ⟨w, wa, wb, rfl⟩ : ∃ z : Int, -2147483648 ≤ z ∧ z < 2147483648 ∧ v3 = iI z := ⟨_, (i32rg v3).1, (i32rg v3).2, iI_of v3⟩
  have R := h.rr
  have l1 := R.gL.lt2
  have r1 := R.gL.lr1
  have r2 := R.gL.lr2
  have r3 := R.gL.lr3
  by_cases c0 : 0 ≤ a ∧ a < A 17 1
  rotate_left
  · refine cp_no F h (v := -3) (by omega) (by omega) (fun Bx => ?_) (fun Ax => ?_)
    · unfold f_x_road
      refine (askF (ex_isTown F R Bx a aa ab) c0).trans ?_
      rfl
    · unfold f_m_road
      refine (askF (em_isTown F R Ax a aa ab) c0).trans ?_
      rfl
  by_cases c1 : 0 ≤ b ∧ b < A 17 1
  rotate_left
  · refine cp_no F h (v := -3) (by omega) (by omega) (fun Bx => ?_) (fun Ax => ?_)
    · unfold f_x_road
      refine (askT (ex_isTown F R Bx a aa ab) c0).trans ?_
      refine (askF (ex_isTown F R Bx b ba bb) c1).trans ?_
      rfl
    · unfold f_m_road
      refine (askT (em_isTown F R Ax a aa ab) c0).trans ?_
      refine (askF (em_isTown F R Ax b ba bb) c1).trans ?_
      rfl
  by_cases c2 : a ≠ b
  rotate_left
  · refine cp_no F h (v := -7) (by omega) (by omega) (fun Bx => ?_) (fun Ax => ?_)
    · unfold f_x_road
      refine (askT (ex_isTown F R Bx a aa ab) c0).trans ?_
      refine (askT (ex_isTown F R Bx b ba bb) c1).trans ?_
      refine (if_pos (by simp (disch := first | omega | (simp (disch := omega) only [uA_n]; done) | fail) only [iI_lit, iI_add, iI_sub, iI_mul, iI_neg, iI_lt, iI_le, iI_eq, zlt_t, zlt_f, zle_t, zle_f, zeq_t, zeq_f, nle_t, nle_f, iI_cl, rA, rS, rB, wA, wS, wB, mkp, mk2, uA_s, uA_n, ud_s, ud_n, bI_0, bI_1, nor_s, ↓reduceIte, or_false, false_or, or_true, true_or, or_self, not_true_eq_false, not_false_eq_true, and_true, true_and, and_false, false_and, bI_T, bI_F, Int.reduceToNat, Nat.reduceAdd, Nat.reduceMul, Int.reduceNeg, Option.bind_some, Int.toNat_natCast])).trans ?_
      rfl
    · unfold f_m_road
      refine (askT (em_isTown F R Ax a aa ab) c0).trans ?_
      refine (askT (em_isTown F R Ax b ba bb) c1).trans ?_
      refine (if_pos (by simp (disch := first | omega | (simp (disch := omega) only [uA_n]; done) | fail) only [iI_lit, iI_add, iI_sub, iI_mul, iI_neg, iI_lt, iI_le, iI_eq, zlt_t, zlt_f, zle_t, zle_f, zeq_t, zeq_f, nle_t, nle_f, iI_cl, rA, rS, rB, wA, wS, wB, mkp, mk2, uA_s, uA_n, ud_s, ud_n, bI_0, bI_1, nor_s, ↓reduceIte, or_false, false_or, or_true, true_or, or_self, not_true_eq_false, not_false_eq_true, and_true, true_and, and_false, false_and, bI_T, bI_F, Int.reduceToNat, Nat.reduceAdd, Nat.reduceMul, Int.reduceNeg, Option.bind_some, Int.toNat_natCast])).trans ?_
      rfl
  by_cases c3 : 1 ≤ w
  rotate_left
  · refine cp_no F h (v := -7) (by omega) (by omega) (fun Bx => ?_) (fun Ax => ?_)
    · unfold f_x_road
      refine (askT (ex_isTown F R Bx a aa ab) c0).trans ?_
      refine (askT (ex_isTown F R Bx b ba bb) c1).trans ?_
      refine (if_neg (by simp (disch := first | omega | (simp (disch := omega) only [uA_n]; done) | fail) only [iI_lit, iI_add, iI_sub, iI_mul, iI_neg, iI_lt, iI_le, iI_eq, zlt_t, zlt_f, zle_t, zle_f, zeq_t, zeq_f, nle_t, nle_f, iI_cl, rA, rS, rB, wA, wS, wB, mkp, mk2, uA_s, uA_n, ud_s, ud_n, bI_0, bI_1, nor_s, ↓reduceIte, or_false, false_or, or_true, true_or, or_self, not_true_eq_false, not_false_eq_true, and_true, true_and, and_false, false_and, bI_T, bI_F, Int.reduceToNat, Nat.reduceAdd, Nat.reduceMul, Int.reduceNeg, Option.bind_some, Int.toNat_natCast])).trans ?_
      refine (if_pos (by simp (disch := first | omega | (simp (disch := omega) only [uA_n]; done) | fail) only [iI_lit, iI_add, iI_sub, iI_mul, iI_neg, iI_lt, iI_le, iI_eq, zlt_t, zlt_f, zle_t, zle_f, zeq_t, zeq_f, nle_t, nle_f, iI_cl, rA, rS, rB, wA, wS, wB, mkp, mk2, uA_s, uA_n, ud_s, ud_n, bI_0, bI_1, nor_s, ↓reduceIte, or_false, false_or, or_true, true_or, or_self, not_true_eq_false, not_false_eq_true, and_true, true_and, and_false, false_and, bI_T, bI_F, Int.reduceToNat, Nat.reduceAdd, Nat.reduceMul, Int.reduceNeg, Option.bind_some, Int.toNat_natCast])).trans ?_
      rfl
    · unfold f_m_road
      refine (askT (em_isTown F R Ax a aa ab) c0).trans ?_
      refine (askT (em_isTown F R Ax b ba bb) c1).trans ?_
      refine (if_neg (by simp (disch := first | omega | (simp (disch := omega) only [uA_n]; done) | fail) only [iI_lit, iI_add, iI_sub, iI_mul, iI_neg, iI_lt, iI_le, iI_eq, zlt_t, zlt_f, zle_t, zle_f, zeq_t, zeq_f, nle_t, nle_f, iI_cl, rA, rS, rB, wA, wS, wB, mkp, mk2, uA_s, uA_n, ud_s, ud_n, bI_0, bI_1, nor_s, ↓reduceIte, or_false, false_or, or_true, true_or, or_self, not_true_eq_false, not_false_eq_true, and_true, true_and, and_false, false_and, bI_T, bI_F, Int.reduceToNat, Nat.reduceAdd, Nat.reduceMul, Int.reduceNeg, Option.bind_some, Int.toNat_natCast])).trans ?_
      refine (askF (em_in F w 1 30 (mk Ax B) wa wb (by omega) (by omega) (by omega) (by omega)) (by omega)).trans ?_
      rfl
  by_cases c4 : w ≤ 30
  rotate_left
  · refine cp_no F h (v := -7) (by omega) (by omega) (fun Bx => ?_) (fun Ax => ?_)
    · unfold f_x_road
      refine (askT (ex_isTown F R Bx a aa ab) c0).trans ?_
      refine (askT (ex_isTown F R Bx b ba bb) c1).trans ?_
      refine (if_neg (by simp (disch := first | omega | (simp (disch := omega) only [uA_n]; done) | fail) only [iI_lit, iI_add, iI_sub, iI_mul, iI_neg, iI_lt, iI_le, iI_eq, zlt_t, zlt_f, zle_t, zle_f, zeq_t, zeq_f, nle_t, nle_f, iI_cl, rA, rS, rB, wA, wS, wB, mkp, mk2, uA_s, uA_n, ud_s, ud_n, bI_0, bI_1, nor_s, ↓reduceIte, or_false, false_or, or_true, true_or, or_self, not_true_eq_false, not_false_eq_true, and_true, true_and, and_false, false_and, bI_T, bI_F, Int.reduceToNat, Nat.reduceAdd, Nat.reduceMul, Int.reduceNeg, Option.bind_some, Int.toNat_natCast])).trans ?_
      refine (if_neg (by simp (disch := first | omega | (simp (disch := omega) only [uA_n]; done) | fail) only [iI_lit, iI_add, iI_sub, iI_mul, iI_neg, iI_lt, iI_le, iI_eq, zlt_t, zlt_f, zle_t, zle_f, zeq_t, zeq_f, nle_t, nle_f, iI_cl, rA, rS, rB, wA, wS, wB, mkp, mk2, uA_s, uA_n, ud_s, ud_n, bI_0, bI_1, nor_s, ↓reduceIte, or_false, false_or, or_true, true_or, or_self, not_true_eq_false, not_false_eq_true, and_true, true_and, and_false, false_and, bI_T, bI_F, Int.reduceToNat, Nat.reduceAdd, Nat.reduceMul, Int.reduceNeg, Option.bind_some, Int.toNat_natCast])).trans ?_
      refine (if_neg (by simp (disch := first | omega | (simp (disch := omega) only [uA_n]; done) | fail) only [iI_lit, iI_add, iI_sub, iI_mul, iI_neg, iI_lt, iI_le, iI_eq, zlt_t, zlt_f, zle_t, zle_f, zeq_t, zeq_f, nle_t, nle_f, iI_cl, rA, rS, rB, wA, wS, wB, mkp, mk2, uA_s, uA_n, ud_s, ud_n, bI_0, bI_1, nor_s, ↓reduceIte, or_false, false_or, or_true, true_or, or_self, not_true_eq_false, not_false_eq_true, and_true, true_and, and_false, false_and, bI_T, bI_F, Int.reduceToNat, Nat.reduceAdd, Nat.reduceMul, Int.reduceNeg, Option.bind_some, Int.toNat_natCast])).trans ?_
      rfl
    · unfold f_m_road
      refine (askT (em_isTown F R Ax a aa ab) c0).trans ?_
      refine (askT (em_isTown F R Ax b ba bb) c1).trans ?_
      refine (if_neg (by simp (disch := first | omega | (simp (disch := omega) only [uA_n]; done) | fail) only [iI_lit, iI_add, iI_sub, iI_mul, iI_neg, iI_lt, iI_le, iI_eq, zlt_t, zlt_f, zle_t, zle_f, zeq_t, zeq_f, nle_t, nle_f, iI_cl, rA, rS, rB, wA, wS, wB, mkp, mk2, uA_s, uA_n, ud_s, ud_n, bI_0, bI_1, nor_s, ↓reduceIte, or_false, false_or, or_true, true_or, or_self, not_true_eq_false, not_false_eq_true, and_true, true_and, and_false, false_and, bI_T, bI_F, Int.reduceToNat, Nat.reduceAdd, Nat.reduceMul, Int.reduceNeg, Option.bind_some, Int.toNat_natCast])).trans ?_
      refine (askF (em_in F w 1 30 (mk Ax B) wa wb (by omega) (by omega) (by omega) (by omega)) (by omega)).trans ?_
      rfl
  by_cases c5 : A 17 2 < 16
  rotate_left
  · have t8 : A 17 2 = 16 := by omega
    refine cp_no F h (v := -8) (by omega) (by omega) (fun Bx => ?_) (fun Ax => ?_)
    · unfold f_x_road
      refine (askT (ex_isTown F R Bx a aa ab) c0).trans ?_
      refine (askT (ex_isTown F R Bx b ba bb) c1).trans ?_
      refine (if_neg (by simp (disch := first | omega | (simp (disch := omega) only [uA_n]; done) | fail) only [iI_lit, iI_add, iI_sub, iI_mul, iI_neg, iI_lt, iI_le, iI_eq, zlt_t, zlt_f, zle_t, zle_f, zeq_t, zeq_f, nle_t, nle_f, iI_cl, rA, rS, rB, wA, wS, wB, mkp, mk2, uA_s, uA_n, ud_s, ud_n, bI_0, bI_1, nor_s, ↓reduceIte, or_false, false_or, or_true, true_or, or_self, not_true_eq_false, not_false_eq_true, and_true, true_and, and_false, false_and, bI_T, bI_F, Int.reduceToNat, Nat.reduceAdd, Nat.reduceMul, Int.reduceNeg, Option.bind_some, Int.toNat_natCast])).trans ?_
      refine (if_neg (by simp (disch := first | omega | (simp (disch := omega) only [uA_n]; done) | fail) only [iI_lit, iI_add, iI_sub, iI_mul, iI_neg, iI_lt, iI_le, iI_eq, zlt_t, zlt_f, zle_t, zle_f, zeq_t, zeq_f, nle_t, nle_f, iI_cl, rA, rS, rB, wA, wS, wB, mkp, mk2, uA_s, uA_n, ud_s, ud_n, bI_0, bI_1, nor_s, ↓reduceIte, or_false, false_or, or_true, true_or, or_self, not_true_eq_false, not_false_eq_true, and_true, true_and, and_false, false_and, bI_T, bI_F, Int.reduceToNat, Nat.reduceAdd, Nat.reduceMul, Int.reduceNeg, Option.bind_some, Int.toNat_natCast])).trans ?_
      refine (if_pos (by simp (disch := first | omega | (simp (disch := omega) only [uA_n]; done) | fail) only [iI_lit, iI_add, iI_sub, iI_mul, iI_neg, iI_lt, iI_le, iI_eq, zlt_t, zlt_f, zle_t, zle_f, zeq_t, zeq_f, nle_t, nle_f, iI_cl, rA, rS, rB, wA, wS, wB, mkp, mk2, uA_s, uA_n, ud_s, ud_n, bI_0, bI_1, nor_s, ↓reduceIte, or_false, false_or, or_true, true_or, or_self, not_true_eq_false, not_false_eq_true, and_true, true_and, and_false, false_and, bI_T, bI_F, Int.reduceToNat, Nat.reduceAdd, Nat.reduceMul, Int.reduceNeg, Option.bind_some, Int.toNat_natCast])).trans ?_
      refine (if_neg (by simp (disch := first | omega | (simp (disch := omega) only [uA_n]; done) | fail) only [iI_lit, iI_add, iI_sub, iI_mul, iI_neg, iI_lt, iI_le, iI_eq, zlt_t, zlt_f, zle_t, zle_f, zeq_t, zeq_f, nle_t, nle_f, iI_cl, rA, rS, rB, wA, wS, wB, mkp, mk2, uA_s, uA_n, ud_s, ud_n, bI_0, bI_1, nor_s, ↓reduceIte, or_false, false_or, or_true, true_or, or_self, not_true_eq_false, not_false_eq_true, and_true, true_and, and_false, false_and, bI_T, bI_F, Int.reduceToNat, Nat.reduceAdd, Nat.reduceMul, Int.reduceNeg, Option.bind_some, Int.toNat_natCast])).trans ?_
      rfl
    · unfold f_m_road
      refine (askT (em_isTown F R Ax a aa ab) c0).trans ?_
      refine (askT (em_isTown F R Ax b ba bb) c1).trans ?_
      refine (if_neg (by simp (disch := first | omega | (simp (disch := omega) only [uA_n]; done) | fail) only [iI_lit, iI_add, iI_sub, iI_mul, iI_neg, iI_lt, iI_le, iI_eq, zlt_t, zlt_f, zle_t, zle_f, zeq_t, zeq_f, nle_t, nle_f, iI_cl, rA, rS, rB, wA, wS, wB, mkp, mk2, uA_s, uA_n, ud_s, ud_n, bI_0, bI_1, nor_s, ↓reduceIte, or_false, false_or, or_true, true_or, or_self, not_true_eq_false, not_false_eq_true, and_true, true_and, and_false, false_and, bI_T, bI_F, Int.reduceToNat, Nat.reduceAdd, Nat.reduceMul, Int.reduceNeg, Option.bind_some, Int.toNat_natCast])).trans ?_
      refine (askT (em_in F w 1 30 (mk Ax B) wa wb (by omega) (by omega) (by omega) (by omega)) ⟨c3, c4⟩).trans ?_
      refine (if_pos (by simp (disch := first | omega | (simp (disch := omega) only [uA_n]; done) | fail) only [iI_lit, iI_add, iI_sub, iI_mul, iI_neg, iI_lt, iI_le, iI_eq, zlt_t, zlt_f, zle_t, zle_f, zeq_t, zeq_f, nle_t, nle_f, iI_cl, rA, rS, rB, wA, wS, wB, mkp, mk2, uA_s, uA_n, ud_s, ud_n, bI_0, bI_1, nor_s, ↓reduceIte, or_false, false_or, or_true, true_or, or_self, not_true_eq_false, not_false_eq_true, and_true, true_and, and_false, false_and, bI_T, bI_F, Int.reduceToNat, Nat.reduceAdd, Nat.reduceMul, Int.reduceNeg, Option.bind_some, Int.toNat_natCast, dS, r3, t8])).trans ?_
      rfl
  intro Ax Bx
  obtain ⟨a, rfl⟩ : ∃ n : Nat, a = n := ⟨a.toNat, by omega⟩
  obtain ⟨b, rfl⟩ : ∃ n : Nat, b = n := ⟨b.toNat, by omega⟩
  obtain ⟨A2, B2, x2, y2, R2, e17, e16⟩ := pairRoad F R hF Ax Bx (a := a) (b := b) (w := w) c5 c0.2 c1.2 ⟨c3, c4⟩
  refine ⟨iI (A 17 2 + 1), A2, B2, ?_, ?_, h.land R2 (by rw [e16])⟩
  · unfold f_x_road
    refine (askT (ex_isTown F R Bx a aa ab) c0).trans ?_
    refine (askT (ex_isTown F R Bx b ba bb) c1).trans ?_
    refine (if_neg (by simp (disch := first | omega | (simp (disch := omega) only [uA_n]; done) | fail) only [iI_lit, iI_add, iI_sub, iI_mul, iI_neg, iI_lt, iI_le, iI_eq, zlt_t, zlt_f, zle_t, zle_f, zeq_t, zeq_f, nle_t, nle_f, iI_cl, rA, rS, rB, wA, wS, wB, mkp, mk2, uA_s, uA_n, ud_s, ud_n, bI_0, bI_1, nor_s, ↓reduceIte, or_false, false_or, or_true, true_or, or_self, not_true_eq_false, not_false_eq_true, and_true, true_and, and_false, false_and, bI_T, bI_F, Int.reduceToNat, Nat.reduceAdd, Nat.reduceMul, Int.reduceNeg, Option.bind_some, Int.toNat_natCast])).trans ?_
    refine (if_neg (by simp (disch := first | omega | (simp (disch := omega) only [uA_n]; done) | fail) only [iI_lit, iI_add, iI_sub, iI_mul, iI_neg, iI_lt, iI_le, iI_eq, zlt_t, zlt_f, zle_t, zle_f, zeq_t, zeq_f, nle_t, nle_f, iI_cl, rA, rS, rB, wA, wS, wB, mkp, mk2, uA_s, uA_n, ud_s, ud_n, bI_0, bI_1, nor_s, ↓reduceIte, or_false, false_or, or_true, true_or, or_self, not_true_eq_false, not_false_eq_true, and_true, true_and, and_false, false_and, bI_T, bI_F, Int.reduceToNat, Nat.reduceAdd, Nat.reduceMul, Int.reduceNeg, Option.bind_some, Int.toNat_natCast])).trans ?_
    refine (if_pos (by simp (disch := first | omega | (simp (disch := omega) only [uA_n]; done) | fail) only [iI_lit, iI_add, iI_sub, iI_mul, iI_neg, iI_lt, iI_le, iI_eq, zlt_t, zlt_f, zle_t, zle_f, zeq_t, zeq_f, nle_t, nle_f, iI_cl, rA, rS, rB, wA, wS, wB, mkp, mk2, uA_s, uA_n, ud_s, ud_n, bI_0, bI_1, nor_s, ↓reduceIte, or_false, false_or, or_true, true_or, or_self, not_true_eq_false, not_false_eq_true, and_true, true_and, and_false, false_and, bI_T, bI_F, Int.reduceToNat, Nat.reduceAdd, Nat.reduceMul, Int.reduceNeg, Option.bind_some, Int.toNat_natCast])).trans ?_
    refine (if_pos (by simp (disch := first | omega | (simp (disch := omega) only [uA_n]; done) | fail) only [iI_lit, iI_add, iI_sub, iI_mul, iI_neg, iI_lt, iI_le, iI_eq, zlt_t, zlt_f, zle_t, zle_f, zeq_t, zeq_f, nle_t, nle_f, iI_cl, rA, rS, rB, wA, wS, wB, mkp, mk2, uA_s, uA_n, ud_s, ud_n, bI_0, bI_1, nor_s, ↓reduceIte, or_false, false_or, or_true, true_or, or_self, not_true_eq_false, not_false_eq_true, and_true, true_and, and_false, false_and, bI_T, bI_F, Int.reduceToNat, Nat.reduceAdd, Nat.reduceMul, Int.reduceNeg, Option.bind_some, Int.toNat_natCast])).trans ?_
    refine obd x2 ?_
    simp (disch := first | omega | (simp (disch := omega) only [uA_n]; done) | fail) only [iI_lit, iI_add, iI_sub, iI_mul, iI_neg, iI_lt, iI_le, iI_eq, zlt_t, zlt_f, zle_t, zle_f, zeq_t, zeq_f, nle_t, nle_f, iI_cl, rA, rS, rB, wA, wS, wB, mkp, mk2, uA_s, uA_n, ud_s, ud_n, bI_0, bI_1, nor_s, ↓reduceIte, or_false, false_or, or_true, true_or, or_self, not_true_eq_false, not_false_eq_true, and_true, true_and, and_false, false_and, bI_T, bI_F, Int.reduceToNat, Nat.reduceAdd, Nat.reduceMul, Int.reduceNeg, Option.bind_some, Int.toNat_natCast, e17]
  · unfold f_m_road
    refine (askT (em_isTown F R Ax a aa ab) c0).trans ?_
    refine (askT (em_isTown F R Ax b ba bb) c1).trans ?_
    refine (if_neg (by simp (disch := first | omega | (simp (disch := omega) only [uA_n]; done) | fail) only [iI_lit, iI_add, iI_sub, iI_mul, iI_neg, iI_lt, iI_le, iI_eq, zlt_t, zlt_f, zle_t, zle_f, zeq_t, zeq_f, nle_t, nle_f, iI_cl, rA, rS, rB, wA, wS, wB, mkp, mk2, uA_s, uA_n, ud_s, ud_n, bI_0, bI_1, nor_s, ↓reduceIte, or_false, false_or, or_true, true_or, or_self, not_true_eq_false, not_false_eq_true, and_true, true_and, and_false, false_and, bI_T, bI_F, Int.reduceToNat, Nat.reduceAdd, Nat.reduceMul, Int.reduceNeg, Option.bind_some, Int.toNat_natCast])).trans ?_
    refine (askT (em_in F w 1 30 (mk Ax B) wa wb (by omega) (by omega) (by omega) (by omega)) ⟨c3, c4⟩).trans ?_
    refine (if_neg (by simp (disch := first | omega | (simp (disch := omega) only [uA_n]; done) | fail) only [iI_lit, iI_add, iI_sub, iI_mul, iI_neg, iI_lt, iI_le, iI_eq, zlt_t, zlt_f, zle_t, zle_f, zeq_t, zeq_f, nle_t, nle_f, iI_cl, rA, rS, rB, wA, wS, wB, mkp, mk2, uA_s, uA_n, ud_s, ud_n, bI_0, bI_1, nor_s, ↓reduceIte, or_false, false_or, or_true, true_or, or_self, not_true_eq_false, not_false_eq_true, and_true, true_and, and_false, false_and, bI_T, bI_F, Int.reduceToNat, Nat.reduceAdd, Nat.reduceMul, Int.reduceNeg, Option.bind_some, Int.toNat_natCast, dS, r3])).trans ?_
    refine (if_neg (by simp (disch := first | omega | (simp (disch := omega) only [uA_n]; done) | fail) only [iI_lit, iI_add, iI_sub, iI_mul, iI_neg, iI_lt, iI_le, iI_eq, zlt_t, zlt_f, zle_t, zle_f, zeq_t, zeq_f, nle_t, nle_f, iI_cl, rA, rS, rB, wA, wS, wB, mkp, mk2, uA_s, uA_n, ud_s, ud_n, bI_0, bI_1, nor_s, ↓reduceIte, or_false, false_or, or_true, true_or, or_self, not_true_eq_false, not_false_eq_true, and_true, true_and, and_false, false_and, bI_T, bI_F, Int.reduceToNat, Nat.reduceAdd, Nat.reduceMul, Int.reduceNeg, Option.bind_some, Int.toNat_natCast, dS, r3])).trans ?_
    refine (if_neg (by simp (disch := first | omega | (simp (disch := omega) only [uA_n]; done) | fail) only [iI_lit, iI_add, iI_sub, iI_mul, iI_neg, iI_lt, iI_le, iI_eq, zlt_t, zlt_f, zle_t, zle_f, zeq_t, zeq_f, nle_t, nle_f, iI_cl, rA, rS, rB, wA, wS, wB, mkp, mk2, uA_s, uA_n, ud_s, ud_n, bI_0, bI_1, nor_s, ↓reduceIte, or_false, false_or, or_true, true_or, or_self, not_true_eq_false, not_false_eq_true, and_true, true_and, and_false, false_and, bI_T, bI_F, Int.reduceToNat, Nat.reduceAdd, Nat.reduceMul, Int.reduceNeg, Option.bind_some, Int.toNat_natCast, dS, r3])).trans ?_
    have m0 : uA (uA B 401 (A 17 2).toNat a) 402 (A 17 2).toNat b 399 = B 399 := by simp (disch := omega) only [uA_n]
    refine Eq.trans ?_ y2
    simp (disch := first | omega | (simp (disch := omega) only [uA_n]; done) | fail) only [iI_lit, iI_add, iI_sub, iI_mul, iI_neg, iI_lt, iI_le, iI_eq, zlt_t, zlt_f, zle_t, zle_f, zeq_t, zeq_f, nle_t, nle_f, iI_cl, rA, rS, rB, wA, wS, wB, mkp, mk2, uA_s, uA_n, ud_s, ud_n, bI_0, bI_1, nor_s, ↓reduceIte, or_false, false_or, or_true, true_or, or_self, not_true_eq_false, not_false_eq_true, and_true, true_and, and_false, false_and, bI_T, bI_F, Int.reduceToNat, Nat.reduceAdd, Nat.reduceMul, Int.reduceNeg, Option.bind_some, Int.toNat_natCast, dS, r3, zR0, zR, mk2 m0]
end
