/-! CALLS: plan -/
section CPLAN
variable {K D : Int} {A B A' w S : hI} (F : Nat) {i : Nat}
theorem WR.n2 (h : WR A A B K D) (hK : K < 2147483648) : ∃ B', (∀ Ax, mk Ax B' = mk Ax B) ∧ WR (nr2 A) (nr2 A) B' K D ∧ ∀ k : Nat, ¬ (400 ≤ k ∧ k < 724) → B' k = B k := by
  have R : RR K D A B A B := ⟨h, SX.rf _, SB.rf _⟩
  have g8 := R.gD.de3
  have no : ∀ k : Nat, ¬ (400 ≤ k ∧ k < 724) → uA (nrB B) 400 8 (A 16 12) k = B k := fun k hk => by
    rw [uA_n (by omega)]
    exact funext fun j => if_neg hk
  refine ⟨uA (nrB B) 400 8 (A 16 12), fun Ax => ?_, ?_, no⟩
  · refine mk_iI Ax (fun k j => ?_) (no 399 (by omega))
    by_cases c : k = 400
    · subst c
      rw [uA_s]
      by_cases c2 : j = 8
      · subst c2
        rw [ud_s, ← g8]
      · rw [ud_n c2]
        show iI (if _ then _ else _) = _
        rw [if_pos (by omega)]
        exact iI_nv _
    · rw [uA_n c]
      show iI (if _ then _ else _) = _
      split
      · exact iI_nv _
      · rfl
  · have N2 : RR K D (nrA A) (nrB B) (nrA A) (nrB B) := ⟨h.nrm hK, SX.rf _, SB.rf _⟩
    refine (N2.rfu (A 16 12)).wr.cg (fun k hk => funext fun j => ?_) (fun k hk => funext fun j => ?_) (fun _ _ => rfl)
    · by_cases c : k = 16 ∧ j = 12
      · obtain ⟨rfl, rfl⟩ := c
        rw [uA_s, ud_s, nr2_12]
      · rw [nr2_i A (by omega) (by omega) (by omega)]
        by_cases c2 : k = 16
        · subst c2
          rw [uA_s, ud_n (by omega)]; rfl
        · rw [uA_n c2]; rfl
    · rw [nr2_i A (by omega) (by omega) (by omega), uA_n (by omega)]; rfl
def b315 (B : hI) (g : Nat → Int32) : hI := fun k j => if k = 315 then (g j).toInt else B k j
theorem b315_o (B : hI) (g : Nat → Int32) {k : Nat} (h : k ≠ 315) : b315 B g k = B k := funext fun _ => if_neg h
theorem m315_mk (Ax B : hI) (g : Nat → Int32) : m315 (mk Ax B) g = mk Ax (b315 B g) := by
  refine Prod.ext (funext fun k => funext fun j => ?_) (funext fun k => ?_)
  · have hd := dec_rg j
    show (if k = 315 then g else (mk Ax B).1 k) j = _
    by_cases c : k = 315
    · subst c
      rw [if_pos rfl, rB (k := 315) (B := b315 B g) (by omega) (by omega) (by omega) (by omega) (by omega)]
      show _ = iI (if 315 = 315 then (g j).toInt else _)
      rw [if_pos rfl]
      exact iI_of _
    · rw [if_neg c]
      show (if k < 304 then _ else if k = 305 then _ else if k = 313 then _ else if k = 314 then _ else if k < 318 then _ else _) = (if k < 304 then _ else if k = 305 then _ else if k = 313 then _ else if k = 314 then _ else if k < 318 then _ else _)
      rw [b315_o B g c, b315_o B g (show (dec j).1 ≠ 315 by omega), b315_o B g (show 1000 + (dec j).1 ≠ 315 by omega), b315_o B g (show 2000 + (dec j).1 ≠ 315 by omega), b315_o B g (show 10000 + k ≠ 315 by omega)]
  · show Int64.ofInt (B 399 k) = Int64.ofInt (b315 B g 399 k)
    rw [b315_o B g (by omega)]
theorem AGR.mp {w w2 a b a2 b2 : hI} (h : AGR w a b) (m1 : w2 55 7 = w 55 7) (m2 : ∀ c : Nat, (c : Int) < w2 55 7 → w2 59 c = w 59 c) (m3 : w2 55 12 = w 55 12) (m4 : w2 16 9 = w 16 9) (m5 : w2 16 14 = w 16 14) (e : ∀ k j : Nat, 2 ≤ k → k < 15 → b k j = a k j → b2 k j = a2 k j) : AGR w2 a2 b2 := by
  obtain ⟨h1, h2, h3, h4⟩ := h
  refine ⟨fun c hc => ⟨e _ _ (by omega) (by omega) (h1 c (by omega)).1, fun i hi => e _ _ (by omega) (by omega) ((h1 c (by omega)).2 i (by rw [← m2 c hc]; exact hi))⟩, fun i a b => ?_, fun k i a b => e _ _ (by omega) (by omega) (h3 k i (by omega) b), fun x hx => ?_⟩
  · obtain ⟨z1, z2, z3⟩ := h2 i a (by omega)
    exact ⟨e _ _ (by omega) (by omega) z1, e _ _ (by omega) (by omega) z2, e _ _ (by omega) (by omega) z3⟩
  · obtain ⟨z1, z2, z3, z4, z5, z6⟩ := h4 x (by omega)
    exact ⟨e _ _ (by omega) (by omega) z1, e _ _ (by omega) (by omega) z2, e _ _ (by omega) (by omega) z3, e _ _ (by omega) (by omega) z4, e _ _ (by omega) (by omega) z5, fun i hi => e _ _ (by omega) (by omega) (z6 i hi)⟩
theorem pm_out {W : Nat} (hW : W ≤ 4) (X : Nat → Int) (v5 : Int32) (Ax : hI) : ∀ (r j q : Nat) (C : hI), r + j = 4 * W → r < q → C 304 29 = 4 * (W : Int) → (∀ t, t < 4 * W → iI (C 315 t) = iI (X t)) → f_m_plan_352 F q v5 (iI (j : Int)) (mk Ax C) = some (v5, mk Ax (rwA C 317 (fun t => if j ≤ t ∧ t < 4 * W then X t else C 317 t))) := by
  intro r
  induction r with
  | zero =>
    intro j q C e hq h29 hX
    obtain ⟨q, rfl⟩ : ∃ k, q = k + 1 := ⟨q - 1, by omega⟩
    rw [f_m_plan_352]
    refine (if_pos (by simp (disch := first | omega | (simp (disch := omega) only [uA_n]; done) | fail) only [iI_lit, iI_add, iI_sub, iI_mul, iI_neg, iI_lt, iI_le, iI_eq, zlt_t, zlt_f, zle_t, zle_f, zeq_t, zeq_f, nle_t, nle_f, iI_cl, rA, rS, rB, wA, wS, wB, mkp, mk2, uA_s, uA_n, ud_s, ud_n, bI_0, bI_1, nor_s, ↓reduceIte, or_false, false_or, or_true, true_or, or_self, not_true_eq_false, not_false_eq_true, and_true, true_and, and_false, false_and, bI_T, bI_F, Int.reduceToNat, Nat.reduceAdd, Nat.reduceMul, Int.reduceNeg, Option.bind_some, Int.toNat_natCast, h29])).trans ?_
    have z : rwA C 317 (fun t => if j ≤ t ∧ t < 4 * W then X t else C 317 t) = C := by
      funext k
      by_cases c : k = 317
      · subst c
        rw [rwA_s]
        exact funext fun t => if_neg (by omega)
      · rw [rwA_n c]
    rw [z]
  | succ r ih =>
    intro j q C e hq h29 hX
    obtain ⟨q, rfl⟩ : ∃ k, q = k + 1 := ⟨q - 1, by omega⟩
    have kj : (iI (j : Int)).toNatClampNeg = j := by rw [iI_cl (by omega) (by omega), Int.toNat_natCast]
    have n1 : iI (j : Int) + 1 = iI ((j + 1 : Nat) : Int) := by rw [← iI_s]; rfl
    have I := ih (j + 1) q (uA C 317 j (X j)) (by omega) (by omega) (by rw [uA_n (by omega)]; exact h29) (fun t ht => by rw [uA_n (by omega)]; exact hX t ht)
    rw [f_m_plan_352]
    refine (if_neg (by simp (disch := first | omega | (simp (disch := omega) only [uA_n]; done) | fail) only [iI_lit, iI_add, iI_sub, iI_mul, iI_neg, iI_lt, iI_le, iI_eq, zlt_t, zlt_f, zle_t, zle_f, zeq_t, zeq_f, nle_t, nle_f, iI_cl, rA, rS, rB, wA, wS, wB, mkp, mk2, uA_s, uA_n, ud_s, ud_n, bI_0, bI_1, nor_s, ↓reduceIte, or_false, false_or, or_true, true_or, or_self, not_true_eq_false, not_false_eq_true, and_true, true_and, and_false, false_and, bI_T, bI_F, Int.reduceToNat, Nat.reduceAdd, Nat.reduceMul, Int.reduceNeg, Option.bind_some, Int.toNat_natCast, h29])).trans ?_
    refine (if_neg (by simp (disch := first | omega | (simp (disch := omega) only [uA_n]; done) | fail) only [iI_lit, iI_add, iI_sub, iI_mul, iI_neg, iI_lt, iI_le, iI_eq, zlt_t, zlt_f, zle_t, zle_f, zeq_t, zeq_f, nle_t, nle_f, iI_cl, rA, rS, rB, wA, wS, wB, mkp, mk2, uA_s, uA_n, ud_s, ud_n, bI_0, bI_1, nor_s, ↓reduceIte, or_false, false_or, or_true, true_or, or_self, not_true_eq_false, not_false_eq_true, and_true, true_and, and_false, false_and, bI_T, bI_F, Int.reduceToNat, Nat.reduceAdd, Nat.reduceMul, Int.reduceNeg, Option.bind_some, Int.toNat_natCast])).trans ?_
    refine (if_neg (by simp (disch := first | omega | (simp (disch := omega) only [uA_n]; done) | fail) only [iI_lit, iI_add, iI_sub, iI_mul, iI_neg, iI_lt, iI_le, iI_eq, zlt_t, zlt_f, zle_t, zle_f, zeq_t, zeq_f, nle_t, nle_f, iI_cl, rA, rS, rB, wA, wS, wB, mkp, mk2, uA_s, uA_n, ud_s, ud_n, bI_0, bI_1, nor_s, ↓reduceIte, or_false, false_or, or_true, true_or, or_self, not_true_eq_false, not_false_eq_true, and_true, true_and, and_false, false_and, bI_T, bI_F, Int.reduceToNat, Nat.reduceAdd, Nat.reduceMul, Int.reduceNeg, Option.bind_some, Int.toNat_natCast])).trans ?_
    rw [kj, n1]
    have r15 : (mk Ax C).1 315 j = iI (X j) := by
      rw [rB (k := 315) (B := C) (by omega) (by omega) (by omega) (by omega) (by omega)]
      exact hX j (by omega)
    have e1 : (m_up (mk Ax C).1 317 j ((mk Ax C).1 315 j), (mk Ax C).2) = mk Ax (uA C 317 j (X j)) := by
      rw [r15]
      simp (disch := first | omega | (simp (disch := omega) only [uA_n]; done) | fail) only [iI_lit, iI_add, iI_sub, iI_mul, iI_neg, iI_lt, iI_le, iI_eq, zlt_t, zlt_f, zle_t, zle_f, zeq_t, zeq_f, nle_t, nle_f, iI_cl, rA, rS, rB, wA, wS, wB, mkp, mk2, uA_s, uA_n, ud_s, ud_n, bI_0, bI_1, nor_s, ↓reduceIte, or_false, false_or, or_true, true_or, or_self, not_true_eq_false, not_false_eq_true, and_true, true_and, and_false, false_and, bI_T, bI_F, Int.reduceToNat, Nat.reduceAdd, Nat.reduceMul, Int.reduceNeg, Option.bind_some, Int.toNat_natCast]
    rw [e1, I]
    refine congrArg (fun z => some (v5, mk Ax z)) ?_
    funext k
    by_cases c : k = 317
    · subst c
      rw [rwA_s, rwA_s]
      funext t
      by_cases c2 : t = j
      · subst c2
        rw [if_neg (by omega), uA_s, ud_s, if_pos (by omega)]
      · rw [uA_s, ud_n c2]
        by_cases c3 : j + 1 ≤ t ∧ t < 4 * W
        · rw [if_pos c3, if_pos (by omega)]
        · rw [if_neg c3, if_neg (by omega)]
    · rw [rwA_n c, rwA_n c, uA_n c]
/-- the cells again as they were, where they are the same ints -/
def unr (A A2 : hI) (g : Nat → Int) : hI := fun k j => if k = 117 then g j else if 2 ≤ k ∧ k < 62 ∧ nv (A k j) = A2 k j then A k j else A2 k j
theorem unr_mk (A A2 Bx : hI) (g : Nat → Int) (hg : ∀ j, iI (g j) = iI (A2 117 j)) : mk (unr A A2 g) Bx = mk A2 Bx := by
  refine Prod.ext (funext fun k => funext fun j => ?_) rfl
  by_cases h : k < 304
  · rw [rA h, rA h]
    unfold unr
    split
    · rename_i e; rw [e]; exact hg j
    · split
      · rename_i e; rw [← e.2.2]; exact (iI_nv _).symm
      · rfl
  · show (if k < 304 then _ else _) = (if k < 304 then _ else _)
    rw [if_neg h, if_neg h]
theorem unr_i {A A2 : hI} {g : Nat → Int} {k j : Nat} (h1 : 2 ≤ k) (h2 : k < 62) (e : nr2 A k j = A2 k j) : unr A A2 g k j = A k j := by
  unfold unr
  rw [if_neg (by omega)]
  by_cases c : k = 16 ∧ j = 12
  · obtain ⟨rfl, rfl⟩ := c
    rw [nr2_12] at e
    split
    · rfl
    · exact e.symm
  · rw [nr2_i A h1 h2 (by omega)] at e
    rw [if_pos ⟨h1, h2, e⟩]
theorem unr_o {A A2 : hI} {g : Nat → Int} {k : Nat} (h : k < 2 ∨ 62 ≤ k) (h2 : k ≠ 117) : unr A A2 g k = A2 k := funext fun j => (if_neg h2).trans (if_neg (by omega))
theorem c_plan (h : Inv i A B) (hi : i < 512) (hF : 10000 ≤ F) (v1 v2 : Int32) : CP i A B (f_x_plan F v1 v2) (f_m_plan F v1 v2) := by
  obtain ⟨w, wa, wb, rfl⟩ : ∃ z : Int, -2147483648 ≤ z ∧ z < 2147483648 ∧ v2 = iI z := ⟨_, (i32rg v2).1, (i32rg v2).2, iI_of v2⟩
  have R := h.rr
  have hK := h.kmx (by omega)
  have d1 := R.gD.dd1
  have d2 := R.gD.dd2
  have d3 := R.gD.dd3
  have d8 := R.gD.de3
  have yw := fun Ax : hI => em_in F w 1 4 (mk Ax B) wa wb (by omega) (by omega) (by omega) (by omega)
  have xw := fun Bx : hI => ex_tryLen F w (mk A Bx) wa wb
  by_cases c1 : 1 ≤ w ∧ w ≤ 4
  rotate_left
  · refine cp_no F h (v := -7) (by omega) (by omega) (fun Bx => ?_) (fun Ax => ?_)
    · unfold f_x_plan
      exact (askF (xw Bx) c1).trans rfl
    · unfold f_m_plan
      exact (askF (yw Ax) c1).trans rfl
  obtain ⟨W, rfl⟩ : ∃ n : Nat, w = n := ⟨w.toNat, by omega⟩
  have hW : W ≤ 4 := by omega
  rcases rates F (by omega) v1 (W := 4) (by omega) with ⟨rk, rs⟩ | ⟨rk, rs⟩
  rotate_left
  · refine cp_no F h (v := -7) (by omega) (by omega) (fun Bx => ?_) (fun Ax => ?_)
    · unfold f_x_plan
      refine (askT (xw Bx) c1).trans ?_
      refine obd (rs _).1 ?_
      exact (if_pos rfl).trans rfl
    · unfold f_m_plan
      refine (askT (yw Ax) c1).trans ?_
      refine obd (rs _).2 ?_
      exact (if_pos rfl).trans rfl
  by_cases c2 : 700 < A 16 9 + 7 * (W : Int)
  · refine cp_no F h (v := -8) (by omega) (by omega) (fun Bx => ?_) (fun Ax => ?_)
    · unfold f_x_plan
      refine (askT (xw Bx) c1).trans ?_
      refine obd (rs _).1 ?_
      refine (if_neg i1n0).trans ?_
      exact (askT (ex_tooLate F Bx c1 ⟨d1, d2⟩) c2).trans rfl
    · unfold f_m_plan
      refine (askT (yw Ax) c1).trans ?_
      refine obd (rs _).2 ?_
      refine (if_neg i1n0).trans ?_
      exact (if_neg (by simp (disch := first | omega | (simp (disch := omega) only [uA_n]; done) | fail) only [iI_lit, iI_add, iI_sub, iI_mul, iI_neg, iI_lt, iI_le, iI_eq, zlt_t, zlt_f, zle_t, zle_f, zeq_t, zeq_f, nle_t, nle_f, iI_cl, rA, rS, rB, wA, wS, wB, mkp, mk2, uA_s, uA_n, ud_s, ud_n, bI_0, bI_1, nor_s, ↓reduceIte, or_false, false_or, or_true, true_or, or_self, not_true_eq_false, not_false_eq_true, and_true, true_and, and_false, false_and, bI_T, bI_F, Int.reduceToNat, Nat.reduceAdd, Nat.reduceMul, Int.reduceNeg, Option.bind_some, Int.toNat_natCast, dS, d3])).trans rfl
  intro Ax Bx
  have hB1 : ∀ k : Nat, ¬ (2400 ≤ k ∧ k < 2724) → imB B 2000 0 k = B k := fun k hk => imB_o (by omega)
  obtain ⟨B0, eB0⟩ : ∃ z, z = imB B 2000 0 := ⟨_, rfl⟩
  obtain ⟨Bs, eBs⟩ : ∃ z : mM → Prop, z = fun M => ∃ Bq, M = mk Ax Bq ∧ (∀ k : Nat, (400 ≤ k ∧ k < 724 ∧ k ≠ 498) ∨ k = 306 ∨ k = 311 ∨ k = 317 ∨ k = 350 ∨ 1000 ≤ k → Bq k = B0 k) ∧ Bq 304 9 = B0 304 9 ∧ Bq 304 24 = B0 304 24 ∧ Bq 304 29 = B0 304 29 ∧ Bq 304 30 = B0 304 30 := ⟨_, rfl⟩
  obtain ⟨A10, eA10⟩ : ∃ z, z = bec (nr2 A) 0 104 := ⟨_, rfl⟩
  have cn := h.1.cnt
  have oA : ∀ k : Nat, ¬ (120 ≤ k ∧ k < 166) → A10 k = nr2 A k := fun k hk => by rw [eA10]; exact bec_o (by omega)
  have oB : ∀ k : Nat, ¬ (2400 ≤ k ∧ k < 2724) → B0 k = B k := fun k hk => by rw [eB0]; exact hB1 k hk
  have iA : ∀ c j, inSz c j → A10 (c + 104) j = nr2 A c j := fun c j hc => by rw [eA10]; exact bec_i (nr2 A) (s := 0) (t := 104) hc
  have P : PLC F Ax B0 Bs v1 W (KMX i (A 16 9)) (A 16 9) (A 16 12) A10 := by
    refine ⟨fun M g hM => ?_, by omega, fun q => by rw [oB 350 (by omega)]; exact (h.2.2.2.2.2 q).1, by omega, hW, by omega, by omega, fun k hk => rk.2.2 k hk, ?_, ?_, fun Bq hq => ?_⟩
    · rw [eBs] at hM ⊢
      obtain ⟨Bq, rfl, q1, q2⟩ := hM
      refine ⟨b316 Bq g, m316_mk _ _ _, fun k hk => by rw [b316_o _ _ (by omega)]; exact q1 k hk, ?_⟩
      rw [b316_o _ _ (by omega)]
      exact q2
    · have z := iA 16 12 (by unfold inSz; omega)
      rw [nr2_12] at z
      exact z
    · rw [eB0, show 2400 = 400 + 2000 from rfl, imB_i (by omega) (by omega) (by omega)]
      exact d8
    · rw [eBs]
      obtain ⟨q1, q2⟩ := hq
      refine ⟨_, rfl, fun k hk => ?_, ?_⟩
      · by_cases q : 400 ≤ k ∧ k < 724 ∧ k ≠ 498
        · rw [imB_back (B := B) (fun c h1 h2 => by rw [q1 c (by omega), eB0]) q.1 q.2.1 q.2.2, oB k (by omega)]
        · rw [imB_o (by omega)]
          exact q1 k (by omega)
      · rw [imB_o (by omega)]
        exact q2
  have hb5 : ∀ M g, Bs M → Bs (m315 M g) := fun M g hM => by
    rw [eBs] at hM ⊢
    obtain ⟨Bq, rfl, q1, q2⟩ := hM
    refine ⟨b315 Bq g, m315_mk _ _ _, fun k hk => by rw [b315_o _ _ (by omega)]; exact q1 k hk, ?_⟩
    rw [b315_o _ _ (by omega)]
    exact q2
  have hM0 : Bs (mk Ax B0) := by rw [eBs]; exact ⟨B0, rfl, fun _ _ => rfl, rfl, rfl, rfl, rfl⟩
  have n9 : nr2 A 16 9 = A 16 9 := by rw [nr2_i A (by omega) (by omega) (by omega), nv_id (by omega) (by omega)]
  have v0 : ∀ c j, inSz c j → vw A10 0 c j = nr2 A c j := fun c j hc => by
    rw [vw_i _ _ hc.rg.1 hc.rg.2]
    exact iA c j hc
  have PV0 : PV F Ax B0 Bs (KMX i (A 16 9)) [] (nr2 A) (nr2 A) := by
    refine ⟨⟨_, hM0⟩, fun M hM => ?_⟩
    have hM2 : Bs M := hM
    rw [eBs] at hM2
    obtain ⟨Bq, rfl, q1, q2⟩ := hM2
    have Wq : WR A A Bq (KMX i (A 16 9)) (A 16 9) := h.1.sz (by omega) (fun _ _ _ => rfl) (fun c hc => by rw [q1 c (by omega), oB c (by omega)]) (by rw [q1 350 (by omega), oB 350 (by omega)])
    obtain ⟨B2, m2, W2, o2⟩ := Wq.n2 (by omega)
    refine ⟨B2, (m2 Ax).symm, by rw [n9]; exact W2, fun k hk => ?_, ?_⟩
    · rw [o2 k (by omega)]; exact q1 k (by omega)
    · rw [o2 304 (by omega)]; exact q2
  have L0 : LV F Ax B0 Bs v1 W (KMX i (A 16 9)) (A 16 9) (A 16 12) 0 0 A10 := by
    refine ⟨?_, by rw [v0 16 9 (by unfold inSz; omega), n9]; omega, by rw [v0 16 12 (by unfold inSz; omega), nr2_12]; omega, fun c j hc h3 => by rw [v0 c j hc]; have := hc.rg; exact nr2_nm A c j (by omega) (by omega) h3⟩
    have e : KMX i (A 16 9) + 9310000 * ((0 : Nat) : Int) = KMX i (A 16 9) := by omega
    rw [e]
    exact PV0.mv F Ax B0 Bs (by omega) v0 (AGR.eq fun k _ _ => oA k (by omega))
  have c57 : A10 55 7 ≤ 400 := by
    rw [oA 55 (by omega), nr2_i A (by omega) (by omega) (by omega), nv_id (by omega) (by omega)]
    exact cn.1.2
  have G0 : GF A10 A10 := ⟨fun _ _ => rfl, AGR.rf _ _, (MON.rf A10).szr c57 fun c j hc => by rw [v0 c j hc, oA c (by have := hc.rg; omega)]⟩
  have hT2 : 4 ≤ 4 ^ W ∧ 4 ^ W ≤ 256 := by
    rcases (show W = 1 ∨ W = 2 ∨ W = 3 ∨ W = 4 by omega) with rfl | rfl | rfl | rfl <;> decide
  have RW0' : RW0 F Ax B0 Bs v1 W (KMX i (A 16 9)) (A 16 9) (A 16 12) A10 0 0 A10 := by
    refine ⟨fun k j h1 h2 h3 => by rw [oA k (by omega)]; exact nr2_nm A k j h1 h2 h3, ⟨fun k hk => ?_, fun k k' a b => ?_⟩, fun k hk => absurd hk (by omega), G0⟩
    · obtain rfl : k = 0 := by omega
      exact L0
    · obtain rfl : k' = 0 := by omega
      obtain rfl : k = 0 := by omega
      exact MON.rf _
  obtain ⟨A', A1', M', f', x, y, hA', g', hM', t'⟩ := rows F hF hb5 P (T := 4 ^ W) rfl hT2 Bx (4 ^ W) 0 F F A10 A10 (mk Ax B0) 0 2 0 0 (by omega) (by omega) (by omega) (fun _ _ => rfl) G0 (fun _ => RW0') hM0 (Or.inl ⟨rfl, rfl, rfl, rfl, rfl⟩)
  rw [eBs] at hM'
  obtain ⟨Bq, rfl, q1, q21, q22, q23, q24⟩ := hM'
  obtain ⟨g1, g2, g3⟩ := g'
  -- the class's end
  obtain ⟨A2, eA2⟩ : ∃ z, z = bec (uA A' 0 10 (4 * W)) 104 0 := ⟨_, rfl⟩
  rw [← eA2] at x
  have o2 : ∀ k : Nat, ¬ (16 ≤ k ∧ k < 62) → k ≠ 0 → A2 k = A' k := fun k h1 h2 => by
    rw [eA2, bec_o (by omega), uA_n h2]
  have a20 : A2 0 = ud (A' 0) 10 (4 * W) := by rw [eA2, bec_o (by omega), uA_s]
  have fz : ∀ k : Nat, k ≠ 117 → k ≠ 118 → (k < 2 ∨ (8 ≤ k ∧ k < 15) ∨ (62 ≤ k ∧ k < 166)) → A' k = A10 k := fun k h1 h2 h3 => by rw [g1 k (by omega), hA' k h1]
  have ia2 : ∀ c j, inSz c j → A2 c j = nr2 A c j := fun c j hc => by
    have z := bec_i (uA A' 0 10 (4 * W)) (s := 104) (t := 0) hc
    rw [Nat.add_zero] at z
    rw [eA2, z, uA_n (by omega), fz (c + 104) (by have := hc.rg; omega) (by have := hc.rg; omega) (by have := hc.rg; omega)]
    exact iA c j hc
  obtain ⟨X, eX⟩ : ∃ z : Nat → Int, z = fun j => nv (A2 117 j) := ⟨_, rfl⟩
  have hX : ∀ j, iI (X j) = iI (A2 117 j) := fun j => by rw [eX]; exact iI_nv _
  have mA := unr_mk A A2 Bx X hX
  -- the reference's end
  obtain ⟨C, eC⟩ : ∃ z, z = uA (uA Bq 304 30 1) 304 29 (4 * (W : Int)) := ⟨_, rfl⟩
  have oC : ∀ k : Nat, k ≠ 304 → C k = Bq k := fun k hk => by rw [eC, uA_n hk, uA_n hk]
  have C304 : C 304 = ud (ud (Bq 304) 30 1) 29 (4 * (W : Int)) := by rw [eC, uA_s, uA_s]
  have yo := pm_out F hW X (iI f') Ax (4 * W) 0 F C (by omega) (by omega) (by rw [C304, ud_s]) (fun t ht => by
    have z := t' t ht
    rw [rB (k := 315) (B := Bq) (by omega) (by omega) (by omega) (by omega) (by omega)] at z
    rw [oC 315 (by omega), hX t, o2 117 (by omega) (by omega)]
    exact z)
  obtain ⟨B3, eB3⟩ : ∃ z, z = rwA C 317 (fun t => if 0 ≤ t ∧ t < 4 * W then X t else C 317 t) := ⟨_, rfl⟩
  rw [← eB3] at yo
  have oB3 : ∀ k : Nat, k ≠ 304 → k ≠ 317 → B3 k = Bq k := fun k h1 h2 => by rw [eB3, rwA_n h2, oC k h1]
  have B3304 : B3 304 = ud (ud (Bq 304) 30 1) 29 (4 * (W : Int)) := by rw [eB3, rwA_n (by omega), C304]
  have B3317 : ∀ t, t < 4 * W → B3 317 t = X t := fun t ht => by rw [eB3, rwA_s, if_pos ⟨Nat.zero_le _, ht⟩]
  obtain ⟨As, eAs⟩ : ∃ z, z = uA (rwA A 117 X) 0 10 (4 * W) := ⟨_, rfl⟩
  have oAs : ∀ k : Nat, k ≠ 0 → k ≠ 117 → As k = A k := fun k h1 h2 => by rw [eAs, uA_n h1, rwA_n h2]
  have As0 : As 0 = ud (A 0) 10 (4 * W) := by rw [eAs, uA_s, rwA_n (by omega)]
  have As117 : As 117 = X := by rw [eAs, uA_n (by omega), rwA_s]
  obtain ⟨Bt, eBt⟩ : ∃ z, z = rwA (uA (uA B 304 30 1) 304 29 (4 * (W : Int))) 317 (B3 317) := ⟨_, rfl⟩
  have oBt : ∀ k : Nat, k ≠ 304 → k ≠ 317 → Bt k = B k := fun k h1 h2 => by rw [eBt, rwA_n h2, uA_n h1, uA_n h1]
  have Bt304 : Bt 304 = ud (ud (B 304) 30 1) 29 (4 * (W : Int)) := by rw [eBt, rwA_n (by omega), uA_s, uA_s]
  have Bt317 : Bt 317 = B3 317 := by rw [eBt, rwA_s]
  have inv1 : Inv (i + 1) As Bt := by
    refine h.up.oth (fun k hk => oAs k (by omega) (by omega)) (fun k h1 h2 => oBt k (by omega) (by omega)) (fun j hj => by rw [oAs 119 (by omega) (by omega), oBt 306 (by omega) (by omega)]; exact h.2.1 j hj) ?_ (Or.inr ⟨by rw [As0, ud_s]; omega, by rw [As0, ud_s]; omega, by rw [Bt304, ud_n (by omega), ud_s], by rw [Bt304, ud_s, As0, ud_s], fun t ht => ?_⟩) (by rw [As0, ud_n (by omega)]) (by rw [Bt304, ud_n (by omega), ud_n (by omega)])
    · unfold tpI
      rw [oAs 114 (by omega) (by omega), oAs 115 (by omega) (by omega), Bt304, ud_n (by omega), ud_n (by omega), oBt 311 (by omega) (by omega)]
      exact h.2.2.1
    · rw [As0, ud_s] at ht
      rw [As117, Bt317, B3317 t (by omega), eX]
      exact ⟨rfl, nv_rg _⟩
  have n0 : ∀ k : Nat, k < 2 → A10 k = A k := fun k hk => by rw [oA k (by omega), nr2_o A (by omega)]
  have inv : Inv (i + 1) (unr A A2 X) B3 := by
    refine inv1.rest (by omega) (fun c j hc => ?_) ?_ (fun k hk => ?_) (fun k hk => ?_) ?_
    · have rg := hc.rg
      rw [oAs c (by omega) (by omega)]
      exact unr_i (by omega) (by omega) (ia2 c j hc).symm
    · have e10 : ∀ k j : Nat, 2 ≤ k → k < 62 → A1' k j = nr2 A k j := fun k j h1 h2 => by rw [hA' k (by omega), oA k (by omega)]
      have cc : ∀ k j : Nat, 2 ≤ k → k < 62 → (k ≠ 16 ∨ j ≠ 12) → (-2147483648 ≤ A k j ∧ A k j < 2147483648) → As k j = A1' k j := fun k j h1 h2 h3 h4 => by
        rw [oAs k (by omega) (by omega), e10 k j h1 h2, nr2_i A h1 h2 h3, nv_id h4.1 h4.2]
      refine g2.mp (cc 55 7 (by omega) (by omega) (by omega) (by omega)) (fun c hc => ?_) (cc 55 12 (by omega) (by omega) (by omega) (by omega)) (cc 16 9 (by omega) (by omega) (by omega) (by omega)) (cc 16 14 (by omega) (by omega) (by omega) (by omega)) (fun k j h1 h2 e => ?_)
      · rw [oAs 55 (by omega) (by omega)] at hc
        have z := cn.2.1 c hc
        exact cc 59 c (by omega) (by omega) (by omega) (by omega)
      · rw [oAs k (by omega) (by omega)]
        refine unr_i h1 (by omega) ?_
        rw [o2 k (by omega) (by omega), e, e10 k j h1 (by omega)]
    · by_cases c : k = 117
      · subst c
        rw [As117]
        exact funext fun j => if_pos rfl
      · rw [unr_o (by omega) c]
        by_cases c2 : k = 0
        · subst c2
          rw [a20, As0, fz 0 (by omega) (by omega) (by omega), n0 0 (by omega)]
        · rw [o2 k (by omega) c2, oAs k c2 c, fz k (by omega) (by omega) (by omega)]
          by_cases c3 : k < 2
          · rw [n0 k c3]
          · rw [oA k (by omega), nr2_o A (by omega)]
    · by_cases c : k = 317
      · rw [c, Bt317]
      · rw [oB3 k (by omega) c, oBt k (by omega) c, q1 k (by omega), oB k (by omega)]
    · rw [B3304, Bt304]
      rw [oB 304 (by omega)] at q21 q22 q23 q24
      refine ⟨?_, ?_, ?_, ?_⟩
      · rw [ud_n (by omega), ud_n (by omega), ud_n (by omega), ud_n (by omega), q21]
      · rw [ud_n (by omega), ud_n (by omega), ud_n (by omega), ud_n (by omega), q22]
      · rw [ud_s, ud_s]
      · rw [ud_n (by omega), ud_s, ud_n (by omega), ud_s]
  refine ⟨iI f', unr A A2 X, B3, ?_, ?_, inv⟩
  · rw [mA]
    unfold f_x_plan
    refine (askT (xw Bx) c1).trans ?_
    refine obd (rs _).1 ?_
    refine (if_neg i1n0).trans ?_
    refine (askF (ex_tooLate F Bx c1 ⟨d1, d2⟩) c2).trans ?_
    refine (if_pos rfl).trans ?_
    have xb := ex_bc_120_16 F (nr2 A) Bx
    rw [mk_nr2, ← eA10] at xb
    refine obd xb ?_
    refine Eq.trans ?_ x
    exact congrArg (fun z => f_x_plan_65 F F v1 (iI (W : Int)) z 0 0 0 (mk A10 Bx)) (tot_ok W (by omega) (by omega))
  · unfold f_m_plan
    refine (askT (yw Ax) c1).trans ?_
    refine obd (rs _).2 ?_
    refine (if_neg i1n0).trans ?_
    refine (if_pos (by simp (disch := first | omega | (simp (disch := omega) only [uA_n]; done) | fail) only [iI_lit, iI_add, iI_sub, iI_mul, iI_neg, iI_lt, iI_le, iI_eq, zlt_t, zlt_f, zle_t, zle_f, zeq_t, zeq_f, nle_t, nle_f, iI_cl, rA, rS, rB, wA, wS, wB, mkp, mk2, uA_s, uA_n, ud_s, ud_n, bI_0, bI_1, nor_s, ↓reduceIte, or_false, false_or, or_true, true_or, or_self, not_true_eq_false, not_false_eq_true, and_true, true_and, and_false, false_and, bI_T, bI_F, Int.reduceToNat, Nat.reduceAdd, Nat.reduceMul, Int.reduceNeg, Option.bind_some, Int.toNat_natCast, dS, d3])).trans ?_
    have yb := em_begin F hF Ax B
    rw [← eB0] at yb
    refine obd yb ?_
    refine Eq.trans (congrArg (fun z => f_m_plan_70 F F v1 (iI (W : Int)) z 2 0 0 0 (mk Ax B0)) (tot_ok W (by omega) (by omega))) ?_
    refine Eq.trans y ?_
    refine Eq.trans ?_ yo
    have e : (m_up (m_up (mk Ax Bq).1 304 30 1) 304 29 (4 * iI (W : Int)), (mk Ax Bq).2) = mk Ax C := by
      rw [eC]
      simp (disch := first | omega | (simp (disch := omega) only [uA_n]; done) | fail) only [iI_lit, iI_add, iI_sub, iI_mul, iI_neg, iI_lt, iI_le, iI_eq, zlt_t, zlt_f, zle_t, zle_f, zeq_t, zeq_f, nle_t, nle_f, iI_cl, rA, rS, rB, wA, wS, wB, mkp, mk2, uA_s, uA_n, ud_s, ud_n, bI_0, bI_1, nor_s, ↓reduceIte, or_false, false_or, or_true, true_or, or_self, not_true_eq_false, not_false_eq_true, and_true, true_and, and_false, false_and, bI_T, bI_F, Int.reduceToNat, Nat.reduceAdd, Nat.reduceMul, Int.reduceNeg, Option.bind_some, Int.toNat_natCast]
    exact congrArg (fun z => f_m_plan_352 F F (iI f') 0 z) e
end CPLAN
