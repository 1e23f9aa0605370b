/-! CALLS: text -/
section
variable {A B : hI} {i : Nat} (F : Nat)
/-- a text more -/
theorem Inv.text (h : Inv i A B) {n L : Nat} (hn : (n : Int) = A 16 14) (h12 : n < 12) {A' B' : hI} {key f t ms sz : Int} {g : Nat → Int} (eA : ∀ k : Nat, ¬ (9 ≤ k ∧ k ≤ 14) → k ≠ 16 → k ≠ 114 → k ≠ 116 → A' k = A k) (e16 : A' 16 = ud (A 16) 14 (A 16 14 + 1)) (e9 : A' 9 = ud (A 9) n key) (e10 : A' 10 = ud (A 10) n f) (e11 : A' 11 = ud (A 11) n t) (e12 : A' 12 = ud (A 12) n ms) (e13 : A' 13 = ud (A 13) n sz) (e14 : ∀ j : Nat, ¬ (120 * n ≤ j ∧ j < 120 * n + 120) → A' 14 j = A 14 j) (e114 : A' 114 2 = 0) (eB : ∀ k : Nat, k ≠ 304 → k ≠ 312 → k ≠ 399 → k ≠ 400 → ¬ (600 ≤ k ∧ k < 724) → B' k = B k) (f400 : B' 400 = ud (B 400) 5 (A 16 14 + 1)) (s9 : B' 304 9 = 0) (s24 : B' 304 24 = B 304 24) (s29 : B' 304 29 = B 304 29) (s30 : B' 304 30 = B 304 30) (f600 : B' 600 = ud (B 600) n key) (f601 : B' 601 = ud (B 601) n f) (f602 : B' 602 = ud (B 602) n t) (f603 : B' 603 = ud (B 603) n L) (f604 : ∀ j : Nat, j < 120 → B' (604 + j) = if j < L then ud (B (604 + j)) n (g j) else B (604 + j)) (hL : L ≤ 120) (hf : 0 ≤ f ∧ f ≤ 1000) (ht : 0 ≤ t ∧ t ≤ 1000) (hg : ∀ j, j < L → 0 ≤ g j ∧ g j ≤ 255) (ok : pOK (xby B' n) L key ms sz (fun i => A' 14 (120 * n + i))) : Inv (i + 1) A' B' := by
  have W := h.1
  have e16j : ∀ j : Nat, j ≠ 14 → A' 16 j = A 16 j := fun j hj => by rw [e16, ud_n hj]
  have f4j : ∀ j : Nat, j ≠ 5 → B' 400 j = B 400 j := fun j hj => by rw [f400, ud_n hj]
  have q : ∀ k : Nat, ¬ (9 ≤ k ∧ k ≤ 14) ∧ k ≠ 16 ∧ k ≠ 114 ∧ k ≠ 116 → A' k = A k := fun k hk => eA k hk.1 hk.2.1 hk.2.2.1 hk.2.2.2
  have qB : ∀ k : Nat, k ≠ 304 ∧ k ≠ 312 ∧ k ≠ 399 ∧ k ≠ 400 ∧ ¬ (600 ≤ k ∧ k < 724) → B' k = B k := fun k hk => eB k hk.1 hk.2.1 hk.2.2.1 hk.2.2.2.1 hk.2.2.2.2
  have mon : ∀ w : hI, MON w A → MON w A' := fun w m => by
    obtain ⟨m1, m2, m3, m4, m5⟩ := m
    unfold MON
    rw [q 55 (by omega), q 59 (by omega), e16j 9 (by omega), e16, ud_s]
    exact ⟨m1, m2, m3, m4, by omega⟩
  refine ⟨?_, fun j hj => ?_, ?_, ?_, ?_, fun z => ?_⟩
  · rw [e16j 9 (by omega)]
    refine WR.k (K := KMX i (A 16 9)) ?_ (by unfold KMX; omega)
    obtain ⟨h1, h2, h3, h4, h5, h6, h7, h8, h9, h10, h11⟩ := W
    refine ⟨?_, ?_, ?_, ?_, ?_, ?_, ?_, ?_, ?_, ?_, ?_⟩
    · apply h1.c <;> first | exact q _ (by omega) | exact qB _ (by omega) | exact f4j _ (by omega)
    · apply h2.c <;> first | exact q _ (by omega) | exact qB _ (by omega) | exact f4j _ (by omega) | exact congrFun (q _ (by omega)) _ | exact e16j _ (by omega)
    · apply h3.c <;> first | exact q _ (by omega) | exact qB _ (by omega) | exact f4j _ (by omega) | exact congrFun (q _ (by omega)) _ | exact e16j _ (by omega) | (intro k hk1 hk2; exact qB k (by omega))
    · apply h4.c <;> first | exact q _ (by omega) | exact qB _ (by omega) | exact f4j _ (by omega) | exact congrFun (q _ (by omega)) _ | exact e16j _ (by omega) | (intro k hk1 hk2; exact qB k (by omega))
    · apply h5.c <;> first | exact q _ (by omega) | exact qB _ (by omega) | exact f4j _ (by omega) | exact congrFun (q _ (by omega)) _ | exact e16j _ (by omega)
    · apply h6.c <;> first | exact q _ (by omega) | exact qB _ (by omega) | exact f4j _ (by omega) | exact congrFun (q _ (by omega)) _ | exact e16j _ (by omega)
    · unfold WD at h7 ⊢
      simp only [e16j 9 (by omega), e16j 10 (by omega), e16j 11 (by omega), e16j 12 (by omega), e16j 13 (by omega), f4j 0 (by omega), f4j 8 (by omega), f4j 9 (by omega), f4j 10 (by omega), f4j 11 (by omega)]
      exact h7
    · apply h8.c <;> first | exact q _ (by omega) | exact qB _ (by omega) | exact f4j _ (by omega) | exact congrFun (q _ (by omega)) _ | exact e16j _ (by omega)
    · obtain ⟨x1, x2, x3, x4, x5, x6, x7⟩ := h9
      unfold WX
      rw [e16, ud_s, f400, ud_s]
      refine ⟨by omega, by omega, rfl, fun x hx => ?_, fun x hx => ?_, fun x j hx hj => ?_, fun x hx => ?_⟩
      · rw [f600, f601, f602, e9, e10, e11]
        by_cases c : x = n
        · subst c; simp only [ud_s]; exact ⟨trivial, trivial, trivial, hf.1, hf.2, ht.1, ht.2⟩
        · simp only [ud_n c]; exact x4 x (by omega)
      · rw [f603]
        by_cases c : x = n
        · subst c; rw [ud_s]; omega
        · rw [ud_n c]; exact x5 x (by omega)
      · rw [f603] at hj
        by_cases c : x = n
        · subst c
          rw [ud_s] at hj
          rw [f604 j (by omega), if_pos (by omega), ud_s]
          exact hg j (by omega)
        · rw [ud_n c] at hj
          have y := x6 x j (by omega) hj
          have y5 := x5 x (by omega)
          rw [f604 j (by omega)]
          split
          · rw [ud_n c]; exact y
          · exact y
      · rw [f603, e9, e12, e13]
        by_cases c : x = n
        · subst c
          rw [ud_s, ud_s, ud_s, ud_s, Int.toNat_natCast]
          exact ok
        · rw [ud_n c, ud_n c, ud_n c, ud_n c]
          have eb : xby B' x = xby B x := funext fun j => by
            unfold xby
            split
            · rw [f604 j (by omega)]
              split
              · rw [ud_n c]
              · rfl
            · rfl
          rw [eb]
          refine (x7 x (by omega)).cg (by have := x5 x (by omega); omega) fun j hj => ?_
          exact e14 _ (by omega)
    · apply h10.c <;> first | exact q _ (by omega) | exact congrFun (q _ (by omega)) _
    · apply h11.c <;> first | exact q _ (by omega) | exact qB _ (by omega) | exact congrFun (q _ (by omega)) _
  · rw [q 119 (by omega), qB 306 (by omega)]; exact h.2.1 j hj
  · unfold tpI
    rw [e114, s9]
    exact ⟨rfl, by omega, by omega, fun j hj => by omega⟩
  · unfold rwI
    rw [q 0 (by omega), q 117 (by omega), s30, s29, qB 317 (by omega)]; exact h.2.2.2.1
  · have sh : ∀ k : Nat, 16 ≤ k ∧ k < 62 → shA A' k = shA A k := fun k hk => by
      unfold shA
      rw [if_pos hk.1, if_pos hk.1]
      exact q (k + 46) (by omega)
    unfold kpI
    rw [q 0 (by omega), q 62 (by omega), s24]
    rcases h.2.2.2.2.1.up with z | ⟨u1, u2, u3, u4⟩
    · exact Or.inl z
    · have m5 := u4.2.2.2.2
      refine Or.inr ⟨u1, u2, (u3.rc (rc' := A') ?_).cg sh (fun _ _ => rfl) (fun k hk => qB (1000 + k) (by omega)), ?_⟩
      · refine ⟨fun c _ => ?_, fun c _ _ => ?_, fun k c _ _ => ?_, fun x hx => ?_⟩
        · rw [q 2 (by omega), q 3 (by omega)]; exact ⟨rfl, fun _ _ => rfl⟩
        · rw [q 4 (by omega), q 5 (by omega), q 6 (by omega)]; exact ⟨rfl, rfl, rfl⟩
        · rw [q 7 (by omega)]
        · have c : x ≠ n := by omega
          rw [e9, e10, e11, e12, e13, ud_n c, ud_n c, ud_n c, ud_n c, ud_n c]
          exact ⟨rfl, rfl, rfl, rfl, rfl, fun j hj => e14 _ (by omega)⟩
      · have m := mon _ u4
        unfold MON at m ⊢
        rw [sh 55 (by omega), sh 59 (by omega), sh 16 (by omega)]
        exact m
  · rw [qB 350 (by omega), qB 1350 (by omega)]; exact h.2.2.2.2.2 z
def cB (B : hI) (L j : Nat) : hI := rwA (uA B 304 11 (L : Int)) 312 (fun i => if i < j then B 311 i else B 312 i)
theorem cB_o {B : hI} {L j k : Nat} (h : k ≠ 304) (h2 : k ≠ 312) : cB B L j k = B k := by unfold cB; rw [rwA_n h2, uA_n h]
theorem cB_4 {B : hI} {L j k : Nat} (h : k ≠ 11) : cB B L j 304 k = B 304 k := by unfold cB; rw [rwA_n (by omega), uA_s, ud_n h]
theorem cB_fr (B : hI) (L j : Nat) : fr4 B (cB B L j) := ⟨fun k h1 _ h3 => cB_o h1 h3, fun k hk => cB_4 (by omega)⟩
theorem em_tcopy (Ax : hI) {L : Nat} (h9 : B 304 9 = L) (hL : L ≤ 120) (v w : Int32) : ∀ (r j q : Nat), r + j = L → r < q → ∃ q', f_m_text_62 F q v w (iI (j : Int)) (mk Ax (cB B L j)) = f_m_text_62 F (q' + 1) v w (iI (L : Int)) (mk Ax (cB B L L)) := by
  intro r
  induction r with
  | zero =>
    intro j q e hq
    obtain rfl : j = L := by omega
    exact ⟨q - 1, by rw [show q - 1 + 1 = q by omega]⟩
  | succ r ih =>
    intro j q e hq
    obtain ⟨q, rfl⟩ : ∃ k, q = k + 1 := ⟨q - 1, by omega⟩
    obtain ⟨q', I⟩ := ih (j + 1) q (by omega) (by omega)
    refine ⟨q', Eq.trans ?_ I⟩
    have e9 : cB B L j 304 9 = L := by rw [cB_4 (by omega), h9]
    have e311 : cB B L j 311 = B 311 := cB_o (by omega) (by omega)
    have eu : uA (cB B L j) 312 j (B 311 j) = cB B L (j + 1) := by
      unfold cB
      rw [rwA_u]
      refine congrArg _ (funext fun t => ?_)
      by_cases c : t = j
      · subst c; rw [ud_s, if_pos (by omega)]
      · rw [ud_n c]
        by_cases d : t < j
        · rw [if_pos d, if_pos (by omega)]
        · rw [if_neg d, if_neg (by omega)]
    have m0 : uA (cB B L j) 312 j (B 311 j) 399 = cB B L j 399 := uA_n (by omega)
    rw [f_m_text_62]
    refine (if_neg (by simp (disch := first | omega | (simp (disch := omega) only [uA_n]; done) | fail) only [iI_lit, iI_add, iI_sub, iI_mul, iI_neg, iI_lt, iI_le, iI_eq, zlt_t, zlt_f, zle_t, zle_f, zeq_t, zeq_f, nle_t, nle_f, iI_cl, rA, rS, rB, wA, wS, wB, mkp, mk2, uA_s, uA_n, ud_s, ud_n, bI_0, bI_1, nor_s, ↓reduceIte, or_false, false_or, or_true, true_or, or_self, not_true_eq_false, not_false_eq_true, and_true, true_and, and_false, false_and, bI_T, bI_F, Int.reduceToNat, Nat.reduceAdd, Nat.reduceMul, Int.reduceNeg, Option.bind_some, Int.toNat_natCast, e9])).trans ?_
    refine (if_neg (by simp (disch := first | omega | (simp (disch := omega) only [uA_n]; done) | fail) only [iI_lit, iI_add, iI_sub, iI_mul, iI_neg, iI_lt, iI_le, iI_eq, zlt_t, zlt_f, zle_t, zle_f, zeq_t, zeq_f, nle_t, nle_f, iI_cl, rA, rS, rB, wA, wS, wB, mkp, mk2, uA_s, uA_n, ud_s, ud_n, bI_0, bI_1, nor_s, ↓reduceIte, or_false, false_or, or_true, true_or, or_self, not_true_eq_false, not_false_eq_true, and_true, true_and, and_false, false_and, bI_T, bI_F, Int.reduceToNat, Nat.reduceAdd, Nat.reduceMul, Int.reduceNeg, Option.bind_some, Int.toNat_natCast])).trans ?_
    rw [← iI_s, ← eu]
    simp (disch := first | omega | (simp (disch := omega) only [uA_n]; done) | fail) only [iI_lit, iI_add, iI_sub, iI_mul, iI_neg, iI_lt, iI_le, iI_eq, zlt_t, zlt_f, zle_t, zle_f, zeq_t, zeq_f, nle_t, nle_f, iI_cl, rA, rS, rB, wA, wS, wB, mkp, mk2, uA_s, uA_n, ud_s, ud_n, bI_0, bI_1, nor_s, ↓reduceIte, or_false, false_or, or_true, true_or, or_self, not_true_eq_false, not_false_eq_true, and_true, true_and, and_false, false_and, bI_T, bI_F, Int.reduceToNat, Nat.reduceAdd, Nat.reduceMul, Int.reduceNeg, Option.bind_some, Int.toNat_natCast, e311, mk2 m0]
def tX (Y : hI) (n : Nat) (g : Nat → Int) (j : Nat) : hI := fun k => if 604 ≤ k ∧ k < 604 + j then ud (Y k) n (g (k - 604)) else Y k
theorem tX_0 (Y : hI) (n : Nat) (g : Nat → Int) : tX Y n g 0 = Y := by funext c; unfold tX; rw [if_neg (by omega)]
theorem tX_u (Y : hI) (n : Nat) (g : Nat → Int) (j : Nat) : uA (tX Y n g j) (604 + j) n (g j) = tX Y n g (j + 1) := by
  funext c
  by_cases h : c = 604 + j
  · subst h; rw [uA_s]; unfold tX; rw [if_neg (by omega), if_pos (by omega), show 604 + j - 604 = j by omega]
  · rw [uA_n h]; unfold tX
    by_cases h2 : 604 ≤ c ∧ c < 604 + j
    · rw [if_pos h2, if_pos (by omega)]
    · rw [if_neg h2, if_neg (by omega)]
theorem tX_o {Y : hI} {n : Nat} {g : Nat → Int} {j k : Nat} (h : ¬ (604 ≤ k ∧ k < 604 + j)) : tX Y n g j k = Y k := if_neg h
theorem em_tput (Ax : hI) {Y : hI} {n L : Nat} (hn : n < 12) (h9 : Y 304 9 = L) (h5 : Y 400 5 = n) (hL : L ≤ 120) : ∀ (r j q : Nat), r + j = L → r < q → f_m_text_165 F q (iI (7544 + 124 * (n : Int))) (iI (j : Int)) (mk Ax (tX Y n (Y 311) j)) = some (iI (n : Int), mk Ax (uA (uA (tX Y n (Y 311) L) 304 9 0) 400 5 ((n : Int) + 1))) := by
  intro r
  induction r with
  | zero =>
    intro j q e hq
    obtain ⟨q, rfl⟩ : ∃ k, q = k + 1 := ⟨q - 1, by omega⟩
    obtain rfl : j = L := by omega
    have e9 : tX Y n (Y 311) j 304 9 = j := by rw [tX_o (by omega), h9]
    have e5 : uA (tX Y n (Y 311) j) 304 9 0 400 5 = n := by rw [uA_n (by omega), tX_o (by omega), h5]
    have e1 : (n : Int) + 1 - 1 = n := by omega
    have e55 : tX Y n (Y 311) j 400 5 = n := by rw [tX_o (by omega), h5]
    have m0 : uA (uA (tX Y n (Y 311) j) 304 9 0) 400 5 ((n : Int) + 1) 399 = tX Y n (Y 311) j 399 := by rw [uA_n (by omega), uA_n (by omega)]
    rw [f_m_text_165]
    refine (if_pos (by simp (disch := first | omega | (simp (disch := omega) only [uA_n]; done) | fail) only [iI_lit, iI_add, iI_sub, iI_mul, iI_neg, iI_lt, iI_le, iI_eq, zlt_t, zlt_f, zle_t, zle_f, zeq_t, zeq_f, nle_t, nle_f, iI_cl, rA, rS, rB, wA, wS, wB, mkp, mk2, uA_s, uA_n, ud_s, ud_n, bI_0, bI_1, nor_s, ↓reduceIte, or_false, false_or, or_true, true_or, or_self, not_true_eq_false, not_false_eq_true, and_true, true_and, and_false, false_and, bI_T, bI_F, Int.reduceToNat, Nat.reduceAdd, Nat.reduceMul, Int.reduceNeg, Option.bind_some, Int.toNat_natCast, e9])).trans ?_
    simp (disch := first | omega | (simp (disch := omega) only [uA_n]; done) | fail) only [iI_lit, iI_add, iI_sub, iI_mul, iI_neg, iI_lt, iI_le, iI_eq, zlt_t, zlt_f, zle_t, zle_f, zeq_t, zeq_f, nle_t, nle_f, iI_cl, rA, rS, rB, wA, wS, wB, mkp, mk2, uA_s, uA_n, ud_s, ud_n, bI_0, bI_1, nor_s, ↓reduceIte, or_false, false_or, or_true, true_or, or_self, not_true_eq_false, not_false_eq_true, and_true, true_and, and_false, false_and, bI_T, bI_F, Int.reduceToNat, Nat.reduceAdd, Nat.reduceMul, Int.reduceNeg, Option.bind_some, Int.toNat_natCast, dS, e55, e1, mk2 m0]
  | succ r ih =>
    intro j q e hq
    obtain ⟨q, rfl⟩ : ∃ k, q = k + 1 := ⟨q - 1, by omega⟩
    have I := ih (j + 1) q (by omega) (by omega)
    have e9 : tX Y n (Y 311) j 304 9 = L := by rw [tX_o (by omega), h9]
    have e311 : tX Y n (Y 311) j 311 = Y 311 := tX_o (by omega)
    rw [← tX_u] at I
    have m0 : uA (tX Y n (Y 311) j) (604 + j) n (Y 311 j) 399 = tX Y n (Y 311) j 399 := uA_n (by omega)
    rw [f_m_text_165]
    refine (if_neg (by simp (disch := first | omega | (simp (disch := omega) only [uA_n]; done) | fail) only [iI_lit, iI_add, iI_sub, iI_mul, iI_neg, iI_lt, iI_le, iI_eq, zlt_t, zlt_f, zle_t, zle_f, zeq_t, zeq_f, nle_t, nle_f, iI_cl, rA, rS, rB, wA, wS, wB, mkp, mk2, uA_s, uA_n, ud_s, ud_n, bI_0, bI_1, nor_s, ↓reduceIte, or_false, false_or, or_true, true_or, or_self, not_true_eq_false, not_false_eq_true, and_true, true_and, and_false, false_and, bI_T, bI_F, Int.reduceToNat, Nat.reduceAdd, Nat.reduceMul, Int.reduceNeg, Option.bind_some, Int.toNat_natCast, e9])).trans ?_
    refine (if_neg (by simp (disch := first | omega | (simp (disch := omega) only [uA_n]; done) | fail) only [iI_lit, iI_add, iI_sub, iI_mul, iI_neg, iI_lt, iI_le, iI_eq, zlt_t, zlt_f, zle_t, zle_f, zeq_t, zeq_f, nle_t, nle_f, iI_cl, rA, rS, rB, wA, wS, wB, mkp, mk2, uA_s, uA_n, ud_s, ud_n, bI_0, bI_1, nor_s, ↓reduceIte, or_false, false_or, or_true, true_or, or_self, not_true_eq_false, not_false_eq_true, and_true, true_and, and_false, false_and, bI_T, bI_F, Int.reduceToNat, Nat.reduceAdd, Nat.reduceMul, Int.reduceNeg, Option.bind_some, Int.toNat_natCast])).trans ?_
    refine (if_neg (by simp (disch := first | omega | (simp (disch := omega) only [uA_n]; done) | fail) only [iI_lit, iI_add, iI_sub, iI_mul, iI_neg, iI_lt, iI_le, iI_eq, zlt_t, zlt_f, zle_t, zle_f, zeq_t, zeq_f, nle_t, nle_f, iI_cl, rA, rS, rB, wA, wS, wB, mkp, mk2, uA_s, uA_n, ud_s, ud_n, bI_0, bI_1, nor_s, ↓reduceIte, or_false, false_or, or_true, true_or, or_self, not_true_eq_false, not_false_eq_true, and_true, true_and, and_false, false_and, bI_T, bI_F, Int.reduceToNat, Nat.reduceAdd, Nat.reduceMul, Int.reduceNeg, Option.bind_some, Int.toNat_natCast])).trans ?_
    refine Eq.trans ?_ I
    rw [← iI_s]
    simp (disch := first | omega | (simp (disch := omega) only [uA_n]; done) | fail) only [iI_lit, iI_add, iI_sub, iI_mul, iI_neg, iI_lt, iI_le, iI_eq, zlt_t, zlt_f, zle_t, zle_f, zeq_t, zeq_f, nle_t, nle_f, iI_cl, rA, rS, rB, wA, wS, wB, mkp, mk2, uA_s, uA_n, ud_s, ud_n, bI_0, bI_1, nor_s, ↓reduceIte, or_false, false_or, or_true, true_or, or_self, not_true_eq_false, not_false_eq_true, and_true, true_and, and_false, false_and, bI_T, bI_F, Int.reduceToNat, Nat.reduceAdd, Nat.reduceMul, Int.reduceNeg, Option.bind_some, Int.toNat_natCast, zX4, e311, mk2 m0]
theorem c_text (h : Inv i A B) (hi : i < 512) (hF : 1000 ≤ F) (v1 v2 : Int32) : CP i A B (f_x_text F v1 v2) (f_m_text F v1 v2) := by
  obtain ⟨f, fa, fb, rfl⟩ : ∃ z : Int, -2147483648 ≤ z ∧ z < 2147483648 ∧ v1 = iI z := ⟨_, (i32rg v1).1, (i32rg v1).2, iI_of v1⟩
  obtain ⟨t, ta, tb, rfl⟩ : ∃ z : Int, -2147483648 ≤ z ∧ z < 2147483648 ∧ v2 = iI z := ⟨_, (i32rg v2).1, (i32rg v2).2, iI_of v2⟩
  have R := h.rr
  have hK := h.kmx (by omega)
  have xn1 := R.gX.xn1
  have xn2 := R.gX.xn2
  have xn3 := R.gX.xn3
  have yf := fun Ax : hI => em_in F f 0 1000 (mk Ax B) fa fb (by omega) (by omega) (by omega) (by omega)
  have yt := fun Ax : hI => em_in F t 0 1000 (mk Ax B) ta tb (by omega) (by omega) (by omega) (by omega)
  by_cases c0 : 0 ≤ f ∧ t ≤ 1000 ∧ f < t
  rotate_left
  · refine cp_no F h (v := -7) (by omega) (by omega) (fun Bx => ?_) (fun Ax => ?_)
    · unfold f_x_text
      by_cases d1 : f < 0
      · exact (if_pos (by simp (disch := first | omega | (simp (disch := omega) only [uA_n]; done) | fail) only [iI_lit, iI_add, iI_sub, iI_mul, iI_neg, iI_lt, iI_le, iI_eq, zlt_t, zlt_f, zle_t, zle_f, zeq_t, zeq_f, nle_t, nle_f, iI_cl, rA, rS, rB, wA, wS, wB, mkp, mk2, uA_s, uA_n, ud_s, ud_n, bI_0, bI_1, nor_s, ↓reduceIte, or_false, false_or, or_true, true_or, or_self, not_true_eq_false, not_false_eq_true, and_true, true_and, and_false, false_and, bI_T, bI_F, Int.reduceToNat, Nat.reduceAdd, Nat.reduceMul, Int.reduceNeg, Option.bind_some, Int.toNat_natCast])).trans rfl
      · refine (if_neg (by simp (disch := first | omega | (simp (disch := omega) only [uA_n]; done) | fail) only [iI_lit, iI_add, iI_sub, iI_mul, iI_neg, iI_lt, iI_le, iI_eq, zlt_t, zlt_f, zle_t, zle_f, zeq_t, zeq_f, nle_t, nle_f, iI_cl, rA, rS, rB, wA, wS, wB, mkp, mk2, uA_s, uA_n, ud_s, ud_n, bI_0, bI_1, nor_s, ↓reduceIte, or_false, false_or, or_true, true_or, or_self, not_true_eq_false, not_false_eq_true, and_true, true_and, and_false, false_and, bI_T, bI_F, Int.reduceToNat, Nat.reduceAdd, Nat.reduceMul, Int.reduceNeg, Option.bind_some, Int.toNat_natCast])).trans ?_
        by_cases d2 : 1000 < t
        · exact (if_pos (by simp (disch := first | omega | (simp (disch := omega) only [uA_n]; done) | fail) only [iI_lit, iI_add, iI_sub, iI_mul, iI_neg, iI_lt, iI_le, iI_eq, zlt_t, zlt_f, zle_t, zle_f, zeq_t, zeq_f, nle_t, nle_f, iI_cl, rA, rS, rB, wA, wS, wB, mkp, mk2, uA_s, uA_n, ud_s, ud_n, bI_0, bI_1, nor_s, ↓reduceIte, or_false, false_or, or_true, true_or, or_self, not_true_eq_false, not_false_eq_true, and_true, true_and, and_false, false_and, bI_T, bI_F, Int.reduceToNat, Nat.reduceAdd, Nat.reduceMul, Int.reduceNeg, Option.bind_some, Int.toNat_natCast])).trans rfl
        · refine (if_neg (by simp (disch := first | omega | (simp (disch := omega) only [uA_n]; done) | fail) only [iI_lit, iI_add, iI_sub, iI_mul, iI_neg, iI_lt, iI_le, iI_eq, zlt_t, zlt_f, zle_t, zle_f, zeq_t, zeq_f, nle_t, nle_f, iI_cl, rA, rS, rB, wA, wS, wB, mkp, mk2, uA_s, uA_n, ud_s, ud_n, bI_0, bI_1, nor_s, ↓reduceIte, or_false, false_or, or_true, true_or, or_self, not_true_eq_false, not_false_eq_true, and_true, true_and, and_false, false_and, bI_T, bI_F, Int.reduceToNat, Nat.reduceAdd, Nat.reduceMul, Int.reduceNeg, Option.bind_some, Int.toNat_natCast])).trans ?_
          exact (if_neg (by simp (disch := first | omega | (simp (disch := omega) only [uA_n]; done) | fail) only [iI_lit, iI_add, iI_sub, iI_mul, iI_neg, iI_lt, iI_le, iI_eq, zlt_t, zlt_f, zle_t, zle_f, zeq_t, zeq_f, nle_t, nle_f, iI_cl, rA, rS, rB, wA, wS, wB, mkp, mk2, uA_s, uA_n, ud_s, ud_n, bI_0, bI_1, nor_s, ↓reduceIte, or_false, false_or, or_true, true_or, or_self, not_true_eq_false, not_false_eq_true, and_true, true_and, and_false, false_and, bI_T, bI_F, Int.reduceToNat, Nat.reduceAdd, Nat.reduceMul, Int.reduceNeg, Option.bind_some, Int.toNat_natCast])).trans rfl
    · unfold f_m_text
      by_cases d1 : 0 ≤ f ∧ f ≤ 1000
      · refine (askT (yf Ax) d1).trans ?_
        by_cases d2 : 0 ≤ t ∧ t ≤ 1000
        · refine (askT (yt Ax) d2).trans ?_
          exact (if_neg (by simp (disch := first | omega | (simp (disch := omega) only [uA_n]; done) | fail) only [iI_lit, iI_add, iI_sub, iI_mul, iI_neg, iI_lt, iI_le, iI_eq, zlt_t, zlt_f, zle_t, zle_f, zeq_t, zeq_f, nle_t, nle_f, iI_cl, rA, rS, rB, wA, wS, wB, mkp, mk2, uA_s, uA_n, ud_s, ud_n, bI_0, bI_1, nor_s, ↓reduceIte, or_false, false_or, or_true, true_or, or_self, not_true_eq_false, not_false_eq_true, and_true, true_and, and_false, false_and, bI_T, bI_F, Int.reduceToNat, Nat.reduceAdd, Nat.reduceMul, Int.reduceNeg, Option.bind_some, Int.toNat_natCast])).trans rfl
        · exact (askF (yt Ax) d2).trans rfl
      · exact (askF (yf Ax) d1).trans rfl
  by_cases c1 : A 16 14 < 12
  rotate_left
  · have e12 : B 400 5 = 12 := by omega
    refine cp_no F h (v := -8) (by omega) (by omega) (fun Bx => ?_) (fun Ax => ?_)
    · unfold f_x_text
      refine (if_neg (by simp (disch := first | omega | (simp (disch := omega) only [uA_n]; done) | fail) only [iI_lit, iI_add, iI_sub, iI_mul, iI_neg, iI_lt, iI_le, iI_eq, zlt_t, zlt_f, zle_t, zle_f, zeq_t, zeq_f, nle_t, nle_f, iI_cl, rA, rS, rB, wA, wS, wB, mkp, mk2, uA_s, uA_n, ud_s, ud_n, bI_0, bI_1, nor_s, ↓reduceIte, or_false, false_or, or_true, true_or, or_self, not_true_eq_false, not_false_eq_true, and_true, true_and, and_false, false_and, bI_T, bI_F, Int.reduceToNat, Nat.reduceAdd, Nat.reduceMul, Int.reduceNeg, Option.bind_some, Int.toNat_natCast])).trans ?_
      refine (if_neg (by simp (disch := first | omega | (simp (disch := omega) only [uA_n]; done) | fail) only [iI_lit, iI_add, iI_sub, iI_mul, iI_neg, iI_lt, iI_le, iI_eq, zlt_t, zlt_f, zle_t, zle_f, zeq_t, zeq_f, nle_t, nle_f, iI_cl, rA, rS, rB, wA, wS, wB, mkp, mk2, uA_s, uA_n, ud_s, ud_n, bI_0, bI_1, nor_s, ↓reduceIte, or_false, false_or, or_true, true_or, or_self, not_true_eq_false, not_false_eq_true, and_true, true_and, and_false, false_and, bI_T, bI_F, Int.reduceToNat, Nat.reduceAdd, Nat.reduceMul, Int.reduceNeg, Option.bind_some, Int.toNat_natCast])).trans ?_
      refine (if_pos (by simp (disch := first | omega | (simp (disch := omega) only [uA_n]; done) | fail) only [iI_lit, iI_add, iI_sub, iI_mul, iI_neg, iI_lt, iI_le, iI_eq, zlt_t, zlt_f, zle_t, zle_f, zeq_t, zeq_f, nle_t, nle_f, iI_cl, rA, rS, rB, wA, wS, wB, mkp, mk2, uA_s, uA_n, ud_s, ud_n, bI_0, bI_1, nor_s, ↓reduceIte, or_false, false_or, or_true, true_or, or_self, not_true_eq_false, not_false_eq_true, and_true, true_and, and_false, false_and, bI_T, bI_F, Int.reduceToNat, Nat.reduceAdd, Nat.reduceMul, Int.reduceNeg, Option.bind_some, Int.toNat_natCast])).trans ?_
      exact (if_neg (by simp (disch := first | omega | (simp (disch := omega) only [uA_n]; done) | fail) only [iI_lit, iI_add, iI_sub, iI_mul, iI_neg, iI_lt, iI_le, iI_eq, zlt_t, zlt_f, zle_t, zle_f, zeq_t, zeq_f, nle_t, nle_f, iI_cl, rA, rS, rB, wA, wS, wB, mkp, mk2, uA_s, uA_n, ud_s, ud_n, bI_0, bI_1, nor_s, ↓reduceIte, or_false, false_or, or_true, true_or, or_self, not_true_eq_false, not_false_eq_true, and_true, true_and, and_false, false_and, bI_T, bI_F, Int.reduceToNat, Nat.reduceAdd, Nat.reduceMul, Int.reduceNeg, Option.bind_some, Int.toNat_natCast])).trans rfl
    · unfold f_m_text
      refine (askT (yf Ax) (by omega)).trans ?_
      refine (askT (yt Ax) (by omega)).trans ?_
      refine (if_pos (by simp (disch := first | omega | (simp (disch := omega) only [uA_n]; done) | fail) only [iI_lit, iI_add, iI_sub, iI_mul, iI_neg, iI_lt, iI_le, iI_eq, zlt_t, zlt_f, zle_t, zle_f, zeq_t, zeq_f, nle_t, nle_f, iI_cl, rA, rS, rB, wA, wS, wB, mkp, mk2, uA_s, uA_n, ud_s, ud_n, bI_0, bI_1, nor_s, ↓reduceIte, or_false, false_or, or_true, true_or, or_self, not_true_eq_false, not_false_eq_true, and_true, true_and, and_false, false_and, bI_T, bI_F, Int.reduceToNat, Nat.reduceAdd, Nat.reduceMul, Int.reduceNeg, Option.bind_some, Int.toNat_natCast])).trans ?_
      exact (if_pos (by simp (disch := first | omega | (simp (disch := omega) only [uA_n]; done) | fail) only [iI_lit, iI_add, iI_sub, iI_mul, iI_neg, iI_lt, iI_le, iI_eq, zlt_t, zlt_f, zle_t, zle_f, zeq_t, zeq_f, nle_t, nle_f, iI_cl, rA, rS, rB, wA, wS, wB, mkp, mk2, uA_s, uA_n, ud_s, ud_n, bI_0, bI_1, nor_s, ↓reduceIte, or_false, false_or, or_true, true_or, or_self, not_true_eq_false, not_false_eq_true, and_true, true_and, and_false, false_and, bI_T, bI_F, Int.reduceToNat, Nat.reduceAdd, Nat.reduceMul, Int.reduceNeg, Option.bind_some, Int.toNat_natCast, dS, e12])).trans rfl
  obtain ⟨n, hn⟩ : ∃ n : Nat, A 16 14 = n := ⟨(A 16 14).toNat, by omega⟩
  obtain ⟨t1, t2, t3, t4⟩ := h.2.2.1
  obtain ⟨L, hL⟩ : ∃ L : Nat, A 114 2 = L := ⟨(A 114 2).toNat, by omega⟩
  have b9 : B 304 9 = L := by omega
  have b5 : B 400 5 = n := by omega
  intro Ax Bx
  -- the bytes, as the new text's row will have them
  let b : Nat → Int := fun j => if j < 120 then (if j < L then B 311 j else B (604 + j) n) else 0
  have bL : ∀ j, j < L → b j = B 311 j := fun j hj => by show (if j < 120 then _ else _) = _; rw [if_pos (by omega), if_pos hj]
  have hb : ∀ j, j < L → 0 ≤ b j ∧ b j ≤ 255 := fun j hj => by rw [bL j hj, ← (t4 j (by omega)).1]; exact (t4 j (by omega)).2
  obtain ⟨A1, x1, f1, g1⟩ := ex_readTape (A := A) (b := b) F hF Bx (L := L) (by omega) hb hL (fun j hj => by rw [bL j hj]; exact (t4 j (by omega)).1)
  have R4 := R.x4 (cB_fr B L L)
  have c312 : ∀ j, j < L → cB B L L 312 j = b j := fun j hj => by
    rw [bL j hj]
    unfold cB
    rw [rwA_s, if_pos hj]
  obtain ⟨B1, y1, r1, g4, e312, e11, k20, -⟩ := em_readText F Ax R4 hF (by omega) (bill := -1) (Or.inl rfl) (L := L) (b := b) (by omega) hb (by unfold cB; rw [rwA_n (by omega), uA_s, ud_s]) c312
  have B1o : ∀ k : Nat, k ≠ 304 → k ≠ 312 → k ≠ 399 → B1 k = B k := fun k h1 h2 h3 => (g4.1 k h1 h3 h2).trans (cB_o h1 h2)
  have B14 : ∀ j : Nat, j < 11 ∨ j = 14 ∨ 22 < j → B1 304 j = B 304 j := fun j hj => (g4.2 j hj).trans (cB_4 (by omega))
  obtain ⟨q', yc⟩ := em_tcopy F (B := B) Ax b9 (by omega) (iI f) (iI t) L 0 F (by omega) (by omega)
  have ys : f_m_text F (iI f) (iI t) (mk Ax B) = f_m_text_62 F F (iI f) (iI t) 0 (mk Ax (cB B L 0)) := by
    unfold f_m_text
    refine (askT (yf Ax) (by omega)).trans ?_
    refine (askT (yt Ax) (by omega)).trans ?_
    refine (if_pos (by simp (disch := first | omega | (simp (disch := omega) only [uA_n]; done) | fail) only [iI_lit, iI_add, iI_sub, iI_mul, iI_neg, iI_lt, iI_le, iI_eq, zlt_t, zlt_f, zle_t, zle_f, zeq_t, zeq_f, nle_t, nle_f, iI_cl, rA, rS, rB, wA, wS, wB, mkp, mk2, uA_s, uA_n, ud_s, ud_n, bI_0, bI_1, nor_s, ↓reduceIte, or_false, false_or, or_true, true_or, or_self, not_true_eq_false, not_false_eq_true, and_true, true_and, and_false, false_and, bI_T, bI_F, Int.reduceToNat, Nat.reduceAdd, Nat.reduceMul, Int.reduceNeg, Option.bind_some, Int.toNat_natCast])).trans ?_
    refine (if_neg (by simp (disch := first | omega | (simp (disch := omega) only [uA_n]; done) | fail) only [iI_lit, iI_add, iI_sub, iI_mul, iI_neg, iI_lt, iI_le, iI_eq, zlt_t, zlt_f, zle_t, zle_f, zeq_t, zeq_f, nle_t, nle_f, iI_cl, rA, rS, rB, wA, wS, wB, mkp, mk2, uA_s, uA_n, ud_s, ud_n, bI_0, bI_1, nor_s, ↓reduceIte, or_false, false_or, or_true, true_or, or_self, not_true_eq_false, not_false_eq_true, and_true, true_and, and_false, false_and, bI_T, bI_F, Int.reduceToNat, Nat.reduceAdd, Nat.reduceMul, Int.reduceNeg, Option.bind_some, Int.toNat_natCast, dS, b5])).trans ?_
    have m0 : uA B 304 11 (L : Int) 399 = B 399 := uA_n (by omega)
    have e0 : cB B L 0 = uA B 304 11 (L : Int) := by
      unfold cB
      have : (fun j => if j < 0 then B 311 j else B 312 j) = uA B 304 11 (L : Int) 312 := by
        rw [uA_n (by omega)]
        exact funext fun j => if_neg (Nat.not_lt_zero j)
      rw [this, rwA_id]
    rw [e0]
    simp (disch := first | omega | (simp (disch := omega) only [uA_n]; done) | fail) only [iI_lit, iI_add, iI_sub, iI_mul, iI_neg, iI_lt, iI_le, iI_eq, zlt_t, zlt_f, zle_t, zle_f, zeq_t, zeq_f, nle_t, nle_f, iI_cl, rA, rS, rB, wA, wS, wB, mkp, mk2, uA_s, uA_n, ud_s, ud_n, bI_0, bI_1, nor_s, ↓reduceIte, or_false, false_or, or_true, true_or, or_self, not_true_eq_false, not_false_eq_true, and_true, true_and, and_false, false_and, bI_T, bI_F, Int.reduceToNat, Nat.reduceAdd, Nat.reduceMul, Int.reduceNeg, Option.bind_some, Int.toNat_natCast, b9, mk2 m0]
  have y9 : cB B L L 304 9 = L := by rw [cB_4 (by omega), b9]
  have xs : f_x_text F (iI f) (iI t) (mk A Bx) = (if iI (pT b L).2.2.2.2.1 = (-1 : Int32) then ((f_Texts_putText_8_114 F ((mk A1 Bx).1 16 14) (iI f) (iI t) (mk A1 Bx)).bind fun q2 => some ((((m_up (m_up q2.2.1 114 2 (0 : Int32)) 16 14 (((m_up q2.2.1 114 2 (0 : Int32)) 16 14) + (1 : Int32))) 16 14) - (1 : Int32)), ((m_up (m_up q2.2.1 114 2 (0 : Int32)) 16 14 (((m_up q2.2.1 114 2 (0 : Int32)) 16 14) + (1 : Int32))), q2.2.2))) else some (((-10 : Int32) - iI (pT b L).2.2.2.2.1), mk A1 Bx)) := by
    unfold f_x_text
    refine (if_neg (by simp (disch := first | omega | (simp (disch := omega) only [uA_n]; done) | fail) only [iI_lit, iI_add, iI_sub, iI_mul, iI_neg, iI_lt, iI_le, iI_eq, zlt_t, zlt_f, zle_t, zle_f, zeq_t, zeq_f, nle_t, nle_f, iI_cl, rA, rS, rB, wA, wS, wB, mkp, mk2, uA_s, uA_n, ud_s, ud_n, bI_0, bI_1, nor_s, ↓reduceIte, or_false, false_or, or_true, true_or, or_self, not_true_eq_false, not_false_eq_true, and_true, true_and, and_false, false_and, bI_T, bI_F, Int.reduceToNat, Nat.reduceAdd, Nat.reduceMul, Int.reduceNeg, Option.bind_some, Int.toNat_natCast])).trans ?_
    refine (if_neg (by simp (disch := first | omega | (simp (disch := omega) only [uA_n]; done) | fail) only [iI_lit, iI_add, iI_sub, iI_mul, iI_neg, iI_lt, iI_le, iI_eq, zlt_t, zlt_f, zle_t, zle_f, zeq_t, zeq_f, nle_t, nle_f, iI_cl, rA, rS, rB, wA, wS, wB, mkp, mk2, uA_s, uA_n, ud_s, ud_n, bI_0, bI_1, nor_s, ↓reduceIte, or_false, false_or, or_true, true_or, or_self, not_true_eq_false, not_false_eq_true, and_true, true_and, and_false, false_and, bI_T, bI_F, Int.reduceToNat, Nat.reduceAdd, Nat.reduceMul, Int.reduceNeg, Option.bind_some, Int.toNat_natCast])).trans ?_
    refine (if_pos (by simp (disch := first | omega | (simp (disch := omega) only [uA_n]; done) | fail) only [iI_lit, iI_add, iI_sub, iI_mul, iI_neg, iI_lt, iI_le, iI_eq, zlt_t, zlt_f, zle_t, zle_f, zeq_t, zeq_f, nle_t, nle_f, iI_cl, rA, rS, rB, wA, wS, wB, mkp, mk2, uA_s, uA_n, ud_s, ud_n, bI_0, bI_1, nor_s, ↓reduceIte, or_false, false_or, or_true, true_or, or_self, not_true_eq_false, not_false_eq_true, and_true, true_and, and_false, false_and, bI_T, bI_F, Int.reduceToNat, Nat.reduceAdd, Nat.reduceMul, Int.reduceNeg, Option.bind_some, Int.toNat_natCast])).trans ?_
    refine (if_pos (by simp (disch := first | omega | (simp (disch := omega) only [uA_n]; done) | fail) only [iI_lit, iI_add, iI_sub, iI_mul, iI_neg, iI_lt, iI_le, iI_eq, zlt_t, zlt_f, zle_t, zle_f, zeq_t, zeq_f, nle_t, nle_f, iI_cl, rA, rS, rB, wA, wS, wB, mkp, mk2, uA_s, uA_n, ud_s, ud_n, bI_0, bI_1, nor_s, ↓reduceIte, or_false, false_or, or_true, true_or, or_self, not_true_eq_false, not_false_eq_true, and_true, true_and, and_false, false_and, bI_T, bI_F, Int.reduceToNat, Nat.reduceAdd, Nat.reduceMul, Int.reduceNeg, Option.bind_some, Int.toNat_natCast])).trans ?_
    exact obd x1 rfl
  have fr : (pT b L).2.2.2.2.1 = -1 ∨ (0 ≤ (pT b L).2.2.2.2.1 ∧ (pT b L).2.2.2.2.1 ≤ 120) := by
    have p0 := (p0_PI b L).1
    have p2 := pE2_PI b L
    have u : ∀ s : PS, PI L s → s.2.2.2.2.1 = -1 ∨ (0 ≤ s.2.2.2.2.1 ∧ s.2.2.2.2.1 ≤ 120) := fun s hs => by
      rcases hs.2.2.1 with z | z
      · exact Or.inl z
      · exact Or.inr ⟨z.2.1, by omega⟩
    unfold pT
    split
    · split
      · exact u _ p2
      · exact u _ (pst_PI p2).1
    · exact u _ (pst_PI p0).1
  have e16 : A1 16 = A 16 := f1.1 16 (by omega) (by omega)
  by_cases cf : (pT b L).2.2.2.2.1 = -1
  rotate_left
  · -- a fault
    have r17 := r1.2.2.2.2 cf
    refine ⟨iI (-10 - (pT b L).2.2.2.2.1), A1, B1, ?_, ?_, ?_⟩
    · rw [xs]
      refine (if_neg (by simp (disch := first | omega | (simp (disch := omega) only [uA_n]; done) | fail) only [iI_lit, iI_add, iI_sub, iI_mul, iI_neg, iI_lt, iI_le, iI_eq, zlt_t, zlt_f, zle_t, zle_f, zeq_t, zeq_f, nle_t, nle_f, iI_cl, rA, rS, rB, wA, wS, wB, mkp, mk2, uA_s, uA_n, ud_s, ud_n, bI_0, bI_1, nor_s, ↓reduceIte, or_false, false_or, or_true, true_or, or_self, not_true_eq_false, not_false_eq_true, and_true, true_and, and_false, false_and, bI_T, bI_F, Int.reduceToNat, Nat.reduceAdd, Nat.reduceMul, Int.reduceNeg, Option.bind_some, Int.toNat_natCast])).trans ?_
      simp (disch := first | omega | (simp (disch := omega) only [uA_n]; done) | fail) only [iI_lit, iI_add, iI_sub, iI_mul, iI_neg, iI_lt, iI_le, iI_eq, zlt_t, zlt_f, zle_t, zle_f, zeq_t, zeq_f, nle_t, nle_f, iI_cl, rA, rS, rB, wA, wS, wB, mkp, mk2, uA_s, uA_n, ud_s, ud_n, bI_0, bI_1, nor_s, ↓reduceIte, or_false, false_or, or_true, true_or, or_self, not_true_eq_false, not_false_eq_true, and_true, true_and, and_false, false_and, bI_T, bI_F, Int.reduceToNat, Nat.reduceAdd, Nat.reduceMul, Int.reduceNeg, Option.bind_some, Int.toNat_natCast]
    · rw [ys]
      refine yc.trans ?_
      rw [f_m_text_62]
      refine (if_pos (by simp (disch := first | omega | (simp (disch := omega) only [uA_n]; done) | fail) only [iI_lit, iI_add, iI_sub, iI_mul, iI_neg, iI_lt, iI_le, iI_eq, zlt_t, zlt_f, zle_t, zle_f, zeq_t, zeq_f, nle_t, nle_f, iI_cl, rA, rS, rB, wA, wS, wB, mkp, mk2, uA_s, uA_n, ud_s, ud_n, bI_0, bI_1, nor_s, ↓reduceIte, or_false, false_or, or_true, true_or, or_self, not_true_eq_false, not_false_eq_true, and_true, true_and, and_false, false_and, bI_T, bI_F, Int.reduceToNat, Nat.reduceAdd, Nat.reduceMul, Int.reduceNeg, Option.bind_some, Int.toNat_natCast, y9])).trans ?_
      refine obd y1 ?_
      refine (if_neg (by simp (disch := first | omega | (simp (disch := omega) only [uA_n]; done) | fail) only [iI_lit, iI_add, iI_sub, iI_mul, iI_neg, iI_lt, iI_le, iI_eq, zlt_t, zlt_f, zle_t, zle_f, zeq_t, zeq_f, nle_t, nle_f, iI_cl, rA, rS, rB, wA, wS, wB, mkp, mk2, uA_s, uA_n, ud_s, ud_n, bI_0, bI_1, nor_s, ↓reduceIte, or_false, false_or, or_true, true_or, or_self, not_true_eq_false, not_false_eq_true, and_true, true_and, and_false, false_and, bI_T, bI_F, Int.reduceToNat, Nat.reduceAdd, Nat.reduceMul, Int.reduceNeg, Option.bind_some, Int.toNat_natCast, r17.1])).trans ?_
      simp (disch := first | omega | (simp (disch := omega) only [uA_n]; done) | fail) only [iI_lit, iI_add, iI_sub, iI_mul, iI_neg, iI_lt, iI_le, iI_eq, zlt_t, zlt_f, zle_t, zle_f, zeq_t, zeq_f, nle_t, nle_f, iI_cl, rA, rS, rB, wA, wS, wB, mkp, mk2, uA_s, uA_n, ud_s, ud_n, bI_0, bI_1, nor_s, ↓reduceIte, or_false, false_or, or_true, true_or, or_self, not_true_eq_false, not_false_eq_true, and_true, true_and, and_false, false_and, bI_T, bI_F, Int.reduceToNat, Nat.reduceAdd, Nat.reduceMul, Int.reduceNeg, Option.bind_some, Int.toNat_natCast, r17.2]
    · refine h.up.oth (fun k hk => f1.1 k (by omega) (by omega)) (fun k hk hk2 => B1o k (by omega) (by omega) hk2) (fun j hj => ?_) ?_ ?_ (by rw [f1.1 0 (by omega) (by omega)]) (B14 24 (by omega))
      · rw [f1.1 119 (by omega) (by omega), B1o 306 (by omega) (by omega) (by omega)]; exact h.2.1 j hj
      · unfold tpI
        rw [f1.2, f1.1 115 (by omega) (by omega), B14 9 (by omega), B1o 311 (by omega) (by omega) (by omega)]; exact h.2.2.1
      · unfold rwI
        rw [f1.1 0 (by omega) (by omega), f1.1 117 (by omega) (by omega), B14 30 (by omega), B14 29 (by omega), B1o 317 (by omega) (by omega) (by omega)]; exact h.2.2.2.1
  · -- a text
    obtain ⟨g1a, g1b, g1c, g1d, g1e, g1f⟩ := g1 cf
    have r17 := (r1.2.2.2.1 cf).1
    have k20 := k20 g1a
    generalize hkey : (p0 b L).2.1 = key at *
    generalize hms : (pE1 b L).2.2.2.2.2.length = ms at *
    generalize hsz : (pT b L).2.2.2.2.2.length = sz at *
    have tkk : 0 ≤ key ∧ key < 7 := by
      have tk := (p0_PI b L).1.2.2.2.2.2.1
      rw [hkey] at tk
      unfold tkR at tk
      omega
    have msz : ms ≤ sz := by
      have e := tx_ok g1a cf
      have q := e.2.2.2.2.2.1
      have q2 := e.2.2.2.2.2.2
      rw [e.1] at hsz
      by_cases d : (pE1 b L).1 = 5
      · obtain ⟨n2, w1, -, -⟩ := q d
        have : sz = ms + n2.length := by rw [← hsz, ← hms, w1, List.length_append]
        omega
      · rw [q2 d] at hsz; omega
    let A2 : hI := uA (rwA (uA (uA (uA (uA (uA A1 9 n key) 10 n f) 11 n t) 12 n ms) 13 n sz) 14 (fun j => if 120 * n ≤ j ∧ j < 120 * n + sz then A1 116 (j - 120 * n) else A1 14 j)) 114 2 0
    let A3 : hI := uA A2 16 14 ((n : Int) + 1)
    let Y : hI := uA (uA (uA (uA B1 600 n key) 601 n f) 602 n t) 603 n (L : Int)
    have Y9 : Y 304 9 = L := by show uA (uA (uA (uA B1 600 n key) 601 n f) 602 n t) 603 n (L : Int) 304 9 = _; simp (disch := omega) only [uA_n]; rw [B14 9 (by omega), b9]
    have Y5 : Y 400 5 = n := by show uA (uA (uA (uA B1 600 n key) 601 n f) 602 n t) 603 n (L : Int) 400 5 = _; simp (disch := omega) only [uA_n]; rw [B1o 400 (by omega) (by omega) (by omega), b5]
    have Y311 : Y 311 = B 311 := by show uA (uA (uA (uA B1 600 n key) 601 n f) 602 n t) 603 n (L : Int) 311 = _; simp (disch := omega) only [uA_n]; exact B1o 311 (by omega) (by omega) (by omega)
    have yp := em_tput F Ax (Y := Y) (n := n) (L := L) (by omega) Y9 Y5 (by omega) L 0 F (by omega) (by omega)
    rw [tX_0] at yp
    have A3o : ∀ k : Nat, ¬ (9 ≤ k ∧ k ≤ 14) → k ≠ 16 → k ≠ 114 → A3 k = A1 k := fun k h1 h2 h3 => by
      show uA (uA (rwA (uA (uA (uA (uA (uA A1 9 n key) 10 n f) 11 n t) 12 n ms) 13 n sz) 14 _) 114 2 0) 16 14 ((n : Int) + 1) k = _
      rw [uA_n h2, uA_n h3, rwA_n (by omega), uA_n (by omega), uA_n (by omega), uA_n (by omega), uA_n (by omega), uA_n (by omega)]
    have A3m : ∀ k : Nat, k ≠ 14 → k ≠ 16 → k ≠ 114 → A3 k = uA (uA (uA (uA (uA A1 9 n key) 10 n f) 11 n t) 12 n ms) 13 n sz k := fun k h1 h2 h3 => by
      show uA (uA (rwA (uA (uA (uA (uA (uA A1 9 n key) 10 n f) 11 n t) 12 n ms) 13 n sz) 14 _) 114 2 0) 16 14 ((n : Int) + 1) k = _
      rw [uA_n h2, uA_n h3, rwA_n h1]
    have A314 : A3 14 = fun j => if 120 * n ≤ j ∧ j < 120 * n + sz then A1 116 (j - 120 * n) else A1 14 j := by
      show uA (uA (rwA (uA (uA (uA (uA (uA A1 9 n key) 10 n f) 11 n t) 12 n ms) 13 n sz) 14 _) 114 2 0) 16 14 ((n : Int) + 1) 14 = _
      rw [uA_n (by omega), uA_n (by omega), rwA_s]
    refine ⟨iI (n : Int), A3, uA (uA (tX Y n (Y 311) L) 304 9 0) 400 5 ((n : Int) + 1), ?_, ?_, ?_⟩
    · rw [xs]
      refine (if_pos (by rw [cf]; rfl)).trans ?_
      have xp : f_Texts_putText_8_114 F ((mk A1 Bx).1 16 14) (iI f) (iI t) (mk A1 Bx) = some ((), mk (rwA (uA (uA (uA (uA (uA A1 9 n key) 10 n f) 11 n t) 12 n ms) 13 n sz) 14 (fun j => if 120 * n ≤ j ∧ j < 120 * n + sz then A1 116 (j - 120 * n) else A1 14 j)) Bx) := by
        have en : (mk A1 Bx).1 16 14 = iI (n : Int) := by rw [rA (by omega), e16, hn]
        rw [en]
        unfold f_Texts_putText_8_114
        refine (if_neg (by simp (disch := first | omega | (simp (disch := omega) only [uA_n]; done) | fail) only [iI_lit, iI_add, iI_sub, iI_mul, iI_neg, iI_lt, iI_le, iI_eq, zlt_t, zlt_f, zle_t, zle_f, zeq_t, zeq_f, nle_t, nle_f, iI_cl, rA, rS, rB, wA, wS, wB, mkp, mk2, uA_s, uA_n, ud_s, ud_n, bI_0, bI_1, nor_s, ↓reduceIte, or_false, false_or, or_true, true_or, or_self, not_true_eq_false, not_false_eq_true, and_true, true_and, and_false, false_and, bI_T, bI_F, Int.reduceToNat, Nat.reduceAdd, Nat.reduceMul, Int.reduceNeg, Option.bind_some, Int.toNat_natCast])).trans ?_
        have es : (m_up (m_up (m_up (m_up (mk A1 Bx).1 9 (iI (n : Int)).toNatClampNeg ((mk A1 Bx).1 114 5)) 10 (iI (n : Int)).toNatClampNeg (iI f)) 11 (iI (n : Int)).toNatClampNeg (iI t)) 12 (iI (n : Int)).toNatClampNeg ((m_up (m_up (m_up (mk A1 Bx).1 9 (iI (n : Int)).toNatClampNeg ((mk A1 Bx).1 114 5)) 10 (iI (n : Int)).toNatClampNeg (iI f)) 11 (iI (n : Int)).toNatClampNeg (iI t)) 114 4), (mk A1 Bx).2) = mk (uA (uA (uA (uA A1 9 n key) 10 n f) 11 n t) 12 n ms) Bx := by
          simp (disch := first | omega | (simp (disch := omega) only [uA_n]; done) | fail) only [iI_lit, iI_add, iI_sub, iI_mul, iI_neg, iI_lt, iI_le, iI_eq, zlt_t, zlt_f, zle_t, zle_f, zeq_t, zeq_f, nle_t, nle_f, iI_cl, rA, rS, rB, wA, wS, wB, mkp, mk2, uA_s, uA_n, ud_s, ud_n, bI_0, bI_1, nor_s, ↓reduceIte, or_false, false_or, or_true, true_or, or_self, not_true_eq_false, not_false_eq_true, and_true, true_and, and_false, false_and, bI_T, bI_F, Int.reduceToNat, Nat.reduceAdd, Nat.reduceMul, Int.reduceNeg, Option.bind_some, Int.toNat_natCast, g1b, g1c]
        rw [es]
        unfold f_Texts_putText_8_114_35
        have e13 : (m_up (mk (uA (uA (uA (uA A1 9 n key) 10 n f) 11 n t) 12 n ms) Bx).1 13 (iI (n : Int)).toNatClampNeg ((mk (uA (uA (uA (uA A1 9 n key) 10 n f) 11 n t) 12 n ms) Bx).1 114 3)) = (mk (uA (uA (uA (uA (uA A1 9 n key) 10 n f) 11 n t) 12 n ms) 13 n sz) Bx).1 := by
          simp (disch := first | omega | (simp (disch := omega) only [uA_n]; done) | fail) only [iI_lit, iI_add, iI_sub, iI_mul, iI_neg, iI_lt, iI_le, iI_eq, zlt_t, zlt_f, zle_t, zle_f, zeq_t, zeq_f, nle_t, nle_f, iI_cl, rA, rS, rB, wA, wS, wB, mkp, mk2, uA_s, uA_n, ud_s, ud_n, bI_0, bI_1, nor_s, ↓reduceIte, or_false, false_or, or_true, true_or, or_self, not_true_eq_false, not_false_eq_true, and_true, true_and, and_false, false_and, bI_T, bI_F, Int.reduceToNat, Nat.reduceAdd, Nat.reduceMul, Int.reduceNeg, Option.bind_some, Int.toNat_natCast, g1d]
        rw [e13]
        have e3 : (mk (uA (uA (uA (uA (uA A1 9 n key) 10 n f) 11 n t) 12 n ms) 13 n sz) Bx).1 114 3 = iI (sz : Int) := by simp (disch := first | omega | (simp (disch := omega) only [uA_n]; done) | fail) only [iI_lit, iI_add, iI_sub, iI_mul, iI_neg, iI_lt, iI_le, iI_eq, zlt_t, zlt_f, zle_t, zle_f, zeq_t, zeq_f, nle_t, nle_f, iI_cl, rA, rS, rB, wA, wS, wB, mkp, mk2, uA_s, uA_n, ud_s, ud_n, bI_0, bI_1, nor_s, ↓reduceIte, or_false, false_or, or_true, true_or, or_self, not_true_eq_false, not_false_eq_true, and_true, true_and, and_false, false_and, bI_T, bI_F, Int.reduceToNat, Nat.reduceAdd, Nat.reduceMul, Int.reduceNeg, Option.bind_some, Int.toNat_natCast, g1d]
        rw [e3]
        have e120 : iI (n : Int) * (120 : Int32) = iI ((n : Int) * 120) := iI_mul (n : Int) 120
        rw [e120, iI_cl (a := (n : Int) * 120) (by omega) (by omega), iI_cl (a := (sz : Int)) (by omega) (by omega), show ((n : Int) * 120).toNat = 120 * n by omega, Int.toNat_natCast]
        refine (if_neg (by simp (disch := first | omega | (simp (disch := omega) only [uA_n]; done) | fail) only [iI_lit, iI_add, iI_sub, iI_mul, iI_neg, iI_lt, iI_le, iI_eq, zlt_t, zlt_f, zle_t, zle_f, zeq_t, zeq_f, nle_t, nle_f, iI_cl, rA, rS, rB, wA, wS, wB, mkp, mk2, uA_s, uA_n, ud_s, ud_n, bI_0, bI_1, nor_s, ↓reduceIte, or_false, false_or, or_true, true_or, or_self, not_true_eq_false, not_false_eq_true, and_true, true_and, and_false, false_and, bI_T, bI_F, Int.reduceToNat, Nat.reduceAdd, Nat.reduceMul, Int.reduceNeg, Option.bind_some, Int.toNat_natCast])).trans ?_
        refine (if_neg ?_).trans ?_
        · rintro (z | z | z | z | z)
          · exact absurd z (by decide)
          · have z : iI ((n : Int) * 120) < iI 0 := z
            rw [iI_lt (by omega) (by omega) (by omega) (by omega)] at z
            omega
          · have z : iI (sz : Int) < iI 0 := z
            rw [iI_lt (by omega) (by omega) (by omega) (by omega)] at z
            omega
          · have : (0 : Int32).toNatClampNeg = 0 := rfl
            omega
          · omega
        · unfold f_Texts_putText_8_114_65
          refine congrArg some (Prod.ext rfl ?_)
          show (m_row _ 14 _, (mk (uA (uA (uA (uA A1 9 n key) 10 n f) 11 n t) 12 n ms) Bx).2) = _
          rw [mrow (c := 14) (by omega) (g := fun j => if 120 * n ≤ j ∧ j < 120 * n + sz then A1 116 (j - 120 * n) else A1 14 j) (fun j => ?_)]
          · rfl
          · unfold va_cpy
            by_cases z : 120 * n ≤ j ∧ j < 120 * n + sz
            · rw [if_pos z, if_pos z, rA (by omega)]
              simp (disch := omega) only [uA_n]
              rw [show (0 : Int32).toNatClampNeg = 0 from rfl, Nat.zero_add]
            · rw [if_neg z, if_neg z, rA (by omega)]
              simp (disch := omega) only [uA_n]
      refine obd xp ?_
      have z16 : (rwA (uA (uA (uA (uA (uA A1 9 n key) 10 n f) 11 n t) 12 n ms) 13 n sz) 14 (fun j => if 120 * n ≤ j ∧ j < 120 * n + sz then A1 116 (j - 120 * n) else A1 14 j)) 16 14 = n := by
        rw [rwA_n (by omega)]
        simp (disch := omega) only [uA_n]
        rw [e16, hn]
      have e1 : (n : Int) + 1 - 1 = n := by omega
      simp (disch := first | omega | (simp (disch := omega) only [uA_n]; done) | fail) only [iI_lit, iI_add, iI_sub, iI_mul, iI_neg, iI_lt, iI_le, iI_eq, zlt_t, zlt_f, zle_t, zle_f, zeq_t, zeq_f, nle_t, nle_f, iI_cl, rA, rS, rB, wA, wS, wB, mkp, mk2, uA_s, uA_n, ud_s, ud_n, bI_0, bI_1, nor_s, ↓reduceIte, or_false, false_or, or_true, true_or, or_self, not_true_eq_false, not_false_eq_true, and_true, true_and, and_false, false_and, bI_T, bI_F, Int.reduceToNat, Nat.reduceAdd, Nat.reduceMul, Int.reduceNeg, Option.bind_some, Int.toNat_natCast, z16, e1]
      rfl
    · rw [ys]
      refine yc.trans ?_
      rw [f_m_text_62]
      refine (if_pos (by simp (disch := first | omega | (simp (disch := omega) only [uA_n]; done) | fail) only [iI_lit, iI_add, iI_sub, iI_mul, iI_neg, iI_lt, iI_le, iI_eq, zlt_t, zlt_f, zle_t, zle_f, zeq_t, zeq_f, nle_t, nle_f, iI_cl, rA, rS, rB, wA, wS, wB, mkp, mk2, uA_s, uA_n, ud_s, ud_n, bI_0, bI_1, nor_s, ↓reduceIte, or_false, false_or, or_true, true_or, or_self, not_true_eq_false, not_false_eq_true, and_true, true_and, and_false, false_and, bI_T, bI_F, Int.reduceToNat, Nat.reduceAdd, Nat.reduceMul, Int.reduceNeg, Option.bind_some, Int.toNat_natCast, y9])).trans ?_
      refine obd y1 ?_
      refine (if_pos (by simp (disch := first | omega | (simp (disch := omega) only [uA_n]; done) | fail) only [iI_lit, iI_add, iI_sub, iI_mul, iI_neg, iI_lt, iI_le, iI_eq, zlt_t, zlt_f, zle_t, zle_f, zeq_t, zeq_f, nle_t, nle_f, iI_cl, rA, rS, rB, wA, wS, wB, mkp, mk2, uA_s, uA_n, ud_s, ud_n, bI_0, bI_1, nor_s, ↓reduceIte, or_false, false_or, or_true, true_or, or_self, not_true_eq_false, not_false_eq_true, and_true, true_and, and_false, false_and, bI_T, bI_F, Int.reduceToNat, Nat.reduceAdd, Nat.reduceMul, Int.reduceNeg, Option.bind_some, Int.toNat_natCast, r17])).trans ?_
      have b15 : B1 400 5 = n := by rw [B1o 400 (by omega) (by omega) (by omega), b5]
      have b19 : B1 304 9 = L := by rw [B14 9 (by omega), b9]
      refine (if_neg (by simp (disch := first | omega | (simp (disch := omega) only [uA_n]; done) | fail) only [iI_lit, iI_add, iI_sub, iI_mul, iI_neg, iI_lt, iI_le, iI_eq, zlt_t, zlt_f, zle_t, zle_f, zeq_t, zeq_f, nle_t, nle_f, iI_cl, rA, rS, rB, wA, wS, wB, mkp, mk2, uA_s, uA_n, ud_s, ud_n, bI_0, bI_1, nor_s, ↓reduceIte, or_false, false_or, or_true, true_or, or_self, not_true_eq_false, not_false_eq_true, and_true, true_and, and_false, false_and, bI_T, bI_F, Int.reduceToNat, Nat.reduceAdd, Nat.reduceMul, Int.reduceNeg, Option.bind_some, Int.toNat_natCast, dS, b15])).trans ?_
      simp only [f_m_text_132, f_m_text_162]
      refine Eq.trans ?_ yp
      have m1 : uA B1 600 n key 399 = B1 399 := uA_n (by omega)
      have m2 : uA (uA (uA (uA B1 600 n key) 601 n f) 602 n t) 603 n (L : Int) 399 = B1 399 := by simp (disch := omega) only [uA_n]
      simp (disch := first | omega | (simp (disch := omega) only [uA_n]; done) | fail) only [iI_lit, iI_add, iI_sub, iI_mul, iI_neg, iI_lt, iI_le, iI_eq, zlt_t, zlt_f, zle_t, zle_f, zeq_t, zeq_f, nle_t, nle_f, iI_cl, rA, rS, rB, wA, wS, wB, mkp, mk2, uA_s, uA_n, ud_s, ud_n, bI_0, bI_1, nor_s, ↓reduceIte, or_false, false_or, or_true, true_or, or_self, not_true_eq_false, not_false_eq_true, and_true, true_and, and_false, false_and, bI_T, bI_F, Int.reduceToNat, Nat.reduceAdd, Nat.reduceMul, Int.reduceNeg, Option.bind_some, Int.toNat_natCast, dS, b15, b19, zX0, zX, k20, mk2 m1, mk2 m2]
      rfl
    · have hx : ∀ k : Nat, k ≠ 304 → k ≠ 400 → uA (uA (tX Y n (Y 311) L) 304 9 0) 400 5 ((n : Int) + 1) k = tX Y n (Y 311) L k := fun k h1 h2 => by rw [uA_n h2, uA_n h1]
      have hY : ∀ k : Nat, ¬ (600 ≤ k ∧ k ≤ 603) → Y k = B1 k := fun k hk => by show uA (uA (uA (uA B1 600 n key) 601 n f) 602 n t) 603 n (L : Int) k = _; simp (disch := omega) only [uA_n]
      have z304 : ∀ j : Nat, j ≠ 9 → uA (uA (tX Y n (Y 311) L) 304 9 0) 400 5 ((n : Int) + 1) 304 j = B1 304 j := fun j hj => by rw [uA_n (by omega), uA_s, ud_n hj, tX_o (by omega), hY 304 (by omega)]
      have z6 : ∀ k : Nat, 600 ≤ k → k ≤ 603 → uA (uA (tX Y n (Y 311) L) 304 9 0) 400 5 ((n : Int) + 1) k = Y k := fun k h1 h2 => by rw [hx k (by omega) (by omega), tX_o (by omega)]
      have z604 : ∀ j : Nat, j < 120 → uA (uA (tX Y n (Y 311) L) 304 9 0) 400 5 ((n : Int) + 1) (604 + j) = if j < L then ud (B (604 + j)) n (B 311 j) else B (604 + j) := fun j hj => by
        rw [hx _ (by omega) (by omega)]
        unfold tX
        by_cases d : j < L
        · rw [if_pos (by omega), if_pos d, hY _ (by omega), B1o _ (by omega) (by omega) (by omega), Y311, show 604 + j - 604 = j by omega]
        · rw [if_neg (by omega), if_neg d, hY _ (by omega), B1o _ (by omega) (by omega) (by omega)]
      have ebt : xby (uA (uA (tX Y n (Y 311) L) 304 9 0) 400 5 ((n : Int) + 1)) n = b := funext fun j => by
        show (if j < 120 then _ else 0) = (if j < 120 then (if j < L then B 311 j else B (604 + j) n) else 0)
        split
        · rw [z604 j (by omega)]
          split
          · rw [ud_s]
          · rfl
        · rfl
      refine h.text (n := n) (L := L) (key := key) (f := f) (t := t) (ms := ms) (sz := sz) (g := B 311) hn.symm (by omega) (fun k h1 h2 h3 h4 => (A3o k h1 h2 h3).trans (f1.1 k h3 h4)) ?_ ?_ ?_ ?_ ?_ ?_ (fun j hj => ?_) ?_ (fun k h1 h2 h3 h4 h5 => ?_) ?_ ?_ ?_ ?_ ?_ ?_ ?_ ?_ ?_ z604 (by omega) ⟨c0.1, by omega⟩ ⟨by omega, c0.2.1⟩ (fun j hj => ?_) ?_
      · show uA A2 16 14 ((n : Int) + 1) 16 = _
        rw [uA_s, hn]
        show ud (uA (rwA (uA (uA (uA (uA (uA A1 9 n key) 10 n f) 11 n t) 12 n ms) 13 n sz) 14 _) 114 2 0 16) 14 _ = _
        rw [uA_n (by omega), rwA_n (by omega)]
        simp (disch := omega) only [uA_n]
        rw [e16]
      · rw [A3m 9 (by omega) (by omega) (by omega)]; simp (disch := omega) only [uA_n, uA_s]; rw [f1.1 9 (by omega) (by omega)]
      · rw [A3m 10 (by omega) (by omega) (by omega)]; simp (disch := omega) only [uA_n, uA_s]; rw [f1.1 10 (by omega) (by omega)]
      · rw [A3m 11 (by omega) (by omega) (by omega)]; simp (disch := omega) only [uA_n, uA_s]; rw [f1.1 11 (by omega) (by omega)]
      · rw [A3m 12 (by omega) (by omega) (by omega)]; simp (disch := omega) only [uA_n, uA_s]; rw [f1.1 12 (by omega) (by omega)]
      · rw [A3m 13 (by omega) (by omega) (by omega)]; simp (disch := omega) only [uA_n, uA_s]; rw [f1.1 13 (by omega) (by omega)]
      · rw [A314]
        show (if 120 * n ≤ j ∧ j < 120 * n + sz then _ else A1 14 j) = _
        rw [if_neg (by omega), f1.1 14 (by omega) (by omega)]
      · show uA A2 16 14 ((n : Int) + 1) 114 2 = 0
        rw [uA_n (by omega)]
        show uA _ 114 2 0 114 2 = 0
        rw [uA_s, ud_s]
      · rw [hx k h1 h4, tX_o (by omega), hY k (by omega), B1o k h1 h2 h3]
      · rw [uA_s, uA_n (by omega), tX_o (by omega), hY 400 (by omega), B1o 400 (by omega) (by omega) (by omega), hn]
      · rw [uA_n (by omega), uA_s, ud_s]
      · rw [z304 24 (by omega), B14 24 (by omega)]
      · rw [z304 29 (by omega), B14 29 (by omega)]
      · rw [z304 30 (by omega), B14 30 (by omega)]
      · rw [z6 600 (by omega) (by omega), ← B1o 600 (by omega) (by omega) (by omega)]
        show uA (uA (uA (uA B1 600 n key) 601 n f) 602 n t) 603 n (L : Int) 600 = _; simp (disch := omega) only [uA_n, uA_s]
      · rw [z6 601 (by omega) (by omega), ← B1o 601 (by omega) (by omega) (by omega)]
        show uA (uA (uA (uA B1 600 n key) 601 n f) 602 n t) 603 n (L : Int) 601 = _; simp (disch := omega) only [uA_n, uA_s]
      · rw [z6 602 (by omega) (by omega), ← B1o 602 (by omega) (by omega) (by omega)]
        show uA (uA (uA (uA B1 600 n key) 601 n f) 602 n t) 603 n (L : Int) 602 = _; simp (disch := omega) only [uA_n, uA_s]
      · rw [z6 603 (by omega) (by omega), ← B1o 603 (by omega) (by omega) (by omega)]
        show uA (uA (uA (uA B1 600 n key) 601 n f) 602 n t) 603 n (L : Int) 603 = _; simp (disch := omega) only [uA_n, uA_s]
      · rw [← (t4 j (by omega)).1]; exact (t4 j (by omega)).2
      · rw [ebt]
        refine ⟨g1a, cf, hkey.symm, by rw [hms], by rw [hsz], fun k hk => ?_⟩
        rw [hsz] at hk
        show A3 14 (120 * n + k) = _
        rw [A314]
        show (if 120 * n ≤ 120 * n + k ∧ 120 * n + k < 120 * n + sz then A1 116 (120 * n + k - 120 * n) else _) = _
        rw [if_pos (by omega), show 120 * n + k - 120 * n = k by omega]
        exact g1f k hk
end
