/-! CALLS: give -/
section
variable {K D : Int} {A0 B0 A B : hI} {i : Nat} (F : Nat)
/-- who can give, bank or house -/
abbrev gCan (A B : hI) (a b s : Int) : Prop := (a = 0 → bcan A B s) ∧ (a ≠ 0 → hCan A a b s)
/-- what the reference may leave changed behind a question -/
def xBb (B B1 : hI) : Prop := (∀ k : Nat, k ≠ 307 → k ≠ 308 → k ≠ 309 → k ≠ 310 → k ≠ 312 → k ≠ 399 → k ≠ 304 → B1 k = B k) ∧ B1 304 9 = B 304 9 ∧ B1 304 24 = B 304 24 ∧ B1 304 29 = B 304 29 ∧ B1 304 30 = B 304 30
theorem xBb.nb {B B1 : hI} (g : xBb B B1) : nB B B1 := ⟨fun k hk => g.1 k (by omega) (by omega) (by omega) (by omega) (by omega) (by omega) (by omega), g.2⟩
theorem xBb.three {B B1 : hI} (h : sc3 B B1) : xBb B B1 := ⟨fun k h1 h2 _ _ _ _ h7 => h.1 k ⟨h7, h1, h2⟩, h.2 9 (by omega), h.2 24 (by omega), h.2 29 (by omega), h.2 30 (by omega)⟩
theorem xBb.four {B B1 : hI} (h : fr4 B B1) : xBb B B1 := ⟨fun k _ _ _ _ h5 h6 h7 => h.1 k h7 h6 h5, h.2 9 (by omega), h.2 24 (by omega), h.2 29 (by omega), h.2 30 (by omega)⟩
theorem xBb.rf (B : hI) : xBb B B := ⟨fun _ _ _ _ _ _ _ _ => rfl, rfl, rfl, rfl, rfl⟩
theorem xBb.tr {a b c : hI} (h : xBb a b) (g : xBb b c) : xBb a c := ⟨fun k h1 h2 h3 h4 h5 h6 h7 => (g.1 k h1 h2 h3 h4 h5 h6 h7).trans (h.1 k h1 h2 h3 h4 h5 h6 h7), g.2.1.trans h.2.1, g.2.2.1.trans h.2.2.1, g.2.2.2.1.trans h.2.2.2.1, g.2.2.2.2.trans h.2.2.2.2⟩
theorem RR.xBb {B' : hI} (R : RR K D A0 B0 A B) (g : xBb B B') : RR K D A0 B0 A B' := R.xB g.1 g.2.1 g.2.2.1 g.2.2.2.1 g.2.2.2.2
theorem gCan0 {A B : hI} {b s : Int} : gCan A B 0 b s ↔ bcan A B s := ⟨fun h => h.1 rfl, fun h => ⟨fun _ => h, fun z => absurd rfl z⟩⟩
theorem gCan1 {A B : hI} {a b s : Int} (ha : a ≠ 0) : gCan A B a b s ↔ hCan A a b s := ⟨fun h => h.2 ha, fun h => ⟨fun z => absurd z ha, fun _ => h⟩⟩
theorem ex_canGive (R : RR K D A0 B0 A B) (hF : 1000 ≤ F) (hK : K ≤ 1000000000) (Bx : hI) {a b s : Int} (ha : 0 ≤ a) (ha2 : a < A 19 11) (hb : 0 ≤ b) (hb2 : b < A 19 11) (hab : a ≠ b) (hs : 0 ≤ s) (hs2 : s ≤ 100000) : ∃ A1 : hI, f_World_canGive F (iI a) (iI b) (iI s) (mk A Bx) = some (iI (bI (gCan A B a b s)), mk A1 Bx) ∧ (∀ k : Nat, k ≠ 15 → k ≠ 54 → A1 k = A k) ∧ (a ≠ 0 → A1 = A) := by
  have hn2 := R.gH.hn2
  by_cases c : a = 0
  · subst c
    obtain ⟨A1, x1, g1⟩ := ex_bankCan F R hF hK Bx hs hs2
    refine ⟨A1, ?_, g1, fun z => absurd rfl z⟩
    unfold f_World_canGive
    refine (if_pos rfl).trans ?_
    refine obd x1 ?_
    rw [bI_c (gCan0 (A := A) (B := B) (b := b) (s := s))]
    unfold f_World_canGive_19
    exact if_pos (by simp (disch := first | omega | (simp (disch := omega) only [uA_n]; done) | fail) only [iI_lit, iI_add, iI_sub, iI_mul, iI_neg, iI_lt, iI_le, iI_eq, zlt_t, zlt_f, zle_t, zle_f, zeq_t, zeq_f, nle_t, nle_f, iI_cl, rA, rS, rB, wA, wS, wB, mkp, mk2, uA_s, uA_n, ud_s, ud_n, bI_0, bI_1, nor_s, ↓reduceIte, or_false, false_or, or_true, true_or, or_self, not_true_eq_false, not_false_eq_true, and_true, true_and, and_false, false_and, bI_T, bI_F, Int.reduceToNat, Nat.reduceAdd, Nat.reduceMul, Int.reduceNeg, Option.bind_some, Int.toNat_natCast])
  · refine ⟨A, ?_, fun _ _ _ => rfl, fun _ => rfl⟩
    unfold f_World_canGive
    refine (if_neg (by simp (disch := first | omega | (simp (disch := omega) only [uA_n]; done) | fail) only [iI_lit, iI_add, iI_sub, iI_mul, iI_neg, iI_lt, iI_le, iI_eq, zlt_t, zlt_f, zle_t, zle_f, zeq_t, zeq_f, nle_t, nle_f, iI_cl, rA, rS, rB, wA, wS, wB, mkp, mk2, uA_s, uA_n, ud_s, ud_n, bI_0, bI_1, nor_s, ↓reduceIte, or_false, false_or, or_true, true_or, or_self, not_true_eq_false, not_false_eq_true, and_true, true_and, and_false, false_and, bI_T, bI_F, Int.reduceToNat, Nat.reduceAdd, Nat.reduceMul, Int.reduceNeg, Option.bind_some, Int.toNat_natCast])).trans ?_
    refine obd (ex_houseCan R F hF Bx a b s (by omega) ha2 hb hb2 hs (by omega) hK) ?_
    rw [bI_c (gCan1 (A := A) (B := B) (b := b) (s := s) c)]
    unfold f_World_canGive_19
    exact if_pos (by simp (disch := first | omega | (simp (disch := omega) only [uA_n]; done) | fail) only [iI_lit, iI_add, iI_sub, iI_mul, iI_neg, iI_lt, iI_le, iI_eq, zlt_t, zlt_f, zle_t, zle_f, zeq_t, zeq_f, nle_t, nle_f, iI_cl, rA, rS, rB, wA, wS, wB, mkp, mk2, uA_s, uA_n, ud_s, ud_n, bI_0, bI_1, nor_s, ↓reduceIte, or_false, false_or, or_true, true_or, or_self, not_true_eq_false, not_false_eq_true, and_true, true_and, and_false, false_and, bI_T, bI_F, Int.reduceToNat, Nat.reduceAdd, Nat.reduceMul, Int.reduceNeg, Option.bind_some, Int.toNat_natCast])
theorem em_canGive (R : RR K D A0 B0 A B) (hF : 1000 ≤ F) (hK : K ≤ 1000000000) (Ax : hI) {a b s : Int} (ha : 0 ≤ a) (ha2 : a < A 19 11) (hb : 0 ≤ b) (hb2 : b < A 19 11) (hab : a ≠ b) (hs : 0 ≤ s) (hs2 : s ≤ 100000) : ∃ B1 : hI, f_m_can F (iI a) (iI b) (iI s) (mk Ax B) = some (iI (bI (gCan A B a b s)), mk Ax B1) ∧ xBb B B1 := by
  have hn2 := R.gH.hn2
  by_cases c : a = 0
  · subst c
    obtain ⟨B1, y1, g1⟩ := em_bankCan F R hF hK Ax hs hs2
    refine ⟨B1, ?_, xBb.four g1⟩
    unfold f_m_can
    refine (if_neg (by simp (disch := first | omega | (simp (disch := omega) only [uA_n]; done) | fail) only [iI_lit, iI_add, iI_sub, iI_mul, iI_neg, iI_lt, iI_le, iI_eq, zlt_t, zlt_f, zle_t, zle_f, zeq_t, zeq_f, nle_t, nle_f, iI_cl, rA, rS, rB, wA, wS, wB, mkp, mk2, uA_s, uA_n, ud_s, ud_n, bI_0, bI_1, nor_s, ↓reduceIte, or_false, false_or, or_true, true_or, or_self, not_true_eq_false, not_false_eq_true, and_true, true_and, and_false, false_and, bI_T, bI_F, Int.reduceToNat, Nat.reduceAdd, Nat.reduceMul, Int.reduceNeg, Option.bind_some, Int.toNat_natCast])).trans ?_
    refine (if_pos rfl).trans ?_
    refine obd y1 ?_
    rw [bI_c (gCan0 (A := A) (B := B) (b := b) (s := s))]
    exact if_pos (by simp (disch := first | omega | (simp (disch := omega) only [uA_n]; done) | fail) only [iI_lit, iI_add, iI_sub, iI_mul, iI_neg, iI_lt, iI_le, iI_eq, zlt_t, zlt_f, zle_t, zle_f, zeq_t, zeq_f, nle_t, nle_f, iI_cl, rA, rS, rB, wA, wS, wB, mkp, mk2, uA_s, uA_n, ud_s, ud_n, bI_0, bI_1, nor_s, ↓reduceIte, or_false, false_or, or_true, true_or, or_self, not_true_eq_false, not_false_eq_true, and_true, true_and, and_false, false_and, bI_T, bI_F, Int.reduceToNat, Nat.reduceAdd, Nat.reduceMul, Int.reduceNeg, Option.bind_some, Int.toNat_natCast])
  · obtain ⟨B1, y1, g1⟩ := em_can R F hF Ax a b s (by omega) ha2 hb hb2 hs (by omega) hK
    refine ⟨B1, ?_, xBb.three g1⟩
    rw [y1, bI_c (gCan1 (A := A) (B := B) (b := b) (s := s) c)]
theorem gCan.cg {a b s : Int} {A1 B1 : hI} (gx : ∀ k : Nat, k ≠ 15 → k ≠ 54 → A1 k = A k) (gz : a ≠ 0 → A1 = A) (gy : xBb B B1) (h : gCan A B a b s) : gCan A1 B1 a b s := by
  have e : ∀ bill key : Int, say A1 B1 bill key = say A B bill key := say_c (fun k hk => gx k (by omega) (by omega)) (fun k h1 h2 => gy.1 k (by omega) (by omega) (by omega) (by omega) (by omega) (by omega) (by omega))
  refine ⟨fun z => ?_, fun z => by rw [gz z]; exact h.2 z⟩
  have q := h.1 z
  unfold bcan at q ⊢
  rw [e, e, gx 22 (by omega) (by omega), gx 55 (by omega) (by omega)]
  exact q
theorem RR.giv (R : RR K D A0 B0 A B) (hF : 1000 ≤ F) (hK : K ≤ 1000000000) (Ax Bx : hI) {a b s : Int} (ha : 0 ≤ a) (ha2 : a < A 19 11) (hb : 0 ≤ b) (hb2 : b < A 19 11) (hab : a ≠ b) (hs : 0 ≤ s) (hs2 : s ≤ 100000) (hc : gCan A B a b s) : ∃ A' B' : hI, f_World_transfer F (iI a) (iI b) (iI s) (mk A Bx) = some ((), mk A' Bx) ∧ f_m_gives F (iI a) (iI b) (iI s) (mk Ax B) = some ((), mk Ax B') ∧ RR K D A0 B0 A' B' ∧ ∀ k : Nat, ¬ (2 ≤ k ∧ k ≤ 6) ∧ k ≠ 22 ∧ ¬ (55 ≤ k ∧ k ≤ 61) → A' k = A k := by
  by_cases c : a = 0
  · subst c
    have q := gCan0.mp hc
    have n1 := R.gN.nf2
    have n2 := R.gN.nc2
    have n3 := sm_cnt 300 (fun k => A 56 k = 2)
    have n4 := R.gN.nin
    exact R.bxfer F hF Ax Bx (by omega) hb2 hs hs2 hK q.1 (by omega) (by omega)
  · obtain ⟨n, rfl⟩ : ∃ n : Nat, a = n := ⟨a.toNat, by omega⟩
    obtain ⟨A', B', x, y, R1, g⟩ := R.xfer F hF Ax Bx (by omega) ha2 hb hb2 hs (by omega) hK ((gCan1 c).mp hc)
    exact ⟨A', B', x, y, R1, fun k hk => g k (by omega)⟩
theorem c_give (h : Inv i A B) (hi : i < 512) (hF : 1000 ≤ F) (v1 v2 v3 : Int32) : CP i A B (f_x_give F v1 v2 v3) (f_m_give F v1 v2 v3) := by
  obtain ⟨a, aa, ab, rfl⟩ : ∃ z : Int, -2147483648 ≤ z ∧ z < 2147483648 ∧ v1 = iI z := ⟨_, (i32rg v1).1, (i32rg v1).2, iI_of v1⟩
  obtain ⟨b, ba, bb, rfl⟩ : ∃ z : Int, -2147483648 ≤ z ∧ z < 2147483648 ∧ v2 = iI z := ⟨_, (i32rg v2).1, (i32rg v2).2, iI_of v2⟩
  obtain ⟨s, sa, sb, rfl⟩ : ∃ z : Int, -2147483648 ≤ z ∧ z < 2147483648 ∧ v3 = iI z := ⟨_, (i32rg v3).1, (i32rg v3).2, iI_of v3⟩
  have R := h.rr
  have hn2 := R.gH.hn2
  have hn1 := R.gH.hn1
  have hK := h.kmx (by omega)
  by_cases c0 : 0 ≤ a ∧ a < A 19 11
  rotate_left
  · refine cp_no F h (v := -3) (by omega) (by omega) (fun Bx => ?_) (fun Ax => ?_)
    · unfold f_x_give
      refine (askF (ex_isHouse F R Bx a aa ab) c0).trans ?_
      rfl
    · unfold f_m_give
      refine (askF (em_isHouse F R Ax a aa ab) c0).trans ?_
      rfl
  by_cases c1 : 0 ≤ b ∧ b < A 19 11
  rotate_left
  · refine cp_no F h (v := -3) (by omega) (by omega) (fun Bx => ?_) (fun Ax => ?_)
    · unfold f_x_give
      refine (askT (ex_isHouse F R Bx a aa ab) c0).trans ?_
      refine (askF (ex_isHouse F R Bx b ba bb) c1).trans ?_
      rfl
    · unfold f_m_give
      refine (askT (em_isHouse F R Ax a aa ab) c0).trans ?_
      refine (askF (em_isHouse F R Ax b ba bb) c1).trans ?_
      rfl
  by_cases c2 : 1 ≤ s ∧ s ≤ 9999
  rotate_left
  · refine cp_no F h (v := -7) (by omega) (by omega) (fun Bx => ?_) (fun Ax => ?_)
    · unfold f_x_give
      refine (askT (ex_isHouse F R Bx a aa ab) c0).trans ?_
      refine (askT (ex_isHouse F R Bx b ba bb) c1).trans ?_
      refine (askF (ex_isSum F s (mk A Bx) sa sb) c2).trans ?_
      rfl
    · unfold f_m_give
      refine (askT (em_isHouse F R Ax a aa ab) c0).trans ?_
      refine (askT (em_isHouse F R Ax b ba bb) c1).trans ?_
      refine (askF (em_in F s 1 9999 (mk Ax B) sa sb (by omega) (by omega) (by omega) (by omega)) c2).trans ?_
      rfl
  by_cases c3 : a ≠ b
  rotate_left
  · refine cp_no F h (v := -7) (by omega) (by omega) (fun Bx => ?_) (fun Ax => ?_)
    · unfold f_x_give
      refine (askT (ex_isHouse F R Bx a aa ab) c0).trans ?_
      refine (askT (ex_isHouse F R Bx b ba bb) c1).trans ?_
      refine (askT (ex_isSum F s (mk A Bx) sa sb) c2).trans ?_
      refine (if_pos (by simp (disch := first | omega | (simp (disch := omega) only [uA_n]; done) | fail) only [iI_lit, iI_add, iI_sub, iI_mul, iI_neg, iI_lt, iI_le, iI_eq, zlt_t, zlt_f, zle_t, zle_f, zeq_t, zeq_f, nle_t, nle_f, iI_cl, rA, rS, rB, wA, wS, wB, mkp, mk2, uA_s, uA_n, ud_s, ud_n, bI_0, bI_1, nor_s, ↓reduceIte, or_false, false_or, or_true, true_or, or_self, not_true_eq_false, not_false_eq_true, and_true, true_and, and_false, false_and, bI_T, bI_F, Int.reduceToNat, Nat.reduceAdd, Nat.reduceMul, Int.reduceNeg, Option.bind_some, Int.toNat_natCast])).trans ?_
      rfl
    · unfold f_m_give
      refine (askT (em_isHouse F R Ax a aa ab) c0).trans ?_
      refine (askT (em_isHouse F R Ax b ba bb) c1).trans ?_
      refine (askT (em_in F s 1 9999 (mk Ax B) sa sb (by omega) (by omega) (by omega) (by omega)) c2).trans ?_
      refine (if_pos (by simp (disch := first | omega | (simp (disch := omega) only [uA_n]; done) | fail) only [iI_lit, iI_add, iI_sub, iI_mul, iI_neg, iI_lt, iI_le, iI_eq, zlt_t, zlt_f, zle_t, zle_f, zeq_t, zeq_f, nle_t, nle_f, iI_cl, rA, rS, rB, wA, wS, wB, mkp, mk2, uA_s, uA_n, ud_s, ud_n, bI_0, bI_1, nor_s, ↓reduceIte, or_false, false_or, or_true, true_or, or_self, not_true_eq_false, not_false_eq_true, and_true, true_and, and_false, false_and, bI_T, bI_F, Int.reduceToNat, Nat.reduceAdd, Nat.reduceMul, Int.reduceNeg, Option.bind_some, Int.toNat_natCast])).trans ?_
      rfl
  by_cases c4 : A 27 a.toNat = -1
  rotate_left
  · refine cp_no F h (v := -7) (by omega) (by omega) (fun Bx => ?_) (fun Ax => ?_)
    · unfold f_x_give
      refine (askT (ex_isHouse F R Bx a aa ab) c0).trans ?_
      refine (askT (ex_isHouse F R Bx b ba bb) c1).trans ?_
      refine (askT (ex_isSum F s (mk A Bx) sa sb) c2).trans ?_
      refine (if_neg (by simp (disch := first | omega | (simp (disch := omega) only [uA_n]; done) | fail) only [iI_lit, iI_add, iI_sub, iI_mul, iI_neg, iI_lt, iI_le, iI_eq, zlt_t, zlt_f, zle_t, zle_f, zeq_t, zeq_f, nle_t, nle_f, iI_cl, rA, rS, rB, wA, wS, wB, mkp, mk2, uA_s, uA_n, ud_s, ud_n, bI_0, bI_1, nor_s, ↓reduceIte, or_false, false_or, or_true, true_or, or_self, not_true_eq_false, not_false_eq_true, and_true, true_and, and_false, false_and, bI_T, bI_F, Int.reduceToNat, Nat.reduceAdd, Nat.reduceMul, Int.reduceNeg, Option.bind_some, Int.toNat_natCast])).trans ?_
      refine (askF (ex_isUp F R Bx a c0.1 c0.2) c4).trans ?_
      rfl
    · unfold f_m_give
      refine (askT (em_isHouse F R Ax a aa ab) c0).trans ?_
      refine (askT (em_isHouse F R Ax b ba bb) c1).trans ?_
      refine (askT (em_in F s 1 9999 (mk Ax B) sa sb (by omega) (by omega) (by omega) (by omega)) c2).trans ?_
      refine (if_neg (by simp (disch := first | omega | (simp (disch := omega) only [uA_n]; done) | fail) only [iI_lit, iI_add, iI_sub, iI_mul, iI_neg, iI_lt, iI_le, iI_eq, zlt_t, zlt_f, zle_t, zle_f, zeq_t, zeq_f, nle_t, nle_f, iI_cl, rA, rS, rB, wA, wS, wB, mkp, mk2, uA_s, uA_n, ud_s, ud_n, bI_0, bI_1, nor_s, ↓reduceIte, or_false, false_or, or_true, true_or, or_self, not_true_eq_false, not_false_eq_true, and_true, true_and, and_false, false_and, bI_T, bI_F, Int.reduceToNat, Nat.reduceAdd, Nat.reduceMul, Int.reduceNeg, Option.bind_some, Int.toNat_natCast])).trans ?_
      refine (askF (em_isUp F R Ax a c0.1 c0.2) c4).trans ?_
      rfl
  by_cases c5 : A 27 b.toNat = -1
  rotate_left
  · refine cp_no F h (v := -7) (by omega) (by omega) (fun Bx => ?_) (fun Ax => ?_)
    · unfold f_x_give
      refine (askT (ex_isHouse F R Bx a aa ab) c0).trans ?_
      refine (askT (ex_isHouse F R Bx b ba bb) c1).trans ?_
      refine (askT (ex_isSum F s (mk A Bx) sa sb) c2).trans ?_
      refine (if_neg (by simp (disch := first | omega | (simp (disch := omega) only [uA_n]; done) | fail) only [iI_lit, iI_add, iI_sub, iI_mul, iI_neg, iI_lt, iI_le, iI_eq, zlt_t, zlt_f, zle_t, zle_f, zeq_t, zeq_f, nle_t, nle_f, iI_cl, rA, rS, rB, wA, wS, wB, mkp, mk2, uA_s, uA_n, ud_s, ud_n, bI_0, bI_1, nor_s, ↓reduceIte, or_false, false_or, or_true, true_or, or_self, not_true_eq_false, not_false_eq_true, and_true, true_and, and_false, false_and, bI_T, bI_F, Int.reduceToNat, Nat.reduceAdd, Nat.reduceMul, Int.reduceNeg, Option.bind_some, Int.toNat_natCast])).trans ?_
      refine (askT (ex_isUp F R Bx a c0.1 c0.2) c4).trans ?_
      refine (askF (ex_isUp F R Bx b c1.1 c1.2) c5).trans ?_
      rfl
    · unfold f_m_give
      refine (askT (em_isHouse F R Ax a aa ab) c0).trans ?_
      refine (askT (em_isHouse F R Ax b ba bb) c1).trans ?_
      refine (askT (em_in F s 1 9999 (mk Ax B) sa sb (by omega) (by omega) (by omega) (by omega)) c2).trans ?_
      refine (if_neg (by simp (disch := first | omega | (simp (disch := omega) only [uA_n]; done) | fail) only [iI_lit, iI_add, iI_sub, iI_mul, iI_neg, iI_lt, iI_le, iI_eq, zlt_t, zlt_f, zle_t, zle_f, zeq_t, zeq_f, nle_t, nle_f, iI_cl, rA, rS, rB, wA, wS, wB, mkp, mk2, uA_s, uA_n, ud_s, ud_n, bI_0, bI_1, nor_s, ↓reduceIte, or_false, false_or, or_true, true_or, or_self, not_true_eq_false, not_false_eq_true, and_true, true_and, and_false, false_and, bI_T, bI_F, Int.reduceToNat, Nat.reduceAdd, Nat.reduceMul, Int.reduceNeg, Option.bind_some, Int.toNat_natCast])).trans ?_
      refine (askT (em_isUp F R Ax a c0.1 c0.2) c4).trans ?_
      refine (askF (em_isUp F R Ax b c1.1 c1.2) c5).trans ?_
      rfl
  have xc : ∀ Bx : hI, ∃ A1 : hI, f_World_canGive F (iI a) (iI b) (iI s) (mk A Bx) = some (iI (bI (gCan A B a b s)), mk A1 Bx) ∧ (∀ k : Nat, k ≠ 15 → k ≠ 54 → A1 k = A k) ∧ (a ≠ 0 → A1 = A) := fun Bx => ex_canGive F R hF (by omega) Bx c0.1 c0.2 c1.1 c1.2 c3 (by omega) (by omega)
  have yc : ∀ Ax : hI, ∃ B1 : hI, f_m_can F (iI a) (iI b) (iI s) (mk Ax B) = some (iI (bI (gCan A B a b s)), mk Ax B1) ∧ xBb B B1 := fun Ax => em_canGive F R hF (by omega) Ax c0.1 c0.2 c1.1 c1.2 c3 (by omega) (by omega)
  by_cases c7 : gCan A B a b s
  rotate_left
  · refine cp_no2 F h (v := -7) (by omega) (by omega) (fun Bx => ?_) (fun Ax => ?_)
    · obtain ⟨A1, ex, gx, gz⟩ := xc Bx
      refine ⟨A1, nA.law gx, ?_⟩
      unfold f_x_give
      refine (askT (ex_isHouse F R Bx a aa ab) c0).trans ?_
      refine (askT (ex_isHouse F R Bx b ba bb) c1).trans ?_
      refine (askT (ex_isSum F s (mk A Bx) sa sb) c2).trans ?_
      refine (if_neg (by simp (disch := first | omega | (simp (disch := omega) only [uA_n]; done) | fail) only [iI_lit, iI_add, iI_sub, iI_mul, iI_neg, iI_lt, iI_le, iI_eq, zlt_t, zlt_f, zle_t, zle_f, zeq_t, zeq_f, nle_t, nle_f, iI_cl, rA, rS, rB, wA, wS, wB, mkp, mk2, uA_s, uA_n, ud_s, ud_n, bI_0, bI_1, nor_s, ↓reduceIte, or_false, false_or, or_true, true_or, or_self, not_true_eq_false, not_false_eq_true, and_true, true_and, and_false, false_and, bI_T, bI_F, Int.reduceToNat, Nat.reduceAdd, Nat.reduceMul, Int.reduceNeg, Option.bind_some, Int.toNat_natCast])).trans ?_
      refine (askT (ex_isUp F R Bx a c0.1 c0.2) c4).trans ?_
      refine (askT (ex_isUp F R Bx b c1.1 c1.2) c5).trans ?_
      refine (askF (ex) c7).trans ?_
      rfl
    · obtain ⟨B1, ey, gy⟩ := yc Ax
      refine ⟨B1, gy.nb, ?_⟩
      unfold f_m_give
      refine (askT (em_isHouse F R Ax a aa ab) c0).trans ?_
      refine (askT (em_isHouse F R Ax b ba bb) c1).trans ?_
      refine (askT (em_in F s 1 9999 (mk Ax B) sa sb (by omega) (by omega) (by omega) (by omega)) c2).trans ?_
      refine (if_neg (by simp (disch := first | omega | (simp (disch := omega) only [uA_n]; done) | fail) only [iI_lit, iI_add, iI_sub, iI_mul, iI_neg, iI_lt, iI_le, iI_eq, zlt_t, zlt_f, zle_t, zle_f, zeq_t, zeq_f, nle_t, nle_f, iI_cl, rA, rS, rB, wA, wS, wB, mkp, mk2, uA_s, uA_n, ud_s, ud_n, bI_0, bI_1, nor_s, ↓reduceIte, or_false, false_or, or_true, true_or, or_self, not_true_eq_false, not_false_eq_true, and_true, true_and, and_false, false_and, bI_T, bI_F, Int.reduceToNat, Nat.reduceAdd, Nat.reduceMul, Int.reduceNeg, Option.bind_some, Int.toNat_natCast])).trans ?_
      refine (askT (em_isUp F R Ax a c0.1 c0.2) c4).trans ?_
      refine (askT (em_isUp F R Ax b c1.1 c1.2) c5).trans ?_
      refine (askF (ey) c7).trans ?_
      rfl
  intro Ax Bx
  obtain ⟨A1, ex, gx, gz⟩ := xc Bx
  obtain ⟨B1, ey, gy⟩ := yc Ax
  have R1 := (R.xA (fun k k1 _ k3 => gx k k1 k3)).xBb gy
  obtain ⟨A2, B2, x2, y2, R2, g2⟩ := R1.giv F hF (by omega) Ax Bx (a := a) (b := b) (s := s) c0.1 (by rw [gx 19 (by omega) (by omega)]; exact c0.2) c1.1 (by rw [gx 19 (by omega) (by omega)]; exact c1.2) c3 (by omega) (by omega) (gCan.cg gx gz gy c7)
  have e16 : A2 16 = A 16 := (g2 16 (by omega)).trans (gx 16 (by omega) (by omega))
  have hg := R2.gH.hg a.toNat (by omega)
  refine ⟨iI (A2 22 a.toNat), A2, B2, ?_, ?_, h.land R2 (by rw [e16])⟩
  · unfold f_x_give
    refine (askT (ex_isHouse F R Bx a aa ab) c0).trans ?_
    refine (askT (ex_isHouse F R Bx b ba bb) c1).trans ?_
    refine (askT (ex_isSum F s (mk A Bx) sa sb) c2).trans ?_
    refine (if_neg (by simp (disch := first | omega | (simp (disch := omega) only [uA_n]; done) | fail) only [iI_lit, iI_add, iI_sub, iI_mul, iI_neg, iI_lt, iI_le, iI_eq, zlt_t, zlt_f, zle_t, zle_f, zeq_t, zeq_f, nle_t, nle_f, iI_cl, rA, rS, rB, wA, wS, wB, mkp, mk2, uA_s, uA_n, ud_s, ud_n, bI_0, bI_1, nor_s, ↓reduceIte, or_false, false_or, or_true, true_or, or_self, not_true_eq_false, not_false_eq_true, and_true, true_and, and_false, false_and, bI_T, bI_F, Int.reduceToNat, Nat.reduceAdd, Nat.reduceMul, Int.reduceNeg, Option.bind_some, Int.toNat_natCast])).trans ?_
    refine (askT (ex_isUp F R Bx a c0.1 c0.2) c4).trans ?_
    refine (askT (ex_isUp F R Bx b c1.1 c1.2) c5).trans ?_
    refine (askT (ex) c7).trans ?_
    refine obd x2 ?_
    refine (if_neg (by simp (disch := first | omega | (simp (disch := omega) only [uA_n]; done) | fail) only [iI_lit, iI_add, iI_sub, iI_mul, iI_neg, iI_lt, iI_le, iI_eq, zlt_t, zlt_f, zle_t, zle_f, zeq_t, zeq_f, nle_t, nle_f, iI_cl, rA, rS, rB, wA, wS, wB, mkp, mk2, uA_s, uA_n, ud_s, ud_n, bI_0, bI_1, nor_s, ↓reduceIte, or_false, false_or, or_true, true_or, or_self, not_true_eq_false, not_false_eq_true, and_true, true_and, and_false, false_and, bI_T, bI_F, Int.reduceToNat, Nat.reduceAdd, Nat.reduceMul, Int.reduceNeg, Option.bind_some, Int.toNat_natCast])).trans ?_
    exact congrArg some (Prod.ext (by simp (disch := first | omega | (simp (disch := omega) only [uA_n]; done) | fail) only [iI_lit, iI_add, iI_sub, iI_mul, iI_neg, iI_lt, iI_le, iI_eq, zlt_t, zlt_f, zle_t, zle_f, zeq_t, zeq_f, nle_t, nle_f, iI_cl, rA, rS, rB, wA, wS, wB, mkp, mk2, uA_s, uA_n, ud_s, ud_n, bI_0, bI_1, nor_s, ↓reduceIte, or_false, false_or, or_true, true_or, or_self, not_true_eq_false, not_false_eq_true, and_true, true_and, and_false, false_and, bI_T, bI_F, Int.reduceToNat, Nat.reduceAdd, Nat.reduceMul, Int.reduceNeg, Option.bind_some, Int.toNat_natCast]) rfl)
  · unfold f_m_give
    refine (askT (em_isHouse F R Ax a aa ab) c0).trans ?_
    refine (askT (em_isHouse F R Ax b ba bb) c1).trans ?_
    refine (askT (em_in F s 1 9999 (mk Ax B) sa sb (by omega) (by omega) (by omega) (by omega)) c2).trans ?_
    refine (if_neg (by simp (disch := first | omega | (simp (disch := omega) only [uA_n]; done) | fail) only [iI_lit, iI_add, iI_sub, iI_mul, iI_neg, iI_lt, iI_le, iI_eq, zlt_t, zlt_f, zle_t, zle_f, zeq_t, zeq_f, nle_t, nle_f, iI_cl, rA, rS, rB, wA, wS, wB, mkp, mk2, uA_s, uA_n, ud_s, ud_n, bI_0, bI_1, nor_s, ↓reduceIte, or_false, false_or, or_true, true_or, or_self, not_true_eq_false, not_false_eq_true, and_true, true_and, and_false, false_and, bI_T, bI_F, Int.reduceToNat, Nat.reduceAdd, Nat.reduceMul, Int.reduceNeg, Option.bind_some, Int.toNat_natCast])).trans ?_
    refine (askT (em_isUp F R Ax a c0.1 c0.2) c4).trans ?_
    refine (askT (em_isUp F R Ax b c1.1 c1.2) c5).trans ?_
    refine (askT (ey) c7).trans ?_
    refine obd y2 ?_
    refine obd (em_hs F a 2 Ax B2 (by omega) (by omega) (by omega) (by omega)) ?_
    exact congrArg some (Prod.ext (by simp (disch := first | omega | (simp (disch := omega) only [uA_n]; done) | fail) only [iI_lit, iI_add, iI_sub, iI_mul, iI_neg, iI_lt, iI_le, iI_eq, zlt_t, zlt_f, zle_t, zle_f, zeq_t, zeq_f, nle_t, nle_f, iI_cl, rA, rS, rB, wA, wS, wB, mkp, mk2, uA_s, uA_n, ud_s, ud_n, bI_0, bI_1, nor_s, ↓reduceIte, or_false, false_or, or_true, true_or, or_self, not_true_eq_false, not_false_eq_true, and_true, true_and, and_false, false_and, bI_T, bI_F, Int.reduceToNat, Nat.reduceAdd, Nat.reduceMul, Int.reduceNeg, Option.bind_some, Int.toNat_natCast, hg]) rfl)
end
