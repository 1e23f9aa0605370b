/-! WHAT CLAIMS GET: the reference -/
section MCLM
variable {K D : Int} {A0 B0 A B : hI} (F : Nat)
/-- the reference's state at the shares x, what is being worked y -/
def MS (B : hI) (x y : Nat → Int) (B1 : hI) : Prop := (∀ k : Nat, k ≠ 309 → k ≠ 310 → B1 k = B k) ∧ (∀ p : Nat, p < 60 → B1 309 p = x p) ∧ ∀ p : Nat, p < 60 → B1 310 p = y p
theorem RR.ms (R : RR K D A0 B0 A B) {x y : Nat → Int} {B1 : hI} (h : MS B x y B1) : RR K D A0 B0 A B1 := R.xB (fun k _ _ h3 h4 _ _ _ => h.1 k h3 h4) (by rw [h.1 304 (by omega) (by omega)]) (by rw [h.1 304 (by omega) (by omega)]) (by rw [h.1 304 (by omega) (by omega)]) (by rw [h.1 304 (by omega) (by omega)])
theorem i0n1 : ¬ (iI 0 = (1 : Int32)) := by decide
theorem lg_lt {a b : Int} (h1 : -9223372036854775808 ≤ a) (h2 : a < 9223372036854775808) (h3 : -9223372036854775808 ≤ b) (h4 : b < 9223372036854775808) : (lg_cmp (lI a) (lI b) < (0 : Int32)) = (a < b) := by
  rw [lg_lI h1 h2 h3 h4]
  by_cases c : a < b
  · rw [if_neg (show ¬ b < a by omega), if_neg (show ¬ a = b by omega)]
    exact propext ⟨fun _ => c, fun _ => by decide⟩
  · by_cases d : b < a
    · rw [if_pos d]
      exact propext ⟨fun z => absurd z (by decide), fun z => absurd z c⟩
    · rw [if_neg d, if_pos (show a = b by omega)]
      exact propext ⟨fun z => absurd z (by decide), fun z => absurd z c⟩
theorem em_isClaim (R : RR K D A0 B0 A B) (Ax : hI) {p : Nat} (hp : p < 60) : f_m_isClaim F (iI (p : Int)) (mk Ax B) = some (iI (bI (clm A p)), mk Ax B) := by
  have hn2 := R.gH.hn2
  have kr := R.kr hp
  unfold f_m_isClaim
  by_cases c : A 32 p = -1
  · have b0 : B 450 p = 0 := by omega
    refine obd (pap F Ax 0 0 rfl hp (by omega) b0) ?_
    refine (if_neg i0n1).trans ?_
    rw [bI_f (fun z => z.1 c)]
    unfold f_m_isClaim_27 f_m_isClaim_28
    exact if_pos (Or.inl rfl)
  · have b0 : B 450 p = 1 := by omega
    have pd := R.gP.pd p hp c
    refine obd (pap F Ax 0 0 rfl hp (by omega) b0) ?_
    refine (if_pos rfl).trans ?_
    refine obd (pap F Ax 3 3 rfl hp (by omega) pd.1) ?_
    have yu := em_isUp F R Ax (A 34 p) (by omega) pd.2.2
    by_cases d : A 27 (A 34 p).toNat = -1
    · refine (askT yu d).trans ?_
      rw [bI_f (fun z => z.2 d)]
      unfold f_m_isClaim_27 f_m_isClaim_28
      exact if_pos (Or.inl rfl)
    · refine (askF yu d).trans ?_
      rw [bI_t ⟨c, d⟩]
      unfold f_m_isClaim_28
      exact if_pos (Or.inr rfl)
theorem em_assets (R : RR K D A0 B0 A B) (hK : K ≤ 1000000000) (hF : 1000 ≤ F) (Ax : hI) {x y : Nat → Int} {B1 : hI} (hm : MS B x y B1) (hx : xrg A x) {h : Int} (h1 : 1 ≤ h) (h2 : h < A 19 11) : f_m_assetsOf F (iI h) (mk Ax B1) = some (iI (wl A x h), mk Ax B1) := by
  have hn2 := R.gH.hn2
  have R1 := R.ms hm
  have L : ∀ (r i q : Nat), r = 60 - i → i ≤ 60 → r < q → f_m_assetsOf_8 F q (iI h) (iI (A 22 h.toNat + 10 * A 61 h.toNat + sm i (fun p => wlB A h p + wlC A x h p))) (iI (i : Int)) (mk Ax B1) = some (iI (A 22 h.toNat + 10 * A 61 h.toNat + sm 60 (fun p => wlB A h p + wlC A x h p)), mk Ax B1) := by
    intro r
    induction r with
    | zero =>
      intro i q e hi hq
      obtain ⟨q, rfl⟩ : ∃ k, q = k + 1 := ⟨q - 1, by omega⟩
      rw [show i = 60 by omega, f_m_assetsOf_8]
      exact if_pos (by simp (disch := first | omega | (simp (disch := omega) only [uA_n]; done) | fail) only [iI_lit, iI_add, iI_sub, iI_mul, iI_neg, iI_lt, iI_le, iI_eq, zlt_t, zlt_f, zle_t, zle_f, zeq_t, zeq_f, nle_t, nle_f, iI_cl, rA, rS, rB, wA, wS, wB, mkp, mk2, uA_s, uA_n, ud_s, ud_n, bI_0, bI_1, nor_s, ↓reduceIte, or_false, false_or, or_true, true_or, or_self, not_true_eq_false, not_false_eq_true, and_true, true_and, and_false, false_and, bI_T, bI_F, Int.reduceToNat, Nat.reduceAdd, Nat.reduceMul, Int.reduceNeg, Option.bind_some, Int.toNat_natCast])
    | succ r ih =>
      intro i q e hi hq
      obtain ⟨q, rfl⟩ : ∃ k, q = k + 1 := ⟨q - 1, by omega⟩
      have kr := R.kr (p := i) (by omega)
      have kr1 := R1.kr (p := i) (by omega)
      have I := ih (i + 1) q (by omega) (by omega) (by omega)
      rw [show sm (i + 1) (fun p => wlB A h p + wlC A x h p) = sm i (fun p => wlB A h p + wlC A x h p) + (wlB A h i + wlC A x h i) from rfl] at I
      rw [f_m_assetsOf_8]
      simp only [f_m_assetsOf_58, f_m_assetsOf_60]
      refine (if_neg (by simp (disch := first | omega | (simp (disch := omega) only [uA_n]; done) | fail) only [iI_lit, iI_add, iI_sub, iI_mul, iI_neg, iI_lt, iI_le, iI_eq, zlt_t, zlt_f, zle_t, zle_f, zeq_t, zeq_f, nle_t, nle_f, iI_cl, rA, rS, rB, wA, wS, wB, mkp, mk2, uA_s, uA_n, ud_s, ud_n, bI_0, bI_1, nor_s, ↓reduceIte, or_false, false_or, or_true, true_or, or_self, not_true_eq_false, not_false_eq_true, and_true, true_and, and_false, false_and, bI_T, bI_F, Int.reduceToNat, Nat.reduceAdd, Nat.reduceMul, Int.reduceNeg, Option.bind_some, Int.toNat_natCast])).trans ?_
      by_cases c : A 32 i = -1
      · have b0 : B1 450 i = 0 := by omega
        rw [show wlB A h i = 0 from if_neg (fun z => z.1 c), show wlC A x h i = 0 from if_neg (fun z => z.1.1 c)] at I
        refine obd (pap F Ax 0 0 rfl (by omega) (by omega) b0) ?_
        refine (if_neg i0n1).trans ?_
        rw [show sm i (fun p => wlB A h p + wlC A x h p) + ((0 : Int) + 0) = sm i (fun p => wlB A h p + wlC A x h p) by omega] at I
        exact Eq.trans (by rw [← iI_s]; rfl) I
      · have b0 : B1 450 i = 1 := by omega
        have ph := R1.gP.ph i (by omega) c
        have ps := R1.gP.ps i (by omega) c
        have pd := R1.gP.pd i (by omega) c
        refine obd (pap F Ax 0 0 rfl (by omega) (by omega) b0) ?_
        refine (if_pos rfl).trans ?_
        refine obd (pap F Ax 4 4 rfl (by omega) (by omega) ph.1) ?_
        by_cases d : A 35 i = h
        · refine (if_pos (by simp (disch := first | omega | (simp (disch := omega) only [uA_n]; done) | fail) only [iI_lit, iI_add, iI_sub, iI_mul, iI_neg, iI_lt, iI_le, iI_eq, zlt_t, zlt_f, zle_t, zle_f, zeq_t, zeq_f, nle_t, nle_f, iI_cl, rA, rS, rB, wA, wS, wB, mkp, mk2, uA_s, uA_n, ud_s, ud_n, bI_0, bI_1, nor_s, ↓reduceIte, or_false, false_or, or_true, true_or, or_self, not_true_eq_false, not_false_eq_true, and_true, true_and, and_false, false_and, bI_T, bI_F, Int.reduceToNat, Nat.reduceAdd, Nat.reduceMul, Int.reduceNeg, Option.bind_some, Int.toNat_natCast, d])).trans ?_
          have yc := em_isClaim F R1 Ax (p := i) (by omega)
          by_cases g : clm A i
          · rw [show wlB A h i = 0 from if_neg (fun z => g.2 z.2.1), show wlC A x h i = x i from if_pos ⟨g, d⟩] at I
            refine (askT yc g).trans ?_
            refine (if_neg (by simp (disch := first | omega | (simp (disch := omega) only [uA_n]; done) | fail) only [iI_lit, iI_add, iI_sub, iI_mul, iI_neg, iI_lt, iI_le, iI_eq, zlt_t, zlt_f, zle_t, zle_f, zeq_t, zeq_f, nle_t, nle_f, iI_cl, rA, rS, rB, wA, wS, wB, mkp, mk2, uA_s, uA_n, ud_s, ud_n, bI_0, bI_1, nor_s, ↓reduceIte, or_false, false_or, or_true, true_or, or_self, not_true_eq_false, not_false_eq_true, and_true, true_and, and_false, false_and, bI_T, bI_F, Int.reduceToNat, Nat.reduceAdd, Nat.reduceMul, Int.reduceNeg, Option.bind_some, Int.toNat_natCast])).trans ?_
            have e309 := hm.2.1 i (by omega)
            refine Eq.trans ?_ I
            rw [← iI_s]
            rw [show A 22 h.toNat + 10 * A 61 h.toNat + (sm i (fun p => wlB A h p + wlC A x h p) + (0 + x i)) = A 22 h.toNat + 10 * A 61 h.toNat + sm i (fun p => wlB A h p + wlC A x h p) + x i by omega, ← iI_add _ (x i)]
            simp (disch := first | omega | (simp (disch := omega) only [uA_n]; done) | fail) only [iI_lit, iI_add, iI_sub, iI_mul, iI_neg, iI_lt, iI_le, iI_eq, zlt_t, zlt_f, zle_t, zle_f, zeq_t, zeq_f, nle_t, nle_f, iI_cl, rA, rS, rB, wA, wS, wB, mkp, mk2, uA_s, uA_n, ud_s, ud_n, bI_0, bI_1, nor_s, ↓reduceIte, or_false, false_or, or_true, true_or, or_self, not_true_eq_false, not_false_eq_true, and_true, true_and, and_false, false_and, bI_T, bI_F, Int.reduceToNat, Nat.reduceAdd, Nat.reduceMul, Int.reduceNeg, Option.bind_some, Int.toNat_natCast, e309]
          · have g2 : A 27 (A 34 i).toNat = -1 := Decidable.byContradiction fun z => g ⟨c, z⟩
            rw [show wlB A h i = A 33 i from if_pos ⟨c, g2, d⟩, show wlC A x h i = 0 from if_neg (fun z => g z.1)] at I
            refine (askF yc g).trans ?_
            refine obd (pap F Ax 2 2 rfl (by omega) (by omega) ps.1) ?_
            refine Eq.trans ?_ I
            rw [← iI_s]
            rw [show A 22 h.toNat + 10 * A 61 h.toNat + (sm i (fun p => wlB A h p + wlC A x h p) + (A 33 i + 0)) = A 22 h.toNat + 10 * A 61 h.toNat + sm i (fun p => wlB A h p + wlC A x h p) + A 33 i by omega, ← iI_add _ (A 33 i)]
            rfl
        · rw [show wlB A h i = 0 from if_neg (fun z => d z.2.2), show wlC A x h i = 0 from if_neg (fun z => d z.2)] at I
          refine (if_neg (by simp (disch := first | omega | (simp (disch := omega) only [uA_n]; done) | fail) only [iI_lit, iI_add, iI_sub, iI_mul, iI_neg, iI_lt, iI_le, iI_eq, zlt_t, zlt_f, zle_t, zle_f, zeq_t, zeq_f, nle_t, nle_f, iI_cl, rA, rS, rB, wA, wS, wB, mkp, mk2, uA_s, uA_n, ud_s, ud_n, bI_0, bI_1, nor_s, ↓reduceIte, or_false, false_or, or_true, true_or, or_self, not_true_eq_false, not_false_eq_true, and_true, true_and, and_false, false_and, bI_T, bI_F, Int.reduceToNat, Nat.reduceAdd, Nat.reduceMul, Int.reduceNeg, Option.bind_some, Int.toNat_natCast])).trans ?_
          rw [show sm i (fun p => wlB A h p + wlC A x h p) + ((0 : Int) + 0) = sm i (fun p => wlB A h p + wlC A x h p) by omega] at I
          exact Eq.trans (by rw [← iI_s]; rfl) I
  have L0 := L 60 0 F rfl (Nat.zero_le _) (by omega)
  have e60 := sm_add 60 (wlB A h) (wlC A x h)
  unfold f_m_assetsOf
  refine obd (em_coin F R1 hF hK Ax h1 h2) ?_
  unfold wl
  rw [show A 22 h.toNat + 10 * A 61 h.toNat + sm 60 (wlB A h) + sm 60 (wlC A x h) = A 22 h.toNat + 10 * A 61 h.toNat + sm 60 (fun p => wlB A h p + wlC A x h p) by omega]
  refine Eq.trans ?_ L0
  show f_m_assetsOf_8 F F (iI h) (iI (A 22 h.toNat + 10 * A 61 h.toNat)) 0 (mk Ax B1) = f_m_assetsOf_8 F F (iI h) (iI (A 22 h.toNat + 10 * A 61 h.toNat + 0)) 0 (mk Ax B1)
  rw [Int.add_zero]
/-- the sums of one kind: w = 1 deposits, 0 others -/
def kT (A : hI) (w : Nat) (d : Int) : Nat → Int := if w = 1 then dpT A d else otT A d
abbrev kd (A : hI) (w : Nat) (p : Nat) : Prop := (A 32 p = 2 ↔ w = 1)
theorem kT_at {A : hI} {w : Nat} {d : Int} {p : Nat} : kT A w d p = if clm A p ∧ kd A w p ∧ A 34 p = d then A 33 p else 0 := by
  unfold kT
  by_cases c : w = 1
  · rw [if_pos c]
    unfold dpT
    by_cases e : clm A p ∧ A 32 p = 2 ∧ A 34 p = d
    · rw [if_pos e, if_pos ⟨e.1, ⟨fun _ => c, fun _ => e.2.1⟩, e.2.2⟩]
    · rw [if_neg e, if_neg (fun z => e ⟨z.1, z.2.1.mpr c, z.2.2⟩)]
  · rw [if_neg c]
    unfold otT
    by_cases e : clm A p ∧ A 32 p ≠ 2 ∧ A 34 p = d
    · rw [if_pos e, if_pos ⟨e.1, ⟨fun z => absurd z e.2.1, fun z => absurd z c⟩, e.2.2⟩]
    · rw [if_neg e, if_neg (fun z => e ⟨z.1, fun y => c (z.2.1.mp y), z.2.2⟩)]
theorem em_parts1 (R : RR K D A0 B0 A B) (hF : 1000 ≤ F) (Ax : hI) {x y : Nat → Int} {B1 : hI} (hm : MS B x y B1) {h : Int} (h1 : 1 ≤ h) (h2 : h < A 19 11) {w : Nat} (hw : w = 0 ∨ w = 1) (v2 : Int32) : ∀ (r i q : Nat), r = 60 - i → i ≤ 60 → r < q → f_m_parts_6 F q (iI h) v2 (iI (w : Int)) (lI (sm i (kT A w h))) (iI (i : Int)) (mk Ax B1) = f_m_parts_79 F F (iI h) v2 (iI (w : Int)) (lI (sm 60 (kT A w h))) 0 (mk Ax B1) := by
  have hn2 := R.gH.hn2
  have R1 := R.ms hm
  intro r
  induction r with
  | zero =>
    intro i q e hi hq
    obtain ⟨q, rfl⟩ : ∃ k, q = k + 1 := ⟨q - 1, by omega⟩
    rw [show i = 60 by omega, f_m_parts_6]
    exact if_pos (by simp (disch := first | omega | (simp (disch := omega) only [uA_n]; done) | fail) only [iI_lit, iI_add, iI_sub, iI_mul, iI_neg, iI_lt, iI_le, iI_eq, zlt_t, zlt_f, zle_t, zle_f, zeq_t, zeq_f, nle_t, nle_f, iI_cl, rA, rS, rB, wA, wS, wB, mkp, mk2, uA_s, uA_n, ud_s, ud_n, bI_0, bI_1, nor_s, ↓reduceIte, or_false, false_or, or_true, true_or, or_self, not_true_eq_false, not_false_eq_true, and_true, true_and, and_false, false_and, bI_T, bI_F, Int.reduceToNat, Nat.reduceAdd, Nat.reduceMul, Int.reduceNeg, Option.bind_some, Int.toNat_natCast])
  | succ r ih =>
    intro i q e hi hq
    obtain ⟨q, rfl⟩ : ∃ k, q = k + 1 := ⟨q - 1, by omega⟩
    have kr := R1.kr (p := i) (by omega)
    have I := ih (i + 1) q (by omega) (by omega) (by omega)
    rw [show sm (i + 1) (kT A w h) = sm i (kT A w h) + kT A w h i from rfl, kT_at] at I
    have no : sm i (kT A w h) + 0 = sm i (kT A w h) := Int.add_zero _
    have fin : f_m_parts_6 F q (iI h) v2 (iI (w : Int)) (lI (sm i (kT A w h) + 0)) (iI ((i + 1 : Nat) : Int)) (mk Ax B1) = f_m_parts_66 F (f_m_parts_6 F q) (iI h) v2 (iI (w : Int)) (iI (i : Int)) (lI (sm i (kT A w h))) (mk Ax B1) := by
      simp only [f_m_parts_66, f_m_parts_67]
      rw [← iI_s, ← lI_add]; rfl
    rw [f_m_parts_6]
    refine (if_neg (by simp (disch := first | omega | (simp (disch := omega) only [uA_n]; done) | fail) only [iI_lit, iI_add, iI_sub, iI_mul, iI_neg, iI_lt, iI_le, iI_eq, zlt_t, zlt_f, zle_t, zle_f, zeq_t, zeq_f, nle_t, nle_f, iI_cl, rA, rS, rB, wA, wS, wB, mkp, mk2, uA_s, uA_n, ud_s, ud_n, bI_0, bI_1, nor_s, ↓reduceIte, or_false, false_or, or_true, true_or, or_self, not_true_eq_false, not_false_eq_true, and_true, true_and, and_false, false_and, bI_T, bI_F, Int.reduceToNat, Nat.reduceAdd, Nat.reduceMul, Int.reduceNeg, Option.bind_some, Int.toNat_natCast])).trans ?_
    have yc := em_isClaim F R1 Ax (p := i) (by omega)
    by_cases g : clm A i
    · have pd := R1.gP.pd i (by omega) g.1
      have ps := R1.gP.ps i (by omega) g.1
      have pk := R1.gP.pk i (by omega) g.1
      refine (askT yc g).trans ?_
      refine obd (pap F Ax 3 3 rfl (by omega) (by omega) pd.1) ?_
      by_cases d : A 34 i = h
      · refine (if_pos (by simp (disch := first | omega | (simp (disch := omega) only [uA_n]; done) | fail) only [iI_lit, iI_add, iI_sub, iI_mul, iI_neg, iI_lt, iI_le, iI_eq, zlt_t, zlt_f, zle_t, zle_f, zeq_t, zeq_f, nle_t, nle_f, iI_cl, rA, rS, rB, wA, wS, wB, mkp, mk2, uA_s, uA_n, ud_s, ud_n, bI_0, bI_1, nor_s, ↓reduceIte, or_false, false_or, or_true, true_or, or_self, not_true_eq_false, not_false_eq_true, and_true, true_and, and_false, false_and, bI_T, bI_F, Int.reduceToNat, Nat.reduceAdd, Nat.reduceMul, Int.reduceNeg, Option.bind_some, Int.toNat_natCast, d])).trans ?_
        refine obd (pap F Ax 1 1 rfl (by omega) (by omega) pk) ?_
        have yes : f_m_parts_6 F q (iI h) v2 (iI (w : Int)) (lI (sm i (kT A w h) + A 33 i)) (iI ((i + 1 : Nat) : Int)) (mk Ax B1) = f_m_parts_51 F (f_m_parts_6 F q) (iI h) v2 (iI (w : Int)) (iI (i : Int)) (lI (sm i (kT A w h))) (iI (w : Int)) (mk Ax B1) := by
          unfold f_m_parts_51 f_m_parts_67
          refine Eq.trans ?_ (if_pos rfl).symm
          refine Eq.trans ?_ (obd (pap F Ax 2 2 rfl (by omega) (by omega) ps.1) rfl).symm
          rw [← iI_s, ← lI_add, iI_long (by omega) (by omega)]; rfl
        have nay : ∀ u : Nat, u ≠ w → u ≤ 1 → f_m_parts_51 F (f_m_parts_6 F q) (iI h) v2 (iI (w : Int)) (iI (i : Int)) (lI (sm i (kT A w h))) (iI (u : Int)) (mk Ax B1) = f_m_parts_66 F (f_m_parts_6 F q) (iI h) v2 (iI (w : Int)) (iI (i : Int)) (lI (sm i (kT A w h))) (mk Ax B1) := fun u hu hu1 => by
          unfold f_m_parts_51
          exact if_neg (by simp (disch := first | omega | (simp (disch := omega) only [uA_n]; done) | fail) only [iI_lit, iI_add, iI_sub, iI_mul, iI_neg, iI_lt, iI_le, iI_eq, zlt_t, zlt_f, zle_t, zle_f, zeq_t, zeq_f, nle_t, nle_f, iI_cl, rA, rS, rB, wA, wS, wB, mkp, mk2, uA_s, uA_n, ud_s, ud_n, bI_0, bI_1, nor_s, ↓reduceIte, or_false, false_or, or_true, true_or, or_self, not_true_eq_false, not_false_eq_true, and_true, true_and, and_false, false_and, bI_T, bI_F, Int.reduceToNat, Nat.reduceAdd, Nat.reduceMul, Int.reduceNeg, Option.bind_some, Int.toNat_natCast])
        by_cases k2 : A 32 i = 2
        · refine (if_pos (by simp (disch := first | omega | (simp (disch := omega) only [uA_n]; done) | fail) only [iI_lit, iI_add, iI_sub, iI_mul, iI_neg, iI_lt, iI_le, iI_eq, zlt_t, zlt_f, zle_t, zle_f, zeq_t, zeq_f, nle_t, nle_f, iI_cl, rA, rS, rB, wA, wS, wB, mkp, mk2, uA_s, uA_n, ud_s, ud_n, bI_0, bI_1, nor_s, ↓reduceIte, or_false, false_or, or_true, true_or, or_self, not_true_eq_false, not_false_eq_true, and_true, true_and, and_false, false_and, bI_T, bI_F, Int.reduceToNat, Nat.reduceAdd, Nat.reduceMul, Int.reduceNeg, Option.bind_some, Int.toNat_natCast, k2])).trans ?_
          rcases hw with rfl | rfl
          · rw [if_neg (fun z => absurd (z.2.1.mp k2) (by omega)), fin] at I
            exact (nay 1 (by omega) (by omega)).trans I
          · rw [if_pos ⟨g, ⟨fun _ => rfl, fun _ => k2⟩, d⟩, yes] at I
            exact I
        · refine (if_neg (by simp (disch := first | omega | (simp (disch := omega) only [uA_n]; done) | fail) only [iI_lit, iI_add, iI_sub, iI_mul, iI_neg, iI_lt, iI_le, iI_eq, zlt_t, zlt_f, zle_t, zle_f, zeq_t, zeq_f, nle_t, nle_f, iI_cl, rA, rS, rB, wA, wS, wB, mkp, mk2, uA_s, uA_n, ud_s, ud_n, bI_0, bI_1, nor_s, ↓reduceIte, or_false, false_or, or_true, true_or, or_self, not_true_eq_false, not_false_eq_true, and_true, true_and, and_false, false_and, bI_T, bI_F, Int.reduceToNat, Nat.reduceAdd, Nat.reduceMul, Int.reduceNeg, Option.bind_some, Int.toNat_natCast])).trans ?_
          rcases hw with rfl | rfl
          · rw [if_pos ⟨g, ⟨fun z => absurd z k2, fun z => absurd z (by omega)⟩, d⟩, yes] at I
            exact I
          · rw [if_neg (fun z => k2 (z.2.1.mpr rfl)), fin] at I
            exact (nay 0 (by omega) (by omega)).trans I
      · rw [if_neg (fun z => d z.2.2), fin] at I
        refine (if_neg (by simp (disch := first | omega | (simp (disch := omega) only [uA_n]; done) | fail) only [iI_lit, iI_add, iI_sub, iI_mul, iI_neg, iI_lt, iI_le, iI_eq, zlt_t, zlt_f, zle_t, zle_f, zeq_t, zeq_f, nle_t, nle_f, iI_cl, rA, rS, rB, wA, wS, wB, mkp, mk2, uA_s, uA_n, ud_s, ud_n, bI_0, bI_1, nor_s, ↓reduceIte, or_false, false_or, or_true, true_or, or_self, not_true_eq_false, not_false_eq_true, and_true, true_and, and_false, false_and, bI_T, bI_F, Int.reduceToNat, Nat.reduceAdd, Nat.reduceMul, Int.reduceNeg, Option.bind_some, Int.toNat_natCast])).trans ?_
        exact I
    · rw [if_neg (fun z => g z.1), fin] at I
      refine (askF yc g).trans ?_
      exact I
theorem em_parts2 (R : RR K D A0 B0 A B) (hF : 1000 ≤ F) (Ax : hI) {x : Nat → Int} {h : Int} (h1 : 1 ≤ h) (h2 : h < A 19 11) {w : Nat} (hw : w = 0 ∨ w = 1) {l a : Int} (hl : 0 ≤ l ∧ l < 2147483648) (ha : 0 ≤ a ∧ a ≤ 660000) : ∀ (r i q : Nat) (y : Nat → Int) (B1 : hI), r = 60 - i → i ≤ 60 → r < q → MS B x y B1 → (∀ p, i ≤ p → p < 60 → clm A p → kd A w p → A 34 p = h → 1 ≤ a) → ∃ (y' : Nat → Int) (B2 : hI), f_m_parts_79 F q (iI h) (iI l) (iI (w : Int)) (lI a) (iI (i : Int)) (mk Ax B1) = some (iI (if l < a then 0 else l - a), mk Ax B2) ∧ MS B x y' B2 ∧ ∀ p, p < 60 → y' p = if i ≤ p ∧ clm A p ∧ kd A w p ∧ A 34 p = h then pay (A 33 p) l a else y p := by
  have hn2 := R.gH.hn2
  intro r
  induction r with
  | zero =>
    intro i q y B1 e hi hq hm _
    obtain ⟨q, rfl⟩ : ∃ k, q = k + 1 := ⟨q - 1, by omega⟩
    refine ⟨y, B1, ?_, hm, fun p hp => (if_neg (by omega)).symm⟩
    rw [show i = 60 by omega, f_m_parts_79]
    simp only [f_m_parts_193]
    refine (if_pos (by simp (disch := first | omega | (simp (disch := omega) only [uA_n]; done) | fail) only [iI_lit, iI_add, iI_sub, iI_mul, iI_neg, iI_lt, iI_le, iI_eq, zlt_t, zlt_f, zle_t, zle_f, zeq_t, zeq_f, nle_t, nle_f, iI_cl, rA, rS, rB, wA, wS, wB, mkp, mk2, uA_s, uA_n, ud_s, ud_n, bI_0, bI_1, nor_s, ↓reduceIte, or_false, false_or, or_true, true_or, or_self, not_true_eq_false, not_false_eq_true, and_true, true_and, and_false, false_and, bI_T, bI_F, Int.reduceToNat, Nat.reduceAdd, Nat.reduceMul, Int.reduceNeg, Option.bind_some, Int.toNat_natCast])).trans ?_
    rw [iI_long (by omega) (by omega)]
    have lt := lg_lt (a := l) (b := a) (by omega) (by omega) (by omega) (by omega)
    by_cases c : l < a
    · rw [if_pos c]
      exact if_pos (by rw [lt]; exact c)
    · rw [if_neg c]
      refine (if_neg (by rw [lt]; exact c)).trans ?_
      rw [lI_sub, lI_int (by omega) (by omega)]
  | succ r ih =>
    intro i q y B1 e hi hq hm hpos
    obtain ⟨q, rfl⟩ : ∃ k, q = k + 1 := ⟨q - 1, by omega⟩
    have R1 := R.ms hm
    have kr := R1.kr (p := i) (by omega)
    have yc := em_isClaim F R1 Ax (p := i) (by omega)
    have skip : ¬ (clm A i ∧ kd A w i ∧ A 34 i = h) → ∃ (y' : Nat → Int) (B2 : hI), f_m_parts_169 F (f_m_parts_79 F q) (iI h) (iI l) (iI (w : Int)) (lI a) (iI (i : Int)) (mk Ax B1) = some (iI (if l < a then 0 else l - a), mk Ax B2) ∧ MS B x y' B2 ∧ ∀ p, p < 60 → y' p = if i ≤ p ∧ clm A p ∧ kd A w p ∧ A 34 p = h then pay (A 33 p) l a else y p := fun hno => by
      obtain ⟨y', B2, u1, u2, u3⟩ := ih (i + 1) q y B1 (by omega) (by omega) (by omega) hm (fun p p1 => hpos p (by omega))
      refine ⟨y', B2, ?_, u2, fun p hp => ?_⟩
      · unfold f_m_parts_169
        exact Eq.trans (by rw [← iI_s]; rfl) u1
      · rw [u3 p hp]
        by_cases z : p = i
        · subst z
          rw [if_neg (by omega), if_neg (fun y => hno y.2)]
        · by_cases c : i + 1 ≤ p ∧ clm A p ∧ kd A w p ∧ A 34 p = h
          · rw [if_pos c, if_pos ⟨by omega, c.2⟩]
          · rw [if_neg c, if_neg (fun y => c ⟨by omega, y.2⟩)]
    rw [f_m_parts_79]
    by_cases g : clm A i
    · have pd := R1.gP.pd i (by omega) g.1
      have ps := R1.gP.ps i (by omega) g.1
      have pk := R1.gP.pk i (by omega) g.1
      by_cases d : A 34 i = h
      · have gen : ∀ u : Nat, u ≤ 1 → (A 32 i = 2 ↔ u = 1) → ∃ (y' : Nat → Int) (B2 : hI), f_m_parts_122 F (f_m_parts_79 F q) (iI h) (iI l) (iI (w : Int)) (lI a) (iI (i : Int)) (iI (u : Int)) (mk Ax B1) = some (iI (if l < a then 0 else l - a), mk Ax B2) ∧ MS B x y' B2 ∧ ∀ p, p < 60 → y' p = if i ≤ p ∧ clm A p ∧ kd A w p ∧ A 34 p = h then pay (A 33 p) l a else y p := fun u hu hku => by
          by_cases uw : u = w
          · subst uw
            have a1 := hpos i (Nat.le_refl _) (by omega) g hku d
            have m1 : 0 ≤ A 33 i * l := Int.mul_nonneg (by omega) hl.1
            have pr := pay_rg (s := A 33 i) (l := l) (a := a) (by omega) hl.1
            have m0 : uA B1 310 i (pay (A 33 i) l a) 399 = B1 399 := uA_n (by omega)
            obtain ⟨y', B2, u1, u2, u3⟩ := ih (i + 1) q (ud y i (pay (A 33 i) l a)) (uA B1 310 i (pay (A 33 i) l a)) (by omega) (by omega) (by omega) ⟨fun k k1 k2 => by rw [uA_n k2]; exact hm.1 k k1 k2, fun p hp => by rw [uA_n (by omega)]; exact hm.2.1 p hp, fun p hp => by
              rw [uA_s]
              by_cases z : p = i
              · subst z; rw [ud_s, ud_s]
              · rw [ud_n z, ud_n z]; exact hm.2.2 p hp⟩ (fun p p1 => hpos p (by omega))
            refine ⟨y', B2, Eq.trans ?_ u1, u2, fun p hp => ?_⟩
            · unfold f_m_parts_122
              refine (if_pos rfl).trans ?_
              by_cases c : l < a
              · have m2 : A 33 i * l ≤ 11000 * 660000 := Int.mul_le_mul (by omega) (by omega) hl.1 (by omega)
                unfold pay at pr m0 ⊢
                rw [if_pos c] at pr m0 ⊢
                refine (if_pos ?_).trans ?_
                · rw [iI_long (by omega) (by omega), lg_lt (by omega) (by omega) (by omega) (by omega)]; exact c
                · refine obd (pap F Ax 2 2 rfl (by omega) (by omega) ps.1) ?_
                  refine (if_neg (by simp (disch := first | omega | (simp (disch := omega) only [uA_n]; done) | fail) only [iI_lit, iI_add, iI_sub, iI_mul, iI_neg, iI_lt, iI_le, iI_eq, zlt_t, zlt_f, zle_t, zle_f, zeq_t, zeq_f, nle_t, nle_f, iI_cl, rA, rS, rB, wA, wS, wB, mkp, mk2, uA_s, uA_n, ud_s, ud_n, bI_0, bI_1, nor_s, ↓reduceIte, or_false, false_or, or_true, true_or, or_self, not_true_eq_false, not_false_eq_true, and_true, true_and, and_false, false_and, bI_T, bI_F, Int.reduceToNat, Nat.reduceAdd, Nat.reduceMul, Int.reduceNeg, Option.bind_some, Int.toNat_natCast, lI_lit, lI_eq])).trans ?_
                  refine (if_neg (by simp (disch := first | omega | (simp (disch := omega) only [uA_n]; done) | fail) only [iI_lit, iI_add, iI_sub, iI_mul, iI_neg, iI_lt, iI_le, iI_eq, zlt_t, zlt_f, zle_t, zle_f, zeq_t, zeq_f, nle_t, nle_f, iI_cl, rA, rS, rB, wA, wS, wB, mkp, mk2, uA_s, uA_n, ud_s, ud_n, bI_0, bI_1, nor_s, ↓reduceIte, or_false, false_or, or_true, true_or, or_self, not_true_eq_false, not_false_eq_true, and_true, true_and, and_false, false_and, bI_T, bI_F, Int.reduceToNat, Nat.reduceAdd, Nat.reduceMul, Int.reduceNeg, Option.bind_some, Int.toNat_natCast])).trans ?_
                  rw [← iI_s]
                  unfold f_m_parts_169
                  simp (disch := first | omega | (simp (disch := omega) only [uA_n]; done) | fail) only [iI_lit, iI_add, iI_sub, iI_mul, iI_neg, iI_lt, iI_le, iI_eq, zlt_t, zlt_f, zle_t, zle_f, zeq_t, zeq_f, nle_t, nle_f, iI_cl, rA, rS, rB, wA, wS, wB, mkp, mk2, uA_s, uA_n, ud_s, ud_n, bI_0, bI_1, nor_s, ↓reduceIte, or_false, false_or, or_true, true_or, or_self, not_true_eq_false, not_false_eq_true, and_true, true_and, and_false, false_and, bI_T, bI_F, Int.reduceToNat, Nat.reduceAdd, Nat.reduceMul, Int.reduceNeg, Option.bind_some, Int.toNat_natCast, iI_long, lI_mul, lI_div, lI_int, mk2 m0]
              · unfold pay at pr m0 ⊢
                rw [if_neg c] at pr m0 ⊢
                refine (if_neg ?_).trans ?_
                · rw [iI_long (by omega) (by omega), lg_lt (by omega) (by omega) (by omega) (by omega)]; exact c
                · refine obd (pap F Ax 2 2 rfl (by omega) (by omega) ps.1) ?_
                  refine (if_neg (by simp (disch := first | omega | (simp (disch := omega) only [uA_n]; done) | fail) only [iI_lit, iI_add, iI_sub, iI_mul, iI_neg, iI_lt, iI_le, iI_eq, zlt_t, zlt_f, zle_t, zle_f, zeq_t, zeq_f, nle_t, nle_f, iI_cl, rA, rS, rB, wA, wS, wB, mkp, mk2, uA_s, uA_n, ud_s, ud_n, bI_0, bI_1, nor_s, ↓reduceIte, or_false, false_or, or_true, true_or, or_self, not_true_eq_false, not_false_eq_true, and_true, true_and, and_false, false_and, bI_T, bI_F, Int.reduceToNat, Nat.reduceAdd, Nat.reduceMul, Int.reduceNeg, Option.bind_some, Int.toNat_natCast])).trans ?_
                  rw [← iI_s]
                  unfold f_m_parts_169
                  simp (disch := first | omega | (simp (disch := omega) only [uA_n]; done) | fail) only [iI_lit, iI_add, iI_sub, iI_mul, iI_neg, iI_lt, iI_le, iI_eq, zlt_t, zlt_f, zle_t, zle_f, zeq_t, zeq_f, nle_t, nle_f, iI_cl, rA, rS, rB, wA, wS, wB, mkp, mk2, uA_s, uA_n, ud_s, ud_n, bI_0, bI_1, nor_s, ↓reduceIte, or_false, false_or, or_true, true_or, or_self, not_true_eq_false, not_false_eq_true, and_true, true_and, and_false, false_and, bI_T, bI_F, Int.reduceToNat, Nat.reduceAdd, Nat.reduceMul, Int.reduceNeg, Option.bind_some, Int.toNat_natCast, mk2 m0]
            · rw [u3 p hp]
              by_cases z : p = i
              · subst z
                rw [if_neg (by omega), if_pos ⟨Nat.le_refl _, g, hku, d⟩, ud_s]
              · rw [ud_n z]
                by_cases c : i + 1 ≤ p ∧ clm A p ∧ kd A u p ∧ A 34 p = h
                · rw [if_pos c, if_pos ⟨by omega, c.2⟩]
                · rw [if_neg c, if_neg (fun y => c ⟨by omega, y.2⟩)]
          · have no : ¬ (clm A i ∧ kd A w i ∧ A 34 i = h) := fun z => by
              have := z.2.1
              by_cases q2 : A 32 i = 2
              · exact uw ((hku.mp q2).trans (this.mp q2).symm)
              · have w1 : w ≠ 1 := fun y => q2 (this.mpr y)
                have u1 : u ≠ 1 := fun y => q2 (hku.mpr y)
                omega
            obtain ⟨y', B2, u1, u2⟩ := skip no
            refine ⟨y', B2, Eq.trans ?_ u1, u2⟩
            unfold f_m_parts_122
            exact if_neg (by simp (disch := first | omega | (simp (disch := omega) only [uA_n]; done) | fail) only [iI_lit, iI_add, iI_sub, iI_mul, iI_neg, iI_lt, iI_le, iI_eq, zlt_t, zlt_f, zle_t, zle_f, zeq_t, zeq_f, nle_t, nle_f, iI_cl, rA, rS, rB, wA, wS, wB, mkp, mk2, uA_s, uA_n, ud_s, ud_n, bI_0, bI_1, nor_s, ↓reduceIte, or_false, false_or, or_true, true_or, or_self, not_true_eq_false, not_false_eq_true, and_true, true_and, and_false, false_and, bI_T, bI_F, Int.reduceToNat, Nat.reduceAdd, Nat.reduceMul, Int.reduceNeg, Option.bind_some, Int.toNat_natCast])
        by_cases k2 : A 32 i = 2
        · obtain ⟨y', B2, u1, u2⟩ := gen 1 (by omega) ⟨fun _ => rfl, fun _ => k2⟩
          refine ⟨y', B2, Eq.trans ?_ u1, u2⟩
          refine (if_neg (by simp (disch := first | omega | (simp (disch := omega) only [uA_n]; done) | fail) only [iI_lit, iI_add, iI_sub, iI_mul, iI_neg, iI_lt, iI_le, iI_eq, zlt_t, zlt_f, zle_t, zle_f, zeq_t, zeq_f, nle_t, nle_f, iI_cl, rA, rS, rB, wA, wS, wB, mkp, mk2, uA_s, uA_n, ud_s, ud_n, bI_0, bI_1, nor_s, ↓reduceIte, or_false, false_or, or_true, true_or, or_self, not_true_eq_false, not_false_eq_true, and_true, true_and, and_false, false_and, bI_T, bI_F, Int.reduceToNat, Nat.reduceAdd, Nat.reduceMul, Int.reduceNeg, Option.bind_some, Int.toNat_natCast])).trans ?_
          refine (askT yc g).trans ?_
          refine obd (pap F Ax 3 3 rfl (by omega) (by omega) pd.1) ?_
          refine (if_pos (by simp (disch := first | omega | (simp (disch := omega) only [uA_n]; done) | fail) only [iI_lit, iI_add, iI_sub, iI_mul, iI_neg, iI_lt, iI_le, iI_eq, zlt_t, zlt_f, zle_t, zle_f, zeq_t, zeq_f, nle_t, nle_f, iI_cl, rA, rS, rB, wA, wS, wB, mkp, mk2, uA_s, uA_n, ud_s, ud_n, bI_0, bI_1, nor_s, ↓reduceIte, or_false, false_or, or_true, true_or, or_self, not_true_eq_false, not_false_eq_true, and_true, true_and, and_false, false_and, bI_T, bI_F, Int.reduceToNat, Nat.reduceAdd, Nat.reduceMul, Int.reduceNeg, Option.bind_some, Int.toNat_natCast, d])).trans ?_
          refine obd (pap F Ax 1 1 rfl (by omega) (by omega) pk) ?_
          exact if_pos (by simp (disch := first | omega | (simp (disch := omega) only [uA_n]; done) | fail) only [iI_lit, iI_add, iI_sub, iI_mul, iI_neg, iI_lt, iI_le, iI_eq, zlt_t, zlt_f, zle_t, zle_f, zeq_t, zeq_f, nle_t, nle_f, iI_cl, rA, rS, rB, wA, wS, wB, mkp, mk2, uA_s, uA_n, ud_s, ud_n, bI_0, bI_1, nor_s, ↓reduceIte, or_false, false_or, or_true, true_or, or_self, not_true_eq_false, not_false_eq_true, and_true, true_and, and_false, false_and, bI_T, bI_F, Int.reduceToNat, Nat.reduceAdd, Nat.reduceMul, Int.reduceNeg, Option.bind_some, Int.toNat_natCast, k2])
        · obtain ⟨y', B2, u1, u2⟩ := gen 0 (by omega) ⟨fun z => absurd z k2, fun z => absurd z (by omega)⟩
          refine ⟨y', B2, Eq.trans ?_ u1, u2⟩
          refine (if_neg (by simp (disch := first | omega | (simp (disch := omega) only [uA_n]; done) | fail) only [iI_lit, iI_add, iI_sub, iI_mul, iI_neg, iI_lt, iI_le, iI_eq, zlt_t, zlt_f, zle_t, zle_f, zeq_t, zeq_f, nle_t, nle_f, iI_cl, rA, rS, rB, wA, wS, wB, mkp, mk2, uA_s, uA_n, ud_s, ud_n, bI_0, bI_1, nor_s, ↓reduceIte, or_false, false_or, or_true, true_or, or_self, not_true_eq_false, not_false_eq_true, and_true, true_and, and_false, false_and, bI_T, bI_F, Int.reduceToNat, Nat.reduceAdd, Nat.reduceMul, Int.reduceNeg, Option.bind_some, Int.toNat_natCast])).trans ?_
          refine (askT yc g).trans ?_
          refine obd (pap F Ax 3 3 rfl (by omega) (by omega) pd.1) ?_
          refine (if_pos (by simp (disch := first | omega | (simp (disch := omega) only [uA_n]; done) | fail) only [iI_lit, iI_add, iI_sub, iI_mul, iI_neg, iI_lt, iI_le, iI_eq, zlt_t, zlt_f, zle_t, zle_f, zeq_t, zeq_f, nle_t, nle_f, iI_cl, rA, rS, rB, wA, wS, wB, mkp, mk2, uA_s, uA_n, ud_s, ud_n, bI_0, bI_1, nor_s, ↓reduceIte, or_false, false_or, or_true, true_or, or_self, not_true_eq_false, not_false_eq_true, and_true, true_and, and_false, false_and, bI_T, bI_F, Int.reduceToNat, Nat.reduceAdd, Nat.reduceMul, Int.reduceNeg, Option.bind_some, Int.toNat_natCast, d])).trans ?_
          refine obd (pap F Ax 1 1 rfl (by omega) (by omega) pk) ?_
          exact if_neg (by simp (disch := first | omega | (simp (disch := omega) only [uA_n]; done) | fail) only [iI_lit, iI_add, iI_sub, iI_mul, iI_neg, iI_lt, iI_le, iI_eq, zlt_t, zlt_f, zle_t, zle_f, zeq_t, zeq_f, nle_t, nle_f, iI_cl, rA, rS, rB, wA, wS, wB, mkp, mk2, uA_s, uA_n, ud_s, ud_n, bI_0, bI_1, nor_s, ↓reduceIte, or_false, false_or, or_true, true_or, or_self, not_true_eq_false, not_false_eq_true, and_true, true_and, and_false, false_and, bI_T, bI_F, Int.reduceToNat, Nat.reduceAdd, Nat.reduceMul, Int.reduceNeg, Option.bind_some, Int.toNat_natCast])
      · obtain ⟨y', B2, u1, u2⟩ := skip (fun z => d z.2.2)
        refine ⟨y', B2, Eq.trans ?_ u1, u2⟩
        refine (if_neg (by simp (disch := first | omega | (simp (disch := omega) only [uA_n]; done) | fail) only [iI_lit, iI_add, iI_sub, iI_mul, iI_neg, iI_lt, iI_le, iI_eq, zlt_t, zlt_f, zle_t, zle_f, zeq_t, zeq_f, nle_t, nle_f, iI_cl, rA, rS, rB, wA, wS, wB, mkp, mk2, uA_s, uA_n, ud_s, ud_n, bI_0, bI_1, nor_s, ↓reduceIte, or_false, false_or, or_true, true_or, or_self, not_true_eq_false, not_false_eq_true, and_true, true_and, and_false, false_and, bI_T, bI_F, Int.reduceToNat, Nat.reduceAdd, Nat.reduceMul, Int.reduceNeg, Option.bind_some, Int.toNat_natCast])).trans ?_
        refine (askT yc g).trans ?_
        refine obd (pap F Ax 3 3 rfl (by omega) (by omega) pd.1) ?_
        exact if_neg (by simp (disch := first | omega | (simp (disch := omega) only [uA_n]; done) | fail) only [iI_lit, iI_add, iI_sub, iI_mul, iI_neg, iI_lt, iI_le, iI_eq, zlt_t, zlt_f, zle_t, zle_f, zeq_t, zeq_f, nle_t, nle_f, iI_cl, rA, rS, rB, wA, wS, wB, mkp, mk2, uA_s, uA_n, ud_s, ud_n, bI_0, bI_1, nor_s, ↓reduceIte, or_false, false_or, or_true, true_or, or_self, not_true_eq_false, not_false_eq_true, and_true, true_and, and_false, false_and, bI_T, bI_F, Int.reduceToNat, Nat.reduceAdd, Nat.reduceMul, Int.reduceNeg, Option.bind_some, Int.toNat_natCast])
    · obtain ⟨y', B2, u1, u2⟩ := skip (fun z => g z.1)
      refine ⟨y', B2, Eq.trans ?_ u1, u2⟩
      refine (if_neg (by simp (disch := first | omega | (simp (disch := omega) only [uA_n]; done) | fail) only [iI_lit, iI_add, iI_sub, iI_mul, iI_neg, iI_lt, iI_le, iI_eq, zlt_t, zlt_f, zle_t, zle_f, zeq_t, zeq_f, nle_t, nle_f, iI_cl, rA, rS, rB, wA, wS, wB, mkp, mk2, uA_s, uA_n, ud_s, ud_n, bI_0, bI_1, nor_s, ↓reduceIte, or_false, false_or, or_true, true_or, or_self, not_true_eq_false, not_false_eq_true, and_true, true_and, and_false, false_and, bI_T, bI_F, Int.reduceToNat, Nat.reduceAdd, Nat.reduceMul, Int.reduceNeg, Option.bind_some, Int.toNat_natCast])).trans ?_
      exact askF yc g
end MCLM
