/-! CALLS: says, why -/
section
variable {K D : Int} {A0 B0 A B : hI} {i : Nat} (F : Nat)
/-- what is wrong with a question of a KEY and a PAPER -/
def fq (A : hI) (z p : Int) : Int := if ¬ (0 ≤ z ∧ z ≤ 6) then -3 else if p = -1 then 0 else if ¬ (0 ≤ p ∧ p < 60 ∧ A 32 p.toNat ≠ -1) then -3 else if A 32 p.toNat = 1 then 0 else -5
theorem fq_c (A : hI) (z p : Int) : fq A z p = 0 ∨ fq A z p = -3 ∨ fq A z p = -5 := by
  unfold fq
  (repeat' split) <;> simp
theorem fq_0 {A : hI} {z p : Int} (h : fq A z p = 0) : (0 ≤ z ∧ z < 7) ∧ (p = -1 ∨ (0 ≤ p ∧ p < 60 ∧ A 32 p.toNat ≠ -1)) := by
  unfold fq at h
  by_cases c : 0 ≤ z ∧ z ≤ 6
  · rw [if_neg (by omega)] at h
    refine ⟨by omega, ?_⟩
    by_cases d : p = -1
    · exact Or.inl d
    · rw [if_neg d] at h
      by_cases e : 0 ≤ p ∧ p < 60 ∧ A 32 p.toNat ≠ -1
      · exact Or.inr e
      · rw [if_pos e] at h; omega
  · rw [if_pos c] at h; omega
theorem ex_fq (R : RR K D A0 B0 A B) (Bx : hI) {z p : Int} (za : -2147483648 ≤ z) (zb : z < 2147483648) (pa : -2147483648 ≤ p) (pb : p < 2147483648) : f_x_faultOfQuestion F (iI z) (iI p) (mk A Bx) = some (iI (fq A z p), mk A Bx) := by
  simp only [f_x_faultOfQuestion, f_x_faultOfQuestion_10, f_x_faultOfQuestion_59, fq]
  by_cases c : 0 ≤ z ∧ z ≤ 6
  · refine (if_neg (by simp (disch := first | omega | (simp (disch := omega) only [uA_n]; done) | fail) only [iI_lit, iI_add, iI_sub, iI_mul, iI_neg, iI_lt, iI_le, iI_eq, zlt_t, zlt_f, zle_t, zle_f, zeq_t, zeq_f, nle_t, nle_f, iI_cl, rA, rS, rB, wA, wS, wB, mkp, mk2, uA_s, uA_n, ud_s, ud_n, bI_0, bI_1, nor_s, ↓reduceIte, or_false, false_or, or_true, true_or, or_self, not_true_eq_false, not_false_eq_true, and_true, true_and, and_false, false_and, bI_T, bI_F, Int.reduceToNat, Nat.reduceAdd, Nat.reduceMul, Int.reduceNeg, Option.bind_some, Int.toNat_natCast])).trans ?_
    refine (if_pos (by simp (disch := first | omega | (simp (disch := omega) only [uA_n]; done) | fail) only [iI_lit, iI_add, iI_sub, iI_mul, iI_neg, iI_lt, iI_le, iI_eq, zlt_t, zlt_f, zle_t, zle_f, zeq_t, zeq_f, nle_t, nle_f, iI_cl, rA, rS, rB, wA, wS, wB, mkp, mk2, uA_s, uA_n, ud_s, ud_n, bI_0, bI_1, nor_s, ↓reduceIte, or_false, false_or, or_true, true_or, or_self, not_true_eq_false, not_false_eq_true, and_true, true_and, and_false, false_and, bI_T, bI_F, Int.reduceToNat, Nat.reduceAdd, Nat.reduceMul, Int.reduceNeg, Option.bind_some, Int.toNat_natCast])).trans ?_
    rw [if_neg (show ¬ ¬ (0 ≤ z ∧ z ≤ 6) by omega)]
    by_cases d : p = -1
    · refine (if_pos (by simp (disch := first | omega | (simp (disch := omega) only [uA_n]; done) | fail) only [iI_lit, iI_add, iI_sub, iI_mul, iI_neg, iI_lt, iI_le, iI_eq, zlt_t, zlt_f, zle_t, zle_f, zeq_t, zeq_f, nle_t, nle_f, iI_cl, rA, rS, rB, wA, wS, wB, mkp, mk2, uA_s, uA_n, ud_s, ud_n, bI_0, bI_1, nor_s, ↓reduceIte, or_false, false_or, or_true, true_or, or_self, not_true_eq_false, not_false_eq_true, and_true, true_and, and_false, false_and, bI_T, bI_F, Int.reduceToNat, Nat.reduceAdd, Nat.reduceMul, Int.reduceNeg, Option.bind_some, Int.toNat_natCast])).trans ?_
      rw [if_pos d]; rfl
    · refine (if_neg (by simp (disch := first | omega | (simp (disch := omega) only [uA_n]; done) | fail) only [iI_lit, iI_add, iI_sub, iI_mul, iI_neg, iI_lt, iI_le, iI_eq, zlt_t, zlt_f, zle_t, zle_f, zeq_t, zeq_f, nle_t, nle_f, iI_cl, rA, rS, rB, wA, wS, wB, mkp, mk2, uA_s, uA_n, ud_s, ud_n, bI_0, bI_1, nor_s, ↓reduceIte, or_false, false_or, or_true, true_or, or_self, not_true_eq_false, not_false_eq_true, and_true, true_and, and_false, false_and, bI_T, bI_F, Int.reduceToNat, Nat.reduceAdd, Nat.reduceMul, Int.reduceNeg, Option.bind_some, Int.toNat_natCast])).trans ?_
      rw [if_neg d]
      by_cases e : 0 ≤ p ∧ p < 60 ∧ A 32 p.toNat ≠ -1
      · refine (askT (ex_isPaper F R Bx p pa pb) e).trans ?_
        have kr := R.kr (p := p.toNat) (by omega)
        rw [if_neg (show ¬ ¬ (0 ≤ p ∧ p < 60 ∧ A 32 p.toNat ≠ -1) from fun z => z e)]
        refine (if_neg (by simp (disch := first | omega | (simp (disch := omega) only [uA_n]; done) | fail) only [iI_lit, iI_add, iI_sub, iI_mul, iI_neg, iI_lt, iI_le, iI_eq, zlt_t, zlt_f, zle_t, zle_f, zeq_t, zeq_f, nle_t, nle_f, iI_cl, rA, rS, rB, wA, wS, wB, mkp, mk2, uA_s, uA_n, ud_s, ud_n, bI_0, bI_1, nor_s, ↓reduceIte, or_false, false_or, or_true, true_or, or_self, not_true_eq_false, not_false_eq_true, and_true, true_and, and_false, false_and, bI_T, bI_F, Int.reduceToNat, Nat.reduceAdd, Nat.reduceMul, Int.reduceNeg, Option.bind_some, Int.toNat_natCast])).trans ?_
        by_cases g : A 32 p.toNat = 1
        · refine (if_pos (by simp (disch := first | omega | (simp (disch := omega) only [uA_n]; done) | fail) only [iI_lit, iI_add, iI_sub, iI_mul, iI_neg, iI_lt, iI_le, iI_eq, zlt_t, zlt_f, zle_t, zle_f, zeq_t, zeq_f, nle_t, nle_f, iI_cl, rA, rS, rB, wA, wS, wB, mkp, mk2, uA_s, uA_n, ud_s, ud_n, bI_0, bI_1, nor_s, ↓reduceIte, or_false, false_or, or_true, true_or, or_self, not_true_eq_false, not_false_eq_true, and_true, true_and, and_false, false_and, bI_T, bI_F, Int.reduceToNat, Nat.reduceAdd, Nat.reduceMul, Int.reduceNeg, Option.bind_some, Int.toNat_natCast, g])).trans ?_
          rw [if_pos g]; rfl
        · refine (if_neg (by simp (disch := first | omega | (simp (disch := omega) only [uA_n]; done) | fail) only [iI_lit, iI_add, iI_sub, iI_mul, iI_neg, iI_lt, iI_le, iI_eq, zlt_t, zlt_f, zle_t, zle_f, zeq_t, zeq_f, nle_t, nle_f, iI_cl, rA, rS, rB, wA, wS, wB, mkp, mk2, uA_s, uA_n, ud_s, ud_n, bI_0, bI_1, nor_s, ↓reduceIte, or_false, false_or, or_true, true_or, or_self, not_true_eq_false, not_false_eq_true, and_true, true_and, and_false, false_and, bI_T, bI_F, Int.reduceToNat, Nat.reduceAdd, Nat.reduceMul, Int.reduceNeg, Option.bind_some, Int.toNat_natCast])).trans ?_
          rw [if_neg g]; rfl
      · refine (askF (ex_isPaper F R Bx p pa pb) e).trans ?_
        rw [if_pos e]; rfl
  · rw [if_pos c]
    by_cases d : z < 0
    · exact (if_pos (by simp (disch := first | omega | (simp (disch := omega) only [uA_n]; done) | fail) only [iI_lit, iI_add, iI_sub, iI_mul, iI_neg, iI_lt, iI_le, iI_eq, zlt_t, zlt_f, zle_t, zle_f, zeq_t, zeq_f, nle_t, nle_f, iI_cl, rA, rS, rB, wA, wS, wB, mkp, mk2, uA_s, uA_n, ud_s, ud_n, bI_0, bI_1, nor_s, ↓reduceIte, or_false, false_or, or_true, true_or, or_self, not_true_eq_false, not_false_eq_true, and_true, true_and, and_false, false_and, bI_T, bI_F, Int.reduceToNat, Nat.reduceAdd, Nat.reduceMul, Int.reduceNeg, Option.bind_some, Int.toNat_natCast])).trans rfl
    · refine (if_neg (by simp (disch := first | omega | (simp (disch := omega) only [uA_n]; done) | fail) only [iI_lit, iI_add, iI_sub, iI_mul, iI_neg, iI_lt, iI_le, iI_eq, zlt_t, zlt_f, zle_t, zle_f, zeq_t, zeq_f, nle_t, nle_f, iI_cl, rA, rS, rB, wA, wS, wB, mkp, mk2, uA_s, uA_n, ud_s, ud_n, bI_0, bI_1, nor_s, ↓reduceIte, or_false, false_or, or_true, true_or, or_self, not_true_eq_false, not_false_eq_true, and_true, true_and, and_false, false_and, bI_T, bI_F, Int.reduceToNat, Nat.reduceAdd, Nat.reduceMul, Int.reduceNeg, Option.bind_some, Int.toNat_natCast])).trans ?_
      exact (if_neg (by simp (disch := first | omega | (simp (disch := omega) only [uA_n]; done) | fail) only [iI_lit, iI_add, iI_sub, iI_mul, iI_neg, iI_lt, iI_le, iI_eq, zlt_t, zlt_f, zle_t, zle_f, zeq_t, zeq_f, nle_t, nle_f, iI_cl, rA, rS, rB, wA, wS, wB, mkp, mk2, uA_s, uA_n, ud_s, ud_n, bI_0, bI_1, nor_s, ↓reduceIte, or_false, false_or, or_true, true_or, or_self, not_true_eq_false, not_false_eq_true, and_true, true_and, and_false, false_and, bI_T, bI_F, Int.reduceToNat, Nat.reduceAdd, Nat.reduceMul, Int.reduceNeg, Option.bind_some, Int.toNat_natCast])).trans rfl
theorem em_fq (R : RR K D A0 B0 A B) (Ax : hI) {z p : Int} (za : -2147483648 ≤ z) (zb : z < 2147483648) (pa : -2147483648 ≤ p) (pb : p < 2147483648) : f_m_noBill F (iI z) (iI p) (mk Ax B) = some (iI (fq A z p), mk Ax B) := by
  simp only [f_m_noBill, f_m_noBill_23, f_m_noBill_28, f_m_noBill_48, f_m_noBill_49, fq]
  have ei := em_in F z 0 6 (mk Ax B) za zb (by omega) (by omega) (by omega) (by omega)
  by_cases c : 0 ≤ z ∧ z ≤ 6
  · refine (askT ei c).trans ?_
    rw [if_neg (show ¬ ¬ (0 ≤ z ∧ z ≤ 6) by omega)]
    by_cases d : p = -1
    · refine (if_pos (by simp (disch := first | omega | (simp (disch := omega) only [uA_n]; done) | fail) only [iI_lit, iI_add, iI_sub, iI_mul, iI_neg, iI_lt, iI_le, iI_eq, zlt_t, zlt_f, zle_t, zle_f, zeq_t, zeq_f, nle_t, nle_f, iI_cl, rA, rS, rB, wA, wS, wB, mkp, mk2, uA_s, uA_n, ud_s, ud_n, bI_0, bI_1, nor_s, ↓reduceIte, or_false, false_or, or_true, true_or, or_self, not_true_eq_false, not_false_eq_true, and_true, true_and, and_false, false_and, bI_T, bI_F, Int.reduceToNat, Nat.reduceAdd, Nat.reduceMul, Int.reduceNeg, Option.bind_some, Int.toNat_natCast])).trans ?_
      refine (if_pos (by simp (disch := first | omega | (simp (disch := omega) only [uA_n]; done) | fail) only [iI_lit, iI_add, iI_sub, iI_mul, iI_neg, iI_lt, iI_le, iI_eq, zlt_t, zlt_f, zle_t, zle_f, zeq_t, zeq_f, nle_t, nle_f, iI_cl, rA, rS, rB, wA, wS, wB, mkp, mk2, uA_s, uA_n, ud_s, ud_n, bI_0, bI_1, nor_s, ↓reduceIte, or_false, false_or, or_true, true_or, or_self, not_true_eq_false, not_false_eq_true, and_true, true_and, and_false, false_and, bI_T, bI_F, Int.reduceToNat, Nat.reduceAdd, Nat.reduceMul, Int.reduceNeg, Option.bind_some, Int.toNat_natCast])).trans ?_
      rw [if_pos d]; rfl
    · refine (if_neg (by simp (disch := first | omega | (simp (disch := omega) only [uA_n]; done) | fail) only [iI_lit, iI_add, iI_sub, iI_mul, iI_neg, iI_lt, iI_le, iI_eq, zlt_t, zlt_f, zle_t, zle_f, zeq_t, zeq_f, nle_t, nle_f, iI_cl, rA, rS, rB, wA, wS, wB, mkp, mk2, uA_s, uA_n, ud_s, ud_n, bI_0, bI_1, nor_s, ↓reduceIte, or_false, false_or, or_true, true_or, or_self, not_true_eq_false, not_false_eq_true, and_true, true_and, and_false, false_and, bI_T, bI_F, Int.reduceToNat, Nat.reduceAdd, Nat.reduceMul, Int.reduceNeg, Option.bind_some, Int.toNat_natCast])).trans ?_
      rw [if_neg d]
      by_cases e : 0 ≤ p ∧ p < 60 ∧ A 32 p.toNat ≠ -1
      · refine (askT (em_isPaper F R Ax p pa pb) e).trans ?_
        have kr := R.kr (p := p.toNat) (by omega)
        rw [if_neg (show ¬ ¬ (0 ≤ p ∧ p < 60 ∧ A 32 p.toNat ≠ -1) from fun z => z e)]
        refine (if_neg (by simp (disch := first | omega | (simp (disch := omega) only [uA_n]; done) | fail) only [iI_lit, iI_add, iI_sub, iI_mul, iI_neg, iI_lt, iI_le, iI_eq, zlt_t, zlt_f, zle_t, zle_f, zeq_t, zeq_f, nle_t, nle_f, iI_cl, rA, rS, rB, wA, wS, wB, mkp, mk2, uA_s, uA_n, ud_s, ud_n, bI_0, bI_1, nor_s, ↓reduceIte, or_false, false_or, or_true, true_or, or_self, not_true_eq_false, not_false_eq_true, and_true, true_and, and_false, false_and, bI_T, bI_F, Int.reduceToNat, Nat.reduceAdd, Nat.reduceMul, Int.reduceNeg, Option.bind_some, Int.toNat_natCast])).trans ?_
        refine obd (em_paper F p 1 Ax B (by omega) (by omega) (by omega) (by omega)) ?_
        have pk := R.gP.pk p.toNat (by omega) e.2.2
        by_cases g : A 32 p.toNat = 1
        · refine (if_pos (by simp (disch := first | omega | (simp (disch := omega) only [uA_n]; done) | fail) only [iI_lit, iI_add, iI_sub, iI_mul, iI_neg, iI_lt, iI_le, iI_eq, zlt_t, zlt_f, zle_t, zle_f, zeq_t, zeq_f, nle_t, nle_f, iI_cl, rA, rS, rB, wA, wS, wB, mkp, mk2, uA_s, uA_n, ud_s, ud_n, bI_0, bI_1, nor_s, ↓reduceIte, or_false, false_or, or_true, true_or, or_self, not_true_eq_false, not_false_eq_true, and_true, true_and, and_false, false_and, bI_T, bI_F, Int.reduceToNat, Nat.reduceAdd, Nat.reduceMul, Int.reduceNeg, Option.bind_some, Int.toNat_natCast, pk, g])).trans ?_
          rw [if_pos g]; rfl
        · refine (if_neg (by simp (disch := first | omega | (simp (disch := omega) only [uA_n]; done) | fail) only [iI_lit, iI_add, iI_sub, iI_mul, iI_neg, iI_lt, iI_le, iI_eq, zlt_t, zlt_f, zle_t, zle_f, zeq_t, zeq_f, nle_t, nle_f, iI_cl, rA, rS, rB, wA, wS, wB, mkp, mk2, uA_s, uA_n, ud_s, ud_n, bI_0, bI_1, nor_s, ↓reduceIte, or_false, false_or, or_true, true_or, or_self, not_true_eq_false, not_false_eq_true, and_true, true_and, and_false, false_and, bI_T, bI_F, Int.reduceToNat, Nat.reduceAdd, Nat.reduceMul, Int.reduceNeg, Option.bind_some, Int.toNat_natCast, pk])).trans ?_
          rw [if_neg g]; rfl
      · refine (askF (em_isPaper F R Ax p pa pb) e).trans ?_
        rw [if_pos e]; rfl
  · refine (askF ei c).trans ?_
    rw [if_pos c]; rfl
theorem c_why (h : Inv i A B) (hi : i < 512) (hF : 1000 ≤ F) (v1 v2 : Int32) : CP i A B (f_x_why F v1 v2) (f_m_why F v1 v2) := by
  obtain ⟨z, za, zb, rfl⟩ : ∃ z : Int, -2147483648 ≤ z ∧ z < 2147483648 ∧ v1 = iI z := ⟨_, (i32rg v1).1, (i32rg v1).2, iI_of v1⟩
  obtain ⟨p, pa, pb, rfl⟩ : ∃ z : Int, -2147483648 ≤ z ∧ z < 2147483648 ∧ v2 = iI z := ⟨_, (i32rg v2).1, (i32rg v2).2, iI_of v2⟩
  have R := h.rr
  have hK := h.kmx (by omega)
  have fc := fq_c A z p
  by_cases c : fq A z p = 0
  · obtain ⟨q1, q2⟩ := fq_0 c
    refine cp_ans h (iI (twh A B p z)) (fun Bx => ?_) (fun Ax => ?_)
    · obtain ⟨A1, x1, g1⟩ := ex_which F R hF (by omega) Bx q2 q1.1 q1.2
      refine ⟨A1, nA.law g1, ?_⟩
      unfold f_x_why
      refine obd (ex_fq F R Bx za zb pa pb) ?_
      refine (if_pos (by rw [c]; rfl)).trans ?_
      exact obd x1 rfl
    · obtain ⟨B1, y1, g1, -⟩ := em_rules F Ax R hF (by omega) q2 q1.1 q1.2
      refine ⟨B1, nB.four g1, ?_⟩
      unfold f_m_why
      refine obd (em_fq F R Ax za zb pa pb) ?_
      refine (if_pos (by rw [c]; show (0 : Int32) ≤ iI 0; decide)).trans ?_
      exact obd y1 rfl
  · refine cp_no F h (v := fq A z p) (by omega) (by omega) (fun Bx => ?_) (fun Ax => ?_)
    · unfold f_x_why
      refine obd (ex_fq F R Bx za zb pa pb) ?_
      exact (if_neg (by simp (disch := first | omega | (simp (disch := omega) only [uA_n]; done) | fail) only [iI_lit, iI_add, iI_sub, iI_mul, iI_neg, iI_lt, iI_le, iI_eq, zlt_t, zlt_f, zle_t, zle_f, zeq_t, zeq_f, nle_t, nle_f, iI_cl, rA, rS, rB, wA, wS, wB, mkp, mk2, uA_s, uA_n, ud_s, ud_n, bI_0, bI_1, nor_s, ↓reduceIte, or_false, false_or, or_true, true_or, or_self, not_true_eq_false, not_false_eq_true, and_true, true_and, and_false, false_and, bI_T, bI_F, Int.reduceToNat, Nat.reduceAdd, Nat.reduceMul, Int.reduceNeg, Option.bind_some, Int.toNat_natCast])).trans rfl
    · unfold f_m_why
      refine obd (em_fq F R Ax za zb pa pb) ?_
      exact (if_neg (by simp (disch := first | omega | (simp (disch := omega) only [uA_n]; done) | fail) only [iI_lit, iI_add, iI_sub, iI_mul, iI_neg, iI_lt, iI_le, iI_eq, zlt_t, zlt_f, zle_t, zle_f, zeq_t, zeq_f, nle_t, nle_f, iI_cl, rA, rS, rB, wA, wS, wB, mkp, mk2, uA_s, uA_n, ud_s, ud_n, bI_0, bI_1, nor_s, ↓reduceIte, or_false, false_or, or_true, true_or, or_self, not_true_eq_false, not_false_eq_true, and_true, true_and, and_false, false_and, bI_T, bI_F, Int.reduceToNat, Nat.reduceAdd, Nat.reduceMul, Int.reduceNeg, Option.bind_some, Int.toNat_natCast])).trans rfl
theorem em_default (R : RR K D A0 B0 A B) (Ax : hI) {z : Int} (h1 : z ≠ 1) (h0 : 0 ≤ z) (h7 : z < 7) : f_m_defaultOf F (iI z) (mk Ax B) = some (iI (dfl A z), mk Ax B) := by
  simp only [f_m_defaultOf, f_m_defaultOf_33, dfl]
  by_cases c0 : z = 0
  · subst c0
    refine (if_pos rfl).trans ?_
    refine obd (em_hs F 0 2 Ax B (by omega) (by omega) (by omega) (by omega)) ?_
    rw [if_pos rfl]
    have hg := R.gH.hg 0 (by omega)
    exact congrArg some (Prod.ext (congrArg iI hg) rfl)
  · refine (if_neg (by simp (disch := first | omega | (simp (disch := omega) only [uA_n]; done) | fail) only [iI_lit, iI_add, iI_sub, iI_mul, iI_neg, iI_lt, iI_le, iI_eq, zlt_t, zlt_f, zle_t, zle_f, zeq_t, zeq_f, nle_t, nle_f, iI_cl, rA, rS, rB, wA, wS, wB, mkp, mk2, uA_s, uA_n, ud_s, ud_n, bI_0, bI_1, nor_s, ↓reduceIte, or_false, false_or, or_true, true_or, or_self, not_true_eq_false, not_false_eq_true, and_true, true_and, and_false, false_and, bI_T, bI_F, Int.reduceToNat, Nat.reduceAdd, Nat.reduceMul, Int.reduceNeg, Option.bind_some, Int.toNat_natCast])).trans ?_
    rw [if_neg c0, if_neg h1]
    by_cases c2 : z = 2
    · subst c2; refine (if_pos rfl).trans ?_; rw [if_pos rfl]; rfl
    · refine (if_neg (by simp (disch := first | omega | (simp (disch := omega) only [uA_n]; done) | fail) only [iI_lit, iI_add, iI_sub, iI_mul, iI_neg, iI_lt, iI_le, iI_eq, zlt_t, zlt_f, zle_t, zle_f, zeq_t, zeq_f, nle_t, nle_f, iI_cl, rA, rS, rB, wA, wS, wB, mkp, mk2, uA_s, uA_n, ud_s, ud_n, bI_0, bI_1, nor_s, ↓reduceIte, or_false, false_or, or_true, true_or, or_self, not_true_eq_false, not_false_eq_true, and_true, true_and, and_false, false_and, bI_T, bI_F, Int.reduceToNat, Nat.reduceAdd, Nat.reduceMul, Int.reduceNeg, Option.bind_some, Int.toNat_natCast])).trans ?_
      rw [if_neg c2]
      by_cases c5 : z = 5
      · subst c5; refine (if_pos rfl).trans ?_; rw [if_pos rfl]; rfl
      · refine (if_neg (by simp (disch := first | omega | (simp (disch := omega) only [uA_n]; done) | fail) only [iI_lit, iI_add, iI_sub, iI_mul, iI_neg, iI_lt, iI_le, iI_eq, zlt_t, zlt_f, zle_t, zle_f, zeq_t, zeq_f, nle_t, nle_f, iI_cl, rA, rS, rB, wA, wS, wB, mkp, mk2, uA_s, uA_n, ud_s, ud_n, bI_0, bI_1, nor_s, ↓reduceIte, or_false, false_or, or_true, true_or, or_self, not_true_eq_false, not_false_eq_true, and_true, true_and, and_false, false_and, bI_T, bI_F, Int.reduceToNat, Nat.reduceAdd, Nat.reduceMul, Int.reduceNeg, Option.bind_some, Int.toNat_natCast])).trans ?_
        rw [if_neg c5]; rfl
theorem c_says (h : Inv i A B) (hi : i < 512) (hF : 1000 ≤ F) (v1 v2 : Int32) : CP i A B (f_x_says F v1 v2) (f_m_says F v1 v2) := by
  obtain ⟨z, za, zb, rfl⟩ : ∃ z : Int, -2147483648 ≤ z ∧ z < 2147483648 ∧ v1 = iI z := ⟨_, (i32rg v1).1, (i32rg v1).2, iI_of v1⟩
  obtain ⟨p, pa, pb, rfl⟩ : ∃ z : Int, -2147483648 ≤ z ∧ z < 2147483648 ∧ v2 = iI z := ⟨_, (i32rg v2).1, (i32rg v2).2, iI_of v2⟩
  have R := h.rr
  have hK := h.kmx (by omega)
  have fc := fq_c A z p
  by_cases c : fq A z p = 0
  rotate_left
  · refine cp_zero F h (v := fq A z p) (by omega) (by omega) (fun Bx => ?_) (fun Ax => ?_)
    · unfold f_x_says
      refine obd (ex_fq F R Bx za zb pa pb) ?_
      exact (if_neg (by simp (disch := first | omega | (simp (disch := omega) only [uA_n]; done) | fail) only [iI_lit, iI_add, iI_sub, iI_mul, iI_neg, iI_lt, iI_le, iI_eq, zlt_t, zlt_f, zle_t, zle_f, zeq_t, zeq_f, nle_t, nle_f, iI_cl, rA, rS, rB, wA, wS, wB, mkp, mk2, uA_s, uA_n, ud_s, ud_n, bI_0, bI_1, nor_s, ↓reduceIte, or_false, false_or, or_true, true_or, or_self, not_true_eq_false, not_false_eq_true, and_true, true_and, and_false, false_and, bI_T, bI_F, Int.reduceToNat, Nat.reduceAdd, Nat.reduceMul, Int.reduceNeg, Option.bind_some, Int.toNat_natCast])).trans rfl
    · unfold f_m_says
      refine obd (em_fq F R Ax za zb pa pb) ?_
      exact (if_neg (by simp (disch := first | omega | (simp (disch := omega) only [uA_n]; done) | fail) only [iI_lit, iI_add, iI_sub, iI_mul, iI_neg, iI_lt, iI_le, iI_eq, zlt_t, zlt_f, zle_t, zle_f, zeq_t, zeq_f, nle_t, nle_f, iI_cl, rA, rS, rB, wA, wS, wB, mkp, mk2, uA_s, uA_n, ud_s, ud_n, bI_0, bI_1, nor_s, ↓reduceIte, or_false, false_or, or_true, true_or, or_self, not_true_eq_false, not_false_eq_true, and_true, true_and, and_false, false_and, bI_T, bI_F, Int.reduceToNat, Nat.reduceAdd, Nat.reduceMul, Int.reduceNeg, Option.bind_some, Int.toNat_natCast])).trans rfl
  obtain ⟨q1, q2⟩ := fq_0 c
  have tg := (tin_rg A B p z (A 16 14).toNat).1
  have tg2 := (tin_rg A B p z (A 16 14).toNat).2
  have xn := R.gX.xn2
  by_cases d : z = 1 ∧ twh A B p z = -1
  · refine cp_zero2 F h (v := -2) (by omega) (by omega) (fun Bx => ?_) (fun Ax => ?_)
    · obtain ⟨A1, x1, g1⟩ := ex_which F R hF (by omega) Bx q2 q1.1 q1.2
      refine ⟨A1, nA.law g1, ?_⟩
      unfold f_x_says
      refine obd (ex_fq F R Bx za zb pa pb) ?_
      refine (if_pos (by rw [c]; rfl)).trans ?_
      refine (if_pos (by rw [d.1]; rfl)).trans ?_
      refine obd x1 ?_
      exact (if_pos (by rw [d.2]; rfl)).trans rfl
    · obtain ⟨B1, y1, g1, -⟩ := em_rules F Ax R hF (by omega) q2 q1.1 q1.2
      refine ⟨B1, nB.four g1, ?_⟩
      unfold f_m_says
      refine obd (em_fq F R Ax za zb pa pb) ?_
      refine (if_pos (by rw [c]; show (0 : Int32) ≤ iI 0; decide)).trans ?_
      have y2 : f_m_rules F (iI z) (iI p) (mk Ax B) = some (iI 0, mk Ax B1) := by
        unfold f_m_rules
        refine obd y1 ?_
        refine (if_pos (by rw [d.2]; rfl)).trans ?_
        exact if_pos (Or.inl rfl)
      refine obd y2 ?_
      refine (if_pos rfl).trans ?_
      exact (if_pos (by rw [d.1]; rfl)).trans rfl
  · refine cp_ans h (say A B p z) (fun Bx => ?_) (fun Ax => ?_)
    · by_cases e : z = 1
      · obtain ⟨A1, x1, g1⟩ := ex_which F R hF (by omega) Bx q2 q1.1 q1.2
        obtain ⟨A2, x2, g2⟩ := ex_lawSays F (R.xA (fun k k1 _ k3 => g1 k k1 k3)) hF (by omega) Bx (bill := p) (key := z) (by rw [g1 32 (by omega) (by omega)]; exact q2) q1.1 q1.2
        rw [say_c (A := A) (B := B) (fun k hk => g1 k (by omega) (by omega)) (fun _ _ _ => rfl)] at x2
        refine ⟨A2, nA.law (fun k k1 k2 => (g2 k k1 k2).trans (g1 k k1 k2)), ?_⟩
        unfold f_x_says
        refine obd (ex_fq F R Bx za zb pa pb) ?_
        refine (if_pos (by rw [c]; rfl)).trans ?_
        refine (if_pos (by rw [e]; rfl)).trans ?_
        refine obd x1 ?_
        have tw : twh A B p z ≠ -1 := fun t => d ⟨e, t⟩
        unfold twh at tw ⊢
        refine (if_neg (by simp (disch := first | omega | (simp (disch := omega) only [uA_n]; done) | fail) only [iI_lit, iI_add, iI_sub, iI_mul, iI_neg, iI_lt, iI_le, iI_eq, zlt_t, zlt_f, zle_t, zle_f, zeq_t, zeq_f, nle_t, nle_f, iI_cl, rA, rS, rB, wA, wS, wB, mkp, mk2, uA_s, uA_n, ud_s, ud_n, bI_0, bI_1, nor_s, ↓reduceIte, or_false, false_or, or_true, true_or, or_self, not_true_eq_false, not_false_eq_true, and_true, true_and, and_false, false_and, bI_T, bI_F, Int.reduceToNat, Nat.reduceAdd, Nat.reduceMul, Int.reduceNeg, Option.bind_some, Int.toNat_natCast])).trans ?_
        exact obd x2 rfl
      · obtain ⟨A2, x2, g2⟩ := ex_lawSays F R hF (by omega) Bx (bill := p) (key := z) q2 q1.1 q1.2
        refine ⟨A2, nA.law g2, ?_⟩
        unfold f_x_says
        refine obd (ex_fq F R Bx za zb pa pb) ?_
        refine (if_pos (by rw [c]; rfl)).trans ?_
        refine (if_neg (by simp (disch := first | omega | (simp (disch := omega) only [uA_n]; done) | fail) only [iI_lit, iI_add, iI_sub, iI_mul, iI_neg, iI_lt, iI_le, iI_eq, zlt_t, zlt_f, zle_t, zle_f, zeq_t, zeq_f, nle_t, nle_f, iI_cl, rA, rS, rB, wA, wS, wB, mkp, mk2, uA_s, uA_n, ud_s, ud_n, bI_0, bI_1, nor_s, ↓reduceIte, or_false, false_or, or_true, true_or, or_self, not_true_eq_false, not_false_eq_true, and_true, true_and, and_false, false_and, bI_T, bI_F, Int.reduceToNat, Nat.reduceAdd, Nat.reduceMul, Int.reduceNeg, Option.bind_some, Int.toNat_natCast])).trans ?_
        exact obd x2 rfl
    · obtain ⟨B1, y1, g1, s1⟩ := em_rules F Ax R hF (by omega) q2 q1.1 q1.2
      refine ⟨B1, nB.four g1, ?_⟩
      unfold f_m_says
      refine obd (em_fq F R Ax za zb pa pb) ?_
      refine (if_pos (by rw [c]; show (0 : Int32) ≤ iI 0; decide)).trans ?_
      by_cases t : twh A B p z = -1
      · have y2 : f_m_rules F (iI z) (iI p) (mk Ax B) = some (iI 0, mk Ax B1) := by
          unfold f_m_rules
          refine obd y1 ?_
          refine (if_pos (by rw [t]; rfl)).trans ?_
          exact if_pos (Or.inl rfl)
        refine obd y2 ?_
        refine (if_pos rfl).trans ?_
        have z1 : z ≠ 1 := fun e => d ⟨e, t⟩
        refine (if_neg (by simp (disch := first | omega | (simp (disch := omega) only [uA_n]; done) | fail) only [iI_lit, iI_add, iI_sub, iI_mul, iI_neg, iI_lt, iI_le, iI_eq, zlt_t, zlt_f, zle_t, zle_f, zeq_t, zeq_f, nle_t, nle_f, iI_cl, rA, rS, rB, wA, wS, wB, mkp, mk2, uA_s, uA_n, ud_s, ud_n, bI_0, bI_1, nor_s, ↓reduceIte, or_false, false_or, or_true, true_or, or_self, not_true_eq_false, not_false_eq_true, and_true, true_and, and_false, false_and, bI_T, bI_F, Int.reduceToNat, Nat.reduceAdd, Nat.reduceMul, Int.reduceNeg, Option.bind_some, Int.toNat_natCast])).trans ?_
        refine obd (em_default F (R.x4 g1) Ax z1 q1.1 q1.2) ?_
        unfold say
        rw [if_pos t]; rfl
      · have y2 : f_m_rules F (iI z) (iI p) (mk Ax B) = some (iI 1, mk Ax B1) := by
          unfold f_m_rules
          refine obd y1 ?_
          have tw := t
          unfold twh at tw ⊢
          refine (if_neg (by simp (disch := first | omega | (simp (disch := omega) only [uA_n]; done) | fail) only [iI_lit, iI_add, iI_sub, iI_mul, iI_neg, iI_lt, iI_le, iI_eq, zlt_t, zlt_f, zle_t, zle_f, zeq_t, zeq_f, nle_t, nle_f, iI_cl, rA, rS, rB, wA, wS, wB, mkp, mk2, uA_s, uA_n, ud_s, ud_n, bI_0, bI_1, nor_s, ↓reduceIte, or_false, false_or, or_true, true_or, or_self, not_true_eq_false, not_false_eq_true, and_true, true_and, and_false, false_and, bI_T, bI_F, Int.reduceToNat, Nat.reduceAdd, Nat.reduceMul, Int.reduceNeg, Option.bind_some, Int.toNat_natCast])).trans ?_
          exact if_pos (Or.inr rfl)
        refine obd y2 ?_
        refine (if_neg i1n0).trans ?_
        unfold say
        rw [if_neg t, ← s1 t]
        exact congrArg some (Prod.ext (rB (A := Ax) (k := 304) (by omega) (by omega) (by omega) (by omega) (by omega) 21) rfl)
end
