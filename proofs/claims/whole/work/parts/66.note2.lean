/-! NOTES: the steps themselves -/
section NOTE2
variable {K D : Int} {A0 B0 A B A' B' : hI}
theorem xMv_cg {A1 A : hI} {c : Nat} {to : Int} (h58 : A1 58 = A 58) (h59 : A1 59 = A 59) (h61 : A1 61 = A 61) (h3 : A1 3 = A 3) : xMv A1 c to 58 = xMv A c to 58 ∧ xMv A1 c to 59 = xMv A c to 59 ∧ xMv A1 c to 61 = xMv A c to 61 ∧ xMv A1 c to 3 = xMv A c to 3 := by
  refine ⟨by rw [xMv_58, xMv_58, h58], by rw [xMv_59, xMv_59, h59], ?_, by rw [xMv_3, xMv_3, h59, h3]⟩
  unfold xMv
  by_cases a1 : A 58 c ≤ 0 <;> by_cases a2 : to ≤ 0 <;> by_cases a3 : 8 ≤ A 59 c <;> simp (disch := first | omega | (simp (disch := omega) only [uA_n]; done) | fail) only [iI_lit, iI_add, iI_sub, iI_mul, iI_neg, iI_lt, iI_le, iI_eq, zlt_t, zlt_f, zle_t, zle_f, zeq_t, zeq_f, nle_t, nle_f, iI_cl, rA, rS, rB, wA, wS, wB, mkp, mk2, uA_s, uA_n, ud_s, ud_n, bI_0, bI_1, nor_s, reduceIte, or_false, false_or, or_true, true_or, or_self, not_true_eq_false, not_false_eq_true, and_true, true_and, and_false, false_and, bI_T, bI_F, Int.reduceToNat, Nat.reduceAdd, Nat.reduceMul, Int.reduceNeg, Option.bind_some, Int.toNat_natCast, h58, h59, h61]
theorem xMv_ext {c : Nat} {to : Int} (ht : ∀ e : Nat, (e : Int) < A 55 7 → 0 ≤ A 59 e ∧ A 59 e ≤ 8) (hc : (c : Int) < A 55 7) : MON A (xMv A c to) ∧ AGR A A (xMv A c to) := by
  have o : ∀ k : Nat, k ≠ 58 ∧ k ≠ 59 ∧ k ≠ 61 ∧ k ≠ 3 → xMv A c to k = A k := fun k h => xMv_o A c to h
  refine ⟨⟨by rw [o 55 (by omega)]; omega, fun e he => ?_, by rw [o 55 (by omega)]; omega, by rw [o 16 (by omega)]; omega, by rw [o 16 (by omega)]; omega⟩, fun e he => ⟨by rw [o 2 (by omega)], fun i hi => ?_⟩, fun i _ _ => ⟨by rw [o 4 (by omega)], by rw [o 5 (by omega)], by rw [o 6 (by omega)]⟩, fun k i _ _ => by rw [o 7 (by omega)], fun x _ => ⟨by rw [o 9 (by omega)], by rw [o 10 (by omega)], by rw [o 11 (by omega)], by rw [o 12 (by omega)], by rw [o 13 (by omega)], fun i _ => by rw [o 14 (by omega)]⟩⟩
  · rw [xMv_59]
    split
    · exact Int.le_refl _
    · by_cases h : e = c
      · subst h; rw [ud_s]; omega
      · rw [ud_n h]; exact Int.le_refl _
  · rw [xMv_3]
    split
    · rfl
    · refine ud_n ?_
      have h1 := ht e he
      have h2 := ht c hc
      by_cases h : e = c
      · subst h; omega
      · omega
theorem RR.mv (R : RR K D A0 B0 A B) {c : Nat} {to : Int} (hc : (c : Int) < A 55 7) (hg : 1 ≤ A 58 c) (ht0 : 1 ≤ to) (ht : to < A 19 11) : RR K D A0 B0 (xMv A c to) (mTr (uA B 432 c to) c to) := by
  have N := R.gN
  have htl := N.ntl c hc
  have hb : 0 ≤ uA B 432 c to 433 c ∧ uA B 432 c to 433 c ≤ 8 := by rw [uA_n (by omega)]; omega
  have E : ∀ k : Nat, ¬ (432 ≤ k ∧ k ≤ 441) → mTr (uA B 432 c to) c to k = B k := fun k h => by rw [mTr_o _ _ _ hb (by omega), uA_n (by omega)]
  have x := xMv_ext (to := to) (fun e he => (N.ntl e he).2) hc
  refine R.ofN (fun k hk => xMv_o A c to (by omega)) (fun k hk => E k (by omega)) (fun j _ => by rw [E 400 (by omega)]) (N.mv R.gH.hn2 hc (by omega) (by omega) ht) ?_ x.1 x.2
  · intro k hk h2
    have o : ∀ q : Nat, q ≠ 58 ∧ q ≠ 59 ∧ q ≠ 61 ∧ q ≠ 3 → xMv A c to q = A q := fun q h => xMv_o A c to h
    rw [o 56 (by omega)] at h2
    have hi := R.gI k hk h2
    rw [o 57 (by omega), o 55 (by omega), o 2 (by omega), xMv_58, E 423 (by omega), ud_n]
    · exact hi
    · intro h
      have := hi.2.2.2.1
      rw [h] at this
      omega
/-- a copy that comes IN -/
def xMk (A : hI) (c : Nat) : hI := uA (uA (uA (uA A 56 (A 2 c).toNat 2) 57 (A 2 c).toNat c) 55 9 (A 55 9 - 1)) 55 10 (A 55 10 + 1)
def mIn (B : hI) (c : Nat) : hI := uA (uA B 422 (B 430 c).toNat 2) 423 (B 430 c).toNat c
theorem ex_markIn (F : Nat) (Bx : hI) (c : Int) (h0 : 0 ≤ c) (h1 : c < 400) (hn : 0 ≤ A 2 c.toNat ∧ A 2 c.toNat < 300) : f_Notes_markIn F (iI c) (mk A Bx) = some ((), mk (xMk A c.toNat) Bx) := by
  unfold xMk
  simp only [f_Notes_markIn, f_Notes_markIn_34]
  simp (disch := first | omega | (simp (disch := omega) only [uA_n]; done) | fail) only [iI_lit, iI_add, iI_sub, iI_mul, iI_neg, iI_lt, iI_le, iI_eq, zlt_t, zlt_f, zle_t, zle_f, zeq_t, zeq_f, nle_t, nle_f, iI_cl, rA, rS, rB, wA, wS, wB, mkp, mk2, uA_s, uA_n, ud_s, ud_n, bI_0, bI_1, nor_s, reduceIte, or_false, false_or, or_true, true_or, or_self, not_true_eq_false, not_false_eq_true, and_true, true_and, and_false, false_and, bI_T, bI_F, Int.reduceToNat, Nat.reduceAdd, Nat.reduceMul, Int.reduceNeg, Option.bind_some, Int.toNat_natCast, show (c.toNat : Int) = c from Int.toNat_of_nonneg h0]
theorem em_moves (F : Nat) (Ax : hI) (c to : Int) (h0 : 0 ≤ c) (h1 : c < 400) (ht : 0 ≤ B 433 c.toNat ∧ B 433 c.toNat ≤ 8) (hto : 1 ≤ to) (hto2 : to < 16) : f_m_moves F (iI c) (iI to) (mk Ax B) = some ((), mk Ax (mTr (uA B 432 c.toNat to) c.toNat to)) := by
  simp only [f_m_moves]
  simp (disch := first | omega | (simp (disch := omega) only [uA_n]; done) | fail) only [iI_lit, iI_add, iI_sub, iI_mul, iI_neg, iI_lt, iI_le, iI_eq, zlt_t, zlt_f, zle_t, zle_f, zeq_t, zeq_f, nle_t, nle_f, iI_cl, rA, rS, rB, wA, wS, wB, mkp, mk2, uA_s, uA_n, ud_s, ud_n, bI_0, bI_1, nor_s, reduceIte, or_false, false_or, or_true, true_or, or_self, not_true_eq_false, not_false_eq_true, and_true, true_and, and_false, false_and, bI_T, bI_F, Int.reduceToNat, Nat.reduceAdd, Nat.reduceMul, Int.reduceNeg, Option.bind_some, Int.toNat_natCast, zC]
  rw [em_trails F Ax c to h0 h1 (by rw [uA_n (by omega)]; exact ht)]
  simp (disch := first | omega | (simp (disch := omega) only [uA_n]; done) | fail) only [iI_lit, iI_add, iI_sub, iI_mul, iI_neg, iI_lt, iI_le, iI_eq, zlt_t, zlt_f, zle_t, zle_f, zeq_t, zeq_f, nle_t, nle_f, iI_cl, rA, rS, rB, wA, wS, wB, mkp, mk2, uA_s, uA_n, ud_s, ud_n, bI_0, bI_1, nor_s, reduceIte, or_false, false_or, or_true, true_or, or_self, not_true_eq_false, not_false_eq_true, and_true, true_and, and_false, false_and, bI_T, bI_F, Int.reduceToNat, Nat.reduceAdd, Nat.reduceMul, Int.reduceNeg, Option.bind_some, Int.toNat_natCast]
theorem em_moves0 (F : Nat) (Ax : hI) (c : Int) (h0 : 0 ≤ c) (h1 : c < 400) (ht : 0 ≤ B 433 c.toNat ∧ B 433 c.toNat ≤ 8) (hn : 0 ≤ B 430 c.toNat ∧ B 430 c.toNat < 300) : f_m_moves F (iI c) (iI 0) (mk Ax B) = some ((), mk Ax (mIn (mTr (uA B 432 c.toNat 0) c.toNat 0) c.toNat)) := by
  have hb : 0 ≤ uA B 432 c.toNat 0 433 c.toNat ∧ uA B 432 c.toNat 0 433 c.toNat ≤ 8 := by rw [uA_n (by omega)]; exact ht
  have E : mTr (uA B 432 c.toNat 0) c.toNat 0 430 = B 430 := by rw [mTr_o _ _ _ hb (by omega), uA_n (by omega)]
  have E9 : mTr (uA B 432 c.toNat 0) c.toNat 0 399 = B 399 := by rw [mTr_o _ _ _ hb (by omega), uA_n (by omega)]
  simp only [f_m_moves, f_m_moves_54, mIn]
  simp (disch := first | omega | (simp (disch := omega) only [uA_n]; done) | fail) only [iI_lit, iI_add, iI_sub, iI_mul, iI_neg, iI_lt, iI_le, iI_eq, zlt_t, zlt_f, zle_t, zle_f, zeq_t, zeq_f, nle_t, nle_f, iI_cl, rA, rS, rB, wA, wS, wB, mkp, mk2, uA_s, uA_n, ud_s, ud_n, bI_0, bI_1, nor_s, reduceIte, or_false, false_or, or_true, true_or, or_self, not_true_eq_false, not_false_eq_true, and_true, true_and, and_false, false_and, bI_T, bI_F, Int.reduceToNat, Nat.reduceAdd, Nat.reduceMul, Int.reduceNeg, Option.bind_some, Int.toNat_natCast, zC]
  rw [em_trails F Ax c 0 h0 h1 hb]
  simp (disch := first | omega | (simp (disch := omega) only [uA_n]; done) | fail) only [iI_lit, iI_add, iI_sub, iI_mul, iI_neg, iI_lt, iI_le, iI_eq, zlt_t, zlt_f, zle_t, zle_f, zeq_t, zeq_f, nle_t, nle_f, iI_cl, rA, rS, rB, wA, wS, wB, mkp, mk2, uA_s, uA_n, ud_s, ud_n, bI_0, bI_1, nor_s, reduceIte, or_false, false_or, or_true, true_or, or_self, not_true_eq_false, not_false_eq_true, and_true, true_and, and_false, false_and, bI_T, bI_F, Int.reduceToNat, Nat.reduceAdd, Nat.reduceMul, Int.reduceNeg, Option.bind_some, Int.toNat_natCast, zC0, zN0, zN, E, E9, show (c.toNat : Int) = c from Int.toNat_of_nonneg h0]
theorem RR.mvIn (R : RR K D A0 B0 A B) {c : Nat} (hc : (c : Int) < A 55 7) (hg : 1 ≤ A 58 c) (ho : A 56 (A 2 c).toNat = 1) : RR K D A0 B0 (xMv (xMk A c) c 0) (mIn (mTr (uA B 432 c 0) c 0) c) := by
  have N := R.gN
  have htl := N.ntl c hc
  have hnu := N.nnu c hc
  have hf := N.nf2
  have hC := N.nc2
  have hb : 0 ≤ uA B 432 c 0 433 c ∧ uA B 432 c 0 433 c ≤ 8 := by rw [uA_n (by omega)]; omega
  have E : ∀ k : Nat, ¬ (432 ≤ k ∧ k ≤ 441) → mTr (uA B 432 c 0) c 0 k = B k := fun k h => by rw [mTr_o _ _ _ hb (by omega), uA_n (by omega)]
  have En : (mTr (uA B 432 c 0) c 0 430 c).toNat = (A 2 c).toNat := by rw [E 430 (by omega), hnu.2.2]
  have EB : ∀ k : Nat, k ≠ 422 ∧ k ≠ 423 → mIn (mTr (uA B 432 c 0) c 0) c k = mTr (uA B 432 c 0) c 0 k := fun k h => by unfold mIn; rw [uA_n (by omega), uA_n (by omega)]
  have m1 : ∀ k : Nat, k ≠ 55 ∧ k ≠ 56 ∧ k ≠ 57 → xMk A c k = A k := fun k h => by unfold xMk; rw [uA_n (by omega), uA_n (by omega), uA_n (by omega), uA_n (by omega)]
  have cg := xMv_cg (c := c) (to := 0) (m1 58 (by omega)) (m1 59 (by omega)) (m1 61 (by omega)) (m1 3 (by omega))
  have o : ∀ k : Nat, k ≠ 58 ∧ k ≠ 59 ∧ k ≠ 61 ∧ k ≠ 3 → xMv A c 0 k = A k := fun q h => xMv_o A c 0 h
  have o1 : ∀ k : Nat, k ≠ 58 ∧ k ≠ 59 ∧ k ≠ 61 ∧ k ≠ 3 → xMv (xMk A c) c 0 k = xMk A c k := fun q h => xMv_o _ c 0 h
  have m56 : xMk A c 56 = ud (A 56) (A 2 c).toNat 2 := by unfold xMk; simp (disch := first | omega | (simp (disch := omega) only [uA_n]; done) | fail) only [iI_lit, iI_add, iI_sub, iI_mul, iI_neg, iI_lt, iI_le, iI_eq, zlt_t, zlt_f, zle_t, zle_f, zeq_t, zeq_f, nle_t, nle_f, iI_cl, rA, rS, rB, wA, wS, wB, mkp, mk2, uA_s, uA_n, ud_s, ud_n, bI_0, bI_1, nor_s, reduceIte, or_false, false_or, or_true, true_or, or_self, not_true_eq_false, not_false_eq_true, and_true, true_and, and_false, false_and, bI_T, bI_F, Int.reduceToNat, Nat.reduceAdd, Nat.reduceMul, Int.reduceNeg, Option.bind_some, Int.toNat_natCast]
  have m57 : xMk A c 57 = ud (A 57) (A 2 c).toNat c := by unfold xMk; simp (disch := first | omega | (simp (disch := omega) only [uA_n]; done) | fail) only [iI_lit, iI_add, iI_sub, iI_mul, iI_neg, iI_lt, iI_le, iI_eq, zlt_t, zlt_f, zle_t, zle_f, zeq_t, zeq_f, nle_t, nle_f, iI_cl, rA, rS, rB, wA, wS, wB, mkp, mk2, uA_s, uA_n, ud_s, ud_n, bI_0, bI_1, nor_s, reduceIte, or_false, false_or, or_true, true_or, or_self, not_true_eq_false, not_false_eq_true, and_true, true_and, and_false, false_and, bI_T, bI_F, Int.reduceToNat, Nat.reduceAdd, Nat.reduceMul, Int.reduceNeg, Option.bind_some, Int.toNat_natCast]
  have m55 : ∀ j : Nat, j ≠ 9 ∧ j ≠ 10 → xMk A c 55 j = A 55 j := fun j hj => by unfold xMk; simp (disch := first | omega | (simp (disch := omega) only [uA_n]; done) | fail) only [iI_lit, iI_add, iI_sub, iI_mul, iI_neg, iI_lt, iI_le, iI_eq, zlt_t, zlt_f, zle_t, zle_f, zeq_t, zeq_f, nle_t, nle_f, iI_cl, rA, rS, rB, wA, wS, wB, mkp, mk2, uA_s, uA_n, ud_s, ud_n, bI_0, bI_1, nor_s, reduceIte, or_false, false_or, or_true, true_or, or_self, not_true_eq_false, not_false_eq_true, and_true, true_and, and_false, false_and, bI_T, bI_F, Int.reduceToNat, Nat.reduceAdd, Nat.reduceMul, Int.reduceNeg, Option.bind_some, Int.toNat_natCast]
  have m9 : xMk A c 55 9 = A 55 9 - 1 := by unfold xMk; simp (disch := first | omega | (simp (disch := omega) only [uA_n]; done) | fail) only [iI_lit, iI_add, iI_sub, iI_mul, iI_neg, iI_lt, iI_le, iI_eq, zlt_t, zlt_f, zle_t, zle_f, zeq_t, zeq_f, nle_t, nle_f, iI_cl, rA, rS, rB, wA, wS, wB, mkp, mk2, uA_s, uA_n, ud_s, ud_n, bI_0, bI_1, nor_s, reduceIte, or_false, false_or, or_true, true_or, or_self, not_true_eq_false, not_false_eq_true, and_true, true_and, and_false, false_and, bI_T, bI_F, Int.reduceToNat, Nat.reduceAdd, Nat.reduceMul, Int.reduceNeg, Option.bind_some, Int.toNat_natCast]
  have m10 : xMk A c 55 10 = A 55 10 + 1 := by unfold xMk; simp (disch := first | omega | (simp (disch := omega) only [uA_n]; done) | fail) only [iI_lit, iI_add, iI_sub, iI_mul, iI_neg, iI_lt, iI_le, iI_eq, zlt_t, zlt_f, zle_t, zle_f, zeq_t, zeq_f, nle_t, nle_f, iI_cl, rA, rS, rB, wA, wS, wB, mkp, mk2, uA_s, uA_n, ud_s, ud_n, bI_0, bI_1, nor_s, reduceIte, or_false, false_or, or_true, true_or, or_self, not_true_eq_false, not_false_eq_true, and_true, true_and, and_false, false_and, bI_T, bI_F, Int.reduceToNat, Nat.reduceAdd, Nat.reduceMul, Int.reduceNeg, Option.bind_some, Int.toNat_natCast]
  have x := xMv_ext (A := A) (to := 0) (fun e he => (N.ntl e he).2) hc
  have N1 := N.mv R.gH.hn2 hc (show (0 : Int) ≤ A 58 c by omega) (Int.le_refl 0) (show (0 : Int) < A 19 11 by have := R.gH.hn1; omega)
  have q : ∀ k : Nat, k ≠ 55 ∧ k ≠ 56 ∧ k ≠ 57 → xMv (xMk A c) c 0 k = xMv A c 0 k := fun k hk => by
    by_cases h : k ≠ 58 ∧ k ≠ 59 ∧ k ≠ 61 ∧ k ≠ 3
    · rw [o1 k h, o k h, m1 k hk]
    · rcases (show k = 58 ∨ k = 59 ∨ k = 61 ∨ k = 3 by omega) with rfl | rfl | rfl | rfl
      · exact cg.1
      · exact cg.2.1
      · exact cg.2.2.1
      · exact cg.2.2.2
  refine R.ofN (fun k hk => by rw [o1 k (by omega), m1 k (by omega)]) (fun k hk => by rw [EB k (by omega), E k (by omega)]) (fun j _ => by rw [EB 400 (by omega), E 400 (by omega)]) ?_ ?_ ?_ ?_
  · refine N1.sc (k := (A 2 c).toNat) (b := 2) (by omega) (by rw [o 56 (by omega)]; omega) (by omega) (by rw [o1 56 (by omega), m56, o 56 (by omega)]) ?_ ?_ ?_ ?_ ?_ ?_ (fun k hk => q k hk) ?_ (fun k hk => EB k hk)
    · rw [o1 55 (by omega), m9, o 55 (by omega), o 56 (by omega), bI_t ho, bI_f (by omega)]; omega
    · rw [o1 55 (by omega), m10, o 55 (by omega), o 56 (by omega), bI_f (by omega), bI_t rfl]; omega
    · rw [o1 55 (by omega), m55 11 (by omega), o 55 (by omega), o 56 (by omega), bI_f (by omega), bI_f (by omega)]; omega
    · rw [o1 55 (by omega), m55 7 (by omega), o 55 (by omega)]
    · rw [o1 55 (by omega), m55 8 (by omega), o 55 (by omega)]
    · rw [o1 55 (by omega), m55 12 (by omega), o 55 (by omega)]
    · unfold mIn
      rw [uA_n (by omega), uA_s, En]
  · intro k hk h2
    rw [o1 56 (by omega), m56] at h2
    rw [o1 57 (by omega), m57, o1 55 (by omega), m55 7 (by omega), o1 2 (by omega), m1 2 (by omega), xMv_58, m1 58 (by omega)]
    have e423 : mIn (mTr (uA B 432 c 0) c 0) c 423 = ud (B 423) (A 2 c).toNat c := by unfold mIn; rw [uA_s, uA_n (by omega), En, E 423 (by omega)]
    rw [e423]
    by_cases h : k = (A 2 c).toNat
    · subst h
      rw [ud_s, ud_s, show ((c : Int)).toNat = c from Int.toNat_natCast c, ud_s]
      omega
    · rw [ud_n h] at h2
      have hi := R.gI k hk h2
      rw [ud_n h, ud_n h, ud_n]
      · exact hi
      · intro hh
        have h3 := hi.2.2.1
        rw [hh] at h3
        omega
  · obtain ⟨e1, e2, e3, e4, e5⟩ := x.1
    refine ⟨by rw [o1 55 (by omega), m55 7 (by omega)]; omega, fun e he => by rw [q 59 (by omega)]; exact e2 e he, by rw [o1 55 (by omega), m55 12 (by omega)]; omega, by rw [o1 16 (by omega), m1 16 (by omega)]; omega, by rw [o1 16 (by omega), m1 16 (by omega)]; omega⟩
  · have y := x.2
    unfold AGR at y ⊢
    rw [q 2 (by omega), q 3 (by omega), q 4 (by omega), q 5 (by omega), q 6 (by omega), q 7 (by omega), q 9 (by omega), q 10 (by omega), q 11 (by omega), q 12 (by omega), q 13 (by omega), q 14 (by omega)]
    exact y
end NOTE2
