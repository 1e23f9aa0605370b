/-! NOTES: what one step does, on both sides, and that the relation goes on -/
theorem cnt_ud {n : Nat} {g : Nat → Int} {c : Nat} {v h : Int} (hc : c < n) : sm n (fun e => bI (ud g c v e = h)) = sm n (fun e => bI (g e = h)) - bI (g c = h) + bI (v = h) := by
  rw [← sm_ud (f := fun e => bI (g e = h)) (v := bI (v = h)) hc]
  refine sm_c fun i _ => ?_
  by_cases hi : i = c
  · subst hi; rw [ud_s, ud_s]
  · rw [ud_n hi, ud_n hi]
section NOTE
variable {K D : Int} {A0 B0 A B A' B' : hI}
theorem RR.ofN (R : RR K D A0 B0 A B) (hA : ∀ k : Nat, ¬ (2 ≤ k ∧ k ≤ 6) ∧ ¬ (55 ≤ k ∧ k ≤ 61) → A' k = A k) (hB : ∀ k : Nat, k ≠ 400 ∧ ¬ (422 ≤ k ∧ k ≤ 444) → B' k = B k) (h4 : ∀ j : Nat, j ≠ 6 ∧ j ≠ 7 → B' 400 j = B 400 j) (N : WN A' A' B') (I : WI A' A' B') (M : MON A A') (G : AGR A A A') : RR K D A0 B0 A' B' := by
  refine ⟨⟨(by apply R.gL.c <;> first | rfl | exact hA _ (by omega) | exact congrFun (hA _ (by omega)) _ | exact hB _ (by omega) | exact h4 _ (by omega) | (intro k hk1 hk2; exact hB k (by omega))), (by apply R.gH.c <;> first | rfl | exact hA _ (by omega) | exact congrFun (hA _ (by omega)) _ | exact hB _ (by omega) | exact h4 _ (by omega) | (intro k hk1 hk2; exact hB k (by omega))), ?_, (by apply R.gP.c <;> first | rfl | exact hA _ (by omega) | exact congrFun (hA _ (by omega)) _ | exact hB _ (by omega) | exact h4 _ (by omega) | (intro k hk1 hk2; exact hB k (by omega))), (by apply R.gT.c <;> first | rfl | exact hA _ (by omega) | exact congrFun (hA _ (by omega)) _ | exact hB _ (by omega) | exact h4 _ (by omega) | (intro k hk1 hk2; exact hB k (by omega))), (by apply R.gS.c <;> first | rfl | exact hA _ (by omega) | exact congrFun (hA _ (by omega)) _ | exact hB _ (by omega) | exact h4 _ (by omega) | (intro k hk1 hk2; exact hB k (by omega))), (by apply R.gD.c <;> first | rfl | exact hA _ (by omega) | exact congrFun (hA _ (by omega)) _ | exact hB _ (by omega) | exact h4 _ (by omega) | (intro k hk1 hk2; exact hB k (by omega))), (by apply R.gW.c <;> first | rfl | exact hA _ (by omega) | exact congrFun (hA _ (by omega)) _ | exact hB _ (by omega) | exact h4 _ (by omega) | (intro k hk1 hk2; exact hB k (by omega))), (by apply R.gX.c <;> first | rfl | exact hA _ (by omega) | exact congrFun (hA _ (by omega)) _ | exact hB _ (by omega) | exact h4 _ (by omega) | (intro k hk1 hk2; exact hB k (by omega))), (by apply R.gG.c <;> first | rfl | exact hA _ (by omega) | exact congrFun (hA _ (by omega)) _ | exact hB _ (by omega) | exact h4 _ (by omega) | (intro k hk1 hk2; exact hB k (by omega))), ?_⟩, R.sx.tr ?_, R.sb.tr (SB.st (fun k hk => hB k (by omega)))⟩
  · exact N
  · exact I
  · exact ⟨fun k hk => hA k (by omega), congrFun (hA 16 (by omega)) 14, M, G⟩
/-- a copy goes to another house -/
def xMv (A : hI) (c : Nat) (to : Int) : hI :=
  let A1 := if A 58 c ≤ 0 then A else uA A 61 (A 58 c).toNat (A 61 (A 58 c).toNat - 1)
  let A2 := uA A1 58 c to
  let A3 := if to ≤ 0 then A2 else uA A2 61 to.toNat (A2 61 to.toNat + 1)
  if 8 ≤ A 59 c then A3 else uA (uA A3 3 (8 * c + (A 59 c).toNat) to) 59 c (A 59 c + 1)
def mTr (B : hI) (c : Nat) (to : Int) : hI := if B 433 c = 8 then B else uA (uA B (434 + (B 433 c).toNat) c to) 433 c (B 433 c + 1)
theorem ex_moveTo (F : Nat) (Bx : hI) (c to : Int) (h0 : 0 ≤ c) (h1 : c < 400) (hh : -1 ≤ A 58 c.toNat ∧ A 58 c.toNat < 16) (ht : 0 ≤ A 59 c.toNat ∧ A 59 c.toNat ≤ 8) (hto : 0 ≤ to ∧ to < 16) : f_Notes_moveTo F (iI c) (iI to) (mk A Bx) = some ((), mk (xMv A c.toNat to) Bx) := by
  have e8 : (c * 8 + A 59 c.toNat).toNat = 8 * c.toNat + (A 59 c.toNat).toNat := by omega
  unfold xMv
  simp only [f_Notes_moveTo, f_Notes_moveTo_21, f_Notes_moveTo_42, f_Notes_moveTo_83]
  by_cases a1 : A 58 c.toNat ≤ 0 <;> by_cases a2 : to ≤ 0 <;> by_cases a3 : 8 ≤ A 59 c.toNat <;> simp (disch := first | omega | (simp (disch := omega) only [uA_n]; done) | fail) only [iI_lit, iI_add, iI_sub, iI_mul, iI_neg, iI_lt, iI_le, iI_eq, zlt_t, zlt_f, zle_t, zle_f, zeq_t, zeq_f, nle_t, nle_f, iI_cl, rA, rS, rB, wA, wS, wB, mkp, mk2, uA_s, uA_n, ud_s, ud_n, bI_0, bI_1, nor_s, reduceIte, or_false, false_or, or_true, true_or, or_self, not_true_eq_false, not_false_eq_true, and_true, true_and, and_false, false_and, bI_T, bI_F, Int.reduceToNat, Nat.reduceAdd, Nat.reduceMul, Int.reduceNeg, Option.bind_some, Int.toNat_natCast, e8]
theorem em_trails (F : Nat) (Ax : hI) (c to : Int) (h0 : 0 ≤ c) (h1 : c < 400) (ht : 0 ≤ B 433 c.toNat ∧ B 433 c.toNat ≤ 8) : f_m_trails F (iI c) (iI to) (mk Ax B) = some ((), mk Ax (mTr B c.toNat to)) := by
  unfold mTr
  simp only [f_m_trails, f_m_trails_41]
  by_cases a3 : B 433 c.toNat = 8
  · simp (disch := first | omega | (simp (disch := omega) only [uA_n]; done) | fail) only [iI_lit, iI_add, iI_sub, iI_mul, iI_neg, iI_lt, iI_le, iI_eq, zlt_t, zlt_f, zle_t, zle_f, zeq_t, zeq_f, nle_t, nle_f, iI_cl, rA, rS, rB, wA, wS, wB, mkp, mk2, uA_s, uA_n, ud_s, ud_n, bI_0, bI_1, nor_s, reduceIte, or_false, false_or, or_true, true_or, or_self, not_true_eq_false, not_false_eq_true, and_true, true_and, and_false, false_and, bI_T, bI_F, Int.reduceToNat, Nat.reduceAdd, Nat.reduceMul, Int.reduceNeg, Option.bind_some, Int.toNat_natCast, zC]
  · simp (disch := first | omega | (simp (disch := omega) only [uA_n]; done) | fail) only [iI_lit, iI_add, iI_sub, iI_mul, iI_neg, iI_lt, iI_le, iI_eq, zlt_t, zlt_f, zle_t, zle_f, zeq_t, zeq_f, nle_t, nle_f, iI_cl, rA, rS, rB, wA, wS, wB, mkp, mk2, uA_s, uA_n, ud_s, ud_n, bI_0, bI_1, nor_s, reduceIte, or_false, false_or, or_true, true_or, or_self, not_true_eq_false, not_false_eq_true, and_true, true_and, and_false, false_and, bI_T, bI_F, Int.reduceToNat, Nat.reduceAdd, Nat.reduceMul, Int.reduceNeg, Option.bind_some, Int.toNat_natCast, zC, zC4]
theorem xMv_58 (A : hI) (c : Nat) (to : Int) : xMv A c to 58 = ud (A 58) c to := by
  unfold xMv
  by_cases a1 : A 58 c ≤ 0 <;> by_cases a2 : to ≤ 0 <;> by_cases a3 : 8 ≤ A 59 c <;> simp (disch := first | omega | (simp (disch := omega) only [uA_n]; done) | fail) only [iI_lit, iI_add, iI_sub, iI_mul, iI_neg, iI_lt, iI_le, iI_eq, zlt_t, zlt_f, zle_t, zle_f, zeq_t, zeq_f, nle_t, nle_f, iI_cl, rA, rS, rB, wA, wS, wB, mkp, mk2, uA_s, uA_n, ud_s, ud_n, bI_0, bI_1, nor_s, reduceIte, or_false, false_or, or_true, true_or, or_self, not_true_eq_false, not_false_eq_true, and_true, true_and, and_false, false_and, bI_T, bI_F, Int.reduceToNat, Nat.reduceAdd, Nat.reduceMul, Int.reduceNeg, Option.bind_some, Int.toNat_natCast]
theorem xMv_59 (A : hI) (c : Nat) (to : Int) : xMv A c to 59 = if 8 ≤ A 59 c then A 59 else ud (A 59) c (A 59 c + 1) := by
  unfold xMv
  by_cases a1 : A 58 c ≤ 0 <;> by_cases a2 : to ≤ 0 <;> by_cases a3 : 8 ≤ A 59 c <;> simp (disch := first | omega | (simp (disch := omega) only [uA_n]; done) | fail) only [iI_lit, iI_add, iI_sub, iI_mul, iI_neg, iI_lt, iI_le, iI_eq, zlt_t, zlt_f, zle_t, zle_f, zeq_t, zeq_f, nle_t, nle_f, iI_cl, rA, rS, rB, wA, wS, wB, mkp, mk2, uA_s, uA_n, ud_s, ud_n, bI_0, bI_1, nor_s, reduceIte, or_false, false_or, or_true, true_or, or_self, not_true_eq_false, not_false_eq_true, and_true, true_and, and_false, false_and, bI_T, bI_F, Int.reduceToNat, Nat.reduceAdd, Nat.reduceMul, Int.reduceNeg, Option.bind_some, Int.toNat_natCast]
theorem xMv_3 (A : hI) (c : Nat) (to : Int) : xMv A c to 3 = if 8 ≤ A 59 c then A 3 else ud (A 3) (8 * c + (A 59 c).toNat) to := by
  unfold xMv
  by_cases a1 : A 58 c ≤ 0 <;> by_cases a2 : to ≤ 0 <;> by_cases a3 : 8 ≤ A 59 c <;> simp (disch := first | omega | (simp (disch := omega) only [uA_n]; done) | fail) only [iI_lit, iI_add, iI_sub, iI_mul, iI_neg, iI_lt, iI_le, iI_eq, zlt_t, zlt_f, zle_t, zle_f, zeq_t, zeq_f, nle_t, nle_f, iI_cl, rA, rS, rB, wA, wS, wB, mkp, mk2, uA_s, uA_n, ud_s, ud_n, bI_0, bI_1, nor_s, reduceIte, or_false, false_or, or_true, true_or, or_self, not_true_eq_false, not_false_eq_true, and_true, true_and, and_false, false_and, bI_T, bI_F, Int.reduceToNat, Nat.reduceAdd, Nat.reduceMul, Int.reduceNeg, Option.bind_some, Int.toNat_natCast]
theorem xMv_o (A : hI) (c : Nat) (to : Int) {k : Nat} (h : k ≠ 58 ∧ k ≠ 59 ∧ k ≠ 61 ∧ k ≠ 3) : xMv A c to k = A k := by
  unfold xMv
  by_cases a1 : A 58 c ≤ 0 <;> by_cases a2 : to ≤ 0 <;> by_cases a3 : 8 ≤ A 59 c <;> simp (disch := first | omega | (simp (disch := omega) only [uA_n]; done) | fail) only [iI_lit, iI_add, iI_sub, iI_mul, iI_neg, iI_lt, iI_le, iI_eq, zlt_t, zlt_f, zle_t, zle_f, zeq_t, zeq_f, nle_t, nle_f, iI_cl, rA, rS, rB, wA, wS, wB, mkp, mk2, uA_s, uA_n, ud_s, ud_n, bI_0, bI_1, nor_s, reduceIte, or_false, false_or, or_true, true_or, or_self, not_true_eq_false, not_false_eq_true, and_true, true_and, and_false, false_and, bI_T, bI_F, Int.reduceToNat, Nat.reduceAdd, Nat.reduceMul, Int.reduceNeg, Option.bind_some, Int.toNat_natCast]
theorem xMv_61 (A : hI) (c : Nat) (to : Int) (h1 : A 58 c ≤ 15) (h2 : to ≤ 15) (h : Nat) : xMv A c to 61 h = A 61 h - bI (1 ≤ h ∧ A 58 c = h) + bI (1 ≤ h ∧ to = h) := by
  unfold xMv
  have c1 : to.toNat = (A 58 c).toNat → A 61 to.toNat = A 61 (A 58 c).toNat := fun e => by rw [e]
  have c2 : h = (A 58 c).toNat → A 61 h = A 61 (A 58 c).toNat := fun e => by rw [e]
  have c3 : h = to.toNat → A 61 h = A 61 to.toNat := fun e => by rw [e]
  by_cases a1 : A 58 c ≤ 0 <;> by_cases a2 : to ≤ 0 <;> by_cases a3 : 8 ≤ A 59 c <;>
    ((try simp (disch := first | omega | (simp (disch := omega) only [uA_n]; done) | fail) only [iI_lit, iI_add, iI_sub, iI_mul, iI_neg, iI_lt, iI_le, iI_eq, zlt_t, zlt_f, zle_t, zle_f, zeq_t, zeq_f, nle_t, nle_f, iI_cl, rA, rS, rB, wA, wS, wB, mkp, mk2, uA_s, uA_n, ud_s, ud_n, bI_0, bI_1, nor_s, reduceIte, or_false, false_or, or_true, true_or, or_self, not_true_eq_false, not_false_eq_true, and_true, true_and, and_false, false_and, bI_T, bI_F, Int.reduceToNat, Nat.reduceAdd, Nat.reduceMul, Int.reduceNeg, Option.bind_some, Int.toNat_natCast]); (try simp only [ud]); unfold bI; (repeat' split) <;> omega)
theorem mTr_433 (B : hI) (c : Nat) (to : Int) : mTr B c to 433 = if B 433 c = 8 then B 433 else ud (B 433) c (B 433 c + 1) := by
  unfold mTr
  by_cases a3 : B 433 c = 8 <;> simp (disch := first | omega | (simp (disch := omega) only [uA_n]; done) | fail) only [iI_lit, iI_add, iI_sub, iI_mul, iI_neg, iI_lt, iI_le, iI_eq, zlt_t, zlt_f, zle_t, zle_f, zeq_t, zeq_f, nle_t, nle_f, iI_cl, rA, rS, rB, wA, wS, wB, mkp, mk2, uA_s, uA_n, ud_s, ud_n, bI_0, bI_1, nor_s, reduceIte, or_false, false_or, or_true, true_or, or_self, not_true_eq_false, not_false_eq_true, and_true, true_and, and_false, false_and, bI_T, bI_F, Int.reduceToNat, Nat.reduceAdd, Nat.reduceMul, Int.reduceNeg, Option.bind_some, Int.toNat_natCast]
theorem mTr_t (B : hI) (c : Nat) (to : Int) (i : Nat) (h0 : 0 ≤ B 433 c) : mTr B c to (434 + i) = if B 433 c = 8 ∨ (i : Int) ≠ B 433 c then B (434 + i) else ud (B (434 + i)) c to := by
  unfold mTr
  by_cases a3 : B 433 c = 8
  · rw [if_pos a3, if_pos (Or.inl a3)]
  · rw [if_neg a3, uA_n (by omega)]
    by_cases a4 : (i : Int) = B 433 c
    · rw [if_neg (by omega), show 434 + (B 433 c).toNat = 434 + i by omega, uA_s]
    · rw [if_pos (Or.inr a4), uA_n (by omega)]
theorem mTr_o (B : hI) (c : Nat) (to : Int) {k : Nat} (h0 : 0 ≤ B 433 c ∧ B 433 c ≤ 8) (h : ¬ (433 ≤ k ∧ k ≤ 441)) : mTr B c to k = B k := by
  unfold mTr
  by_cases a3 : B 433 c = 8
  · rw [if_pos a3]
  · rw [if_neg a3, uA_n (by omega), uA_n (by omega)]
theorem WN.mv (N : WN A A B) (hn : A 19 11 ≤ 16) {c : Nat} {to : Int} (hc : (c : Int) < A 55 7) (hg0 : 0 ≤ A 58 c) (ht0 : 0 ≤ to) (ht : to < A 19 11) : WN (xMv A c to) (xMv A c to) (mTr (uA B 432 c to) c to) := by
  have hh := N.nho c hc
  have htl := N.ntl c hc
  have hC := N.nc2
  have o : ∀ k : Nat, k ≠ 58 ∧ k ≠ 59 ∧ k ≠ 61 ∧ k ≠ 3 → xMv A c to k = A k := fun k h => xMv_o A c to h
  have b1 : ∀ k : Nat, k ≠ 432 → uA B 432 c to k = B k := fun k h => uA_n h
  have hb : 0 ≤ uA B 432 c to 433 c ∧ uA B 432 c to 433 c ≤ 8 := by rw [b1 433 (by omega)]; omega
  have E : ∀ k : Nat, ¬ (432 ≤ k ∧ k ≤ 441) → mTr (uA B 432 c to) c to k = B k := fun k h => by rw [mTr_o _ _ _ hb (by omega), b1 k (by omega)]
  have E2 : mTr (uA B 432 c to) c to 432 = ud (B 432) c to := by rw [mTr_o _ _ _ hb (by omega), uA_s]
  have E3 : mTr (uA B 432 c to) c to 433 = if A 59 c = 8 then B 433 else ud (B 433) c (A 59 c + 1) := by rw [mTr_433, b1 433 (by omega), htl.1]
  have X3 : xMv A c to 59 = if A 59 c = 8 then A 59 else ud (A 59) c (A 59 c + 1) := by
    rw [xMv_59]
    by_cases h8 : A 59 c = 8
    · rw [if_pos h8, if_pos (by omega)]
    · rw [if_neg h8, if_neg (by omega)]
  unfold WN
  simp only [o 55 (by omega), o 19 (by omega), o 56 (by omega), o 60 (by omega), o 2 (by omega), o 4 (by omega), o 5 (by omega), o 6 (by omega), E 400 (by omega), E 422 (by omega), E 424 (by omega), E 430 (by omega), E 431 (by omega), E 442 (by omega), E 443 (by omega), E 444 (by omega), E2, E3, X3, xMv_58]
  refine ⟨N.nc1, N.nc2, N.nc3, N.nf1, N.nf2, N.nst, N.nsr, N.nsn, N.nnu, N.nix, N.nct, ?_, ?_, ?_, ?_, ?_, N.nor, N.nso, N.nsu, N.nou, N.nin, N.nbu, N.nfo, ?_, N.nfr⟩
  · intro e he
    have := N.nho e he
    by_cases h : e = c
    · subst h; rw [ud_s, ud_s]; omega
    · rw [ud_n h, ud_n h]; exact this
  · intro e he
    have := N.ntl e he
    by_cases h8 : A 59 c = 8
    · rw [if_pos h8, if_pos h8]; exact this
    · rw [if_neg h8, if_neg h8]
      by_cases h : e = c
      · subst h; rw [ud_s, ud_s]; omega
      · rw [ud_n h, ud_n h]; exact this
  · intro e i he hi
    have hte := N.ntl e he
    rw [mTr_t _ _ _ _ hb.1, b1 (434 + i) (by omega), b1 433 (by omega), htl.1, xMv_3]
    by_cases h8 : A 59 c = 8
    · rw [if_pos (Or.inl h8), if_pos (by omega)]
      rw [if_pos h8] at hi
      exact N.ntr e i he hi
    · rw [if_neg h8] at hi
      rw [if_neg (show ¬ 8 ≤ A 59 c by omega)]
      by_cases h : e = c
      · subst h
        rw [ud_s] at hi
        by_cases hi2 : (i : Int) = A 59 e
        · rw [if_neg (by omega), ud_s, show (A 59 e).toNat = i by omega, ud_s]
        · rw [if_pos (Or.inr hi2), ud_n (by omega)]
          exact N.ntr e i he (by omega)
      · rw [ud_n h] at hi
        rw [ud_n (show 8 * e + i ≠ 8 * c + (A 59 c).toNat by omega)]
        by_cases hi2 : (i : Int) = A 59 c
        · rw [if_neg (by omega), ud_n h]
          exact N.ntr e i he hi
        · rw [if_pos (Or.inr hi2)]
          exact N.ntr e i he hi
  · intro h h1 h2
    rw [xMv_61 A c to (by omega) (by omega), N.nhe h h1 h2, cnt_ud (by omega), bI_c (show (1 ≤ h ∧ A 58 c = h) ↔ A 58 c = h from ⟨fun z => z.2, fun z => ⟨h1, z⟩⟩), bI_c (show (1 ≤ h ∧ to = h) ↔ to = h from ⟨fun z => z.2, fun z => ⟨h1, z⟩⟩)]
  · rw [xMv_61 A c to (by omega) (by omega), N.nh0, bI_f (by omega), bI_f (by omega)]
    rfl
  · rw [cnt_ud (by omega), bI_f (show ¬ A 58 c = -1 by omega), bI_f (show ¬ to = -1 by omega), ← N.nfc]
    omega
/-- a number's state becomes another one -/
theorem WN.sc (N : WN A A B) {k : Nat} {b : Int} (hk : k < 300) (ha : A 56 k ≠ 0) (hb : 1 ≤ b ∧ b ≤ 3) (e56 : A' 56 = ud (A 56) k b) (e9 : A' 55 9 = A 55 9 - bI (A 56 k = 1) + bI (b = 1)) (e10 : A' 55 10 = A 55 10 - bI (A 56 k = 2) + bI (b = 2)) (e11 : A' 55 11 = A 55 11 - bI (A 56 k = 3) + bI (b = 3)) (e7 : A' 55 7 = A 55 7) (e8 : A' 55 8 = A 55 8) (e12 : A' 55 12 = A 55 12) (eo : ∀ q : Nat, q ≠ 55 ∧ q ≠ 56 ∧ q ≠ 57 → A' q = A q) (f422 : B' 422 = ud (B 422) k b) (fo : ∀ q : Nat, q ≠ 422 ∧ q ≠ 423 → B' q = B q) : WN A' A' B' := by
  have f3 : ∀ i : Nat, B' (434 + i) = B (434 + i) := fun i => fo _ (by omega)
  unfold WN
  simp only [e56, e9, e10, e11, e7, e8, e12, eo 19 (by omega), eo 58 (by omega), eo 59 (by omega), eo 60 (by omega), eo 61 (by omega), eo 2 (by omega), eo 3 (by omega), eo 4 (by omega), eo 5 (by omega), eo 6 (by omega), f422, f3, fo 400 (by omega), fo 424 (by omega), fo 430 (by omega), fo 431 (by omega), fo 432 (by omega), fo 433 (by omega), fo 442 (by omega), fo 443 (by omega), fo 444 (by omega)]
  refine ⟨N.nc1, N.nc2, N.nc3, N.nf1, N.nf2, ?_, ?_, ?_, N.nnu, N.nix, N.nct, N.nho, N.ntl, N.ntr, N.nhe, N.nh0, N.nor, N.nso, N.nsu, ?_, ?_, ?_, N.nfo, N.nfc, N.nfr⟩
  · intro q hq
    by_cases h : q = k
    · subst h; rw [ud_s, ud_s]
    · rw [ud_n h, ud_n h]; exact N.nst q hq
  · intro q hq
    by_cases h : q = k
    · subst h; rw [ud_s]; omega
    · rw [ud_n h]; exact N.nsr q hq
  · intro q hq
    by_cases h : q = k
    · subst h; rw [ud_s]; have := N.nsn q hq; omega
    · rw [ud_n h]; exact N.nsn q hq
  · rw [cnt_ud hk, ← N.nou]
  · rw [cnt_ud hk, ← N.nin]
  · rw [cnt_ud hk, ← N.nbu]
end NOTE
