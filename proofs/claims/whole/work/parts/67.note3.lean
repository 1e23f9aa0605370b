/-! NOTES: what is found; what is issued; a copy more -/
section NOTE3
variable {K D : Int} {A0 B0 A B A' B' : hI}
def xFd (A : hI) (c h : Nat) (d : Int) : hI :=
  let A1 := if 60 ≤ A 55 12 then A else uA (uA (uA A 4 (A 55 12).toNat (A 2 c)) 5 (A 55 12).toNat h) 6 (A 55 12).toNat d
  uA (uA (uA A1 55 12 (A 55 12 + 1)) 58 c (-1)) 61 h (A 61 h - 1)
def mFd (B : hI) (c : Nat) (h : Int) : hI :=
  let B1 := uA B 432 c (-1)
  let B2 := if B 400 7 < 60 then uA (uA (uA B1 442 (B 400 7).toNat (B 430 c)) 443 (B 400 7).toNat h) 444 (B 400 7).toNat (B 400 0) else B1
  uA B2 400 7 (B 400 7 + 1)
theorem ex_noteFound (F : Nat) (Bx : hI) (c h d : Int) (h0 : 0 ≤ c) (h1 : c < 400) (hh : 0 ≤ h) (hh2 : h < 16) (hf : 0 ≤ A 55 12) (hf2 : A 55 12 ≤ 400) : f_Notes_noteFound F (iI c) (iI h) (iI d) (mk A Bx) = some ((), mk (xFd A c.toNat h.toNat d) Bx) := by
  unfold xFd
  simp only [f_Notes_noteFound, f_Notes_noteFound_56, f_Notes_noteFound_83]
  by_cases a1 : 60 ≤ A 55 12 <;> simp (disch := first | omega | (simp (disch := omega) only [uA_n]; done) | fail) only [iI_lit, iI_add, iI_sub, iI_mul, iI_neg, iI_lt, iI_le, iI_eq, zlt_t, zlt_f, zle_t, zle_f, zeq_t, zeq_f, nle_t, nle_f, iI_cl, rA, rS, rB, wA, wS, wB, mkp, mk2, uA_s, uA_n, ud_s, ud_n, bI_0, bI_1, nor_s, reduceIte, or_false, false_or, or_true, true_or, or_self, not_true_eq_false, not_false_eq_true, and_true, true_and, and_false, false_and, bI_T, bI_F, Int.reduceToNat, Nat.reduceAdd, Nat.reduceMul, Int.reduceNeg, Option.bind_some, Int.toNat_natCast, show (h.toNat : Int) = h from Int.toNat_of_nonneg hh]
theorem RR.fd (R : RR K D A0 B0 A B) {c h : Nat} (hc : (c : Int) < A 55 7) (hg : A 58 c = h) (hh : 1 ≤ h) : RR K D A0 B0 (xFd A c h (A 16 9)) (mFd B c h) := by
  have N := R.gN
  have hC := N.nc2
  have hho := N.nho c hc
  have hn := R.gH.hn2
  have hfc := N.nfc
  have hfo := N.nfo
  have hcn := sm_cnt (A 55 7).toNat (fun e => A 58 e = -1)
  have x4 : xFd A c h (A 16 9) 4 = if 60 ≤ A 55 12 then A 4 else ud (A 4) (A 55 12).toNat (A 2 c) := by unfold xFd; by_cases a1 : 60 ≤ A 55 12 <;> simp (disch := first | omega | (simp (disch := omega) only [uA_n]; done) | fail) only [iI_lit, iI_add, iI_sub, iI_mul, iI_neg, iI_lt, iI_le, iI_eq, zlt_t, zlt_f, zle_t, zle_f, zeq_t, zeq_f, nle_t, nle_f, iI_cl, rA, rS, rB, wA, wS, wB, mkp, mk2, uA_s, uA_n, ud_s, ud_n, bI_0, bI_1, nor_s, reduceIte, or_false, false_or, or_true, true_or, or_self, not_true_eq_false, not_false_eq_true, and_true, true_and, and_false, false_and, bI_T, bI_F, Int.reduceToNat, Nat.reduceAdd, Nat.reduceMul, Int.reduceNeg, Option.bind_some, Int.toNat_natCast]
  have x5 : xFd A c h (A 16 9) 5 = if 60 ≤ A 55 12 then A 5 else ud (A 5) (A 55 12).toNat h := by unfold xFd; by_cases a1 : 60 ≤ A 55 12 <;> simp (disch := first | omega | (simp (disch := omega) only [uA_n]; done) | fail) only [iI_lit, iI_add, iI_sub, iI_mul, iI_neg, iI_lt, iI_le, iI_eq, zlt_t, zlt_f, zle_t, zle_f, zeq_t, zeq_f, nle_t, nle_f, iI_cl, rA, rS, rB, wA, wS, wB, mkp, mk2, uA_s, uA_n, ud_s, ud_n, bI_0, bI_1, nor_s, reduceIte, or_false, false_or, or_true, true_or, or_self, not_true_eq_false, not_false_eq_true, and_true, true_and, and_false, false_and, bI_T, bI_F, Int.reduceToNat, Nat.reduceAdd, Nat.reduceMul, Int.reduceNeg, Option.bind_some, Int.toNat_natCast]
  have x6 : xFd A c h (A 16 9) 6 = if 60 ≤ A 55 12 then A 6 else ud (A 6) (A 55 12).toNat (A 16 9) := by unfold xFd; by_cases a1 : 60 ≤ A 55 12 <;> simp (disch := first | omega | (simp (disch := omega) only [uA_n]; done) | fail) only [iI_lit, iI_add, iI_sub, iI_mul, iI_neg, iI_lt, iI_le, iI_eq, zlt_t, zlt_f, zle_t, zle_f, zeq_t, zeq_f, nle_t, nle_f, iI_cl, rA, rS, rB, wA, wS, wB, mkp, mk2, uA_s, uA_n, ud_s, ud_n, bI_0, bI_1, nor_s, reduceIte, or_false, false_or, or_true, true_or, or_self, not_true_eq_false, not_false_eq_true, and_true, true_and, and_false, false_and, bI_T, bI_F, Int.reduceToNat, Nat.reduceAdd, Nat.reduceMul, Int.reduceNeg, Option.bind_some, Int.toNat_natCast]
  have x55 : xFd A c h (A 16 9) 55 = ud (A 55) 12 (A 55 12 + 1) := by unfold xFd; by_cases a1 : 60 ≤ A 55 12 <;> simp (disch := first | omega | (simp (disch := omega) only [uA_n]; done) | fail) only [iI_lit, iI_add, iI_sub, iI_mul, iI_neg, iI_lt, iI_le, iI_eq, zlt_t, zlt_f, zle_t, zle_f, zeq_t, zeq_f, nle_t, nle_f, iI_cl, rA, rS, rB, wA, wS, wB, mkp, mk2, uA_s, uA_n, ud_s, ud_n, bI_0, bI_1, nor_s, reduceIte, or_false, false_or, or_true, true_or, or_self, not_true_eq_false, not_false_eq_true, and_true, true_and, and_false, false_and, bI_T, bI_F, Int.reduceToNat, Nat.reduceAdd, Nat.reduceMul, Int.reduceNeg, Option.bind_some, Int.toNat_natCast]
  have x58 : xFd A c h (A 16 9) 58 = ud (A 58) c (-1) := by unfold xFd; by_cases a1 : 60 ≤ A 55 12 <;> simp (disch := first | omega | (simp (disch := omega) only [uA_n]; done) | fail) only [iI_lit, iI_add, iI_sub, iI_mul, iI_neg, iI_lt, iI_le, iI_eq, zlt_t, zlt_f, zle_t, zle_f, zeq_t, zeq_f, nle_t, nle_f, iI_cl, rA, rS, rB, wA, wS, wB, mkp, mk2, uA_s, uA_n, ud_s, ud_n, bI_0, bI_1, nor_s, reduceIte, or_false, false_or, or_true, true_or, or_self, not_true_eq_false, not_false_eq_true, and_true, true_and, and_false, false_and, bI_T, bI_F, Int.reduceToNat, Nat.reduceAdd, Nat.reduceMul, Int.reduceNeg, Option.bind_some, Int.toNat_natCast]
  have x61 : xFd A c h (A 16 9) 61 = ud (A 61) h (A 61 h - 1) := by unfold xFd; by_cases a1 : 60 ≤ A 55 12 <;> simp (disch := first | omega | (simp (disch := omega) only [uA_n]; done) | fail) only [iI_lit, iI_add, iI_sub, iI_mul, iI_neg, iI_lt, iI_le, iI_eq, zlt_t, zlt_f, zle_t, zle_f, zeq_t, zeq_f, nle_t, nle_f, iI_cl, rA, rS, rB, wA, wS, wB, mkp, mk2, uA_s, uA_n, ud_s, ud_n, bI_0, bI_1, nor_s, reduceIte, or_false, false_or, or_true, true_or, or_self, not_true_eq_false, not_false_eq_true, and_true, true_and, and_false, false_and, bI_T, bI_F, Int.reduceToNat, Nat.reduceAdd, Nat.reduceMul, Int.reduceNeg, Option.bind_some, Int.toNat_natCast]
  have xo : ∀ k : Nat, k ≠ 4 ∧ k ≠ 5 ∧ k ≠ 6 ∧ k ≠ 55 ∧ k ≠ 58 ∧ k ≠ 61 → xFd A c h (A 16 9) k = A k := fun k hk => by unfold xFd; by_cases a1 : 60 ≤ A 55 12 <;> simp (disch := first | omega | (simp (disch := omega) only [uA_n]; done) | fail) only [iI_lit, iI_add, iI_sub, iI_mul, iI_neg, iI_lt, iI_le, iI_eq, zlt_t, zlt_f, zle_t, zle_f, zeq_t, zeq_f, nle_t, nle_f, iI_cl, rA, rS, rB, wA, wS, wB, mkp, mk2, uA_s, uA_n, ud_s, ud_n, bI_0, bI_1, nor_s, reduceIte, or_false, false_or, or_true, true_or, or_self, not_true_eq_false, not_false_eq_true, and_true, true_and, and_false, false_and, bI_T, bI_F, Int.reduceToNat, Nat.reduceAdd, Nat.reduceMul, Int.reduceNeg, Option.bind_some, Int.toNat_natCast]
  have y2 : mFd B c h 442 = if 60 ≤ A 55 12 then B 442 else ud (B 442) (A 55 12).toNat (A 2 c) := by unfold mFd; rw [hfo, (N.nnu c hc).2.2]; by_cases a1 : 60 ≤ A 55 12 <;> simp (disch := first | omega | (simp (disch := omega) only [uA_n]; done) | fail) only [iI_lit, iI_add, iI_sub, iI_mul, iI_neg, iI_lt, iI_le, iI_eq, zlt_t, zlt_f, zle_t, zle_f, zeq_t, zeq_f, nle_t, nle_f, iI_cl, rA, rS, rB, wA, wS, wB, mkp, mk2, uA_s, uA_n, ud_s, ud_n, bI_0, bI_1, nor_s, reduceIte, or_false, false_or, or_true, true_or, or_self, not_true_eq_false, not_false_eq_true, and_true, true_and, and_false, false_and, bI_T, bI_F, Int.reduceToNat, Nat.reduceAdd, Nat.reduceMul, Int.reduceNeg, Option.bind_some, Int.toNat_natCast]
  have y3 : mFd B c h 443 = if 60 ≤ A 55 12 then B 443 else ud (B 443) (A 55 12).toNat h := by unfold mFd; rw [hfo]; by_cases a1 : 60 ≤ A 55 12 <;> simp (disch := first | omega | (simp (disch := omega) only [uA_n]; done) | fail) only [iI_lit, iI_add, iI_sub, iI_mul, iI_neg, iI_lt, iI_le, iI_eq, zlt_t, zlt_f, zle_t, zle_f, zeq_t, zeq_f, nle_t, nle_f, iI_cl, rA, rS, rB, wA, wS, wB, mkp, mk2, uA_s, uA_n, ud_s, ud_n, bI_0, bI_1, nor_s, reduceIte, or_false, false_or, or_true, true_or, or_self, not_true_eq_false, not_false_eq_true, and_true, true_and, and_false, false_and, bI_T, bI_F, Int.reduceToNat, Nat.reduceAdd, Nat.reduceMul, Int.reduceNeg, Option.bind_some, Int.toNat_natCast]
  have y4 : mFd B c h 444 = if 60 ≤ A 55 12 then B 444 else ud (B 444) (A 55 12).toNat (A 16 9) := by unfold mFd; rw [hfo, R.gD.dd3]; by_cases a1 : 60 ≤ A 55 12 <;> simp (disch := first | omega | (simp (disch := omega) only [uA_n]; done) | fail) only [iI_lit, iI_add, iI_sub, iI_mul, iI_neg, iI_lt, iI_le, iI_eq, zlt_t, zlt_f, zle_t, zle_f, zeq_t, zeq_f, nle_t, nle_f, iI_cl, rA, rS, rB, wA, wS, wB, mkp, mk2, uA_s, uA_n, ud_s, ud_n, bI_0, bI_1, nor_s, reduceIte, or_false, false_or, or_true, true_or, or_self, not_true_eq_false, not_false_eq_true, and_true, true_and, and_false, false_and, bI_T, bI_F, Int.reduceToNat, Nat.reduceAdd, Nat.reduceMul, Int.reduceNeg, Option.bind_some, Int.toNat_natCast]
  have y32 : mFd B c h 432 = ud (B 432) c (-1) := by unfold mFd; by_cases a1 : B 400 7 < 60 <;> simp (disch := first | omega | (simp (disch := omega) only [uA_n]; done) | fail) only [iI_lit, iI_add, iI_sub, iI_mul, iI_neg, iI_lt, iI_le, iI_eq, zlt_t, zlt_f, zle_t, zle_f, zeq_t, zeq_f, nle_t, nle_f, iI_cl, rA, rS, rB, wA, wS, wB, mkp, mk2, uA_s, uA_n, ud_s, ud_n, bI_0, bI_1, nor_s, reduceIte, or_false, false_or, or_true, true_or, or_self, not_true_eq_false, not_false_eq_true, and_true, true_and, and_false, false_and, bI_T, bI_F, Int.reduceToNat, Nat.reduceAdd, Nat.reduceMul, Int.reduceNeg, Option.bind_some, Int.toNat_natCast]
  have y00 : mFd B c h 400 = ud (B 400) 7 (A 55 12 + 1) := by unfold mFd; rw [← hfo]; by_cases a1 : B 400 7 < 60 <;> simp (disch := first | omega | (simp (disch := omega) only [uA_n]; done) | fail) only [iI_lit, iI_add, iI_sub, iI_mul, iI_neg, iI_lt, iI_le, iI_eq, zlt_t, zlt_f, zle_t, zle_f, zeq_t, zeq_f, nle_t, nle_f, iI_cl, rA, rS, rB, wA, wS, wB, mkp, mk2, uA_s, uA_n, ud_s, ud_n, bI_0, bI_1, nor_s, reduceIte, or_false, false_or, or_true, true_or, or_self, not_true_eq_false, not_false_eq_true, and_true, true_and, and_false, false_and, bI_T, bI_F, Int.reduceToNat, Nat.reduceAdd, Nat.reduceMul, Int.reduceNeg, Option.bind_some, Int.toNat_natCast]
  have yo : ∀ k : Nat, k ≠ 400 ∧ k ≠ 432 ∧ k ≠ 442 ∧ k ≠ 443 ∧ k ≠ 444 → mFd B c h k = B k := fun k hk => by unfold mFd; by_cases a1 : B 400 7 < 60 <;> simp (disch := first | omega | (simp (disch := omega) only [uA_n]; done) | fail) only [iI_lit, iI_add, iI_sub, iI_mul, iI_neg, iI_lt, iI_le, iI_eq, zlt_t, zlt_f, zle_t, zle_f, zeq_t, zeq_f, nle_t, nle_f, iI_cl, rA, rS, rB, wA, wS, wB, mkp, mk2, uA_s, uA_n, ud_s, ud_n, bI_0, bI_1, nor_s, reduceIte, or_false, false_or, or_true, true_or, or_self, not_true_eq_false, not_false_eq_true, and_true, true_and, and_false, false_and, bI_T, bI_F, Int.reduceToNat, Nat.reduceAdd, Nat.reduceMul, Int.reduceNeg, Option.bind_some, Int.toNat_natCast]
  have i55 : ∀ j : Nat, j ≠ 12 → ud (A 55) 12 (A 55 12 + 1) j = A 55 j := fun j hj => ud_n hj
  refine R.ofN (fun k hk => xo k (by omega)) (fun k hk => yo k (by omega)) (fun j hj => by rw [y00, ud_n hj.2]) ?_ ?_ ?_ ?_
  · have f3 : ∀ i : Nat, i < 8 → mFd B c h (434 + i) = B (434 + i) := fun i _ => yo _ (by omega)
    unfold WN
    simp only [x55, x58, x61, xo 19 (by omega), xo 56 (by omega), xo 59 (by omega), xo 60 (by omega), xo 2 (by omega), xo 3 (by omega), y32, y00, yo 422 (by omega), yo 424 (by omega), yo 430 (by omega), yo 431 (by omega), yo 433 (by omega), i55 7 (by omega), i55 8 (by omega), i55 9 (by omega), i55 10 (by omega), i55 11 (by omega), ud_s]
    refine ⟨N.nc1, N.nc2, by rw [ud_n (by omega)]; exact N.nc3, N.nf1, N.nf2, N.nst, N.nsr, N.nsn, N.nnu, N.nix, N.nct, ?_, N.ntl, ?_, ?_, ?_, N.nor, N.nso, N.nsu, N.nou, N.nin, N.nbu, trivial, ?_, ?_⟩
    · intro e he
      by_cases h : e = c
      · subst h; rw [ud_s, ud_s]; have := R.gH.hn1; omega
      · rw [ud_n h, ud_n h]; exact N.nho e he
    · intro e i he hi
      rw [f3 i (by have := N.ntl e he; omega)]
      exact N.ntr e i he hi
    · intro g h1 h2
      rw [cnt_ud (by omega), ← N.nhe g h1 h2, bI_f (show ¬ (-1 : Int) = g by omega), hg]
      by_cases e : g = h
      · subst e; rw [ud_s, bI_t rfl]; omega
      · rw [ud_n e, bI_f (by omega)]; omega
    · rw [ud_n (by omega)]; exact N.nh0
    · rw [cnt_ud (by omega), ← hfc, bI_t rfl, bI_f (by omega)]; omega
    · intro i hi hj
      rw [x4, x5, x6, y2, y3, y4]
      by_cases a1 : 60 ≤ A 55 12
      · simp only [if_pos a1]; exact N.nfr i hi (by omega)
      · simp only [if_neg a1]
        by_cases e : i = (A 55 12).toNat
        · subst e; simp only [ud_s]; exact ⟨trivial, trivial, trivial⟩
        · rw [ud_n e, ud_n e, ud_n e, ud_n e, ud_n e, ud_n e]; exact N.nfr i hi (by omega)
  · intro k hk h2
    rw [xo 56 (by omega)] at h2
    have hi := R.gI k hk h2
    rw [xo 57 (by omega), x55, i55 7 (by omega), xo 2 (by omega), x58, yo 423 (by omega), ud_n]
    · exact hi
    · intro z
      have := hi.2.2.2.1
      rw [z] at this
      omega
  · refine ⟨by rw [x55, i55 7 (by omega)]; omega, fun e he => by rw [xo 59 (by omega)]; exact Int.le_refl _, by rw [x55, ud_s]; omega, by rw [xo 16 (by omega)]; omega, by rw [xo 16 (by omega)]; omega⟩
  · refine ⟨fun e he => ⟨by rw [xo 2 (by omega)], fun i _ => by rw [xo 3 (by omega)]⟩, fun i hi hj => ?_, fun k i _ _ => by rw [xo 7 (by omega)], fun x _ => ⟨by rw [xo 9 (by omega)], by rw [xo 10 (by omega)], by rw [xo 11 (by omega)], by rw [xo 12 (by omega)], by rw [xo 13 (by omega)], fun i _ => by rw [xo 14 (by omega)]⟩⟩
    rw [x4, x5, x6]
    by_cases a1 : 60 ≤ A 55 12
    · simp only [if_pos a1]; exact ⟨trivial, trivial, trivial⟩
    · simp only [if_neg a1]
      rw [ud_n (by omega), ud_n (by omega), ud_n (by omega)]
      exact ⟨rfl, rfl, rfl⟩
/-- a number that is IN goes out again -/
def xIs (A : hI) (k : Nat) (to : Int) : hI := xMv (uA (uA (uA A 56 k 1) 55 10 (A 55 10 - 1)) 55 9 (A 55 9 + 1)) (A 57 k).toNat to
def mIs (B : hI) (k : Nat) (to : Int) : hI := mTr (uA (uA B 422 k 1) 432 (B 423 k).toNat to) (B 423 k).toNat to
theorem RR.iss (R : RR K D A0 B0 A B) {k : Nat} {to : Int} (hk : k < 300) (h2 : A 56 k = 2) (ht0 : 1 ≤ to) (ht : to < A 19 11) : RR K D A0 B0 (xIs A k to) (mIs B k to) := by
  have N := R.gN
  obtain ⟨i1, i2, i3, i4, i5⟩ := R.gI k hk h2
  have hC := N.nc2
  unfold xIs mIs
  rw [i5]
  generalize hcd : (A 57 k).toNat = c at *
  have hc : (c : Int) < A 55 7 := by omega
  have htl := N.ntl c hc
  generalize hA1 : uA (uA (uA A 56 k 1) 55 10 (A 55 10 - 1)) 55 9 (A 55 9 + 1) = A1
  generalize hB1 : uA B 422 k 1 = B1
  have a56 : A1 56 = ud (A 56) k 1 := by rw [← hA1]; simp (disch := first | omega | (simp (disch := omega) only [uA_n]; done) | fail) only [iI_lit, iI_add, iI_sub, iI_mul, iI_neg, iI_lt, iI_le, iI_eq, zlt_t, zlt_f, zle_t, zle_f, zeq_t, zeq_f, nle_t, nle_f, iI_cl, rA, rS, rB, wA, wS, wB, mkp, mk2, uA_s, uA_n, ud_s, ud_n, bI_0, bI_1, nor_s, reduceIte, or_false, false_or, or_true, true_or, or_self, not_true_eq_false, not_false_eq_true, and_true, true_and, and_false, false_and, bI_T, bI_F, Int.reduceToNat, Nat.reduceAdd, Nat.reduceMul, Int.reduceNeg, Option.bind_some, Int.toNat_natCast]
  have a9 : A1 55 9 = A 55 9 + 1 := by rw [← hA1]; simp (disch := first | omega | (simp (disch := omega) only [uA_n]; done) | fail) only [iI_lit, iI_add, iI_sub, iI_mul, iI_neg, iI_lt, iI_le, iI_eq, zlt_t, zlt_f, zle_t, zle_f, zeq_t, zeq_f, nle_t, nle_f, iI_cl, rA, rS, rB, wA, wS, wB, mkp, mk2, uA_s, uA_n, ud_s, ud_n, bI_0, bI_1, nor_s, reduceIte, or_false, false_or, or_true, true_or, or_self, not_true_eq_false, not_false_eq_true, and_true, true_and, and_false, false_and, bI_T, bI_F, Int.reduceToNat, Nat.reduceAdd, Nat.reduceMul, Int.reduceNeg, Option.bind_some, Int.toNat_natCast]
  have a10 : A1 55 10 = A 55 10 - 1 := by rw [← hA1]; simp (disch := first | omega | (simp (disch := omega) only [uA_n]; done) | fail) only [iI_lit, iI_add, iI_sub, iI_mul, iI_neg, iI_lt, iI_le, iI_eq, zlt_t, zlt_f, zle_t, zle_f, zeq_t, zeq_f, nle_t, nle_f, iI_cl, rA, rS, rB, wA, wS, wB, mkp, mk2, uA_s, uA_n, ud_s, ud_n, bI_0, bI_1, nor_s, reduceIte, or_false, false_or, or_true, true_or, or_self, not_true_eq_false, not_false_eq_true, and_true, true_and, and_false, false_and, bI_T, bI_F, Int.reduceToNat, Nat.reduceAdd, Nat.reduceMul, Int.reduceNeg, Option.bind_some, Int.toNat_natCast]
  have a55 : ∀ j : Nat, j ≠ 9 ∧ j ≠ 10 → A1 55 j = A 55 j := fun j hj => by rw [← hA1]; simp (disch := first | omega | (simp (disch := omega) only [uA_n]; done) | fail) only [iI_lit, iI_add, iI_sub, iI_mul, iI_neg, iI_lt, iI_le, iI_eq, zlt_t, zlt_f, zle_t, zle_f, zeq_t, zeq_f, nle_t, nle_f, iI_cl, rA, rS, rB, wA, wS, wB, mkp, mk2, uA_s, uA_n, ud_s, ud_n, bI_0, bI_1, nor_s, reduceIte, or_false, false_or, or_true, true_or, or_self, not_true_eq_false, not_false_eq_true, and_true, true_and, and_false, false_and, bI_T, bI_F, Int.reduceToNat, Nat.reduceAdd, Nat.reduceMul, Int.reduceNeg, Option.bind_some, Int.toNat_natCast]
  have ao : ∀ q : Nat, q ≠ 55 ∧ q ≠ 56 → A1 q = A q := fun q hq => by rw [← hA1]; simp (disch := first | omega | (simp (disch := omega) only [uA_n]; done) | fail) only [iI_lit, iI_add, iI_sub, iI_mul, iI_neg, iI_lt, iI_le, iI_eq, zlt_t, zlt_f, zle_t, zle_f, zeq_t, zeq_f, nle_t, nle_f, iI_cl, rA, rS, rB, wA, wS, wB, mkp, mk2, uA_s, uA_n, ud_s, ud_n, bI_0, bI_1, nor_s, reduceIte, or_false, false_or, or_true, true_or, or_self, not_true_eq_false, not_false_eq_true, and_true, true_and, and_false, false_and, bI_T, bI_F, Int.reduceToNat, Nat.reduceAdd, Nat.reduceMul, Int.reduceNeg, Option.bind_some, Int.toNat_natCast]
  have b422 : B1 422 = ud (B 422) k 1 := by rw [← hB1]; simp (disch := first | omega | (simp (disch := omega) only [uA_n]; done) | fail) only [iI_lit, iI_add, iI_sub, iI_mul, iI_neg, iI_lt, iI_le, iI_eq, zlt_t, zlt_f, zle_t, zle_f, zeq_t, zeq_f, nle_t, nle_f, iI_cl, rA, rS, rB, wA, wS, wB, mkp, mk2, uA_s, uA_n, ud_s, ud_n, bI_0, bI_1, nor_s, reduceIte, or_false, false_or, or_true, true_or, or_self, not_true_eq_false, not_false_eq_true, and_true, true_and, and_false, false_and, bI_T, bI_F, Int.reduceToNat, Nat.reduceAdd, Nat.reduceMul, Int.reduceNeg, Option.bind_some, Int.toNat_natCast]
  have bo : ∀ q : Nat, q ≠ 422 → B1 q = B q := fun q hq => by rw [← hB1]; simp (disch := first | omega | (simp (disch := omega) only [uA_n]; done) | fail) only [iI_lit, iI_add, iI_sub, iI_mul, iI_neg, iI_lt, iI_le, iI_eq, zlt_t, zlt_f, zle_t, zle_f, zeq_t, zeq_f, nle_t, nle_f, iI_cl, rA, rS, rB, wA, wS, wB, mkp, mk2, uA_s, uA_n, ud_s, ud_n, bI_0, bI_1, nor_s, reduceIte, or_false, false_or, or_true, true_or, or_self, not_true_eq_false, not_false_eq_true, and_true, true_and, and_false, false_and, bI_T, bI_F, Int.reduceToNat, Nat.reduceAdd, Nat.reduceMul, Int.reduceNeg, Option.bind_some, Int.toNat_natCast]
  have N1 : WN A1 A1 B1 := by
    refine N.sc (k := k) (b := 1) hk (by omega) (by omega) a56 ?_ ?_ ?_ (a55 7 (by omega)) (a55 8 (by omega)) (a55 12 (by omega)) (fun q hq => ao q (by omega)) b422 (fun q hq => bo q (by omega))
    · rw [a9, bI_f (by omega), bI_t rfl]; omega
    · rw [a10, bI_t h2, bI_f (by omega)]; omega
    · rw [a55 11 (by omega), bI_f (by omega), bI_f (by omega)]; omega
  have N2 := N1.mv (c := c) (to := to) (by rw [ao 19 (by omega)]; exact R.gH.hn2) (by rw [a55 7 (by omega)]; exact hc) (by rw [ao 58 (by omega)]; omega) (by omega) (by rw [ao 19 (by omega)]; exact ht)
  have hb : 0 ≤ uA B1 432 c to 433 c ∧ uA B1 432 c to 433 c ≤ 8 := by rw [uA_n (by omega), bo 433 (by omega)]; omega
  have E : ∀ q : Nat, ¬ (432 ≤ q ∧ q ≤ 441) → mTr (uA B1 432 c to) c to q = B1 q := fun q h => by rw [mTr_o _ _ _ hb (by omega), uA_n (by omega)]
  have o : ∀ q : Nat, q ≠ 58 ∧ q ≠ 59 ∧ q ≠ 61 ∧ q ≠ 3 → xMv A1 c to q = A1 q := fun q h => xMv_o A1 c to h
  have x := xMv_ext (A := A1) (c := c) (to := to) (fun e he => by rw [ao 59 (by omega)]; exact (N.ntl e (by rw [a55 7 (by omega)] at he; exact he)).2) (by rw [a55 7 (by omega)]; exact hc)
  refine R.ofN (fun q hq => by rw [o q (by omega), ao q (by omega)]) (fun q hq => by rw [E q (by omega), bo q (by omega)]) (fun j _ => by rw [E 400 (by omega), bo 400 (by omega)]) N2 ?_ ?_ ?_
  · intro q hq h3
    rw [o 56 (by omega), a56] at h3
    have hne : q ≠ k := fun z => by subst z; rw [ud_s] at h3; omega
    rw [ud_n hne] at h3
    have hi := R.gI q hq h3
    rw [o 57 (by omega), ao 57 (by omega), o 55 (by omega), a55 7 (by omega), o 2 (by omega), ao 2 (by omega), xMv_58, ao 58 (by omega), E 423 (by omega), bo 423 (by omega), ud_n]
    · exact hi
    · intro z
      have h5 := hi.2.2.1
      rw [z, i3] at h5
      omega
  · obtain ⟨e1, e2, e3, e4, e5⟩ := x.1
    exact ⟨by rw [a55 7 (by omega)] at e1; exact e1, fun e he => by have := e2 e (by rw [a55 7 (by omega)]; exact he); rw [ao 59 (by omega)] at this; exact this, by rw [a55 12 (by omega)] at e3; exact e3, by rw [ao 16 (by omega)] at e4; exact e4, by rw [ao 16 (by omega)] at e5; exact e5⟩
  · have y := x.2
    unfold AGR at y ⊢
    simp only [a55 7 (by omega), a55 12 (by omega), ao 2 (by omega), ao 3 (by omega), ao 4 (by omega), ao 5 (by omega), ao 6 (by omega), ao 7 (by omega), ao 9 (by omega), ao 10 (by omega), ao 11 (by omega), ao 12 (by omega), ao 13 (by omega), ao 14 (by omega), ao 16 (by omega), ao 59 (by omega)] at y
    exact y
/-- a copy more -/
theorem WN.ad (N : WN A A B) {k C pl : Nat} {to t : Int} (hC : (C : Int) = A 55 7) (hC4 : C < 400) (hk : k < 300) (hkn : (k : Int) < A 55 8) (hto : 1 ≤ to ∧ to < A 19 11) (ht : 0 ≤ t ∧ t ≤ 8) (hpl : pl ≤ C) (hp1 : ∀ i, i < pl → A 2 (A 60 i).toNat ≤ k) (hp2 : ∀ i, pl ≤ i → i < C → (k : Int) < A 2 (A 60 i).toNat)
    (e7 : A' 55 7 = A 55 7 + 1) (e5 : ∀ j : Nat, j ≠ 7 → A' 55 j = A 55 j) (e2 : A' 2 = ud (A 2) C k) (e58 : A' 58 = ud (A 58) C to) (e59 : A' 59 = ud (A 59) C t) (e3 : ∀ j, j < 8 * C → A' 3 j = A 3 j) (e61 : ∀ h : Nat, A' 61 h = A 61 h + bI (to = h)) (e60 : ∀ i, i ≤ C → A' 60 i = if i < pl then A 60 i else if i = pl then (C : Int) else A 60 (i - 1))
    (eo : ∀ q : Nat, q ≠ 2 ∧ q ≠ 3 ∧ q ≠ 55 ∧ q ≠ 58 ∧ q ≠ 59 ∧ q ≠ 60 ∧ q ≠ 61 → A' q = A q)
    (f6 : B' 400 6 = B 400 6 + 1) (f7 : B' 400 7 = B 400 7) (f430 : B' 430 = ud (B 430) C k) (f431 : B' 431 = ud (B 431) C (B 424 k)) (f432 : B' 432 = ud (B 432) C to) (f433 : B' 433 = ud (B 433) C t) (ft : ∀ e i, e < C → i < 8 → B' (434 + i) e = B (434 + i) e) (ft2 : ∀ i : Nat, (i : Int) < t → B' (434 + i) C = A' 3 (8 * C + i)) (f424 : B' 424 = ud (B 424) k (B 424 k + 1))
    (fo : B' 422 = B 422 ∧ B' 442 = B 442 ∧ B' 443 = B 443 ∧ B' 444 = B 444) : WN A' A' B' := by
  have hTN : (A 55 7 + 1).toNat = C + 1 := by omega
  have hTN0 : (A 55 7).toNat = C := by omega
  have nn : ∀ e : Nat, e < C → ud (A 2) C k e = A 2 e := fun e he => ud_n (by omega)
  have oc : ∀ i : Nat, i < C → (A 60 i).toNat < C := fun i hi => by have := N.nor i (by omega); omega
  unfold WN
  simp only [e7, e5 8 (by omega), e5 9 (by omega), e5 10 (by omega), e5 11 (by omega), e5 12 (by omega), e2, e58, e59, eo 19 (by omega), eo 56 (by omega), eo 4 (by omega), eo 5 (by omega), eo 6 (by omega), f6, f7, f430, f431, f432, f433, f424, fo.1, fo.2.1, fo.2.2.1, fo.2.2.2, hTN]
  refine ⟨by omega, by omega, by rw [N.nc3], N.nf1, N.nf2, N.nst, N.nsr, N.nsn, ?_, ?_, ?_, ?_, ?_, ?_, ?_, ?_, ?_, ?_, ?_, N.nou, N.nin, N.nbu, N.nfo, ?_, N.nfr⟩
  · intro e he
    by_cases h : e = C
    · subst h; rw [ud_s, ud_s]; omega
    · rw [ud_n h, ud_n h]; exact N.nnu e (by omega)
  · intro e he
    by_cases h : e = C
    · subst h
      rw [ud_s, ud_s, N.nct k hk, hTN0]
      exact sm_c fun i hi => by rw [nn i hi]
    · rw [ud_n h, nn e (by omega), N.nix e (by omega)]
      exact sm_c fun i hi => by rw [nn i (by omega)]
  · intro q hq
    have e : sm C (fun e => bI (ud (A 2) C k e = q)) = sm C (fun e => bI (A 2 e = q)) := sm_c fun i hi => by rw [nn i hi]
    simp only [sm]
    rw [e, ud_s]
    by_cases h : q = k
    · subst h; rw [ud_s, N.nct q hq, hTN0, bI_t rfl]
    · rw [ud_n h, N.nct q hq, hTN0, bI_f (by omega)]; omega
  · intro e he
    by_cases h : e = C
    · subst h; rw [ud_s, ud_s]; omega
    · rw [ud_n h, ud_n h]; exact N.nho e (by omega)
  · intro e he
    by_cases h : e = C
    · subst h; rw [ud_s, ud_s]; omega
    · rw [ud_n h, ud_n h]; exact N.ntl e (by omega)
  · intro e i he hi
    by_cases h : e = C
    · subst h
      rw [ud_s] at hi
      exact ft2 i hi
    · rw [ud_n h] at hi
      have := N.ntl e (by omega)
      rw [ft e i (by omega) (by omega), e3 _ (by omega)]
      exact N.ntr e i (by omega) hi
  · intro h h1 h2
    have e : sm C (fun e => bI (ud (A 58) C to e = h)) = sm C (fun e => bI (A 58 e = h)) := sm_c fun i hi => by rw [ud_n (show i ≠ C by omega)]
    simp only [sm]
    rw [e, ud_s, e61, N.nhe h h1 h2, hTN0]
  · rw [e61, N.nh0, bI_f (by omega)]; rfl
  · intro i hi
    rw [e60 i (by omega)]
    split
    · have := N.nor i (by omega); omega
    · split
      · omega
      · have := N.nor (i - 1) (by omega); omega
  · intro i j hij hj
    rw [e60 i (by omega), e60 j (by omega)]
    by_cases h1 : j < pl
    · rw [if_pos h1, if_pos (show i < pl by omega), nn _ (oc i (by omega)), nn _ (oc j (by omega))]
      exact N.nso i j hij (by omega)
    · rw [if_neg h1]
      by_cases h2 : j = pl
      · rw [if_pos h2, if_pos (show i < pl by omega), nn _ (oc i (by omega)), show ((C : Int)).toNat = C from Int.toNat_natCast C, ud_s]
        have := hp1 i (by omega)
        have := N.nor i (by omega)
        omega
      · rw [if_neg h2, nn _ (oc (j - 1) (by omega))]
        by_cases h3 : i < pl
        · rw [if_pos h3, nn _ (oc i (by omega))]
          exact N.nso i (j - 1) (by omega) (by omega)
        · rw [if_neg h3]
          by_cases h4 : i = pl
          · rw [if_pos h4, show ((C : Int)).toNat = C from Int.toNat_natCast C, ud_s]
            exact Or.inl (hp2 (j - 1) (by omega) (by omega))
          · rw [if_neg h4, nn _ (oc (i - 1) (by omega))]
            exact N.nso (i - 1) (j - 1) (by omega) (by omega)
  · intro c hc
    by_cases h : c = C
    · exact ⟨pl, by omega, by rw [e60 pl hpl, if_neg (by omega), if_pos rfl, h]⟩
    · obtain ⟨i, h1, h2⟩ := N.nsu c (by omega)
      by_cases h3 : i < pl
      · exact ⟨i, by omega, by rw [e60 i (by omega), if_pos h3, h2]⟩
      · exact ⟨i + 1, by omega, by rw [e60 (i + 1) (by omega), if_neg (by omega), if_neg (by omega), Nat.add_sub_cancel, h2]⟩
  · have e : sm C (fun e => bI (ud (A 58) C to e = -1)) = sm C (fun e => bI (A 58 e = -1)) := sm_c fun i hi => by rw [ud_n (show i ≠ C by omega)]
    simp only [sm]
    rw [e, ud_s, bI_f (by omega), N.nfc, hTN0]; omega
end NOTE3
