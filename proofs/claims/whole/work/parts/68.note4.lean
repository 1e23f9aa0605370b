/-! NOTES: a copy is made, on both sides -/
theorem ud_ud (f : Nat → Int) (j : Nat) (a b : Int) : ud (ud f j a) j b = ud f j b := by
  funext i
  unfold ud
  split <;> rfl
section NOTE4
variable {K D : Int} {A0 B0 A B A' B' : hI}
/-- the order, opened behind place i -/
def xSh (A : hI) (C i : Nat) : hI := fun q => if q = 60 then (fun j => if i < j ∧ j ≤ C then A 60 (j - 1) else A 60 j) else A q
theorem xSh_60 (A : hI) (C i j : Nat) : xSh A C i 60 j = if i < j ∧ j ≤ C then A 60 (j - 1) else A 60 j := rfl
theorem xSh_o (A : hI) (C i : Nat) {q : Nat} (h : q ≠ 60) : xSh A C i q = A q := if_neg h
theorem xSh_C (A : hI) (C : Nat) : xSh A C C = A := by
  funext q
  by_cases h : q = 60
  · subst h
    funext j
    rw [xSh_60, if_neg (by omega)]
  · exact xSh_o A C C h
theorem xSh_st (A : hI) {C i : Nat} (h : 1 ≤ i) (h2 : i ≤ C) : uA (xSh A C i) 60 i (A 60 (i - 1)) = xSh A C (i - 1) := by
  funext q
  by_cases hq : q = 60
  · subst hq
    rw [uA_s]
    funext j
    by_cases hj : j = i
    · subst hj
      rw [ud_s, xSh_60, if_pos (by omega)]
    · rw [ud_n hj, xSh_60, xSh_60]
      by_cases hc : i < j ∧ j ≤ C
      · rw [if_pos hc, if_pos (by omega)]
      · rw [if_neg hc, if_neg (by omega)]
  · rw [uA_n hq, xSh_o _ _ _ hq, xSh_o _ _ _ hq]
def xAd (A : hI) (k pl : Nat) : hI := uA (uA (uA (uA (uA (xSh A (A 55 7).toNat pl) 60 pl (A 55 7)) 2 (A 55 7).toNat k) 58 (A 55 7).toNat (-1)) 59 (A 55 7).toNat 0) 55 7 (A 55 7 + 1)
theorem ex_addCopy (F : Nat) (Bx : hI) (k pl : Int) (hF : 1000 ≤ F) (hC : 0 ≤ A 55 7) (hC2 : A 55 7 < 400) (hk : 0 ≤ k) (hp : 0 ≤ pl) (hp2 : pl ≤ A 55 7) : f_Notes_addCopy F (iI k) (iI pl) (mk A Bx) = some (iI (A 55 7), mk (xAd A k.toNat pl.toNat) Bx) := by
  unfold f_Notes_addCopy
  generalize hcd : (A 55 7).toNat = C
  refine loopF (f := fun n (s : Int32 × mM) => f_Notes_addCopy_11 F n (iI k) (iI pl) (iI (A 55 7)) s.1 s.2) (s := (iI (A 55 7), mk A Bx)) (fun j s => s = (iI (A 55 7 - j), mk (xSh A C (C - j)) Bx)) (fun t => t = some (iI (A 55 7), mk (xAd A k.toNat pl.toNat) Bx)) (C - pl.toNat) ?_ ?_ (by omega)
  · rw [show A 55 7 - ((0 : Nat) : Int) = A 55 7 by omega, show C - 0 = C by omega, xSh_C]
  · intro n j s hj hs
    subst hs
    show (f_Notes_addCopy_11 F (n + 1) (iI k) (iI pl) (iI (A 55 7)) (iI (A 55 7 - j)) (mk (xSh A C (C - j)) Bx) = _) ∨ _
    by_cases he : j = C - pl.toNat
    · refine Or.inl ?_
      rw [f_Notes_addCopy_11, show C - j = pl.toNat by omega]
      unfold xAd
      simp only [f_Notes_addCopy_80]
      simp (disch := first | omega | (simp (disch := omega) only [uA_n]; done) | fail) only [iI_lit, iI_add, iI_sub, iI_mul, iI_neg, iI_lt, iI_le, iI_eq, zlt_t, zlt_f, zle_t, zle_f, zeq_t, zeq_f, nle_t, nle_f, iI_cl, rA, rS, rB, wA, wS, wB, mkp, mk2, uA_s, uA_n, ud_s, ud_n, bI_0, bI_1, nor_s, reduceIte, or_false, false_or, or_true, true_or, or_self, not_true_eq_false, not_false_eq_true, and_true, true_and, and_false, false_and, bI_T, bI_F, Int.reduceToNat, Nat.reduceAdd, Nat.reduceMul, Int.reduceNeg, Option.bind_some, Int.toNat_natCast, xSh_o, hcd, show (k.toNat : Int) = k from Int.toNat_of_nonneg hk]
    · refine Or.inr ⟨by omega, (iI (A 55 7 - (j + 1 : Nat)), mk (xSh A C (C - (j + 1))) Bx), ?_, rfl⟩
      have h60 : xSh A C (C - j) 60 (A 55 7 - j - 1).toNat = A 60 (C - j - 1) := by rw [xSh_60, if_neg (by omega), show (A 55 7 - j - 1).toNat = C - j - 1 by omega]
      have est := xSh_st A (C := C) (i := C - j) (by omega) (by omega)
      rw [f_Notes_addCopy_11]
      simp (disch := first | omega | (simp (disch := omega) only [uA_n]; done) | fail) only [iI_lit, iI_add, iI_sub, iI_mul, iI_neg, iI_lt, iI_le, iI_eq, zlt_t, zlt_f, zle_t, zle_f, zeq_t, zeq_f, nle_t, nle_f, iI_cl, rA, rS, rB, wA, wS, wB, mkp, mk2, uA_s, uA_n, ud_s, ud_n, bI_0, bI_1, nor_s, reduceIte, or_false, false_or, or_true, true_or, or_self, not_true_eq_false, not_false_eq_true, and_true, true_and, and_false, false_and, bI_T, bI_F, Int.reduceToNat, Nat.reduceAdd, Nat.reduceMul, Int.reduceNeg, Option.bind_some, Int.toNat_natCast, h60, show (A 55 7 - (j : Int)).toNat = C - j by omega, est]
      rw [show A 55 7 - (j : Int) + -1 = A 55 7 - ((j + 1 : Nat) : Int) by omega, show C - j - 1 = C - (j + 1) by omega]
theorem xAd_60 (A : hI) (k pl : Nat) {C : Nat} (hC : (C : Int) = A 55 7) (hp : pl ≤ C) {i : Nat} (hi : i ≤ C) : xAd A k pl 60 i = if i < pl then A 60 i else if i = pl then (C : Int) else A 60 (i - 1) := by
  have e : xAd A k pl 60 = ud (xSh A (A 55 7).toNat pl 60) pl (A 55 7) := by unfold xAd; simp (disch := first | omega | (simp (disch := omega) only [uA_n]; done) | fail) only [iI_lit, iI_add, iI_sub, iI_mul, iI_neg, iI_lt, iI_le, iI_eq, zlt_t, zlt_f, zle_t, zle_f, zeq_t, zeq_f, nle_t, nle_f, iI_cl, rA, rS, rB, wA, wS, wB, mkp, mk2, uA_s, uA_n, ud_s, ud_n, bI_0, bI_1, nor_s, reduceIte, or_false, false_or, or_true, true_or, or_self, not_true_eq_false, not_false_eq_true, and_true, true_and, and_false, false_and, bI_T, bI_F, Int.reduceToNat, Nat.reduceAdd, Nat.reduceMul, Int.reduceNeg, Option.bind_some, Int.toNat_natCast]
  rw [e]
  by_cases h : i = pl
  · subst h; rw [ud_s, if_neg (by omega), if_pos rfl, hC]
  · rw [ud_n h, xSh_60]
    by_cases h2 : i < pl
    · rw [if_neg (by omega), if_pos h2]
    · rw [if_pos (by omega), if_neg h2, if_neg h]
theorem xAd_c (A : hI) (k pl : Nat) {C : Nat} (hC : (C : Int) = A 55 7) : xAd A k pl 2 = ud (A 2) C k ∧ xAd A k pl 58 = ud (A 58) C (-1) ∧ xAd A k pl 59 = ud (A 59) C 0 ∧ xAd A k pl 55 = ud (A 55) 7 (A 55 7 + 1) ∧ ∀ q : Nat, q ≠ 60 ∧ q ≠ 2 ∧ q ≠ 58 ∧ q ≠ 59 ∧ q ≠ 55 → xAd A k pl q = A q := by
  obtain rfl : C = (A 55 7).toNat := by omega
  unfold xAd
  refine ⟨?_, ?_, ?_, ?_, fun q hq => ?_⟩ <;> simp (disch := first | omega | (simp (disch := omega) only [uA_n]; done) | fail) only [iI_lit, iI_add, iI_sub, iI_mul, iI_neg, iI_lt, iI_le, iI_eq, zlt_t, zlt_f, zle_t, zle_f, zeq_t, zeq_f, nle_t, nle_f, iI_cl, rA, rS, rB, wA, wS, wB, mkp, mk2, uA_s, uA_n, ud_s, ud_n, bI_0, bI_1, nor_s, reduceIte, or_false, false_or, or_true, true_or, or_self, not_true_eq_false, not_false_eq_true, and_true, true_and, and_false, false_and, bI_T, bI_F, Int.reduceToNat, Nat.reduceAdd, Nat.reduceMul, Int.reduceNeg, Option.bind_some, Int.toNat_natCast, xSh_o]
/-- the reference's copy -/
def mCp (B : hI) (k : Nat) (h : Int) : hI := uA (uA (uA (uA (uA (uA B 430 (B 400 6).toNat k) 431 (B 400 6).toNat (B 424 k)) 432 (B 400 6).toNat h) 433 (B 400 6).toNat 0) 424 k (B 424 k + 1)) 400 6 (B 400 6 + 1)
theorem em_copied (F : Nat) (Ax : hI) (k h : Int) (hk : 0 ≤ k) (hk2 : k < 300) (hC : 0 ≤ B 400 6) (hC2 : B 400 6 < 400) : f_m_copied F (iI k) (iI h) (mk Ax B) = some (iI (B 400 6), mk Ax (mTr (mCp B k.toNat h) (B 400 6).toNat h)) := by
  unfold mCp
  simp only [f_m_copied, f_m_copied_26, f_m_copied_69, f_m_copied_98]
  simp (disch := first | omega | (simp (disch := omega) only [uA_n]; done) | fail) only [iI_lit, iI_add, iI_sub, iI_mul, iI_neg, iI_lt, iI_le, iI_eq, zlt_t, zlt_f, zle_t, zle_f, zeq_t, zeq_f, nle_t, nle_f, iI_cl, rA, rS, rB, wA, wS, wB, mkp, mk2, uA_s, uA_n, ud_s, ud_n, bI_0, bI_1, nor_s, reduceIte, or_false, false_or, or_true, true_or, or_self, not_true_eq_false, not_false_eq_true, and_true, true_and, and_false, false_and, bI_T, bI_F, Int.reduceToNat, Nat.reduceAdd, Nat.reduceMul, Int.reduceNeg, Option.bind_some, Int.toNat_natCast, zC, zC0, zN, dS]
  rw [em_trails F Ax (B 400 6) h hC (by omega) (by simp (disch := first | omega | (simp (disch := omega) only [uA_n]; done) | fail) only [iI_lit, iI_add, iI_sub, iI_mul, iI_neg, iI_lt, iI_le, iI_eq, zlt_t, zlt_f, zle_t, zle_f, zeq_t, zeq_f, nle_t, nle_f, iI_cl, rA, rS, rB, wA, wS, wB, mkp, mk2, uA_s, uA_n, ud_s, ud_n, bI_0, bI_1, nor_s, reduceIte, or_false, false_or, or_true, true_or, or_self, not_true_eq_false, not_false_eq_true, and_true, true_and, and_false, false_and, bI_T, bI_F, Int.reduceToNat, Nat.reduceAdd, Nat.reduceMul, Int.reduceNeg, Option.bind_some, Int.toNat_natCast])]
  simp (disch := first | omega | (simp (disch := omega) only [uA_n]; done) | fail) only [iI_lit, iI_add, iI_sub, iI_mul, iI_neg, iI_lt, iI_le, iI_eq, zlt_t, zlt_f, zle_t, zle_f, zeq_t, zeq_f, nle_t, nle_f, iI_cl, rA, rS, rB, wA, wS, wB, mkp, mk2, uA_s, uA_n, ud_s, ud_n, bI_0, bI_1, nor_s, reduceIte, or_false, false_or, or_true, true_or, or_self, not_true_eq_false, not_false_eq_true, and_true, true_and, and_false, false_and, bI_T, bI_F, Int.reduceToNat, Nat.reduceAdd, Nat.reduceMul, Int.reduceNeg, Option.bind_some, Int.toNat_natCast, show (k.toNat : Int) = k from Int.toNat_of_nonneg hk]
theorem mCp_c (B : hI) (k : Nat) (h : Int) {C : Nat} (hC : (C : Int) = B 400 6) : mCp B k h 430 = ud (B 430) C k ∧ mCp B k h 431 = ud (B 431) C (B 424 k) ∧ mCp B k h 432 = ud (B 432) C h ∧ mCp B k h 433 = ud (B 433) C 0 ∧ mCp B k h 424 = ud (B 424) k (B 424 k + 1) ∧ mCp B k h 400 = ud (B 400) 6 (B 400 6 + 1) ∧ ∀ q : Nat, q ≠ 430 ∧ q ≠ 431 ∧ q ≠ 432 ∧ q ≠ 433 ∧ q ≠ 424 ∧ q ≠ 400 → mCp B k h q = B q := by
  obtain rfl : C = (B 400 6).toNat := by omega
  unfold mCp
  refine ⟨?_, ?_, ?_, ?_, ?_, ?_, fun q hq => ?_⟩ <;> simp (disch := first | omega | (simp (disch := omega) only [uA_n]; done) | fail) only [iI_lit, iI_add, iI_sub, iI_mul, iI_neg, iI_lt, iI_le, iI_eq, zlt_t, zlt_f, zle_t, zle_f, zeq_t, zeq_f, nle_t, nle_f, iI_cl, rA, rS, rB, wA, wS, wB, mkp, mk2, uA_s, uA_n, ud_s, ud_n, bI_0, bI_1, nor_s, reduceIte, or_false, false_or, or_true, true_or, or_self, not_true_eq_false, not_false_eq_true, and_true, true_and, and_false, false_and, bI_T, bI_F, Int.reduceToNat, Nat.reduceAdd, Nat.reduceMul, Int.reduceNeg, Option.bind_some, Int.toNat_natCast]
/-- a number becomes OUT that was NEW -/
theorem WN.nw (N : WN A A B) {k : Nat} (hk : (k : Int) = A 55 8) (hk3 : k < 300) (e56 : A' 56 = ud (A 56) k 1) (e55 : ∀ j : Nat, j ≠ 8 ∧ j ≠ 9 → A' 55 j = A 55 j) (e8 : A' 55 8 = A 55 8 + 1) (e9 : A' 55 9 = A 55 9 + 1) (eo : ∀ q : Nat, q ≠ 55 ∧ q ≠ 56 → A' q = A q) (f422 : B' 422 = ud (B 422) k 1) (fo : ∀ q : Nat, q ≠ 422 → B' q = B q) : WN A' A' B' := by
  have f3 : ∀ i : Nat, B' (434 + i) = B (434 + i) := fun i => fo _ (by omega)
  have h0 := (N.nsn k hk3).mpr (by omega)
  unfold WN
  simp only [e56, e8, e9, e55 7 (by omega), e55 10 (by omega), e55 11 (by omega), e55 12 (by omega), eo 19 (by omega), eo 58 (by omega), eo 59 (by omega), eo 60 (by omega), eo 61 (by omega), eo 2 (by omega), eo 3 (by omega), eo 4 (by omega), eo 5 (by omega), eo 6 (by omega), f422, f3, fo 400 (by omega), fo 424 (by omega), fo 430 (by omega), fo 431 (by omega), fo 432 (by omega), fo 433 (by omega), fo 442 (by omega), fo 443 (by omega), fo 444 (by omega)]
  refine ⟨N.nc1, N.nc2, N.nc3, by omega, by omega, ?_, ?_, ?_, ?_, N.nix, N.nct, N.nho, N.ntl, N.ntr, N.nhe, N.nh0, N.nor, N.nso, N.nsu, ?_, ?_, ?_, N.nfo, N.nfc, N.nfr⟩
  · intro q hq
    by_cases h : q = k
    · subst h; rw [ud_s, ud_s]
    · rw [ud_n h, ud_n h]; exact N.nst q hq
  · intro q hq
    by_cases h : q = k
    · subst h; rw [ud_s]; omega
    · rw [ud_n h]; exact N.nsr q hq
  · intro q hq
    by_cases h : q = k
    · subst h; rw [ud_s]; omega
    · rw [ud_n h]; have := N.nsn q hq; omega
  · intro c hc
    have := N.nnu c hc
    omega
  · rw [cnt_ud hk3, ← N.nou, h0, bI_f (by omega), bI_t rfl]; omega
  · rw [cnt_ud hk3, ← N.nin, h0, bI_f (by omega), bI_f (by omega)]; omega
  · rw [cnt_ud hk3, ← N.nbu, h0, bI_f (by omega), bI_f (by omega)]; omega
/-- from the last step of a copy: what lasts is kept -/
theorem ad_ext {C : Nat} {t : Int} (N : WN A A B) (hC : (C : Int) = A 55 7) (e7 : A' 55 7 = A 55 7 + 1) (e12 : A' 55 12 = A 55 12) (e2 : ∀ e, e < C → A' 2 e = A 2 e) (e59 : A' 59 = ud (A 59) C t) (e3 : ∀ j, j < 8 * C → A' 3 j = A 3 j) (eo : ∀ q : Nat, q < 2 ∨ (4 ≤ q ∧ q < 17) → A' q = A q) : MON A A' ∧ AGR A A A' := by
  refine ⟨⟨by omega, fun e he => by rw [e59, ud_n (by omega)]; exact Int.le_refl _, by omega, by rw [eo 16 (by omega)]; omega, by rw [eo 16 (by omega)]; omega⟩, fun e he => ⟨e2 e (by omega), fun i hi => e3 _ (by have := N.ntl e he; omega)⟩, fun i _ _ => ⟨by rw [eo 4 (by omega)], by rw [eo 5 (by omega)], by rw [eo 6 (by omega)]⟩, fun k i _ _ => by rw [eo 7 (by omega)], fun x _ => ⟨by rw [eo 9 (by omega)], by rw [eo 10 (by omega)], by rw [eo 11 (by omega)], by rw [eo 12 (by omega)], by rw [eo 13 (by omega)], fun i _ => by rw [eo 14 (by omega)]⟩⟩
def xFg (A : hI) (k pl : Nat) (h : Int) : hI := xMv (xAd A k pl) (A 55 7).toNat h
def mFg (B : hI) (k : Nat) (h : Int) : hI := mTr (mCp B k h) (B 400 6).toNat h
theorem RR.fg (R : RR K D A0 B0 A B) {k pl : Nat} {h : Int} (hC4 : A 55 7 < 400) (hk : k < 300) (hkn : (k : Int) < A 55 8) (hh : 1 ≤ h ∧ h < A 19 11) (hpl : (pl : Int) ≤ A 55 7) (hp1 : ∀ i, i < pl → A 2 (A 60 i).toNat ≤ k) (hp2 : ∀ i, pl ≤ i → (i : Int) < A 55 7 → (k : Int) < A 2 (A 60 i).toNat) : RR K D A0 B0 (xFg A k pl h) (mFg B k h) := by
  have N := R.gN
  have hn := R.gH.hn2
  have hc1 := N.nc1
  unfold xFg mFg
  rw [N.nc3]
  generalize hcd : (A 55 7).toNat = C
  have hC : (C : Int) = A 55 7 := by omega
  obtain ⟨a2, a58, a59, a55, ao⟩ := xAd_c A k pl hC
  obtain ⟨b430, b431, b432, b433, b424, b400, bo⟩ := mCp_c B k h (C := C) (by rw [N.nc3]; exact hC)
  have z0 : xAd A k pl 59 C = 0 := by rw [a59, ud_s]
  have w0 : mCp B k h 433 C = 0 := by rw [b433, ud_s]
  have o : ∀ q : Nat, q ≠ 58 ∧ q ≠ 59 ∧ q ≠ 61 ∧ q ≠ 3 → xMv (xAd A k pl) C h q = xAd A k pl q := fun q hq => xMv_o _ C h hq
  have E : ∀ q : Nat, ¬ (433 ≤ q ∧ q ≤ 441) → mTr (mCp B k h) C h q = mCp B k h q := fun q hq => mTr_o _ _ _ (by omega) (by omega)
  have c58 : xMv (xAd A k pl) C h 58 = ud (A 58) C h := by rw [xMv_58, a58, ud_ud]
  have c59 : xMv (xAd A k pl) C h 59 = ud (A 59) C 1 := by rw [xMv_59, z0, if_neg (by omega), a59, ud_ud]; rfl
  have c3 : xMv (xAd A k pl) C h 3 = ud (A 3) (8 * C) h := by rw [xMv_3, z0, if_neg (by omega), ao 3 (by omega)]; rfl
  have c61 : ∀ g : Nat, xMv (xAd A k pl) C h 61 g = A 61 g + bI (h = g) := fun g => by
    rw [xMv_61 _ _ _ (by rw [a58, ud_s]; omega) (by omega), a58, ud_s, ao 61 (by omega), bI_f (by omega), bI_c (show (1 ≤ g ∧ h = g) ↔ h = g by omega)]
    omega
  have x := ad_ext (A := A) (A' := xMv (xAd A k pl) C h) (t := 1) N hC (by rw [o 55 (by omega), a55, ud_s]) (by rw [o 55 (by omega), a55, ud_n (by omega)]) (fun e he => by rw [o 2 (by omega), a2, ud_n (by omega)]) c59 (fun j hj => by rw [c3, ud_n (by omega)]) (fun q hq => by rw [o q (by omega), ao q (by omega)])
  refine R.ofN (fun q hq => by rw [o q (by omega), ao q (by omega)]) (fun q hq => by rw [E q (by omega), bo q (by omega)]) (fun j hj => by rw [E 400 (by omega), b400, ud_n hj.1]) ?_ ?_ x.1 x.2
  · refine N.ad (C := C) (t := 1) hC (by omega) hk hkn hh (by omega) (by omega) hp1 (fun i h1 h2 => hp2 i h1 (by omega)) (by rw [o 55 (by omega), a55, ud_s]) (fun j hj => by rw [o 55 (by omega), a55, ud_n hj]) (by rw [o 2 (by omega), a2]) c58 c59 (fun j hj => by rw [c3, ud_n (by omega)]) c61 (fun i hi => by rw [o 60 (by omega), xAd_60 A k pl hC (by omega) hi]) (fun q hq => by rw [o q (by omega), ao q (by omega)]) (by rw [E 400 (by omega), b400, ud_s]) (by rw [E 400 (by omega), b400, ud_n (by omega)]) (by rw [E 430 (by omega), b430]) (by rw [E 431 (by omega), b431]) (by rw [E 432 (by omega), b432]) ?_ ?_ ?_ (by rw [E 424 (by omega), b424]) ⟨by rw [E 422 (by omega), bo 422 (by omega)], by rw [E 442 (by omega), bo 442 (by omega)], by rw [E 443 (by omega), bo 443 (by omega)], by rw [E 444 (by omega), bo 444 (by omega)]⟩
    · rw [mTr_433, w0, if_neg (by omega), b433, ud_ud]; rfl
    · intro e i he hi
      rw [mTr_t _ _ _ _ (by omega), w0, bo (434 + i) (by omega)]
      split
      · rfl
      · rw [ud_n (by omega)]
    · intro i hi
      obtain rfl : i = 0 := by omega
      rw [mTr_t _ _ _ _ (by omega), w0, if_neg (by omega), ud_s, c3, Nat.add_zero, ud_s]
  · intro q hq h2
    rw [o 56 (by omega), ao 56 (by omega)] at h2
    have hi := R.gI q hq h2
    rw [o 57 (by omega), ao 57 (by omega), o 55 (by omega), a55, ud_s, o 2 (by omega), a2, ud_n (by omega), c58, ud_n (by omega), E 423 (by omega), bo 423 (by omega)]
    omega
def xNw (A : hI) (to : Int) : hI := xMv (xMv (uA (uA (uA (xAd A (A 55 8).toNat (A 55 7).toNat) 56 (A 55 8).toNat 1) 55 8 (A 55 8 + 1)) 55 9 (A 55 9 + 1)) (A 55 7).toNat 0) (A 55 7).toNat to
def mNw (B : hI) (k : Nat) (to : Int) : hI := mTr (uA (mTr (mCp (uA B 422 k 1) k 0) (B 400 6).toNat 0) 432 (B 400 6).toNat to) (B 400 6).toNat to
theorem RR.nw (R : RR K D A0 B0 A B) {to : Int} (hC4 : A 55 7 < 400) (hk : A 55 8 < 300) (hh : 1 ≤ to ∧ to < A 19 11) : RR K D A0 B0 (xNw A to) (mNw B (A 55 8).toNat to) := by
  have N := R.gN
  have hn := R.gH.hn2
  have hc1 := N.nc1
  have hf1 := N.nf1
  unfold xNw mNw
  rw [N.nc3]
  generalize hcd : (A 55 7).toNat = C
  generalize hkd : (A 55 8).toNat = k
  have hC : (C : Int) = A 55 7 := by omega
  have hkk : (k : Int) = A 55 8 := by omega
  obtain ⟨a2, a58, a59, a55, ao⟩ := xAd_c A k C hC
  generalize hX : uA (uA (uA (xAd A k C) 56 k 1) 55 8 (A 55 8 + 1)) 55 9 (A 55 9 + 1) = X
  have x56 : X 56 = ud (A 56) k 1 := by rw [← hX]; simp (disch := first | omega | (simp (disch := omega) only [uA_n]; done) | fail) only [iI_lit, iI_add, iI_sub, iI_mul, iI_neg, iI_lt, iI_le, iI_eq, zlt_t, zlt_f, zle_t, zle_f, zeq_t, zeq_f, nle_t, nle_f, iI_cl, rA, rS, rB, wA, wS, wB, mkp, mk2, uA_s, uA_n, ud_s, ud_n, bI_0, bI_1, nor_s, reduceIte, or_false, false_or, or_true, true_or, or_self, not_true_eq_false, not_false_eq_true, and_true, true_and, and_false, false_and, bI_T, bI_F, Int.reduceToNat, Nat.reduceAdd, Nat.reduceMul, Int.reduceNeg, Option.bind_some, Int.toNat_natCast, ao]
  have x55 : X 55 = ud (ud (ud (A 55) 7 (A 55 7 + 1)) 8 (A 55 8 + 1)) 9 (A 55 9 + 1) := by rw [← hX]; simp (disch := first | omega | (simp (disch := omega) only [uA_n]; done) | fail) only [iI_lit, iI_add, iI_sub, iI_mul, iI_neg, iI_lt, iI_le, iI_eq, zlt_t, zlt_f, zle_t, zle_f, zeq_t, zeq_f, nle_t, nle_f, iI_cl, rA, rS, rB, wA, wS, wB, mkp, mk2, uA_s, uA_n, ud_s, ud_n, bI_0, bI_1, nor_s, reduceIte, or_false, false_or, or_true, true_or, or_self, not_true_eq_false, not_false_eq_true, and_true, true_and, and_false, false_and, bI_T, bI_F, Int.reduceToNat, Nat.reduceAdd, Nat.reduceMul, Int.reduceNeg, Option.bind_some, Int.toNat_natCast, a55]
  have xo : ∀ q : Nat, q ≠ 55 ∧ q ≠ 56 → X q = xAd A k C q := fun q hq => by rw [← hX]; simp (disch := first | omega | (simp (disch := omega) only [uA_n]; done) | fail) only [iI_lit, iI_add, iI_sub, iI_mul, iI_neg, iI_lt, iI_le, iI_eq, zlt_t, zlt_f, zle_t, zle_f, zeq_t, zeq_f, nle_t, nle_f, iI_cl, rA, rS, rB, wA, wS, wB, mkp, mk2, uA_s, uA_n, ud_s, ud_n, bI_0, bI_1, nor_s, reduceIte, or_false, false_or, or_true, true_or, or_self, not_true_eq_false, not_false_eq_true, and_true, true_and, and_false, false_and, bI_T, bI_F, Int.reduceToNat, Nat.reduceAdd, Nat.reduceMul, Int.reduceNeg, Option.bind_some, Int.toNat_natCast]
  have b400' : uA B 422 k 1 400 6 = A 55 7 := by rw [uA_n (by omega), N.nc3]
  obtain ⟨b430, b431, b432, b433, b424, b400, bo⟩ := mCp_c (uA B 422 k 1) k 0 (C := C) (by rw [b400']; exact hC)
  generalize hA1 : uA (uA (uA A 56 k 1) 55 8 (A 55 8 + 1)) 55 9 (A 55 9 + 1) = A1
  have p56 : A1 56 = ud (A 56) k 1 := by rw [← hA1]; simp (disch := first | omega | (simp (disch := omega) only [uA_n]; done) | fail) only [iI_lit, iI_add, iI_sub, iI_mul, iI_neg, iI_lt, iI_le, iI_eq, zlt_t, zlt_f, zle_t, zle_f, zeq_t, zeq_f, nle_t, nle_f, iI_cl, rA, rS, rB, wA, wS, wB, mkp, mk2, uA_s, uA_n, ud_s, ud_n, bI_0, bI_1, nor_s, reduceIte, or_false, false_or, or_true, true_or, or_self, not_true_eq_false, not_false_eq_true, and_true, true_and, and_false, false_and, bI_T, bI_F, Int.reduceToNat, Nat.reduceAdd, Nat.reduceMul, Int.reduceNeg, Option.bind_some, Int.toNat_natCast]
  have p55 : A1 55 = ud (ud (A 55) 8 (A 55 8 + 1)) 9 (A 55 9 + 1) := by rw [← hA1]; simp (disch := first | omega | (simp (disch := omega) only [uA_n]; done) | fail) only [iI_lit, iI_add, iI_sub, iI_mul, iI_neg, iI_lt, iI_le, iI_eq, zlt_t, zlt_f, zle_t, zle_f, zeq_t, zeq_f, nle_t, nle_f, iI_cl, rA, rS, rB, wA, wS, wB, mkp, mk2, uA_s, uA_n, ud_s, ud_n, bI_0, bI_1, nor_s, reduceIte, or_false, false_or, or_true, true_or, or_self, not_true_eq_false, not_false_eq_true, and_true, true_and, and_false, false_and, bI_T, bI_F, Int.reduceToNat, Nat.reduceAdd, Nat.reduceMul, Int.reduceNeg, Option.bind_some, Int.toNat_natCast]
  have po : ∀ q : Nat, q ≠ 55 ∧ q ≠ 56 → A1 q = A q := fun q hq => by rw [← hA1]; simp (disch := first | omega | (simp (disch := omega) only [uA_n]; done) | fail) only [iI_lit, iI_add, iI_sub, iI_mul, iI_neg, iI_lt, iI_le, iI_eq, zlt_t, zlt_f, zle_t, zle_f, zeq_t, zeq_f, nle_t, nle_f, iI_cl, rA, rS, rB, wA, wS, wB, mkp, mk2, uA_s, uA_n, ud_s, ud_n, bI_0, bI_1, nor_s, reduceIte, or_false, false_or, or_true, true_or, or_self, not_true_eq_false, not_false_eq_true, and_true, true_and, and_false, false_and, bI_T, bI_F, Int.reduceToNat, Nat.reduceAdd, Nat.reduceMul, Int.reduceNeg, Option.bind_some, Int.toNat_natCast]
  have N1 : WN A1 A1 (uA B 422 k 1) := N.nw hkk (by omega) p56 (fun j hj => by rw [p55, ud_n hj.2, ud_n hj.1]) (by rw [p55, ud_n (by omega), ud_s]) (by rw [p55, ud_s]) po (uA_s _ _ _ _) (fun q hq => uA_n hq)
  generalize hM : mCp (uA B 422 k 1) k 0 = M at *
  have z0 : X 59 C = 0 := by rw [xo 59 (by omega), a59, ud_s]
  have zh : X 58 C = -1 := by rw [xo 58 (by omega), a58, ud_s]
  have w0 : M 433 C = 0 := by rw [b433, ud_s]
  have hY : ∀ q : Nat, q ≠ 58 ∧ q ≠ 59 ∧ q ≠ 61 ∧ q ≠ 3 → xMv X C 0 q = X q := fun q hq => xMv_o _ C 0 hq
  have y58 : xMv X C 0 58 = ud (A 58) C 0 := by rw [xMv_58, xo 58 (by omega), a58, ud_ud]
  have y59 : xMv X C 0 59 = ud (A 59) C 1 := by rw [xMv_59, z0, if_neg (by omega), xo 59 (by omega), a59, ud_ud]; rfl
  have y3 : xMv X C 0 3 = ud (A 3) (8 * C) 0 := by rw [xMv_3, z0, if_neg (by omega), xo 3 (by omega), ao 3 (by omega)]; rfl
  have y61 : ∀ g : Nat, xMv X C 0 61 g = A 61 g := fun g => by
    rw [xMv_61 _ _ _ (by omega) (by omega), zh, xo 61 (by omega), ao 61 (by omega), bI_f (by omega), bI_f (by omega)]
    omega
  generalize hYd : xMv X C 0 = Y at *
  have o : ∀ q : Nat, q ≠ 58 ∧ q ≠ 59 ∧ q ≠ 61 ∧ q ≠ 3 → xMv Y C to q = X q := fun q hq => by rw [xMv_o _ C to hq, hY q hq]
  have u0 : Y 59 C = 1 := by rw [y59, ud_s]
  have c58 : xMv Y C to 58 = ud (A 58) C to := by rw [xMv_58, y58, ud_ud]
  have c59 : xMv Y C to 59 = ud (A 59) C 2 := by rw [xMv_59, u0, if_neg (by omega), y59, ud_ud]; rfl
  have c3 : xMv Y C to 3 = ud (ud (A 3) (8 * C) 0) (8 * C + 1) to := by rw [xMv_3, u0, if_neg (by omega), y3]; rfl
  have c61 : ∀ g : Nat, xMv Y C to 61 g = A 61 g + bI (to = g) := fun g => by
    rw [xMv_61 _ _ _ (by rw [y58, ud_s]; omega) (by omega), y58, ud_s, y61, bI_f (by omega), bI_c (show (1 ≤ g ∧ to = g) ↔ to = g by omega)]
    omega
  have d1 : ∀ q : Nat, ¬ (433 ≤ q ∧ q ≤ 441) → mTr M C 0 q = M q := fun q hq => mTr_o _ _ _ (by omega) (by omega)
  have d433 : mTr M C 0 433 = ud (B 433) C 1 := by rw [mTr_433, w0, if_neg (by omega), b433, ud_ud, uA_n (by omega)]; rfl
  have d434 : ∀ i : Nat, i < 8 → mTr M C 0 (434 + i) = if i = 0 then ud (B 434) C 0 else B (434 + i) := fun i hi => by
    rw [mTr_t _ _ _ _ (by omega), w0, bo (434 + i) (by omega), uA_n (by omega)]
    by_cases h : i = 0
    · subst h; rw [if_neg (by omega), if_pos rfl]
    · rw [if_pos (by omega), if_neg h]
  generalize hT : mTr M C 0 = T at *
  have t0 : uA T 432 C to 433 C = 1 := by rw [uA_n (by omega), d433, ud_s]
  have E : ∀ q : Nat, q ≠ 432 → ¬ (433 ≤ q ∧ q ≤ 441) → mTr (uA T 432 C to) C to q = M q := fun q hq hq2 => by rw [mTr_o _ _ _ (by omega) (by omega), uA_n hq, d1 q hq2]
  have x := ad_ext (A := A) (A' := xMv Y C to) (t := 2) N hC (by rw [o 55 (by omega), x55, ud_n (by omega), ud_n (by omega), ud_s]) (by rw [o 55 (by omega), x55, ud_n (by omega), ud_n (by omega), ud_n (by omega)]) (fun e he => by rw [o 2 (by omega), xo 2 (by omega), a2, ud_n (by omega)]) c59 (fun j hj => by rw [c3, ud_n (by omega), ud_n (by omega)]) (fun q hq => by rw [o q (by omega), xo q (by omega), ao q (by omega)])
  refine R.ofN (fun q hq => by rw [o q (by omega), xo q (by omega), ao q (by omega)]) (fun q hq => by rw [E q (by omega) (by omega), bo q (by omega), uA_n (by omega)]) (fun j hj => by rw [E 400 (by omega) (by omega), b400, ud_n hj.1, uA_n (by omega)]) ?_ ?_ x.1 x.2
  · refine N1.ad (C := C) (k := k) (pl := C) (to := to) (t := 2) (by rw [p55, ud_n (by omega), ud_n (by omega)]; exact hC) (by omega) (by omega) (by rw [p55, ud_n (by omega), ud_s]; omega) (by rw [po 19 (by omega)]; exact hh) (by omega) (by omega) ?_ (fun i h1 h2 => by omega) (by rw [o 55 (by omega), x55, p55]; simp (disch := first | omega | (simp (disch := omega) only [uA_n]; done) | fail) only [iI_lit, iI_add, iI_sub, iI_mul, iI_neg, iI_lt, iI_le, iI_eq, zlt_t, zlt_f, zle_t, zle_f, zeq_t, zeq_f, nle_t, nle_f, iI_cl, rA, rS, rB, wA, wS, wB, mkp, mk2, uA_s, uA_n, ud_s, ud_n, bI_0, bI_1, nor_s, reduceIte, or_false, false_or, or_true, true_or, or_self, not_true_eq_false, not_false_eq_true, and_true, true_and, and_false, false_and, bI_T, bI_F, Int.reduceToNat, Nat.reduceAdd, Nat.reduceMul, Int.reduceNeg, Option.bind_some, Int.toNat_natCast]) (fun j hj => ?_) (by rw [o 2 (by omega), xo 2 (by omega), a2, po 2 (by omega)]) (by rw [c58, po 58 (by omega)]) (by rw [c59, po 59 (by omega)]) (fun j hj => by rw [c3, ud_n (by omega), ud_n (by omega), po 3 (by omega)]) (fun g => by rw [c61, po 61 (by omega)]) (fun i hi => by rw [o 60 (by omega), xo 60 (by omega), xAd_60 A k C hC (by omega) hi, po 60 (by omega)]) ?_ (by rw [E 400 (by omega) (by omega), b400, ud_s]) (by rw [E 400 (by omega) (by omega), b400, ud_n (by omega)]) (by rw [E 430 (by omega) (by omega), b430]) (by rw [E 431 (by omega) (by omega), b431]) ?_ ?_ ?_ ?_ (by rw [E 424 (by omega) (by omega), b424]) ⟨by rw [E 422 (by omega) (by omega), bo 422 (by omega)], by rw [E 442 (by omega) (by omega), bo 442 (by omega)], by rw [E 443 (by omega) (by omega), bo 443 (by omega)], by rw [E 444 (by omega) (by omega), bo 444 (by omega)]⟩
    · intro i hi
      rw [po 60 (by omega), po 2 (by omega)]
      have h1 := N.nor i (by omega)
      have h2 := N.nnu (A 60 i).toNat (by omega)
      omega
    · rw [o 55 (by omega), x55, p55]
      by_cases h9 : j = 9
      · subst h9; rw [ud_s, ud_s]
      · rw [ud_n h9, ud_n h9]
        by_cases h8 : j = 8
        · subst h8; rw [ud_s, ud_s]
        · rw [ud_n h8, ud_n h8, ud_n hj]
    · intro q hq
      by_cases h6 : q = 56
      · subst h6; rw [o 56 (by omega), x56, p56]
      · rw [o q (by omega), xo q (by omega), ao q (by omega), po q (by omega)]
    · rw [mTr_o _ _ _ (by omega) (by omega), uA_s, d1 432 (by omega), b432, ud_ud]
    · rw [mTr_433, t0, if_neg (by omega), uA_n (by omega), d433, ud_ud, uA_n (by omega)]; rfl
    · intro e i he hi
      rw [mTr_t _ _ _ _ (by omega), t0, uA_n (by omega), d434 i hi, uA_n (show 434 + i ≠ 422 by omega)]
      by_cases h0 : i = 0
      · subst h0; rw [if_pos (by omega), if_pos rfl, ud_n (by omega)]
      · rw [if_neg h0]
        split
        · rfl
        · rw [ud_n (by omega)]
    · intro i hi
      rw [mTr_t _ _ _ _ (by omega), t0, uA_n (by omega), d434 i (by omega), c3]
      by_cases h0 : i = 0
      · subst h0; rw [if_pos (by omega), if_pos rfl, ud_s, ud_n (by omega)]; exact (ud_s _ _ _).symm
      · obtain rfl : i = 1 := by omega
        rw [if_neg (by omega), ud_s, ud_s]
  · intro q hq h2
    rw [o 56 (by omega), x56] at h2
    have hne : q ≠ k := fun z => by subst z; rw [ud_s] at h2; omega
    rw [ud_n hne] at h2
    have hi := R.gI q hq h2
    rw [o 57 (by omega), xo 57 (by omega), ao 57 (by omega), o 55 (by omega), x55, ud_n (by omega), ud_n (by omega), ud_s, o 2 (by omega), xo 2 (by omega), a2, ud_n (by omega), c58, ud_n (by omega), E 423 (by omega) (by omega), bo 423 (by omega), uA_n (by omega)]
    omega
end NOTE4
