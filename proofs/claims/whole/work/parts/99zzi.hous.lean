/-! CALLS: house, trade -/
section
variable {K D : Int} {A0 B0 A B : hI} {i : Nat} (F : Nat)
def xHo (A : hI) (n : Nat) (k t : Int) : hI := uA (uA (uA (uA (uA (uA (uA (uA (uA A 20 n k) 21 n t) 22 n 0) 23 n 0) 24 n 0) 25 n 9) 26 n 0) 27 n (-1)) 19 11 (A 19 11 + 1)
def hZ (B : hI) (n j : Nat) : hI := fun c => if 410 ≤ c ∧ c < 410 + j then ud (B c) n 0 else B c
def mHo (B : hI) (n : Nat) (k t : Int) : hI := uA (uA (uA (uA (uA (hZ B n 12) 410 n k) 411 n t) 413 n 1) 416 n 9) 400 2 (B 400 2 + 1)
theorem hZ_0 (B : hI) (n : Nat) : hZ B n 0 = B := by funext c; unfold hZ; rw [if_neg (by omega)]
theorem hZ_u (B : hI) (n j : Nat) : uA (hZ B n j) (410 + j) n 0 = hZ B n (j + 1) := by
  funext c
  by_cases h : c = 410 + j
  · subst h; rw [uA_s]; unfold hZ; rw [if_neg (by omega), if_pos (by omega)]
  · rw [uA_n h]; unfold hZ
    by_cases h2 : 410 ≤ c ∧ c < 410 + j
    · rw [if_pos h2, if_pos (by omega)]
    · rw [if_neg h2, if_neg (by omega)]
theorem hZ_i {B : hI} {n c : Nat} (h : 410 ≤ c ∧ c < 422) : hZ B n 12 c = ud (B c) n 0 := if_pos (by omega)
theorem hZ_o {B : hI} {n j c : Nat} (hj : j ≤ 12) (h : ¬ (410 ≤ c ∧ c < 422)) : hZ B n j c = B c := if_neg (by omega)
theorem RR.house (R : RR K D A0 B0 A B) {n : Nat} (hn : (n : Int) = A 19 11) (h16 : n < 16) {k t : Int} (hk : 0 ≤ k ∧ k ≤ 1) (ht : 0 ≤ t ∧ t < A 17 1) : RR K D A0 B0 (xHo A n k t) (mHo B n k t) := by
  have hn1 := R.gH.hn1
  have hA : ∀ c : Nat, ¬ (19 ≤ c ∧ c ≤ 27) → xHo A n k t c = A c := fun c hc => by unfold xHo; simp (disch := omega) only [uA_n]
  have hB : ∀ c : Nat, ¬ (410 ≤ c ∧ c < 422) ∧ c ≠ 400 → mHo B n k t c = B c := fun c hc => by
    unfold mHo; simp (disch := omega) only [uA_n]; exact hZ_o (by omega) hc.1
  have h4 : ∀ j : Nat, j ≠ 2 → mHo B n k t 400 j = B 400 j := fun j hj => by
    unfold mHo; rw [uA_s, ud_n hj]; simp (disch := omega) only [uA_n]; rw [hZ_o (by omega) (by omega)]
  have h42 : mHo B n k t 400 2 = A 19 11 + 1 := by unfold mHo; rw [uA_s, ud_s, R.gH.hn3]
  have e20 : xHo A n k t 20 = ud (A 20) n k := by unfold xHo; simp (disch := omega) only [uA_n, uA_s]
  have e21 : xHo A n k t 21 = ud (A 21) n t := by unfold xHo; simp (disch := omega) only [uA_n, uA_s]
  have e22 : xHo A n k t 22 = ud (A 22) n 0 := by unfold xHo; simp (disch := omega) only [uA_n, uA_s]
  have e23 : xHo A n k t 23 = ud (A 23) n 0 := by unfold xHo; simp (disch := omega) only [uA_n, uA_s]
  have e24 : xHo A n k t 24 = ud (A 24) n 0 := by unfold xHo; simp (disch := omega) only [uA_n, uA_s]
  have e25 : xHo A n k t 25 = ud (A 25) n 9 := by unfold xHo; simp (disch := omega) only [uA_n, uA_s]
  have e26 : xHo A n k t 26 = ud (A 26) n 0 := by unfold xHo; simp (disch := omega) only [uA_n, uA_s]
  have e27 : xHo A n k t 27 = ud (A 27) n (-1) := by unfold xHo; simp (disch := omega) only [uA_n, uA_s]
  have e11 : xHo A n k t 19 11 = A 19 11 + 1 := by unfold xHo; rw [uA_s, ud_s]
  have e12 : xHo A n k t 19 12 = A 19 12 := by unfold xHo; rw [uA_s, ud_n (by omega)]; simp (disch := omega) only [uA_n]
  have f410 : mHo B n k t 410 = ud (B 410) n k := by unfold mHo; simp (disch := omega) only [uA_n, uA_s, hZ_i, ud_ud]
  have f411 : mHo B n k t 411 = ud (B 411) n t := by unfold mHo; simp (disch := omega) only [uA_n, uA_s, hZ_i, ud_ud]
  have f412 : mHo B n k t 412 = ud (B 412) n 0 := by unfold mHo; simp (disch := omega) only [uA_n, uA_s, hZ_i, ud_ud]
  have f413 : mHo B n k t 413 = ud (B 413) n 1 := by unfold mHo; simp (disch := omega) only [uA_n, uA_s, hZ_i, ud_ud]
  have f414 : mHo B n k t 414 = ud (B 414) n 0 := by unfold mHo; simp (disch := omega) only [uA_n, uA_s, hZ_i, ud_ud]
  have f415 : mHo B n k t 415 = ud (B 415) n 0 := by unfold mHo; simp (disch := omega) only [uA_n, uA_s, hZ_i, ud_ud]
  have f416 : mHo B n k t 416 = ud (B 416) n 9 := by unfold mHo; simp (disch := omega) only [uA_n, uA_s, hZ_i, ud_ud]
  have f417 : mHo B n k t 417 = ud (B 417) n 0 := by unfold mHo; simp (disch := omega) only [uA_n, uA_s, hZ_i, ud_ud]
  have f418 : mHo B n k t 418 = ud (B 418) n 0 := by unfold mHo; simp (disch := omega) only [uA_n, uA_s, hZ_i, ud_ud]
  have f419 : mHo B n k t 419 = ud (B 419) n 0 := by unfold mHo; simp (disch := omega) only [uA_n, uA_s, hZ_i, ud_ud]
  have f420 : mHo B n k t 420 = ud (B 420) n 0 := by unfold mHo; simp (disch := omega) only [uA_n, uA_s, hZ_i, ud_ud]
  have f421 : mHo B n k t 421 = ud (B 421) n 0 := by unfold mHo; simp (disch := omega) only [uA_n, uA_s, hZ_i, ud_ud]
  have key : ∀ {f g : Nat → Int} {v : Int}, (∀ h : Nat, h < 16 → f h = g h) → ∀ h : Nat, h < 16 → ud f n v h = ud g n v h := fun {f g v} e h hh => by
    by_cases q : h = n
    · subst q; rw [ud_s, ud_s]
    · rw [ud_n q, ud_n q, e h hh]
  have G := R.gG
  have HH := R.gH
  have hk0 := R.gH.hk0
  refine ⟨⟨(by apply R.gL.c <;> first | rfl | exact hA _ (by omega) | exact congrFun (hA _ (by omega)) _ | exact hB _ (by omega) | exact h4 _ (by omega) | (intro k hk1 hk2; exact hB k (by omega)) | (simp (disch := omega) only [uA_s, uA_n, ud_n]; done)), ?_, ?_, ?_, ?_, (by apply R.gS.c <;> first | rfl | exact hA _ (by omega) | exact congrFun (hA _ (by omega)) _ | exact hB _ (by omega) | exact h4 _ (by omega) | (intro k hk1 hk2; exact hB k (by omega)) | (simp (disch := omega) only [uA_s, uA_n, ud_n]; done)), (by apply R.gD.c <;> first | rfl | exact hA _ (by omega) | exact congrFun (hA _ (by omega)) _ | exact hB _ (by omega) | exact h4 _ (by omega) | (intro k hk1 hk2; exact hB k (by omega)) | (simp (disch := omega) only [uA_s, uA_n, ud_n]; done)), (by apply R.gW.c <;> first | rfl | exact hA _ (by omega) | exact congrFun (hA _ (by omega)) _ | exact hB _ (by omega) | exact h4 _ (by omega) | (intro k hk1 hk2; exact hB k (by omega)) | (simp (disch := omega) only [uA_s, uA_n, ud_n]; done)), (by apply R.gX.c <;> first | rfl | exact hA _ (by omega) | exact congrFun (hA _ (by omega)) _ | exact hB _ (by omega) | exact h4 _ (by omega) | (intro k hk1 hk2; exact hB k (by omega)) | (simp (disch := omega) only [uA_s, uA_n, ud_n]; done)), ?_, (by apply R.gI.c <;> first | rfl | exact hA _ (by omega) | exact congrFun (hA _ (by omega)) _ | exact hB _ (by omega) | exact h4 _ (by omega) | (intro k hk1 hk2; exact hB k (by omega)) | (simp (disch := omega) only [uA_s, uA_n, ud_n]; done))⟩, R.sx.tr ?_, R.sb.tr (SB.st (fun k hk => hB k (by omega)))⟩
  · obtain ⟨x1, x2, x3, x4, x5, x6, x7, x8, x9, x10, x11, x12, x13, x14, x15, x16, x17, x18, x19, x20, x21⟩ := R.gH
    unfold WH
    simp only [e20, e21, e22, e23, e24, e25, e26, e27, e11, e12, f410, f411, f412, f413, f414, f415, f416, f417, f418, f419, f420, f421, h42, hA 28 (by omega), hA 29 (by omega), hA 30 (by omega), hA 17 (by omega), hA 16 (by omega)]
    refine ⟨by omega, by omega, trivial, key x4, key x5, key x6, key x7, key x8, fun h h1 hh => ?_, key x10, ⟨by rw [ud_n (by omega)]; exact x11.1, by rw [ud_n (by omega)]; exact x11.2⟩, fun h h1 hh => ?_, fun h hh => ?_, fun h hh => ?_, by rw [ud_n (by omega)]; exact x15, fun h h1 hh => ?_, fun h h1 hh => ?_, fun h h1 hh => ?_, fun h hh => ?_, by rw [ud_n (by omega)]; exact x20, ?_⟩
    · by_cases q : h = n
      · subst q; rw [ud_s, ud_s]
      · rw [ud_n q, ud_n q]; exact x9 h h1 hh
    · by_cases q : h = n
      · subst q; rw [ud_s]; omega
      · rw [ud_n q]; exact x12 h h1 (by omega)
    · by_cases q : h = n
      · subst q; rw [ud_s]; omega
      · rw [ud_n q]; exact x13 h (by omega)
    · by_cases q : h = n
      · subst q; rw [ud_s]; omega
      · rw [ud_n q]; exact x14 h (by omega)
    · by_cases q : h = n
      · subst q
        rw [ud_s, ud_s, show (0 : Int).toNat = 0 from rfl, ud_n (by omega), x11.1]
        omega
      · have y := x16 h h1 (by omega)
        rw [ud_n q, ud_n q, ud_n (by omega)]
        exact ⟨y.1, by omega, y.2.2⟩
    · by_cases q : h = n
      · subst q; rw [ud_s]; omega
      · rw [ud_n q]; exact x17 h h1 (by omega)
    · by_cases q : h = n
      · subst q; rw [ud_s]; omega
      · rw [ud_n q]; exact x18 h h1 (by omega)
    · by_cases q : h = n
      · subst q; exact Or.inl ⟨ud_s .., ud_s ..⟩
      · rw [ud_n q, ud_n q, ud_n q, ud_n q, ud_n q, ud_n q]; exact x19 h (by omega)
    · rw [x21, show (A 19 11 + 1).toNat = n + 1 by omega, show (A 19 11).toNat = n by omega]
      show _ = sm n (fun h => bI (ud (A 27) n (-1) h ≠ -1)) + bI (ud (A 27) n (-1) n ≠ -1)
      rw [ud_s, show bI ((-1 : Int) ≠ -1) = 0 from bI_f (fun z => z rfl), sm_c (f := fun h => bI (ud (A 27) n (-1) h ≠ -1)) (g := fun h => bI (A 27 h ≠ -1)) (fun i hi => by show bI (ud (A 27) n (-1) i ≠ -1) = _; rw [ud_n (by omega)])]
      omega
  · obtain ⟨x1, x2, x3, x4, x5, x6, x7, x8, x9, x10, x11, x12, x13, x14, x15, x16, x17, x18, x19, x20, x21, x22, x23, x24, x25⟩ := R.gN
    unfold WN
    simp only [e11, h4 6 (by omega), h4 7 (by omega), hA 2 (by omega), hA 3 (by omega), hA 4 (by omega), hA 5 (by omega), hA 6 (by omega), hA 55 (by omega), hA 56 (by omega), hA 58 (by omega), hA 59 (by omega), hA 60 (by omega), hA 61 (by omega), hB 422 (by omega), hB 424 (by omega), hB 430 (by omega), hB 431 (by omega), hB 432 (by omega), hB 433 (by omega), hB 442 (by omega), hB 443 (by omega), hB 444 (by omega)]
    refine ⟨x1, x2, x3, x4, x5, x6, x7, x8, x9, x10, x11, fun c hc => ?_, x13, fun c i hc hi => ?_, x15, x16, x17, x18, x19, x20, x21, x22, x23, x24, x25⟩
    · have y := x12 c hc
      exact ⟨y.1, y.2.1, by omega⟩
    · rw [hB (434 + i) (by have := x13 c hc; omega)]
      exact x14 c i hc hi
  · have P := R.gP
    have P2 := R.gP
    obtain ⟨x1, x2, x3, x4, x5, x6, x7, x8, x9, x10, x11, x12, x13, x14, x15, x16, x17, x18, x19, x20, x21, x22, x23, x24, x25, x26, x27⟩ := R.gP
    unfold WP
    simp only [e11, e27, hA 16 (by omega), hA 31 (by omega), hA 32 (by omega), hA 33 (by omega), hA 34 (by omega), hA 35 (by omega), hA 36 (by omega), hA 37 (by omega), hA 38 (by omega), hA 39 (by omega), hA 40 (by omega), hA 41 (by omega), hA 42 (by omega), hA 43 (by omega), hA 44 (by omega), hB 450 (by omega), hB 451 (by omega), hB 452 (by omega), hB 453 (by omega), hB 454 (by omega), hB 455 (by omega), hB 456 (by omega), hB 457 (by omega), hB 464 (by omega), hB 465 (by omega), hB 466 (by omega), hB 467 (by omega), hB 468 (by omega), hB 350 (by omega)]
    refine ⟨x1, x2, x3, x4, x5, x6, x7, fun p hp hk => ?_, fun p hp hk => ?_, x10, x11, x12, x13, x14, x15, x16, x17, x18, fun p j hp h1 hj => ?_, x20, fun p hp hk hl h1 => ?_, x22, x23, x24, x25, x26, x27⟩
    · have y := x8 p hp hk
      exact ⟨y.1, y.2.1, by omega⟩
    · have y := x9 p hp hk
      exact ⟨y.1, y.2.1, by omega⟩
    · have y := x19 p j hp h1 hj
      rw [hB (458 + j) (by have := x18 p hp h1; omega)]
      exact ⟨y.1, y.2.1, by omega⟩
    · have y := x8 p hp hk
      rw [ud_n (by omega)]
      exact x21 p hp hk hl h1
  · obtain ⟨x1, x2, x3, x4, x5⟩ := R.gT
    unfold WT
    simp only [e11, h4 4 (by omega), hA 46 (by omega), hA 47 (by omega), hA 48 (by omega), hA 49 (by omega), hA 50 (by omega), hA 51 (by omega), hB 470 (by omega), hB 471 (by omega), hB 472 (by omega), hB 473 (by omega), hB 474 (by omega)]
    refine ⟨x1, x2, x3, x4, fun t ht => ?_⟩
    have y := x5 t ht
    omega
  · refine ⟨fun h hh => ?_, ?_⟩
    · rw [e11] at hh
      rw [e22]
      by_cases q : h = n
      · subst q; rw [ud_s]; omega
      · rw [ud_n q]; exact G.gn h (by omega)
    · rw [e11, e22, show (A 19 11 + 1).toNat = n + 1 by omega]
      have g := G.gs
      rw [show (A 19 11).toNat = n by omega] at g
      show sm n (ud (A 22) n 0) + ud (A 22) n 0 n ≤ K
      rw [ud_s, sm_c (g := A 22) (fun i hi => ud_n (by omega))]
      omega
  · exact SX.st (fun k hk => hA k (by omega)) (by rw [hA 16 (by omega)]) (by rw [hA 16 (by omega)]) (by rw [hA 55 (by omega)]) (by rw [hA 55 (by omega)]) (fun c _ => by rw [hA 59 (by omega)])
theorem em_house66 (Ax : hI) {n : Nat} (h2 : B 400 2 = n) (h16 : n < 16) (k t : Int) : ∀ (r j q : Nat), r + j = 12 → r < q → f_m_house_66 F q (iI k) (iI t) (iI (128 + 12 * (n : Int))) (iI (j : Int)) (mk Ax (hZ B n j)) = some (iI (n : Int), mk Ax (mHo B n k t)) := by
  intro r
  induction r with
  | zero =>
    intro j q e hq
    obtain ⟨q, rfl⟩ : ∃ k, q = k + 1 := ⟨q - 1, by omega⟩
    obtain rfl : j = 12 := by omega
    rw [f_m_house_66]
    refine (if_pos (by simp (disch := first | omega | (simp (disch := omega) only [uA_n]; done) | fail) only [iI_lit, iI_add, iI_sub, iI_mul, iI_neg, iI_lt, iI_le, iI_eq, zlt_t, zlt_f, zle_t, zle_f, zeq_t, zeq_f, nle_t, nle_f, iI_cl, rA, rS, rB, wA, wS, wB, mkp, mk2, uA_s, uA_n, ud_s, ud_n, bI_0, bI_1, nor_s, ↓reduceIte, or_false, false_or, or_true, true_or, or_self, not_true_eq_false, not_false_eq_true, and_true, true_and, and_false, false_and, bI_T, bI_F, Int.reduceToNat, Nat.reduceAdd, Nat.reduceMul, Int.reduceNeg, Option.bind_some, Int.toNat_natCast])).trans ?_
    refine (if_neg (by simp (disch := first | omega | (simp (disch := omega) only [uA_n]; done) | fail) only [iI_lit, iI_add, iI_sub, iI_mul, iI_neg, iI_lt, iI_le, iI_eq, zlt_t, zlt_f, zle_t, zle_f, zeq_t, zeq_f, nle_t, nle_f, iI_cl, rA, rS, rB, wA, wS, wB, mkp, mk2, uA_s, uA_n, ud_s, ud_n, bI_0, bI_1, nor_s, ↓reduceIte, or_false, false_or, or_true, true_or, or_self, not_true_eq_false, not_false_eq_true, and_true, true_and, and_false, false_and, bI_T, bI_F, Int.reduceToNat, Nat.reduceAdd, Nat.reduceMul, Int.reduceNeg, Option.bind_some, Int.toNat_natCast])).trans ?_
    refine (if_neg (by simp (disch := first | omega | (simp (disch := omega) only [uA_n]; done) | fail) only [iI_lit, iI_add, iI_sub, iI_mul, iI_neg, iI_lt, iI_le, iI_eq, zlt_t, zlt_f, zle_t, zle_f, zeq_t, zeq_f, nle_t, nle_f, iI_cl, rA, rS, rB, wA, wS, wB, mkp, mk2, uA_s, uA_n, ud_s, ud_n, bI_0, bI_1, nor_s, ↓reduceIte, or_false, false_or, or_true, true_or, or_self, not_true_eq_false, not_false_eq_true, and_true, true_and, and_false, false_and, bI_T, bI_F, Int.reduceToNat, Nat.reduceAdd, Nat.reduceMul, Int.reduceNeg, Option.bind_some, Int.toNat_natCast])).trans ?_
    refine (if_neg (by simp (disch := first | omega | (simp (disch := omega) only [uA_n]; done) | fail) only [iI_lit, iI_add, iI_sub, iI_mul, iI_neg, iI_lt, iI_le, iI_eq, zlt_t, zlt_f, zle_t, zle_f, zeq_t, zeq_f, nle_t, nle_f, iI_cl, rA, rS, rB, wA, wS, wB, mkp, mk2, uA_s, uA_n, ud_s, ud_n, bI_0, bI_1, nor_s, ↓reduceIte, or_false, false_or, or_true, true_or, or_self, not_true_eq_false, not_false_eq_true, and_true, true_and, and_false, false_and, bI_T, bI_F, Int.reduceToNat, Nat.reduceAdd, Nat.reduceMul, Int.reduceNeg, Option.bind_some, Int.toNat_natCast])).trans ?_
    refine (if_neg (by simp (disch := first | omega | (simp (disch := omega) only [uA_n]; done) | fail) only [iI_lit, iI_add, iI_sub, iI_mul, iI_neg, iI_lt, iI_le, iI_eq, zlt_t, zlt_f, zle_t, zle_f, zeq_t, zeq_f, nle_t, nle_f, iI_cl, rA, rS, rB, wA, wS, wB, mkp, mk2, uA_s, uA_n, ud_s, ud_n, bI_0, bI_1, nor_s, ↓reduceIte, or_false, false_or, or_true, true_or, or_self, not_true_eq_false, not_false_eq_true, and_true, true_and, and_false, false_and, bI_T, bI_F, Int.reduceToNat, Nat.reduceAdd, Nat.reduceMul, Int.reduceNeg, Option.bind_some, Int.toNat_natCast])).trans ?_
    simp only [f_m_house_127]
    have z4 : hZ B n 12 400 = B 400 := hZ_o (by omega) (by omega)
    have m0 : mHo B n k t 399 = hZ B n 12 399 := by unfold mHo; simp (disch := omega) only [uA_n]
    have e1 : (n : Int) + 1 - 1 = n := by omega
    unfold mHo at m0 ⊢
    rw [h2] at m0 ⊢
    simp (disch := first | omega | (simp (disch := omega) only [uA_n]; done) | fail) only [iI_lit, iI_add, iI_sub, iI_mul, iI_neg, iI_lt, iI_le, iI_eq, zlt_t, zlt_f, zle_t, zle_f, zeq_t, zeq_f, nle_t, nle_f, iI_cl, rA, rS, rB, wA, wS, wB, mkp, mk2, uA_s, uA_n, ud_s, ud_n, bI_0, bI_1, nor_s, ↓reduceIte, or_false, false_or, or_true, true_or, or_self, not_true_eq_false, not_false_eq_true, and_true, true_and, and_false, false_and, bI_T, bI_F, Int.reduceToNat, Nat.reduceAdd, Nat.reduceMul, Int.reduceNeg, Option.bind_some, Int.toNat_natCast, zH, dS, z4, h2, e1, mk2 m0]
  | succ r ih =>
    intro j q e hq
    obtain ⟨q, rfl⟩ : ∃ k, q = k + 1 := ⟨q - 1, by omega⟩
    rw [f_m_house_66]
    refine (if_neg (by simp (disch := first | omega | (simp (disch := omega) only [uA_n]; done) | fail) only [iI_lit, iI_add, iI_sub, iI_mul, iI_neg, iI_lt, iI_le, iI_eq, zlt_t, zlt_f, zle_t, zle_f, zeq_t, zeq_f, nle_t, nle_f, iI_cl, rA, rS, rB, wA, wS, wB, mkp, mk2, uA_s, uA_n, ud_s, ud_n, bI_0, bI_1, nor_s, ↓reduceIte, or_false, false_or, or_true, true_or, or_self, not_true_eq_false, not_false_eq_true, and_true, true_and, and_false, false_and, bI_T, bI_F, Int.reduceToNat, Nat.reduceAdd, Nat.reduceMul, Int.reduceNeg, Option.bind_some, Int.toNat_natCast])).trans ?_
    refine (if_neg (by simp (disch := first | omega | (simp (disch := omega) only [uA_n]; done) | fail) only [iI_lit, iI_add, iI_sub, iI_mul, iI_neg, iI_lt, iI_le, iI_eq, zlt_t, zlt_f, zle_t, zle_f, zeq_t, zeq_f, nle_t, nle_f, iI_cl, rA, rS, rB, wA, wS, wB, mkp, mk2, uA_s, uA_n, ud_s, ud_n, bI_0, bI_1, nor_s, ↓reduceIte, or_false, false_or, or_true, true_or, or_self, not_true_eq_false, not_false_eq_true, and_true, true_and, and_false, false_and, bI_T, bI_F, Int.reduceToNat, Nat.reduceAdd, Nat.reduceMul, Int.reduceNeg, Option.bind_some, Int.toNat_natCast])).trans ?_
    have I := ih (j + 1) q (by omega) (by omega)
    rw [← hZ_u] at I
    have m0 : uA (hZ B n j) (410 + j) n 0 399 = hZ B n j 399 := uA_n (by omega)
    refine Eq.trans ?_ I
    rw [← iI_s]
    simp (disch := first | omega | (simp (disch := omega) only [uA_n]; done) | fail) only [iI_lit, iI_add, iI_sub, iI_mul, iI_neg, iI_lt, iI_le, iI_eq, zlt_t, zlt_f, zle_t, zle_f, zeq_t, zeq_f, nle_t, nle_f, iI_cl, rA, rS, rB, wA, wS, wB, mkp, mk2, uA_s, uA_n, ud_s, ud_n, bI_0, bI_1, nor_s, ↓reduceIte, or_false, false_or, or_true, true_or, or_self, not_true_eq_false, not_false_eq_true, and_true, true_and, and_false, false_and, bI_T, bI_F, Int.reduceToNat, Nat.reduceAdd, Nat.reduceMul, Int.reduceNeg, Option.bind_some, Int.toNat_natCast, zH, mk2 m0]
theorem c_house (h : Inv i A B) (hF : 1000 ≤ F) (v1 v2 : Int32) : CP i A B (f_x_house F v1 v2) (f_m_house F v1 v2) := by
  obtain ⟨k, ka, kb, rfl⟩ : ∃ z : Int, -2147483648 ≤ z ∧ z < 2147483648 ∧ v1 = iI z := ⟨_, (i32rg v1).1, (i32rg v1).2, iI_of v1⟩
  obtain ⟨t, ta, tb, rfl⟩ : ∃ z : Int, -2147483648 ≤ z ∧ z < 2147483648 ∧ v2 = iI z := ⟨_, (i32rg v2).1, (i32rg v2).2, iI_of v2⟩
  have R := h.rr
  have hn1 := R.gH.hn1
  have hn2 := R.gH.hn2
  have h3 := R.gH.hn3
  by_cases c0 : 0 ≤ t ∧ t < A 17 1
  rotate_left
  · refine cp_no F h (v := -3) (by omega) (by omega) (fun Bx => ?_) (fun Ax => ?_)
    · unfold f_x_house
      exact (askF (ex_isTown F R Bx t ta tb) c0).trans rfl
    · unfold f_m_house
      exact (askF (em_isTown F R Ax t ta tb) c0).trans rfl
  by_cases c1 : k = 0 ∨ k = 1
  rotate_left
  · refine cp_no F h (v := -5) (by omega) (by omega) (fun Bx => ?_) (fun Ax => ?_)
    · unfold f_x_house
      refine (askT (ex_isTown F R Bx t ta tb) c0).trans ?_
      refine (if_neg (by simp (disch := first | omega | (simp (disch := omega) only [uA_n]; done) | fail) only [iI_lit, iI_add, iI_sub, iI_mul, iI_neg, iI_lt, iI_le, iI_eq, zlt_t, zlt_f, zle_t, zle_f, zeq_t, zeq_f, nle_t, nle_f, iI_cl, rA, rS, rB, wA, wS, wB, mkp, mk2, uA_s, uA_n, ud_s, ud_n, bI_0, bI_1, nor_s, ↓reduceIte, or_false, false_or, or_true, true_or, or_self, not_true_eq_false, not_false_eq_true, and_true, true_and, and_false, false_and, bI_T, bI_F, Int.reduceToNat, Nat.reduceAdd, Nat.reduceMul, Int.reduceNeg, Option.bind_some, Int.toNat_natCast])).trans ?_
      exact (if_neg (by simp (disch := first | omega | (simp (disch := omega) only [uA_n]; done) | fail) only [iI_lit, iI_add, iI_sub, iI_mul, iI_neg, iI_lt, iI_le, iI_eq, zlt_t, zlt_f, zle_t, zle_f, zeq_t, zeq_f, nle_t, nle_f, iI_cl, rA, rS, rB, wA, wS, wB, mkp, mk2, uA_s, uA_n, ud_s, ud_n, bI_0, bI_1, nor_s, ↓reduceIte, or_false, false_or, or_true, true_or, or_self, not_true_eq_false, not_false_eq_true, and_true, true_and, and_false, false_and, bI_T, bI_F, Int.reduceToNat, Nat.reduceAdd, Nat.reduceMul, Int.reduceNeg, Option.bind_some, Int.toNat_natCast])).trans rfl
    · unfold f_m_house
      refine (askT (em_isTown F R Ax t ta tb) c0).trans ?_
      refine (if_neg (by simp (disch := first | omega | (simp (disch := omega) only [uA_n]; done) | fail) only [iI_lit, iI_add, iI_sub, iI_mul, iI_neg, iI_lt, iI_le, iI_eq, zlt_t, zlt_f, zle_t, zle_f, zeq_t, zeq_f, nle_t, nle_f, iI_cl, rA, rS, rB, wA, wS, wB, mkp, mk2, uA_s, uA_n, ud_s, ud_n, bI_0, bI_1, nor_s, ↓reduceIte, or_false, false_or, or_true, true_or, or_self, not_true_eq_false, not_false_eq_true, and_true, true_and, and_false, false_and, bI_T, bI_F, Int.reduceToNat, Nat.reduceAdd, Nat.reduceMul, Int.reduceNeg, Option.bind_some, Int.toNat_natCast])).trans ?_
      exact (if_neg (by simp (disch := first | omega | (simp (disch := omega) only [uA_n]; done) | fail) only [iI_lit, iI_add, iI_sub, iI_mul, iI_neg, iI_lt, iI_le, iI_eq, zlt_t, zlt_f, zle_t, zle_f, zeq_t, zeq_f, nle_t, nle_f, iI_cl, rA, rS, rB, wA, wS, wB, mkp, mk2, uA_s, uA_n, ud_s, ud_n, bI_0, bI_1, nor_s, ↓reduceIte, or_false, false_or, or_true, true_or, or_self, not_true_eq_false, not_false_eq_true, and_true, true_and, and_false, false_and, bI_T, bI_F, Int.reduceToNat, Nat.reduceAdd, Nat.reduceMul, Int.reduceNeg, Option.bind_some, Int.toNat_natCast])).trans rfl
  have x0 : ∀ Bx : hI, f_x_house F (iI k) (iI t) (mk A Bx) = f_x_house_37 F (iI k) (iI t) (mk A Bx) := fun Bx => by
    unfold f_x_house
    refine (askT (ex_isTown F R Bx t ta tb) c0).trans ?_
    rcases c1 with rfl | rfl
    · exact if_pos rfl
    · refine (if_neg i1n0).trans ?_
      exact if_pos rfl
  have y0 : ∀ Ax : hI, f_m_house F (iI k) (iI t) (mk Ax B) = f_m_house_31 F (iI k) (iI t) (mk Ax B) := fun Ax => by
    unfold f_m_house
    refine (askT (em_isTown F R Ax t ta tb) c0).trans ?_
    rcases c1 with rfl | rfl
    · exact if_pos rfl
    · refine (if_neg i1n0).trans ?_
      exact if_pos rfl
  by_cases c2 : A 19 11 < 16
  rotate_left
  · refine cp_no F h (v := -8) (by omega) (by omega) (fun Bx => ?_) (fun Ax => ?_)
    · rw [x0]
      unfold f_x_house_37
      exact (if_neg (by simp (disch := first | omega | (simp (disch := omega) only [uA_n]; done) | fail) only [iI_lit, iI_add, iI_sub, iI_mul, iI_neg, iI_lt, iI_le, iI_eq, zlt_t, zlt_f, zle_t, zle_f, zeq_t, zeq_f, nle_t, nle_f, iI_cl, rA, rS, rB, wA, wS, wB, mkp, mk2, uA_s, uA_n, ud_s, ud_n, bI_0, bI_1, nor_s, ↓reduceIte, or_false, false_or, or_true, true_or, or_self, not_true_eq_false, not_false_eq_true, and_true, true_and, and_false, false_and, bI_T, bI_F, Int.reduceToNat, Nat.reduceAdd, Nat.reduceMul, Int.reduceNeg, Option.bind_some, Int.toNat_natCast])).trans rfl
    · rw [y0]
      unfold f_m_house_31
      rw [show A 19 11 = 16 by omega] at h3
      exact (if_pos (by simp (disch := first | omega | (simp (disch := omega) only [uA_n]; done) | fail) only [iI_lit, iI_add, iI_sub, iI_mul, iI_neg, iI_lt, iI_le, iI_eq, zlt_t, zlt_f, zle_t, zle_f, zeq_t, zeq_f, nle_t, nle_f, iI_cl, rA, rS, rB, wA, wS, wB, mkp, mk2, uA_s, uA_n, ud_s, ud_n, bI_0, bI_1, nor_s, ↓reduceIte, or_false, false_or, or_true, true_or, or_self, not_true_eq_false, not_false_eq_true, and_true, true_and, and_false, false_and, bI_T, bI_F, Int.reduceToNat, Nat.reduceAdd, Nat.reduceMul, Int.reduceNeg, Option.bind_some, Int.toNat_natCast, dS, h3])).trans rfl
  obtain ⟨n, hn⟩ : ∃ n : Nat, A 19 11 = n := ⟨(A 19 11).toNat, by omega⟩
  have R1 := R.house (n := n) hn.symm (by omega) (k := k) (t := t) (by omega) c0
  have e16 : xHo A n k t 16 9 = A 16 9 := by unfold xHo; simp (disch := omega) only [uA_n]
  intro Ax Bx
  refine ⟨iI (n : Int), xHo A n k t, mHo B n k t, ?_, ?_, h.land R1 e16⟩
  · rw [x0]
    unfold f_x_house_37
    refine (if_pos (by simp (disch := first | omega | (simp (disch := omega) only [uA_n]; done) | fail) only [iI_lit, iI_add, iI_sub, iI_mul, iI_neg, iI_lt, iI_le, iI_eq, zlt_t, zlt_f, zle_t, zle_f, zeq_t, zeq_f, nle_t, nle_f, iI_cl, rA, rS, rB, wA, wS, wB, mkp, mk2, uA_s, uA_n, ud_s, ud_n, bI_0, bI_1, nor_s, ↓reduceIte, or_false, false_or, or_true, true_or, or_self, not_true_eq_false, not_false_eq_true, and_true, true_and, and_false, false_and, bI_T, bI_F, Int.reduceToNat, Nat.reduceAdd, Nat.reduceMul, Int.reduceNeg, Option.bind_some, Int.toNat_natCast])).trans ?_
    rw [bnd_id]
    simp only [f_Houses_addHouse, f_Houses_addHouse_40, f_Houses_addHouse_72]
    unfold xHo
    simp (disch := first | omega | (simp (disch := omega) only [uA_n]; done) | fail) only [iI_lit, iI_add, iI_sub, iI_mul, iI_neg, iI_lt, iI_le, iI_eq, zlt_t, zlt_f, zle_t, zle_f, zeq_t, zeq_f, nle_t, nle_f, iI_cl, rA, rS, rB, wA, wS, wB, mkp, mk2, uA_s, uA_n, ud_s, ud_n, bI_0, bI_1, nor_s, ↓reduceIte, or_false, false_or, or_true, true_or, or_self, not_true_eq_false, not_false_eq_true, and_true, true_and, and_false, false_and, bI_T, bI_F, Int.reduceToNat, Nat.reduceAdd, Nat.reduceMul, Int.reduceNeg, Option.bind_some, Int.toNat_natCast, hn]
  · rw [y0]
    unfold f_m_house_31
    rw [hn] at h3
    refine (if_neg (by simp (disch := first | omega | (simp (disch := omega) only [uA_n]; done) | fail) only [iI_lit, iI_add, iI_sub, iI_mul, iI_neg, iI_lt, iI_le, iI_eq, zlt_t, zlt_f, zle_t, zle_f, zeq_t, zeq_f, nle_t, nle_f, iI_cl, rA, rS, rB, wA, wS, wB, mkp, mk2, uA_s, uA_n, ud_s, ud_n, bI_0, bI_1, nor_s, ↓reduceIte, or_false, false_or, or_true, true_or, or_self, not_true_eq_false, not_false_eq_true, and_true, true_and, and_false, false_and, bI_T, bI_F, Int.reduceToNat, Nat.reduceAdd, Nat.reduceMul, Int.reduceNeg, Option.bind_some, Int.toNat_natCast, dS, h3])).trans ?_
    have L := em_house66 F Ax h3 (by omega) k t 12 0 F rfl (by omega)
    rw [hZ_0] at L
    refine Eq.trans ?_ L
    simp (disch := first | omega | (simp (disch := omega) only [uA_n]; done) | fail) only [iI_lit, iI_add, iI_sub, iI_mul, iI_neg, iI_lt, iI_le, iI_eq, zlt_t, zlt_f, zle_t, zle_f, zeq_t, zeq_f, nle_t, nle_f, iI_cl, rA, rS, rB, wA, wS, wB, mkp, mk2, uA_s, uA_n, ud_s, ud_n, bI_0, bI_1, nor_s, ↓reduceIte, or_false, false_or, or_true, true_or, or_self, not_true_eq_false, not_false_eq_true, and_true, true_and, and_false, false_and, bI_T, bI_F, Int.reduceToNat, Nat.reduceAdd, Nat.reduceMul, Int.reduceNeg, Option.bind_some, Int.toNat_natCast, dS, h3]
    rfl
def xTd (A : hI) (n : Nat) (b s w d : Int) : hI := uA (uA (uA (uA (uA (uA A 47 n b) 48 n s) 49 n w) 50 n d) 51 n 1) 46 5 (A 46 5 + 1)
def mTd (B : hI) (n : Nat) (b s w d : Int) : hI := uA (uA (uA (uA (uA (uA B 470 n b) 471 n s) 472 n w) 473 n d) 474 n 1) 400 4 (B 400 4 + 1)
theorem RR.trade (R : RR K D A0 B0 A B) {n : Nat} (hn : (n : Int) = A 46 5) (h8 : n < 8) {b s w d : Int} (hb : 1 ≤ b ∧ b < A 19 11) (hs : 1 ≤ s ∧ s < A 19 11) (hw : 1 ≤ w ∧ w ≤ 9999) (hd : 1 ≤ d ∧ d ≤ 60) : RR K D A0 B0 (xTd A n b s w d) (mTd B n b s w d) := by
  have hA : ∀ c : Nat, ¬ (46 ≤ c ∧ c ≤ 51) → xTd A n b s w d c = A c := fun c hc => by unfold xTd; simp (disch := omega) only [uA_n]
  have hB : ∀ c : Nat, ¬ (470 ≤ c ∧ c < 475) ∧ c ≠ 400 → mTd B n b s w d c = B c := fun c hc => by unfold mTd; simp (disch := omega) only [uA_n]
  have h4 : ∀ j : Nat, j ≠ 4 → mTd B n b s w d 400 j = B 400 j := fun j hj => by unfold mTd; rw [uA_s, ud_n hj]; simp (disch := omega) only [uA_n]
  have h42 : mTd B n b s w d 400 4 = A 46 5 + 1 := by unfold mTd; rw [uA_s, ud_s, R.gT.tn3]
  have e5 : xTd A n b s w d 46 5 = A 46 5 + 1 := by unfold xTd; rw [uA_s, ud_s]
  have e47 : xTd A n b s w d 47 = ud (A 47) n b := by unfold xTd; simp (disch := omega) only [uA_n, uA_s]
  have f470 : mTd B n b s w d 470 = ud (B 470) n b := by unfold mTd; simp (disch := omega) only [uA_n, uA_s]
  have e48 : xTd A n b s w d 48 = ud (A 48) n s := by unfold xTd; simp (disch := omega) only [uA_n, uA_s]
  have f471 : mTd B n b s w d 471 = ud (B 471) n s := by unfold mTd; simp (disch := omega) only [uA_n, uA_s]
  have e49 : xTd A n b s w d 49 = ud (A 49) n w := by unfold xTd; simp (disch := omega) only [uA_n, uA_s]
  have f472 : mTd B n b s w d 472 = ud (B 472) n w := by unfold mTd; simp (disch := omega) only [uA_n, uA_s]
  have e50 : xTd A n b s w d 50 = ud (A 50) n d := by unfold xTd; simp (disch := omega) only [uA_n, uA_s]
  have f473 : mTd B n b s w d 473 = ud (B 473) n d := by unfold mTd; simp (disch := omega) only [uA_n, uA_s]
  have e51 : xTd A n b s w d 51 = ud (A 51) n 1 := by unfold xTd; simp (disch := omega) only [uA_n, uA_s]
  have f474 : mTd B n b s w d 474 = ud (B 474) n 1 := by unfold mTd; simp (disch := omega) only [uA_n, uA_s]
  refine ⟨⟨(by apply R.gL.c <;> first | rfl | exact hA _ (by omega) | exact congrFun (hA _ (by omega)) _ | exact hB _ (by omega) | exact h4 _ (by omega) | (intro k hk1 hk2; exact hB k (by omega)) | (simp (disch := omega) only [uA_s, uA_n, ud_n]; done)), (by apply R.gH.c <;> first | rfl | exact hA _ (by omega) | exact congrFun (hA _ (by omega)) _ | exact hB _ (by omega) | exact h4 _ (by omega) | (intro k hk1 hk2; exact hB k (by omega)) | (simp (disch := omega) only [uA_s, uA_n, ud_n]; done)), (by apply R.gN.c <;> first | rfl | exact hA _ (by omega) | exact congrFun (hA _ (by omega)) _ | exact hB _ (by omega) | exact h4 _ (by omega) | (intro k hk1 hk2; exact hB k (by omega)) | (simp (disch := omega) only [uA_s, uA_n, ud_n]; done)), (by apply R.gP.c <;> first | rfl | exact hA _ (by omega) | exact congrFun (hA _ (by omega)) _ | exact hB _ (by omega) | exact h4 _ (by omega) | (intro k hk1 hk2; exact hB k (by omega)) | (simp (disch := omega) only [uA_s, uA_n, ud_n]; done)), ?_, (by apply R.gS.c <;> first | rfl | exact hA _ (by omega) | exact congrFun (hA _ (by omega)) _ | exact hB _ (by omega) | exact h4 _ (by omega) | (intro k hk1 hk2; exact hB k (by omega)) | (simp (disch := omega) only [uA_s, uA_n, ud_n]; done)), (by apply R.gD.c <;> first | rfl | exact hA _ (by omega) | exact congrFun (hA _ (by omega)) _ | exact hB _ (by omega) | exact h4 _ (by omega) | (intro k hk1 hk2; exact hB k (by omega)) | (simp (disch := omega) only [uA_s, uA_n, ud_n]; done)), (by apply R.gW.c <;> first | rfl | exact hA _ (by omega) | exact congrFun (hA _ (by omega)) _ | exact hB _ (by omega) | exact h4 _ (by omega) | (intro k hk1 hk2; exact hB k (by omega)) | (simp (disch := omega) only [uA_s, uA_n, ud_n]; done)), (by apply R.gX.c <;> first | rfl | exact hA _ (by omega) | exact congrFun (hA _ (by omega)) _ | exact hB _ (by omega) | exact h4 _ (by omega) | (intro k hk1 hk2; exact hB k (by omega)) | (simp (disch := omega) only [uA_s, uA_n, ud_n]; done)), (by apply R.gG.c <;> first | rfl | exact hA _ (by omega) | exact congrFun (hA _ (by omega)) _ | exact hB _ (by omega) | exact h4 _ (by omega) | (intro k hk1 hk2; exact hB k (by omega)) | (simp (disch := omega) only [uA_s, uA_n, ud_n]; done)), (by apply R.gI.c <;> first | rfl | exact hA _ (by omega) | exact congrFun (hA _ (by omega)) _ | exact hB _ (by omega) | exact h4 _ (by omega) | (intro k hk1 hk2; exact hB k (by omega)) | (simp (disch := omega) only [uA_s, uA_n, ud_n]; done))⟩, R.sx.tr ?_, R.sb.tr (SB.st (fun k hk => hB k (by omega)))⟩
  · obtain ⟨x1, x2, x3, x4, x5⟩ := R.gT
    unfold WT
    simp only [e5, h42, e47, e48, e49, e50, e51, f470, f471, f472, f473, f474, hA 19 (by omega)]
    refine ⟨by omega, by omega, trivial, fun t ht => ?_, fun t ht => ?_⟩
    · by_cases q : t = n
      · subst q; simp only [ud_s, and_self]
      · rw [ud_n q, ud_n q, ud_n q, ud_n q, ud_n q, ud_n q, ud_n q, ud_n q, ud_n q, ud_n q]; exact x4 t ht
    · by_cases q : t = n
      · subst q; rw [ud_s, ud_s, ud_s, ud_s, ud_s]; omega
      · rw [ud_n q, ud_n q, ud_n q, ud_n q, ud_n q]; exact x5 t (by omega)
  · exact SX.st (fun k hk => hA k (by omega)) (by rw [hA 16 (by omega)]) (by rw [hA 16 (by omega)]) (by rw [hA 55 (by omega)]) (by rw [hA 55 (by omega)]) (fun c _ => by rw [hA 59 (by omega)])
theorem c_trade (h : Inv i A B) (hi : i < 512) (hF : 1000 ≤ F) (v1 v2 v3 v4 : Int32) : CP i A B (f_x_trade F v1 v2 v3 v4) (f_m_trade F v1 v2 v3 v4) := by
  obtain ⟨b, ba, bb, rfl⟩ : ∃ z : Int, -2147483648 ≤ z ∧ z < 2147483648 ∧ v1 = iI z := ⟨_, (i32rg v1).1, (i32rg v1).2, iI_of v1⟩
  obtain ⟨s, sa, sb, rfl⟩ : ∃ z : Int, -2147483648 ≤ z ∧ z < 2147483648 ∧ v2 = iI z := ⟨_, (i32rg v2).1, (i32rg v2).2, iI_of v2⟩
  obtain ⟨w, wa, wb, rfl⟩ : ∃ z : Int, -2147483648 ≤ z ∧ z < 2147483648 ∧ v3 = iI z := ⟨_, (i32rg v3).1, (i32rg v3).2, iI_of v3⟩
  obtain ⟨d, da, db, rfl⟩ : ∃ z : Int, -2147483648 ≤ z ∧ z < 2147483648 ∧ v4 = iI z := ⟨_, (i32rg v4).1, (i32rg v4).2, iI_of v4⟩
  have R := h.rr
  have hn2 := R.gH.hn2
  have hn1 := R.gH.hn1
  have t1 := R.gT.tn1
  have t2 := R.gT.tn2
  have t3 := R.gT.tn3
  have hk0 := R.gH.hk0.1
  by_cases c0 : 0 ≤ b ∧ b < A 19 11
  rotate_left
  · refine cp_no F h (v := -3) (by omega) (by omega) (fun Bx => ?_) (fun Ax => ?_)
    · unfold f_x_trade
      refine (askF (ex_isHouse F R Bx b ba bb) c0).trans ?_
      rfl
    · unfold f_m_trade
      refine (askF (em_isHouse F R Ax b ba bb) c0).trans ?_
      rfl
  obtain ⟨p1, p2, p3⟩ := R.kd (a := b.toNat) (by omega)
  by_cases c1 : 0 ≤ s ∧ s < A 19 11
  rotate_left
  · refine cp_no F h (v := -3) (by omega) (by omega) (fun Bx => ?_) (fun Ax => ?_)
    · unfold f_x_trade
      refine (askT (ex_isHouse F R Bx b ba bb) c0).trans ?_
      refine (askF (ex_isHouse F R Bx s sa sb) c1).trans ?_
      rfl
    · unfold f_m_trade
      refine (askT (em_isHouse F R Ax b ba bb) c0).trans ?_
      refine (askF (em_isHouse F R Ax s sa sb) c1).trans ?_
      rfl
  obtain ⟨q1, q2, q3⟩ := R.kd (a := s.toNat) (by omega)
  by_cases c2 : A 20 b.toNat = 0
  rotate_left
  · refine cp_no F h (v := -5) (by omega) (by omega) (fun Bx => ?_) (fun Ax => ?_)
    · unfold f_x_trade
      refine (askT (ex_isHouse F R Bx b ba bb) c0).trans ?_
      refine (askT (ex_isHouse F R Bx s sa sb) c1).trans ?_
      refine (if_neg (by simp (disch := first | omega | (simp (disch := omega) only [uA_n]; done) | fail) only [iI_lit, iI_add, iI_sub, iI_mul, iI_neg, iI_lt, iI_le, iI_eq, zlt_t, zlt_f, zle_t, zle_f, zeq_t, zeq_f, nle_t, nle_f, iI_cl, rA, rS, rB, wA, wS, wB, mkp, mk2, uA_s, uA_n, ud_s, ud_n, bI_0, bI_1, nor_s, ↓reduceIte, or_false, false_or, or_true, true_or, or_self, not_true_eq_false, not_false_eq_true, and_true, true_and, and_false, false_and, bI_T, bI_F, Int.reduceToNat, Nat.reduceAdd, Nat.reduceMul, Int.reduceNeg, Option.bind_some, Int.toNat_natCast])).trans ?_
      refine (if_neg (by simp (disch := first | omega | (simp (disch := omega) only [uA_n]; done) | fail) only [iI_lit, iI_add, iI_sub, iI_mul, iI_neg, iI_lt, iI_le, iI_eq, zlt_t, zlt_f, zle_t, zle_f, zeq_t, zeq_f, nle_t, nle_f, iI_cl, rA, rS, rB, wA, wS, wB, mkp, mk2, uA_s, uA_n, ud_s, ud_n, bI_0, bI_1, nor_s, ↓reduceIte, or_false, false_or, or_true, true_or, or_self, not_true_eq_false, not_false_eq_true, and_true, true_and, and_false, false_and, bI_T, bI_F, Int.reduceToNat, Nat.reduceAdd, Nat.reduceMul, Int.reduceNeg, Option.bind_some, Int.toNat_natCast])).trans ?_
      rfl
    · unfold f_m_trade
      refine (askT (em_isHouse F R Ax b ba bb) c0).trans ?_
      refine (askT (em_isHouse F R Ax s sa sb) c1).trans ?_
      refine obd (em_hs F b 0 Ax B (by omega) (by omega) (by omega) (by omega)) ?_
      refine (if_neg (by simp (disch := first | omega | (simp (disch := omega) only [uA_n]; done) | fail) only [iI_lit, iI_add, iI_sub, iI_mul, iI_neg, iI_lt, iI_le, iI_eq, zlt_t, zlt_f, zle_t, zle_f, zeq_t, zeq_f, nle_t, nle_f, iI_cl, rA, rS, rB, wA, wS, wB, mkp, mk2, uA_s, uA_n, ud_s, ud_n, bI_0, bI_1, nor_s, ↓reduceIte, or_false, false_or, or_true, true_or, or_self, not_true_eq_false, not_false_eq_true, and_true, true_and, and_false, false_and, bI_T, bI_F, Int.reduceToNat, Nat.reduceAdd, Nat.reduceMul, Int.reduceNeg, Option.bind_some, Int.toNat_natCast, p3])).trans ?_
      rfl
  by_cases c3 : A 20 s.toNat = 0
  rotate_left
  · refine cp_no F h (v := -5) (by omega) (by omega) (fun Bx => ?_) (fun Ax => ?_)
    · unfold f_x_trade
      refine (askT (ex_isHouse F R Bx b ba bb) c0).trans ?_
      refine (askT (ex_isHouse F R Bx s sa sb) c1).trans ?_
      refine (if_neg (by simp (disch := first | omega | (simp (disch := omega) only [uA_n]; done) | fail) only [iI_lit, iI_add, iI_sub, iI_mul, iI_neg, iI_lt, iI_le, iI_eq, zlt_t, zlt_f, zle_t, zle_f, zeq_t, zeq_f, nle_t, nle_f, iI_cl, rA, rS, rB, wA, wS, wB, mkp, mk2, uA_s, uA_n, ud_s, ud_n, bI_0, bI_1, nor_s, ↓reduceIte, or_false, false_or, or_true, true_or, or_self, not_true_eq_false, not_false_eq_true, and_true, true_and, and_false, false_and, bI_T, bI_F, Int.reduceToNat, Nat.reduceAdd, Nat.reduceMul, Int.reduceNeg, Option.bind_some, Int.toNat_natCast])).trans ?_
      refine (if_pos (by simp (disch := first | omega | (simp (disch := omega) only [uA_n]; done) | fail) only [iI_lit, iI_add, iI_sub, iI_mul, iI_neg, iI_lt, iI_le, iI_eq, zlt_t, zlt_f, zle_t, zle_f, zeq_t, zeq_f, nle_t, nle_f, iI_cl, rA, rS, rB, wA, wS, wB, mkp, mk2, uA_s, uA_n, ud_s, ud_n, bI_0, bI_1, nor_s, ↓reduceIte, or_false, false_or, or_true, true_or, or_self, not_true_eq_false, not_false_eq_true, and_true, true_and, and_false, false_and, bI_T, bI_F, Int.reduceToNat, Nat.reduceAdd, Nat.reduceMul, Int.reduceNeg, Option.bind_some, Int.toNat_natCast, c2])).trans ?_
      refine (if_neg (by simp (disch := first | omega | (simp (disch := omega) only [uA_n]; done) | fail) only [iI_lit, iI_add, iI_sub, iI_mul, iI_neg, iI_lt, iI_le, iI_eq, zlt_t, zlt_f, zle_t, zle_f, zeq_t, zeq_f, nle_t, nle_f, iI_cl, rA, rS, rB, wA, wS, wB, mkp, mk2, uA_s, uA_n, ud_s, ud_n, bI_0, bI_1, nor_s, ↓reduceIte, or_false, false_or, or_true, true_or, or_self, not_true_eq_false, not_false_eq_true, and_true, true_and, and_false, false_and, bI_T, bI_F, Int.reduceToNat, Nat.reduceAdd, Nat.reduceMul, Int.reduceNeg, Option.bind_some, Int.toNat_natCast])).trans ?_
      refine (if_neg (by simp (disch := first | omega | (simp (disch := omega) only [uA_n]; done) | fail) only [iI_lit, iI_add, iI_sub, iI_mul, iI_neg, iI_lt, iI_le, iI_eq, zlt_t, zlt_f, zle_t, zle_f, zeq_t, zeq_f, nle_t, nle_f, iI_cl, rA, rS, rB, wA, wS, wB, mkp, mk2, uA_s, uA_n, ud_s, ud_n, bI_0, bI_1, nor_s, ↓reduceIte, or_false, false_or, or_true, true_or, or_self, not_true_eq_false, not_false_eq_true, and_true, true_and, and_false, false_and, bI_T, bI_F, Int.reduceToNat, Nat.reduceAdd, Nat.reduceMul, Int.reduceNeg, Option.bind_some, Int.toNat_natCast])).trans ?_
      rfl
    · unfold f_m_trade
      refine (askT (em_isHouse F R Ax b ba bb) c0).trans ?_
      refine (askT (em_isHouse F R Ax s sa sb) c1).trans ?_
      refine obd (em_hs F b 0 Ax B (by omega) (by omega) (by omega) (by omega)) ?_
      refine (if_pos (by simp (disch := first | omega | (simp (disch := omega) only [uA_n]; done) | fail) only [iI_lit, iI_add, iI_sub, iI_mul, iI_neg, iI_lt, iI_le, iI_eq, zlt_t, zlt_f, zle_t, zle_f, zeq_t, zeq_f, nle_t, nle_f, iI_cl, rA, rS, rB, wA, wS, wB, mkp, mk2, uA_s, uA_n, ud_s, ud_n, bI_0, bI_1, nor_s, ↓reduceIte, or_false, false_or, or_true, true_or, or_self, not_true_eq_false, not_false_eq_true, and_true, true_and, and_false, false_and, bI_T, bI_F, Int.reduceToNat, Nat.reduceAdd, Nat.reduceMul, Int.reduceNeg, Option.bind_some, Int.toNat_natCast, p3, c2])).trans ?_
      refine obd (em_hs F s 0 Ax B (by omega) (by omega) (by omega) (by omega)) ?_
      refine (if_neg (by simp (disch := first | omega | (simp (disch := omega) only [uA_n]; done) | fail) only [iI_lit, iI_add, iI_sub, iI_mul, iI_neg, iI_lt, iI_le, iI_eq, zlt_t, zlt_f, zle_t, zle_f, zeq_t, zeq_f, nle_t, nle_f, iI_cl, rA, rS, rB, wA, wS, wB, mkp, mk2, uA_s, uA_n, ud_s, ud_n, bI_0, bI_1, nor_s, ↓reduceIte, or_false, false_or, or_true, true_or, or_self, not_true_eq_false, not_false_eq_true, and_true, true_and, and_false, false_and, bI_T, bI_F, Int.reduceToNat, Nat.reduceAdd, Nat.reduceMul, Int.reduceNeg, Option.bind_some, Int.toNat_natCast, q3])).trans ?_
      rfl
  by_cases c4 : 1 ≤ w ∧ w ≤ 9999
  rotate_left
  · refine cp_no F h (v := -7) (by omega) (by omega) (fun Bx => ?_) (fun Ax => ?_)
    · unfold f_x_trade
      refine (askT (ex_isHouse F R Bx b ba bb) c0).trans ?_
      refine (askT (ex_isHouse F R Bx s sa sb) c1).trans ?_
      refine (if_neg (by simp (disch := first | omega | (simp (disch := omega) only [uA_n]; done) | fail) only [iI_lit, iI_add, iI_sub, iI_mul, iI_neg, iI_lt, iI_le, iI_eq, zlt_t, zlt_f, zle_t, zle_f, zeq_t, zeq_f, nle_t, nle_f, iI_cl, rA, rS, rB, wA, wS, wB, mkp, mk2, uA_s, uA_n, ud_s, ud_n, bI_0, bI_1, nor_s, ↓reduceIte, or_false, false_or, or_true, true_or, or_self, not_true_eq_false, not_false_eq_true, and_true, true_and, and_false, false_and, bI_T, bI_F, Int.reduceToNat, Nat.reduceAdd, Nat.reduceMul, Int.reduceNeg, Option.bind_some, Int.toNat_natCast])).trans ?_
      refine (if_pos (by simp (disch := first | omega | (simp (disch := omega) only [uA_n]; done) | fail) only [iI_lit, iI_add, iI_sub, iI_mul, iI_neg, iI_lt, iI_le, iI_eq, zlt_t, zlt_f, zle_t, zle_f, zeq_t, zeq_f, nle_t, nle_f, iI_cl, rA, rS, rB, wA, wS, wB, mkp, mk2, uA_s, uA_n, ud_s, ud_n, bI_0, bI_1, nor_s, ↓reduceIte, or_false, false_or, or_true, true_or, or_self, not_true_eq_false, not_false_eq_true, and_true, true_and, and_false, false_and, bI_T, bI_F, Int.reduceToNat, Nat.reduceAdd, Nat.reduceMul, Int.reduceNeg, Option.bind_some, Int.toNat_natCast, c2])).trans ?_
      refine (if_neg (by simp (disch := first | omega | (simp (disch := omega) only [uA_n]; done) | fail) only [iI_lit, iI_add, iI_sub, iI_mul, iI_neg, iI_lt, iI_le, iI_eq, zlt_t, zlt_f, zle_t, zle_f, zeq_t, zeq_f, nle_t, nle_f, iI_cl, rA, rS, rB, wA, wS, wB, mkp, mk2, uA_s, uA_n, ud_s, ud_n, bI_0, bI_1, nor_s, ↓reduceIte, or_false, false_or, or_true, true_or, or_self, not_true_eq_false, not_false_eq_true, and_true, true_and, and_false, false_and, bI_T, bI_F, Int.reduceToNat, Nat.reduceAdd, Nat.reduceMul, Int.reduceNeg, Option.bind_some, Int.toNat_natCast])).trans ?_
      refine (if_pos (by simp (disch := first | omega | (simp (disch := omega) only [uA_n]; done) | fail) only [iI_lit, iI_add, iI_sub, iI_mul, iI_neg, iI_lt, iI_le, iI_eq, zlt_t, zlt_f, zle_t, zle_f, zeq_t, zeq_f, nle_t, nle_f, iI_cl, rA, rS, rB, wA, wS, wB, mkp, mk2, uA_s, uA_n, ud_s, ud_n, bI_0, bI_1, nor_s, ↓reduceIte, or_false, false_or, or_true, true_or, or_self, not_true_eq_false, not_false_eq_true, and_true, true_and, and_false, false_and, bI_T, bI_F, Int.reduceToNat, Nat.reduceAdd, Nat.reduceMul, Int.reduceNeg, Option.bind_some, Int.toNat_natCast, c3])).trans ?_
      refine (askF (ex_isSum F w (mk A Bx) wa wb) c4).trans ?_
      rfl
    · unfold f_m_trade
      refine (askT (em_isHouse F R Ax b ba bb) c0).trans ?_
      refine (askT (em_isHouse F R Ax s sa sb) c1).trans ?_
      refine obd (em_hs F b 0 Ax B (by omega) (by omega) (by omega) (by omega)) ?_
      refine (if_pos (by simp (disch := first | omega | (simp (disch := omega) only [uA_n]; done) | fail) only [iI_lit, iI_add, iI_sub, iI_mul, iI_neg, iI_lt, iI_le, iI_eq, zlt_t, zlt_f, zle_t, zle_f, zeq_t, zeq_f, nle_t, nle_f, iI_cl, rA, rS, rB, wA, wS, wB, mkp, mk2, uA_s, uA_n, ud_s, ud_n, bI_0, bI_1, nor_s, ↓reduceIte, or_false, false_or, or_true, true_or, or_self, not_true_eq_false, not_false_eq_true, and_true, true_and, and_false, false_and, bI_T, bI_F, Int.reduceToNat, Nat.reduceAdd, Nat.reduceMul, Int.reduceNeg, Option.bind_some, Int.toNat_natCast, p3, c2])).trans ?_
      refine obd (em_hs F s 0 Ax B (by omega) (by omega) (by omega) (by omega)) ?_
      refine (if_pos (by simp (disch := first | omega | (simp (disch := omega) only [uA_n]; done) | fail) only [iI_lit, iI_add, iI_sub, iI_mul, iI_neg, iI_lt, iI_le, iI_eq, zlt_t, zlt_f, zle_t, zle_f, zeq_t, zeq_f, nle_t, nle_f, iI_cl, rA, rS, rB, wA, wS, wB, mkp, mk2, uA_s, uA_n, ud_s, ud_n, bI_0, bI_1, nor_s, ↓reduceIte, or_false, false_or, or_true, true_or, or_self, not_true_eq_false, not_false_eq_true, and_true, true_and, and_false, false_and, bI_T, bI_F, Int.reduceToNat, Nat.reduceAdd, Nat.reduceMul, Int.reduceNeg, Option.bind_some, Int.toNat_natCast, q3, c3])).trans ?_
      refine (askF (em_in F w 1 9999 (mk Ax B) wa wb (by omega) (by omega) (by omega) (by omega)) c4).trans ?_
      rfl
  by_cases c5 : 1 ≤ d ∧ d ≤ 60
  rotate_left
  · refine cp_no F h (v := -7) (by omega) (by omega) (fun Bx => ?_) (fun Ax => ?_)
    · unfold f_x_trade
      refine (askT (ex_isHouse F R Bx b ba bb) c0).trans ?_
      refine (askT (ex_isHouse F R Bx s sa sb) c1).trans ?_
      refine (if_neg (by simp (disch := first | omega | (simp (disch := omega) only [uA_n]; done) | fail) only [iI_lit, iI_add, iI_sub, iI_mul, iI_neg, iI_lt, iI_le, iI_eq, zlt_t, zlt_f, zle_t, zle_f, zeq_t, zeq_f, nle_t, nle_f, iI_cl, rA, rS, rB, wA, wS, wB, mkp, mk2, uA_s, uA_n, ud_s, ud_n, bI_0, bI_1, nor_s, ↓reduceIte, or_false, false_or, or_true, true_or, or_self, not_true_eq_false, not_false_eq_true, and_true, true_and, and_false, false_and, bI_T, bI_F, Int.reduceToNat, Nat.reduceAdd, Nat.reduceMul, Int.reduceNeg, Option.bind_some, Int.toNat_natCast])).trans ?_
      refine (if_pos (by simp (disch := first | omega | (simp (disch := omega) only [uA_n]; done) | fail) only [iI_lit, iI_add, iI_sub, iI_mul, iI_neg, iI_lt, iI_le, iI_eq, zlt_t, zlt_f, zle_t, zle_f, zeq_t, zeq_f, nle_t, nle_f, iI_cl, rA, rS, rB, wA, wS, wB, mkp, mk2, uA_s, uA_n, ud_s, ud_n, bI_0, bI_1, nor_s, ↓reduceIte, or_false, false_or, or_true, true_or, or_self, not_true_eq_false, not_false_eq_true, and_true, true_and, and_false, false_and, bI_T, bI_F, Int.reduceToNat, Nat.reduceAdd, Nat.reduceMul, Int.reduceNeg, Option.bind_some, Int.toNat_natCast, c2])).trans ?_
      refine (if_neg (by simp (disch := first | omega | (simp (disch := omega) only [uA_n]; done) | fail) only [iI_lit, iI_add, iI_sub, iI_mul, iI_neg, iI_lt, iI_le, iI_eq, zlt_t, zlt_f, zle_t, zle_f, zeq_t, zeq_f, nle_t, nle_f, iI_cl, rA, rS, rB, wA, wS, wB, mkp, mk2, uA_s, uA_n, ud_s, ud_n, bI_0, bI_1, nor_s, ↓reduceIte, or_false, false_or, or_true, true_or, or_self, not_true_eq_false, not_false_eq_true, and_true, true_and, and_false, false_and, bI_T, bI_F, Int.reduceToNat, Nat.reduceAdd, Nat.reduceMul, Int.reduceNeg, Option.bind_some, Int.toNat_natCast])).trans ?_
      refine (if_pos (by simp (disch := first | omega | (simp (disch := omega) only [uA_n]; done) | fail) only [iI_lit, iI_add, iI_sub, iI_mul, iI_neg, iI_lt, iI_le, iI_eq, zlt_t, zlt_f, zle_t, zle_f, zeq_t, zeq_f, nle_t, nle_f, iI_cl, rA, rS, rB, wA, wS, wB, mkp, mk2, uA_s, uA_n, ud_s, ud_n, bI_0, bI_1, nor_s, ↓reduceIte, or_false, false_or, or_true, true_or, or_self, not_true_eq_false, not_false_eq_true, and_true, true_and, and_false, false_and, bI_T, bI_F, Int.reduceToNat, Nat.reduceAdd, Nat.reduceMul, Int.reduceNeg, Option.bind_some, Int.toNat_natCast, c3])).trans ?_
      refine (askT (ex_isSum F w (mk A Bx) wa wb) c4).trans ?_
      refine (askF (ex_isTerm F d (mk A Bx) da db) c5).trans ?_
      rfl
    · unfold f_m_trade
      refine (askT (em_isHouse F R Ax b ba bb) c0).trans ?_
      refine (askT (em_isHouse F R Ax s sa sb) c1).trans ?_
      refine obd (em_hs F b 0 Ax B (by omega) (by omega) (by omega) (by omega)) ?_
      refine (if_pos (by simp (disch := first | omega | (simp (disch := omega) only [uA_n]; done) | fail) only [iI_lit, iI_add, iI_sub, iI_mul, iI_neg, iI_lt, iI_le, iI_eq, zlt_t, zlt_f, zle_t, zle_f, zeq_t, zeq_f, nle_t, nle_f, iI_cl, rA, rS, rB, wA, wS, wB, mkp, mk2, uA_s, uA_n, ud_s, ud_n, bI_0, bI_1, nor_s, ↓reduceIte, or_false, false_or, or_true, true_or, or_self, not_true_eq_false, not_false_eq_true, and_true, true_and, and_false, false_and, bI_T, bI_F, Int.reduceToNat, Nat.reduceAdd, Nat.reduceMul, Int.reduceNeg, Option.bind_some, Int.toNat_natCast, p3, c2])).trans ?_
      refine obd (em_hs F s 0 Ax B (by omega) (by omega) (by omega) (by omega)) ?_
      refine (if_pos (by simp (disch := first | omega | (simp (disch := omega) only [uA_n]; done) | fail) only [iI_lit, iI_add, iI_sub, iI_mul, iI_neg, iI_lt, iI_le, iI_eq, zlt_t, zlt_f, zle_t, zle_f, zeq_t, zeq_f, nle_t, nle_f, iI_cl, rA, rS, rB, wA, wS, wB, mkp, mk2, uA_s, uA_n, ud_s, ud_n, bI_0, bI_1, nor_s, ↓reduceIte, or_false, false_or, or_true, true_or, or_self, not_true_eq_false, not_false_eq_true, and_true, true_and, and_false, false_and, bI_T, bI_F, Int.reduceToNat, Nat.reduceAdd, Nat.reduceMul, Int.reduceNeg, Option.bind_some, Int.toNat_natCast, q3, c3])).trans ?_
      refine (askT (em_in F w 1 9999 (mk Ax B) wa wb (by omega) (by omega) (by omega) (by omega)) c4).trans ?_
      refine (askF (em_in F d 1 60 (mk Ax B) da db (by omega) (by omega) (by omega) (by omega)) c5).trans ?_
      rfl
  by_cases c6 : b ≠ s
  rotate_left
  · refine cp_no F h (v := -7) (by omega) (by omega) (fun Bx => ?_) (fun Ax => ?_)
    · unfold f_x_trade
      refine (askT (ex_isHouse F R Bx b ba bb) c0).trans ?_
      refine (askT (ex_isHouse F R Bx s sa sb) c1).trans ?_
      refine (if_neg (by simp (disch := first | omega | (simp (disch := omega) only [uA_n]; done) | fail) only [iI_lit, iI_add, iI_sub, iI_mul, iI_neg, iI_lt, iI_le, iI_eq, zlt_t, zlt_f, zle_t, zle_f, zeq_t, zeq_f, nle_t, nle_f, iI_cl, rA, rS, rB, wA, wS, wB, mkp, mk2, uA_s, uA_n, ud_s, ud_n, bI_0, bI_1, nor_s, ↓reduceIte, or_false, false_or, or_true, true_or, or_self, not_true_eq_false, not_false_eq_true, and_true, true_and, and_false, false_and, bI_T, bI_F, Int.reduceToNat, Nat.reduceAdd, Nat.reduceMul, Int.reduceNeg, Option.bind_some, Int.toNat_natCast])).trans ?_
      refine (if_pos (by simp (disch := first | omega | (simp (disch := omega) only [uA_n]; done) | fail) only [iI_lit, iI_add, iI_sub, iI_mul, iI_neg, iI_lt, iI_le, iI_eq, zlt_t, zlt_f, zle_t, zle_f, zeq_t, zeq_f, nle_t, nle_f, iI_cl, rA, rS, rB, wA, wS, wB, mkp, mk2, uA_s, uA_n, ud_s, ud_n, bI_0, bI_1, nor_s, ↓reduceIte, or_false, false_or, or_true, true_or, or_self, not_true_eq_false, not_false_eq_true, and_true, true_and, and_false, false_and, bI_T, bI_F, Int.reduceToNat, Nat.reduceAdd, Nat.reduceMul, Int.reduceNeg, Option.bind_some, Int.toNat_natCast, c2])).trans ?_
      refine (if_neg (by simp (disch := first | omega | (simp (disch := omega) only [uA_n]; done) | fail) only [iI_lit, iI_add, iI_sub, iI_mul, iI_neg, iI_lt, iI_le, iI_eq, zlt_t, zlt_f, zle_t, zle_f, zeq_t, zeq_f, nle_t, nle_f, iI_cl, rA, rS, rB, wA, wS, wB, mkp, mk2, uA_s, uA_n, ud_s, ud_n, bI_0, bI_1, nor_s, ↓reduceIte, or_false, false_or, or_true, true_or, or_self, not_true_eq_false, not_false_eq_true, and_true, true_and, and_false, false_and, bI_T, bI_F, Int.reduceToNat, Nat.reduceAdd, Nat.reduceMul, Int.reduceNeg, Option.bind_some, Int.toNat_natCast])).trans ?_
      refine (if_pos (by simp (disch := first | omega | (simp (disch := omega) only [uA_n]; done) | fail) only [iI_lit, iI_add, iI_sub, iI_mul, iI_neg, iI_lt, iI_le, iI_eq, zlt_t, zlt_f, zle_t, zle_f, zeq_t, zeq_f, nle_t, nle_f, iI_cl, rA, rS, rB, wA, wS, wB, mkp, mk2, uA_s, uA_n, ud_s, ud_n, bI_0, bI_1, nor_s, ↓reduceIte, or_false, false_or, or_true, true_or, or_self, not_true_eq_false, not_false_eq_true, and_true, true_and, and_false, false_and, bI_T, bI_F, Int.reduceToNat, Nat.reduceAdd, Nat.reduceMul, Int.reduceNeg, Option.bind_some, Int.toNat_natCast, c3])).trans ?_
      refine (askT (ex_isSum F w (mk A Bx) wa wb) c4).trans ?_
      refine (askT (ex_isTerm F d (mk A Bx) da db) c5).trans ?_
      refine (if_pos (by simp (disch := first | omega | (simp (disch := omega) only [uA_n]; done) | fail) only [iI_lit, iI_add, iI_sub, iI_mul, iI_neg, iI_lt, iI_le, iI_eq, zlt_t, zlt_f, zle_t, zle_f, zeq_t, zeq_f, nle_t, nle_f, iI_cl, rA, rS, rB, wA, wS, wB, mkp, mk2, uA_s, uA_n, ud_s, ud_n, bI_0, bI_1, nor_s, ↓reduceIte, or_false, false_or, or_true, true_or, or_self, not_true_eq_false, not_false_eq_true, and_true, true_and, and_false, false_and, bI_T, bI_F, Int.reduceToNat, Nat.reduceAdd, Nat.reduceMul, Int.reduceNeg, Option.bind_some, Int.toNat_natCast])).trans ?_
      rfl
    · unfold f_m_trade
      refine (askT (em_isHouse F R Ax b ba bb) c0).trans ?_
      refine (askT (em_isHouse F R Ax s sa sb) c1).trans ?_
      refine obd (em_hs F b 0 Ax B (by omega) (by omega) (by omega) (by omega)) ?_
      refine (if_pos (by simp (disch := first | omega | (simp (disch := omega) only [uA_n]; done) | fail) only [iI_lit, iI_add, iI_sub, iI_mul, iI_neg, iI_lt, iI_le, iI_eq, zlt_t, zlt_f, zle_t, zle_f, zeq_t, zeq_f, nle_t, nle_f, iI_cl, rA, rS, rB, wA, wS, wB, mkp, mk2, uA_s, uA_n, ud_s, ud_n, bI_0, bI_1, nor_s, ↓reduceIte, or_false, false_or, or_true, true_or, or_self, not_true_eq_false, not_false_eq_true, and_true, true_and, and_false, false_and, bI_T, bI_F, Int.reduceToNat, Nat.reduceAdd, Nat.reduceMul, Int.reduceNeg, Option.bind_some, Int.toNat_natCast, p3, c2])).trans ?_
      refine obd (em_hs F s 0 Ax B (by omega) (by omega) (by omega) (by omega)) ?_
      refine (if_pos (by simp (disch := first | omega | (simp (disch := omega) only [uA_n]; done) | fail) only [iI_lit, iI_add, iI_sub, iI_mul, iI_neg, iI_lt, iI_le, iI_eq, zlt_t, zlt_f, zle_t, zle_f, zeq_t, zeq_f, nle_t, nle_f, iI_cl, rA, rS, rB, wA, wS, wB, mkp, mk2, uA_s, uA_n, ud_s, ud_n, bI_0, bI_1, nor_s, ↓reduceIte, or_false, false_or, or_true, true_or, or_self, not_true_eq_false, not_false_eq_true, and_true, true_and, and_false, false_and, bI_T, bI_F, Int.reduceToNat, Nat.reduceAdd, Nat.reduceMul, Int.reduceNeg, Option.bind_some, Int.toNat_natCast, q3, c3])).trans ?_
      refine (askT (em_in F w 1 9999 (mk Ax B) wa wb (by omega) (by omega) (by omega) (by omega)) c4).trans ?_
      refine (askT (em_in F d 1 60 (mk Ax B) da db (by omega) (by omega) (by omega) (by omega)) c5).trans ?_
      refine (if_pos (by simp (disch := first | omega | (simp (disch := omega) only [uA_n]; done) | fail) only [iI_lit, iI_add, iI_sub, iI_mul, iI_neg, iI_lt, iI_le, iI_eq, zlt_t, zlt_f, zle_t, zle_f, zeq_t, zeq_f, nle_t, nle_f, iI_cl, rA, rS, rB, wA, wS, wB, mkp, mk2, uA_s, uA_n, ud_s, ud_n, bI_0, bI_1, nor_s, ↓reduceIte, or_false, false_or, or_true, true_or, or_self, not_true_eq_false, not_false_eq_true, and_true, true_and, and_false, false_and, bI_T, bI_F, Int.reduceToNat, Nat.reduceAdd, Nat.reduceMul, Int.reduceNeg, Option.bind_some, Int.toNat_natCast])).trans ?_
      rfl
  by_cases c7 : A 46 5 < 8
  rotate_left
  · have t8 : A 46 5 = 8 := by omega
    refine cp_no F h (v := -8) (by omega) (by omega) (fun Bx => ?_) (fun Ax => ?_)
    · unfold f_x_trade
      refine (askT (ex_isHouse F R Bx b ba bb) c0).trans ?_
      refine (askT (ex_isHouse F R Bx s sa sb) c1).trans ?_
      refine (if_neg (by simp (disch := first | omega | (simp (disch := omega) only [uA_n]; done) | fail) only [iI_lit, iI_add, iI_sub, iI_mul, iI_neg, iI_lt, iI_le, iI_eq, zlt_t, zlt_f, zle_t, zle_f, zeq_t, zeq_f, nle_t, nle_f, iI_cl, rA, rS, rB, wA, wS, wB, mkp, mk2, uA_s, uA_n, ud_s, ud_n, bI_0, bI_1, nor_s, ↓reduceIte, or_false, false_or, or_true, true_or, or_self, not_true_eq_false, not_false_eq_true, and_true, true_and, and_false, false_and, bI_T, bI_F, Int.reduceToNat, Nat.reduceAdd, Nat.reduceMul, Int.reduceNeg, Option.bind_some, Int.toNat_natCast])).trans ?_
      refine (if_pos (by simp (disch := first | omega | (simp (disch := omega) only [uA_n]; done) | fail) only [iI_lit, iI_add, iI_sub, iI_mul, iI_neg, iI_lt, iI_le, iI_eq, zlt_t, zlt_f, zle_t, zle_f, zeq_t, zeq_f, nle_t, nle_f, iI_cl, rA, rS, rB, wA, wS, wB, mkp, mk2, uA_s, uA_n, ud_s, ud_n, bI_0, bI_1, nor_s, ↓reduceIte, or_false, false_or, or_true, true_or, or_self, not_true_eq_false, not_false_eq_true, and_true, true_and, and_false, false_and, bI_T, bI_F, Int.reduceToNat, Nat.reduceAdd, Nat.reduceMul, Int.reduceNeg, Option.bind_some, Int.toNat_natCast, c2])).trans ?_
      refine (if_neg (by simp (disch := first | omega | (simp (disch := omega) only [uA_n]; done) | fail) only [iI_lit, iI_add, iI_sub, iI_mul, iI_neg, iI_lt, iI_le, iI_eq, zlt_t, zlt_f, zle_t, zle_f, zeq_t, zeq_f, nle_t, nle_f, iI_cl, rA, rS, rB, wA, wS, wB, mkp, mk2, uA_s, uA_n, ud_s, ud_n, bI_0, bI_1, nor_s, ↓reduceIte, or_false, false_or, or_true, true_or, or_self, not_true_eq_false, not_false_eq_true, and_true, true_and, and_false, false_and, bI_T, bI_F, Int.reduceToNat, Nat.reduceAdd, Nat.reduceMul, Int.reduceNeg, Option.bind_some, Int.toNat_natCast])).trans ?_
      refine (if_pos (by simp (disch := first | omega | (simp (disch := omega) only [uA_n]; done) | fail) only [iI_lit, iI_add, iI_sub, iI_mul, iI_neg, iI_lt, iI_le, iI_eq, zlt_t, zlt_f, zle_t, zle_f, zeq_t, zeq_f, nle_t, nle_f, iI_cl, rA, rS, rB, wA, wS, wB, mkp, mk2, uA_s, uA_n, ud_s, ud_n, bI_0, bI_1, nor_s, ↓reduceIte, or_false, false_or, or_true, true_or, or_self, not_true_eq_false, not_false_eq_true, and_true, true_and, and_false, false_and, bI_T, bI_F, Int.reduceToNat, Nat.reduceAdd, Nat.reduceMul, Int.reduceNeg, Option.bind_some, Int.toNat_natCast, c3])).trans ?_
      refine (askT (ex_isSum F w (mk A Bx) wa wb) c4).trans ?_
      refine (askT (ex_isTerm F d (mk A Bx) da db) c5).trans ?_
      refine (if_neg (by simp (disch := first | omega | (simp (disch := omega) only [uA_n]; done) | fail) only [iI_lit, iI_add, iI_sub, iI_mul, iI_neg, iI_lt, iI_le, iI_eq, zlt_t, zlt_f, zle_t, zle_f, zeq_t, zeq_f, nle_t, nle_f, iI_cl, rA, rS, rB, wA, wS, wB, mkp, mk2, uA_s, uA_n, ud_s, ud_n, bI_0, bI_1, nor_s, ↓reduceIte, or_false, false_or, or_true, true_or, or_self, not_true_eq_false, not_false_eq_true, and_true, true_and, and_false, false_and, bI_T, bI_F, Int.reduceToNat, Nat.reduceAdd, Nat.reduceMul, Int.reduceNeg, Option.bind_some, Int.toNat_natCast])).trans ?_
      refine (if_neg (by simp (disch := first | omega | (simp (disch := omega) only [uA_n]; done) | fail) only [iI_lit, iI_add, iI_sub, iI_mul, iI_neg, iI_lt, iI_le, iI_eq, zlt_t, zlt_f, zle_t, zle_f, zeq_t, zeq_f, nle_t, nle_f, iI_cl, rA, rS, rB, wA, wS, wB, mkp, mk2, uA_s, uA_n, ud_s, ud_n, bI_0, bI_1, nor_s, ↓reduceIte, or_false, false_or, or_true, true_or, or_self, not_true_eq_false, not_false_eq_true, and_true, true_and, and_false, false_and, bI_T, bI_F, Int.reduceToNat, Nat.reduceAdd, Nat.reduceMul, Int.reduceNeg, Option.bind_some, Int.toNat_natCast])).trans ?_
      rfl
    · unfold f_m_trade
      refine (askT (em_isHouse F R Ax b ba bb) c0).trans ?_
      refine (askT (em_isHouse F R Ax s sa sb) c1).trans ?_
      refine obd (em_hs F b 0 Ax B (by omega) (by omega) (by omega) (by omega)) ?_
      refine (if_pos (by simp (disch := first | omega | (simp (disch := omega) only [uA_n]; done) | fail) only [iI_lit, iI_add, iI_sub, iI_mul, iI_neg, iI_lt, iI_le, iI_eq, zlt_t, zlt_f, zle_t, zle_f, zeq_t, zeq_f, nle_t, nle_f, iI_cl, rA, rS, rB, wA, wS, wB, mkp, mk2, uA_s, uA_n, ud_s, ud_n, bI_0, bI_1, nor_s, ↓reduceIte, or_false, false_or, or_true, true_or, or_self, not_true_eq_false, not_false_eq_true, and_true, true_and, and_false, false_and, bI_T, bI_F, Int.reduceToNat, Nat.reduceAdd, Nat.reduceMul, Int.reduceNeg, Option.bind_some, Int.toNat_natCast, p3, c2])).trans ?_
      refine obd (em_hs F s 0 Ax B (by omega) (by omega) (by omega) (by omega)) ?_
      refine (if_pos (by simp (disch := first | omega | (simp (disch := omega) only [uA_n]; done) | fail) only [iI_lit, iI_add, iI_sub, iI_mul, iI_neg, iI_lt, iI_le, iI_eq, zlt_t, zlt_f, zle_t, zle_f, zeq_t, zeq_f, nle_t, nle_f, iI_cl, rA, rS, rB, wA, wS, wB, mkp, mk2, uA_s, uA_n, ud_s, ud_n, bI_0, bI_1, nor_s, ↓reduceIte, or_false, false_or, or_true, true_or, or_self, not_true_eq_false, not_false_eq_true, and_true, true_and, and_false, false_and, bI_T, bI_F, Int.reduceToNat, Nat.reduceAdd, Nat.reduceMul, Int.reduceNeg, Option.bind_some, Int.toNat_natCast, q3, c3])).trans ?_
      refine (askT (em_in F w 1 9999 (mk Ax B) wa wb (by omega) (by omega) (by omega) (by omega)) c4).trans ?_
      refine (askT (em_in F d 1 60 (mk Ax B) da db (by omega) (by omega) (by omega) (by omega)) c5).trans ?_
      refine (if_neg (by simp (disch := first | omega | (simp (disch := omega) only [uA_n]; done) | fail) only [iI_lit, iI_add, iI_sub, iI_mul, iI_neg, iI_lt, iI_le, iI_eq, zlt_t, zlt_f, zle_t, zle_f, zeq_t, zeq_f, nle_t, nle_f, iI_cl, rA, rS, rB, wA, wS, wB, mkp, mk2, uA_s, uA_n, ud_s, ud_n, bI_0, bI_1, nor_s, ↓reduceIte, or_false, false_or, or_true, true_or, or_self, not_true_eq_false, not_false_eq_true, and_true, true_and, and_false, false_and, bI_T, bI_F, Int.reduceToNat, Nat.reduceAdd, Nat.reduceMul, Int.reduceNeg, Option.bind_some, Int.toNat_natCast])).trans ?_
      refine (if_pos (by simp (disch := first | omega | (simp (disch := omega) only [uA_n]; done) | fail) only [iI_lit, iI_add, iI_sub, iI_mul, iI_neg, iI_lt, iI_le, iI_eq, zlt_t, zlt_f, zle_t, zle_f, zeq_t, zeq_f, nle_t, nle_f, iI_cl, rA, rS, rB, wA, wS, wB, mkp, mk2, uA_s, uA_n, ud_s, ud_n, bI_0, bI_1, nor_s, ↓reduceIte, or_false, false_or, or_true, true_or, or_self, not_true_eq_false, not_false_eq_true, and_true, true_and, and_false, false_and, bI_T, bI_F, Int.reduceToNat, Nat.reduceAdd, Nat.reduceMul, Int.reduceNeg, Option.bind_some, Int.toNat_natCast, dS, t3, t8])).trans ?_
      rfl
  obtain ⟨n, hn⟩ : ∃ n : Nat, A 46 5 = n := ⟨(A 46 5).toNat, by omega⟩
  have b0 : b ≠ 0 := fun z => by rw [z] at c2; have : A 20 0 = 0 := c2; omega
  have s0 : s ≠ 0 := fun z => by rw [z] at c3; have : A 20 0 = 0 := c3; omega
  have R1 := R.trade (n := n) hn.symm (by omega) (b := b) (s := s) (w := w) (d := d) (by omega) (by omega) c4 c5
  have e16 : xTd A n b s w d 16 9 = A 16 9 := by unfold xTd; simp (disch := omega) only [uA_n]
  intro Ax Bx
  have e1 : (n : Int) + 1 - 1 = n := by omega
  refine ⟨iI (n : Int), xTd A n b s w d, mTd B n b s w d, ?_, ?_, h.land R1 e16⟩
  · unfold f_x_trade
    refine (askT (ex_isHouse F R Bx b ba bb) c0).trans ?_
    refine (askT (ex_isHouse F R Bx s sa sb) c1).trans ?_
    refine (if_neg (by simp (disch := first | omega | (simp (disch := omega) only [uA_n]; done) | fail) only [iI_lit, iI_add, iI_sub, iI_mul, iI_neg, iI_lt, iI_le, iI_eq, zlt_t, zlt_f, zle_t, zle_f, zeq_t, zeq_f, nle_t, nle_f, iI_cl, rA, rS, rB, wA, wS, wB, mkp, mk2, uA_s, uA_n, ud_s, ud_n, bI_0, bI_1, nor_s, ↓reduceIte, or_false, false_or, or_true, true_or, or_self, not_true_eq_false, not_false_eq_true, and_true, true_and, and_false, false_and, bI_T, bI_F, Int.reduceToNat, Nat.reduceAdd, Nat.reduceMul, Int.reduceNeg, Option.bind_some, Int.toNat_natCast])).trans ?_
    refine (if_pos (by simp (disch := first | omega | (simp (disch := omega) only [uA_n]; done) | fail) only [iI_lit, iI_add, iI_sub, iI_mul, iI_neg, iI_lt, iI_le, iI_eq, zlt_t, zlt_f, zle_t, zle_f, zeq_t, zeq_f, nle_t, nle_f, iI_cl, rA, rS, rB, wA, wS, wB, mkp, mk2, uA_s, uA_n, ud_s, ud_n, bI_0, bI_1, nor_s, ↓reduceIte, or_false, false_or, or_true, true_or, or_self, not_true_eq_false, not_false_eq_true, and_true, true_and, and_false, false_and, bI_T, bI_F, Int.reduceToNat, Nat.reduceAdd, Nat.reduceMul, Int.reduceNeg, Option.bind_some, Int.toNat_natCast, c2])).trans ?_
    refine (if_neg (by simp (disch := first | omega | (simp (disch := omega) only [uA_n]; done) | fail) only [iI_lit, iI_add, iI_sub, iI_mul, iI_neg, iI_lt, iI_le, iI_eq, zlt_t, zlt_f, zle_t, zle_f, zeq_t, zeq_f, nle_t, nle_f, iI_cl, rA, rS, rB, wA, wS, wB, mkp, mk2, uA_s, uA_n, ud_s, ud_n, bI_0, bI_1, nor_s, ↓reduceIte, or_false, false_or, or_true, true_or, or_self, not_true_eq_false, not_false_eq_true, and_true, true_and, and_false, false_and, bI_T, bI_F, Int.reduceToNat, Nat.reduceAdd, Nat.reduceMul, Int.reduceNeg, Option.bind_some, Int.toNat_natCast])).trans ?_
    refine (if_pos (by simp (disch := first | omega | (simp (disch := omega) only [uA_n]; done) | fail) only [iI_lit, iI_add, iI_sub, iI_mul, iI_neg, iI_lt, iI_le, iI_eq, zlt_t, zlt_f, zle_t, zle_f, zeq_t, zeq_f, nle_t, nle_f, iI_cl, rA, rS, rB, wA, wS, wB, mkp, mk2, uA_s, uA_n, ud_s, ud_n, bI_0, bI_1, nor_s, ↓reduceIte, or_false, false_or, or_true, true_or, or_self, not_true_eq_false, not_false_eq_true, and_true, true_and, and_false, false_and, bI_T, bI_F, Int.reduceToNat, Nat.reduceAdd, Nat.reduceMul, Int.reduceNeg, Option.bind_some, Int.toNat_natCast, c3])).trans ?_
    refine (askT (ex_isSum F w (mk A Bx) wa wb) c4).trans ?_
    refine (askT (ex_isTerm F d (mk A Bx) da db) c5).trans ?_
    refine (if_neg (by simp (disch := first | omega | (simp (disch := omega) only [uA_n]; done) | fail) only [iI_lit, iI_add, iI_sub, iI_mul, iI_neg, iI_lt, iI_le, iI_eq, zlt_t, zlt_f, zle_t, zle_f, zeq_t, zeq_f, nle_t, nle_f, iI_cl, rA, rS, rB, wA, wS, wB, mkp, mk2, uA_s, uA_n, ud_s, ud_n, bI_0, bI_1, nor_s, ↓reduceIte, or_false, false_or, or_true, true_or, or_self, not_true_eq_false, not_false_eq_true, and_true, true_and, and_false, false_and, bI_T, bI_F, Int.reduceToNat, Nat.reduceAdd, Nat.reduceMul, Int.reduceNeg, Option.bind_some, Int.toNat_natCast])).trans ?_
    refine (if_pos (by simp (disch := first | omega | (simp (disch := omega) only [uA_n]; done) | fail) only [iI_lit, iI_add, iI_sub, iI_mul, iI_neg, iI_lt, iI_le, iI_eq, zlt_t, zlt_f, zle_t, zle_f, zeq_t, zeq_f, nle_t, nle_f, iI_cl, rA, rS, rB, wA, wS, wB, mkp, mk2, uA_s, uA_n, ud_s, ud_n, bI_0, bI_1, nor_s, ↓reduceIte, or_false, false_or, or_true, true_or, or_self, not_true_eq_false, not_false_eq_true, and_true, true_and, and_false, false_and, bI_T, bI_F, Int.reduceToNat, Nat.reduceAdd, Nat.reduceMul, Int.reduceNeg, Option.bind_some, Int.toNat_natCast])).trans ?_
    rw [bnd_id]
    simp only [f_Trades_addTrade, f_Trades_addTrade_30, f_Trades_addTrade_61]
    unfold xTd
    simp (disch := first | omega | (simp (disch := omega) only [uA_n]; done) | fail) only [iI_lit, iI_add, iI_sub, iI_mul, iI_neg, iI_lt, iI_le, iI_eq, zlt_t, zlt_f, zle_t, zle_f, zeq_t, zeq_f, nle_t, nle_f, iI_cl, rA, rS, rB, wA, wS, wB, mkp, mk2, uA_s, uA_n, ud_s, ud_n, bI_0, bI_1, nor_s, ↓reduceIte, or_false, false_or, or_true, true_or, or_self, not_true_eq_false, not_false_eq_true, and_true, true_and, and_false, false_and, bI_T, bI_F, Int.reduceToNat, Nat.reduceAdd, Nat.reduceMul, Int.reduceNeg, Option.bind_some, Int.toNat_natCast, hn, e1]
  · unfold f_m_trade
    refine (askT (em_isHouse F R Ax b ba bb) c0).trans ?_
    refine (askT (em_isHouse F R Ax s sa sb) c1).trans ?_
    refine obd (em_hs F b 0 Ax B (by omega) (by omega) (by omega) (by omega)) ?_
    refine (if_pos (by simp (disch := first | omega | (simp (disch := omega) only [uA_n]; done) | fail) only [iI_lit, iI_add, iI_sub, iI_mul, iI_neg, iI_lt, iI_le, iI_eq, zlt_t, zlt_f, zle_t, zle_f, zeq_t, zeq_f, nle_t, nle_f, iI_cl, rA, rS, rB, wA, wS, wB, mkp, mk2, uA_s, uA_n, ud_s, ud_n, bI_0, bI_1, nor_s, ↓reduceIte, or_false, false_or, or_true, true_or, or_self, not_true_eq_false, not_false_eq_true, and_true, true_and, and_false, false_and, bI_T, bI_F, Int.reduceToNat, Nat.reduceAdd, Nat.reduceMul, Int.reduceNeg, Option.bind_some, Int.toNat_natCast, p3, c2])).trans ?_
    refine obd (em_hs F s 0 Ax B (by omega) (by omega) (by omega) (by omega)) ?_
    refine (if_pos (by simp (disch := first | omega | (simp (disch := omega) only [uA_n]; done) | fail) only [iI_lit, iI_add, iI_sub, iI_mul, iI_neg, iI_lt, iI_le, iI_eq, zlt_t, zlt_f, zle_t, zle_f, zeq_t, zeq_f, nle_t, nle_f, iI_cl, rA, rS, rB, wA, wS, wB, mkp, mk2, uA_s, uA_n, ud_s, ud_n, bI_0, bI_1, nor_s, ↓reduceIte, or_false, false_or, or_true, true_or, or_self, not_true_eq_false, not_false_eq_true, and_true, true_and, and_false, false_and, bI_T, bI_F, Int.reduceToNat, Nat.reduceAdd, Nat.reduceMul, Int.reduceNeg, Option.bind_some, Int.toNat_natCast, q3, c3])).trans ?_
    refine (askT (em_in F w 1 9999 (mk Ax B) wa wb (by omega) (by omega) (by omega) (by omega)) c4).trans ?_
    refine (askT (em_in F d 1 60 (mk Ax B) da db (by omega) (by omega) (by omega) (by omega)) c5).trans ?_
    refine (if_neg (by simp (disch := first | omega | (simp (disch := omega) only [uA_n]; done) | fail) only [iI_lit, iI_add, iI_sub, iI_mul, iI_neg, iI_lt, iI_le, iI_eq, zlt_t, zlt_f, zle_t, zle_f, zeq_t, zeq_f, nle_t, nle_f, iI_cl, rA, rS, rB, wA, wS, wB, mkp, mk2, uA_s, uA_n, ud_s, ud_n, bI_0, bI_1, nor_s, ↓reduceIte, or_false, false_or, or_true, true_or, or_self, not_true_eq_false, not_false_eq_true, and_true, true_and, and_false, false_and, bI_T, bI_F, Int.reduceToNat, Nat.reduceAdd, Nat.reduceMul, Int.reduceNeg, Option.bind_some, Int.toNat_natCast])).trans ?_
    refine (if_neg (by simp (disch := first | omega | (simp (disch := omega) only [uA_n]; done) | fail) only [iI_lit, iI_add, iI_sub, iI_mul, iI_neg, iI_lt, iI_le, iI_eq, zlt_t, zlt_f, zle_t, zle_f, zeq_t, zeq_f, nle_t, nle_f, iI_cl, rA, rS, rB, wA, wS, wB, mkp, mk2, uA_s, uA_n, ud_s, ud_n, bI_0, bI_1, nor_s, ↓reduceIte, or_false, false_or, or_true, true_or, or_self, not_true_eq_false, not_false_eq_true, and_true, true_and, and_false, false_and, bI_T, bI_F, Int.reduceToNat, Nat.reduceAdd, Nat.reduceMul, Int.reduceNeg, Option.bind_some, Int.toNat_natCast, dS, t3])).trans ?_
    have m0 : mTd B n b s w d 399 = B 399 := by unfold mTd; simp (disch := omega) only [uA_n]
    rw [hn] at t3
    unfold mTd at m0 ⊢
    simp only [f_m_trade_132, f_m_trade_173]
    rw [t3] at m0 ⊢
    simp (disch := first | omega | (simp (disch := omega) only [uA_n]; done) | fail) only [iI_lit, iI_add, iI_sub, iI_mul, iI_neg, iI_lt, iI_le, iI_eq, zlt_t, zlt_f, zle_t, zle_f, zeq_t, zeq_f, nle_t, nle_f, iI_cl, rA, rS, rB, wA, wS, wB, mkp, mk2, uA_s, uA_n, ud_s, ud_n, bI_0, bI_1, nor_s, ↓reduceIte, or_false, false_or, or_true, true_or, or_self, not_true_eq_false, not_false_eq_true, and_true, true_and, and_false, false_and, bI_T, bI_F, Int.reduceToNat, Nat.reduceAdd, Nat.reduceMul, Int.reduceNeg, Option.bind_some, Int.toNat_natCast, dS, t3, zT0, zT, e1, mk2 m0]
end
