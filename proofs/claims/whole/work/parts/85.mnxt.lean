/-! THE REFERENCE'S NEXT TOKEN -/
section MNXT
variable {B B' : hI} {b : Nat → Int} {L : Nat} (F : Nat) (Ax : hI)
theorem em_byteAt (hL : L ≤ 120) (h1 : B 304 11 = L) (h2 : ∀ i, i < L → B 312 i = b i ∧ 0 ≤ b i ∧ b i ≤ 255) (p : Nat) (hp : p ≤ 1000) : f_m_byteAt F (iI p) (mk Ax B) = some (iI (if p < L then b p else -1), mk Ax B) := by
  simp only [f_m_byteAt, f_m_byteAt_18]
  by_cases h : p < L
  · rw [if_pos h]
    obtain ⟨b1, b2, b3⟩ := h2 p h
    simp (disch := first | omega | (simp (disch := omega) only [uA_n]; done) | fail) only [iI_lit, iI_add, iI_sub, iI_mul, iI_neg, iI_lt, iI_le, iI_eq, zlt_t, zlt_f, zle_t, zle_f, zeq_t, zeq_f, nle_t, nle_f, iI_cl, rA, rS, rB, wA, wS, wB, mkp, mk2, uA_s, uA_n, ud_s, ud_n, bI_0, bI_1, nor_s, reduceIte, or_false, false_or, or_true, true_or, or_self, not_true_eq_false, not_false_eq_true, and_true, true_and, and_false, false_and, bI_T, bI_F, Int.reduceToNat, Nat.reduceAdd, Nat.reduceMul, Int.reduceNeg, Option.bind_some, Int.toNat_natCast, h1, b1]
  · rw [if_neg h]
    simp (disch := first | omega | (simp (disch := omega) only [uA_n]; done) | fail) only [iI_lit, iI_add, iI_sub, iI_mul, iI_neg, iI_lt, iI_le, iI_eq, zlt_t, zlt_f, zle_t, zle_f, zeq_t, zeq_f, nle_t, nle_f, iI_cl, rA, rS, rB, wA, wS, wB, mkp, mk2, uA_s, uA_n, ud_s, ud_n, bI_0, bI_1, nor_s, reduceIte, or_false, false_or, or_true, true_or, or_self, not_true_eq_false, not_false_eq_true, and_true, true_and, and_false, false_and, bI_T, bI_F, Int.reduceToNat, Nat.reduceAdd, Nat.reduceMul, Int.reduceNeg, Option.bind_some, Int.toNat_natCast, h1]
/-- the letters, counted -/
theorem em_letters (hL : L ≤ 120) (h1 : B 304 11 = L) (h2 : ∀ i, i < L → B 312 i = b i ∧ 0 ≤ b i ∧ b i ≤ 255) (p0 : Nat) (hp0 : p0 ≤ L) (hb : ∀ i, p0 ≤ i → i < adv (fun i => pL (b i)) (L - p0) p0 → 97 ≤ b i ∧ b i ≤ 122) : ∀ (q k : Nat), L - (p0 + k) < q → p0 + k ≤ adv (fun i => pL (b i)) (L - p0) p0 → f_m_next_91 F q (iI k) (mk Ax (uA (uA B 304 15 (p0 + k : Nat)) 399 304 (hsh b p0 k))) = some ((), mk Ax (uA (uA B 304 15 (adv (fun i => pL (b i)) (L - p0) p0 : Nat)) 399 304 (hsh b p0 (adv (fun i => pL (b i)) (L - p0) p0 - p0)))) := by
  have hr := adv_rg (fun i => pL (b i)) (L - p0) p0
  have hend := adv_end (fun i => pL (b i)) (L - p0) p0
  have hin := adv_in (fun i => pL (b i)) (L - p0) p0
  generalize adv (fun i => pL (b i)) (L - p0) p0 = e at *
  intro q
  induction q with
  | zero => intro k hq; omega
  | succ q ih =>
    intro k hq hk
    rw [f_m_next_91]
    simp only [f_m_next_144, f_m_next_359]
    generalize hB1 : uA (uA B 304 15 ((p0 + k : Nat) : Int)) 399 304 (hsh b p0 k) = B1
    have x11 : B1 304 11 = L := by rw [← hB1]; simp (disch := first | omega | (simp (disch := omega) only [uA_n]; done) | fail) only [iI_lit, iI_add, iI_sub, iI_mul, iI_neg, iI_lt, iI_le, iI_eq, zlt_t, zlt_f, zle_t, zle_f, zeq_t, zeq_f, nle_t, nle_f, iI_cl, rA, rS, rB, wA, wS, wB, mkp, mk2, uA_s, uA_n, ud_s, ud_n, bI_0, bI_1, nor_s, reduceIte, or_false, false_or, or_true, true_or, or_self, not_true_eq_false, not_false_eq_true, and_true, true_and, and_false, false_and, bI_T, bI_F, Int.reduceToNat, Nat.reduceAdd, Nat.reduceMul, Int.reduceNeg, Option.bind_some, Int.toNat_natCast]
    have x312 : ∀ i, i < L → B1 312 i = b i ∧ 0 ≤ b i ∧ b i ≤ 255 := fun i hi => by rw [← hB1, uA_n (by omega), uA_n (by omega)]; exact h2 i hi
    have x15 : B1 304 15 = ((p0 + k : Nat) : Int) := by rw [← hB1]; simp (disch := first | omega | (simp (disch := omega) only [uA_n]; done) | fail) only [iI_lit, iI_add, iI_sub, iI_mul, iI_neg, iI_lt, iI_le, iI_eq, zlt_t, zlt_f, zle_t, zle_f, zeq_t, zeq_f, nle_t, nle_f, iI_cl, rA, rS, rB, wA, wS, wB, mkp, mk2, uA_s, uA_n, ud_s, ud_n, bI_0, bI_1, nor_s, reduceIte, or_false, false_or, or_true, true_or, or_self, not_true_eq_false, not_false_eq_true, and_true, true_and, and_false, false_and, bI_T, bI_F, Int.reduceToNat, Nat.reduceAdd, Nat.reduceMul, Int.reduceNeg, Option.bind_some, Int.toNat_natCast]
    have x399 : B1 399 304 = hsh b p0 k := by rw [← hB1, uA_s, ud_s]
    have eb := em_byteAt F Ax hL x11 x312 (p0 + k) (by omega)
    by_cases hke : p0 + k = e
    · have hno : ¬ (97 ≤ (if p0 + k < L then b (p0 + k) else -1) ∧ (if p0 + k < L then b (p0 + k) else -1) ≤ 122) := by
        by_cases hl : p0 + k < L
        · rw [if_pos hl]
          have := hend (by omega)
          rw [← hke] at this
          intro z
          unfold pL at this
          simp only [Bool.and_eq_false_iff, decide_eq_false_iff_not] at this
          omega
        · rw [if_neg hl]; omega
      have hrg : -1 ≤ (if p0 + k < L then b (p0 + k) else -1) ∧ (if p0 + k < L then b (p0 + k) else -1) ≤ 255 := by
        split
        · have := h2 (p0 + k) (by omega); omega
        · omega
      generalize (if p0 + k < L then b (p0 + k) else -1) = v at *
      have ei := em_in F v 97 122 (mk Ax B1) (by omega) (by omega) (by omega) (by omega) (by omega) (by omega)
      rw [bI_f hno] at ei
      rw [← hke, show p0 + k - p0 = k by omega, hB1]
      simp (disch := first | omega | (simp (disch := omega) only [uA_n]; done) | fail) only [iI_lit, iI_add, iI_sub, iI_mul, iI_neg, iI_lt, iI_le, iI_eq, zlt_t, zlt_f, zle_t, zle_f, zeq_t, zeq_f, nle_t, nle_f, iI_cl, rA, rS, rB, wA, wS, wB, mkp, mk2, uA_s, uA_n, ud_s, ud_n, bI_0, bI_1, nor_s, reduceIte, or_false, false_or, or_true, true_or, or_self, not_true_eq_false, not_false_eq_true, and_true, true_and, and_false, false_and, bI_T, bI_F, Int.reduceToNat, Nat.reduceAdd, Nat.reduceMul, Int.reduceNeg, Option.bind_some, Int.toNat_natCast, x15, eb, ei]
    · have hl : p0 + k < e := by omega
      have hbk := hb (p0 + k) (by omega) hl
      rw [if_pos (by omega)] at eb
      have ei := em_in F (b (p0 + k)) 97 122 (mk Ax B1) (by omega) (by omega) (by omega) (by omega) (by omega) (by omega)
      rw [bI_t hbk] at ei
      have nx := ih (k + 1) (by omega) (by omega)
      refine Eq.trans ?_ nx
      have e2 : ∀ y : Int, uA (uA B1 304 15 (((p0 + k : Nat) : Int) + 1)) 399 304 y = uA (uA B 304 15 ((p0 + (k + 1) : Nat) : Int)) 399 304 y := by
        intro y
        rw [← hB1]
        funext c
        by_cases c1 : c = 399
        · subst c1; rw [uA_s, uA_s, uA_n (by omega), uA_s, uA_n (by omega), uA_n (by omega), ud_ud]
        · rw [uA_n c1, uA_n c1]
          by_cases c2 : c = 304
          · subst c2; rw [uA_s, uA_s, uA_n (by omega), uA_s, ud_ud]; rfl
          · rw [uA_n c2, uA_n c2, uA_n c1, uA_n c2]
      have hrh : -1 ≤ hsh b p0 k ∧ hsh b p0 k < 10460353203 := by
        by_cases hk7 : k ≤ 7
        · have r := hsh_rg b p0 k hk7 (fun i hi => hb (p0 + i) (by omega) (by omega))
          have hp : (27 : Int) ^ k ≤ 10460353203 := by
            rcases (show k = 0 ∨ k = 1 ∨ k = 2 ∨ k = 3 ∨ k = 4 ∨ k = 5 ∨ k = 6 ∨ k = 7 by omega) with e | e | e | e | e | e | e | e <;> rw [e] <;> decide
          omega
        · obtain ⟨m, rfl⟩ : ∃ m, k = m + 1 := ⟨k - 1, by omega⟩
          rw [hsh, if_neg (by omega)]; omega
      have h399 : uA B1 304 15 (((p0 + k : Nat) : Int) + 1) 399 = B1 399 := uA_n (by omega)
      by_cases hk7 : k < 7
      · have eh : hsh b p0 (k + 1) = 27 * hsh b p0 k + b (p0 + k) - 96 := by rw [hsh, if_pos hk7]
        rw [eh]
        simp (disch := first | omega | (simp (disch := omega) only [uA_n]; done) | fail) only [iI_lit, iI_add, iI_sub, iI_mul, iI_neg, iI_lt, iI_le, iI_eq, zlt_t, zlt_f, zle_t, zle_f, zeq_t, zeq_f, nle_t, nle_f, iI_cl, rA, rS, rB, wA, wS, wB, mkp, mk2, uA_s, uA_n, ud_s, ud_n, bI_0, bI_1, nor_s, reduceIte, or_false, false_or, or_true, true_or, or_self, not_true_eq_false, not_false_eq_true, and_true, true_and, and_false, false_and, bI_T, bI_F, Int.reduceToNat, Nat.reduceAdd, Nat.reduceMul, Int.reduceNeg, Option.bind_some, Int.toNat_natCast, x15, eb, ei, rL, x399, lI_lit, iI_long, lI_mul, lI_add, lI_sub, wL h399, e2]
        rfl
      · have eh : hsh b p0 (k + 1) = -1 := by rw [hsh, if_neg hk7]
        rw [eh]
        simp (disch := first | omega | (simp (disch := omega) only [uA_n]; done) | fail) only [iI_lit, iI_add, iI_sub, iI_mul, iI_neg, iI_lt, iI_le, iI_eq, zlt_t, zlt_f, zle_t, zle_f, zeq_t, zeq_f, nle_t, nle_f, iI_cl, rA, rS, rB, wA, wS, wB, mkp, mk2, uA_s, uA_n, ud_s, ud_n, bI_0, bI_1, nor_s, reduceIte, or_false, false_or, or_true, true_or, or_self, not_true_eq_false, not_false_eq_true, and_true, true_and, and_false, false_and, bI_T, bI_F, Int.reduceToNat, Nat.reduceAdd, Nat.reduceMul, Int.reduceNeg, Option.bind_some, Int.toNat_natCast, x15, eb, ei, lI_lit, lI_neg, wL h399, e2]
        rfl
/-- what the first five digits count -/
def nu5 (b : Nat → Int) (p : Nat) : Nat → Int
  | 0 => 0
  | k + 1 => if k < 5 then 10 * nu5 b p k + b (p + k) - 48 else nu5 b p k
theorem nu5_rg (b : Nat → Int) (p : Nat) : ∀ k, (∀ i, i < k → 48 ≤ b (p + i) ∧ b (p + i) ≤ 57) → 0 ≤ nu5 b p k ∧ nu5 b p k < 10 ^ (min k 5) := by
  intro k
  induction k with
  | zero => intro _; exact ⟨Int.le_refl _, (by decide : (0 : Int) < 10 ^ 0)⟩
  | succ k ih =>
    intro hb
    have i := ih (fun i hi => hb i (by omega))
    have h := hb k (by omega)
    unfold nu5
    split
    · rw [show min (k + 1) 5 = min k 5 + 1 by omega, Int.pow_succ]; omega
    · rw [show min (k + 1) 5 = min k 5 by omega]; exact i
theorem nu5_ok (b : Nat → Int) (p : Nat) : ∀ k, k ≤ 5 → nu5 b p k = pNm b p (p + k) := by
  intro k
  induction k with
  | zero => intro _; unfold pNm; rw [wsl_nil (by omega)]; rfl
  | succ k ih =>
    intro hk
    unfold nu5
    rw [if_pos (by omega), ih (by omega)]
    unfold pNm
    rw [wsl_snoc, List.foldl_append]
    rfl
theorem em_digits (hL : L ≤ 120) (h1 : B 304 11 = L) (h2 : ∀ i, i < L → B 312 i = b i ∧ 0 ≤ b i ∧ b i ≤ 255) (p0 : Nat) (hp0 : p0 ≤ L) (hb : ∀ i, p0 ≤ i → i < adv (fun i => pD (b i)) (L - p0) p0 → 48 ≤ b i ∧ b i ≤ 57) : ∀ (q k : Nat), L - (p0 + k) < q → p0 + k ≤ adv (fun i => pD (b i)) (L - p0) p0 → f_m_next_189 F q (iI k) (mk Ax (uA (uA B 304 15 (p0 + k : Nat)) 399 304 (nu5 b p0 k))) = some ((), mk Ax (uA (uA (uA B 304 15 (adv (fun i => pD (b i)) (L - p0) p0 : Nat)) 399 304 (nu5 b p0 (adv (fun i => pD (b i)) (L - p0) p0 - p0))) 304 12 (if adv (fun i => pD (b i)) (L - p0) p0 - p0 ≤ 5 then 2 else 4))) := by
  have hr := adv_rg (fun i => pD (b i)) (L - p0) p0
  have hend := adv_end (fun i => pD (b i)) (L - p0) p0
  have hin := adv_in (fun i => pD (b i)) (L - p0) p0
  generalize adv (fun i => pD (b i)) (L - p0) p0 = e at *
  intro q
  induction q with
  | zero => intro k hq; omega
  | succ q ih =>
    intro k hq hk
    rw [f_m_next_189]
    simp only [f_m_next_242, f_m_next_272, f_m_next_359]
    generalize hB1 : uA (uA B 304 15 ((p0 + k : Nat) : Int)) 399 304 (nu5 b p0 k) = B1
    have x11 : B1 304 11 = L := by rw [← hB1]; simp (disch := first | omega | (simp (disch := omega) only [uA_n]; done) | fail) only [iI_lit, iI_add, iI_sub, iI_mul, iI_neg, iI_lt, iI_le, iI_eq, zlt_t, zlt_f, zle_t, zle_f, zeq_t, zeq_f, nle_t, nle_f, iI_cl, rA, rS, rB, wA, wS, wB, mkp, mk2, uA_s, uA_n, ud_s, ud_n, bI_0, bI_1, nor_s, reduceIte, or_false, false_or, or_true, true_or, or_self, not_true_eq_false, not_false_eq_true, and_true, true_and, and_false, false_and, bI_T, bI_F, Int.reduceToNat, Nat.reduceAdd, Nat.reduceMul, Int.reduceNeg, Option.bind_some, Int.toNat_natCast]
    have x312 : ∀ i, i < L → B1 312 i = b i ∧ 0 ≤ b i ∧ b i ≤ 255 := fun i hi => by rw [← hB1, uA_n (by omega), uA_n (by omega)]; exact h2 i hi
    have x15 : B1 304 15 = ((p0 + k : Nat) : Int) := by rw [← hB1]; simp (disch := first | omega | (simp (disch := omega) only [uA_n]; done) | fail) only [iI_lit, iI_add, iI_sub, iI_mul, iI_neg, iI_lt, iI_le, iI_eq, zlt_t, zlt_f, zle_t, zle_f, zeq_t, zeq_f, nle_t, nle_f, iI_cl, rA, rS, rB, wA, wS, wB, mkp, mk2, uA_s, uA_n, ud_s, ud_n, bI_0, bI_1, nor_s, reduceIte, or_false, false_or, or_true, true_or, or_self, not_true_eq_false, not_false_eq_true, and_true, true_and, and_false, false_and, bI_T, bI_F, Int.reduceToNat, Nat.reduceAdd, Nat.reduceMul, Int.reduceNeg, Option.bind_some, Int.toNat_natCast]
    have x399 : B1 399 304 = nu5 b p0 k := by rw [← hB1, uA_s, ud_s]
    have eb := em_byteAt F Ax hL x11 x312 (p0 + k) (by omega)
    by_cases hke : p0 + k = e
    · have hno : ¬ (48 ≤ (if p0 + k < L then b (p0 + k) else -1) ∧ (if p0 + k < L then b (p0 + k) else -1) ≤ 57) := by
        by_cases hl : p0 + k < L
        · rw [if_pos hl]
          have := hend (by omega)
          rw [← hke] at this
          intro z
          unfold pD at this
          simp only [Bool.and_eq_false_iff, decide_eq_false_iff_not] at this
          omega
        · rw [if_neg hl]; omega
      have hrg : -1 ≤ (if p0 + k < L then b (p0 + k) else -1) ∧ (if p0 + k < L then b (p0 + k) else -1) ≤ 255 := by
        split
        · have := h2 (p0 + k) (by omega); omega
        · omega
      generalize (if p0 + k < L then b (p0 + k) else -1) = v at *
      have ei := em_in F v 48 57 (mk Ax B1) (by omega) (by omega) (by omega) (by omega) (by omega) (by omega)
      rw [bI_f hno] at ei
      rw [← hke, show p0 + k - p0 = k by omega, hB1]
      by_cases h5 : k ≤ 5
      · rw [if_pos h5]
        simp (disch := first | omega | (simp (disch := omega) only [uA_n]; done) | fail) only [iI_lit, iI_add, iI_sub, iI_mul, iI_neg, iI_lt, iI_le, iI_eq, zlt_t, zlt_f, zle_t, zle_f, zeq_t, zeq_f, nle_t, nle_f, iI_cl, rA, rS, rB, wA, wS, wB, mkp, mk2, uA_s, uA_n, ud_s, ud_n, bI_0, bI_1, nor_s, reduceIte, or_false, false_or, or_true, true_or, or_self, not_true_eq_false, not_false_eq_true, and_true, true_and, and_false, false_and, bI_T, bI_F, Int.reduceToNat, Nat.reduceAdd, Nat.reduceMul, Int.reduceNeg, Option.bind_some, Int.toNat_natCast, x15, eb, ei]
      · rw [if_neg h5]
        simp (disch := first | omega | (simp (disch := omega) only [uA_n]; done) | fail) only [iI_lit, iI_add, iI_sub, iI_mul, iI_neg, iI_lt, iI_le, iI_eq, zlt_t, zlt_f, zle_t, zle_f, zeq_t, zeq_f, nle_t, nle_f, iI_cl, rA, rS, rB, wA, wS, wB, mkp, mk2, uA_s, uA_n, ud_s, ud_n, bI_0, bI_1, nor_s, reduceIte, or_false, false_or, or_true, true_or, or_self, not_true_eq_false, not_false_eq_true, and_true, true_and, and_false, false_and, bI_T, bI_F, Int.reduceToNat, Nat.reduceAdd, Nat.reduceMul, Int.reduceNeg, Option.bind_some, Int.toNat_natCast, x15, eb, ei]
    · have hl : p0 + k < e := by omega
      have hbk := hb (p0 + k) (by omega) hl
      rw [if_pos (by omega)] at eb
      have ei := em_in F (b (p0 + k)) 48 57 (mk Ax B1) (by omega) (by omega) (by omega) (by omega) (by omega) (by omega)
      rw [bI_t hbk] at ei
      have nx := ih (k + 1) (by omega) (by omega)
      refine Eq.trans ?_ nx
      have e2 : ∀ y : Int, uA (uA B1 304 15 (((p0 + k : Nat) : Int) + 1)) 399 304 y = uA (uA B 304 15 ((p0 + (k + 1) : Nat) : Int)) 399 304 y := by
        intro y
        rw [← hB1]
        funext c
        by_cases c1 : c = 399
        · subst c1; rw [uA_s, uA_s, uA_n (by omega), uA_s, uA_n (by omega), uA_n (by omega), ud_ud]
        · rw [uA_n c1, uA_n c1]
          by_cases c2 : c = 304
          · subst c2; rw [uA_s, uA_s, uA_n (by omega), uA_s, ud_ud]; rfl
          · rw [uA_n c2, uA_n c2, uA_n c1, uA_n c2]
      have hrh : 0 ≤ nu5 b p0 k ∧ nu5 b p0 k < 100000 := by
        have r := nu5_rg b p0 k (fun i hi => hb (p0 + i) (by omega) (by omega))
        have hp : (10 : Int) ^ (min k 5) ≤ 100000 := by
          rcases (show min k 5 = 0 ∨ min k 5 = 1 ∨ min k 5 = 2 ∨ min k 5 = 3 ∨ min k 5 = 4 ∨ min k 5 = 5 by omega) with e | e | e | e | e | e <;> rw [e] <;> decide
        omega
      have h399 : uA B1 304 15 (((p0 + k : Nat) : Int) + 1) 399 = B1 399 := uA_n (by omega)
      by_cases hk7 : k < 5
      · have eh : nu5 b p0 (k + 1) = 10 * nu5 b p0 k + b (p0 + k) - 48 := by rw [nu5, if_pos hk7]
        rw [eh]
        simp (disch := first | omega | (simp (disch := omega) only [uA_n]; done) | fail) only [iI_lit, iI_add, iI_sub, iI_mul, iI_neg, iI_lt, iI_le, iI_eq, zlt_t, zlt_f, zle_t, zle_f, zeq_t, zeq_f, nle_t, nle_f, iI_cl, rA, rS, rB, wA, wS, wB, mkp, mk2, uA_s, uA_n, ud_s, ud_n, bI_0, bI_1, nor_s, reduceIte, or_false, false_or, or_true, true_or, or_self, not_true_eq_false, not_false_eq_true, and_true, true_and, and_false, false_and, bI_T, bI_F, Int.reduceToNat, Nat.reduceAdd, Nat.reduceMul, Int.reduceNeg, Option.bind_some, Int.toNat_natCast, x15, eb, ei, rL, x399, lI_lit, iI_long, lI_mul, lI_add, lI_sub, wL h399, e2]
        rfl
      · have eh : nu5 b p0 (k + 1) = nu5 b p0 k := by rw [nu5, if_neg hk7]
        rw [eh]
        simp (disch := first | omega | (simp (disch := omega) only [uA_n]; done) | fail) only [iI_lit, iI_add, iI_sub, iI_mul, iI_neg, iI_lt, iI_le, iI_eq, zlt_t, zlt_f, zle_t, zle_f, zeq_t, zeq_f, nle_t, nle_f, iI_cl, rA, rS, rB, wA, wS, wB, mkp, mk2, uA_s, uA_n, ud_s, ud_n, bI_0, bI_1, nor_s, reduceIte, or_false, false_or, or_true, true_or, or_self, not_true_eq_false, not_false_eq_true, and_true, true_and, and_false, false_and, bI_T, bI_F, Int.reduceToNat, Nat.reduceAdd, Nat.reduceMul, Int.reduceNeg, Option.bind_some, Int.toNat_natCast, x15, eb, ei, rL, x399, wL h399, e2]
        rfl
end MNXT
