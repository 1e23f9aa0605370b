/-! A ROAD MORE: the reference measures anew -/
def sB (B : hI) (g : Nat → Int) : hI := fun k => if k = 404 then g else B k
theorem sB_s (B : hI) (g : Nat → Int) : sB B g 404 = g := if_pos rfl
theorem sB_n {B : hI} {g : Nat → Int} {k : Nat} (h : k ≠ 404) : sB B g k = B k := if_neg h
theorem sB_u (B : hI) (g : Nat → Int) (t : Nat) (v : Int) : uA (sB B g) 404 t v = sB B (ud g t v) := by
  funext k
  by_cases hk : k = 404
  · subst hk; rw [uA_s, sB_s, sB_s]
  · rw [uA_n hk, sB_n hk, sB_n hk]
def gX (e z : Nat → Int) (t : Nat) : Nat → Int := fun x => if x < t then e x else z x
theorem gX_u (e z : Nat → Int) (t : Nat) : ud (gX e z t) t (e t) = gX e z (t + 1) := by
  funext x
  unfold gX
  by_cases h : x = t
  · subst h; rw [ud_s, if_pos (by omega)]
  · rw [ud_n h]
    by_cases h2 : x < t
    · rw [if_pos h2, if_pos (by omega)]
    · rw [if_neg h2, if_neg (by omega)]
def iz : Nat → Int := fun x => if x / 8 = x % 8 then 0 else 999999
section MROA
variable (F : Nat) (Ax : hI) {B : hI}
theorem em_mea1 (z : Nat → Int) {i : Nat} (hi : i < 8) (k2 : Int32 → mM → Option (Unit × mM)) : ∀ (r j q : Nat), r = 8 - j → j ≤ 8 → r < q → f_m_measure_10 F k2 q (iI i) (iI j) (mk Ax (sB B (gX iz z (8 * i + j)))) = k2 (iI ((i + 1 : Nat) : Int)) (mk Ax (sB B (gX iz z (8 * (i + 1))))) := by
  intro r
  induction r with
  | zero =>
    intro j q h1 h2 h3
    obtain ⟨q, rfl⟩ : ∃ p, q = p + 1 := ⟨q - 1, by omega⟩
    obtain rfl : j = 8 := by omega
    rw [f_m_measure_10]
    simp (disch := first | omega | (simp (disch := omega) only [uA_n]; done) | fail) only [iI_lit, iI_add, iI_sub, iI_mul, iI_neg, iI_lt, iI_le, iI_eq, zlt_t, zlt_f, zle_t, zle_f, zeq_t, zeq_f, nle_t, nle_f, iI_cl, rA, rS, rB, wA, wS, wB, mkp, mk2, uA_s, uA_n, ud_s, ud_n, bI_0, bI_1, nor_s, ↓reduceIte, or_false, false_or, or_true, true_or, or_self, not_true_eq_false, not_false_eq_true, and_true, true_and, and_false, false_and, bI_T, bI_F, Int.reduceToNat, Nat.reduceAdd, Nat.reduceMul, Int.reduceNeg, Option.bind_some, Int.toNat_natCast]
    rfl
  | succ r ih =>
    intro j q h1 h2 h3
    obtain ⟨q, rfl⟩ : ∃ p, q = p + 1 := ⟨q - 1, by omega⟩
    have nx := ih (j + 1) q (by omega) (by omega) (by omega)
    have e := gX_u iz z (8 * i + j)
    have e2 : uA (sB B (gX iz z (8 * i + j))) 404 (8 * i + j) (iz (8 * i + j)) = sB B (gX iz z (8 * i + (j + 1))) := by rw [sB_u, e]; rfl
    refine Eq.trans ?_ nx
    rw [← e2, f_m_measure_10]
    simp only [f_m_measure_40]
    by_cases hij : i = j
    · subst hij
      rw [show iz (8 * i + i) = 0 from if_pos (by omega)]
      simp (disch := first | omega | (simp (disch := omega) only [uA_n]; done) | fail) only [iI_lit, iI_add, iI_sub, iI_mul, iI_neg, iI_lt, iI_le, iI_eq, zlt_t, zlt_f, zle_t, zle_f, zeq_t, zeq_f, nle_t, nle_f, iI_cl, rA, rS, rB, wA, wS, wB, mkp, mk2, uA_s, uA_n, ud_s, ud_n, bI_0, bI_1, nor_s, ↓reduceIte, or_false, false_or, or_true, true_or, or_self, not_true_eq_false, not_false_eq_true, and_true, true_and, and_false, false_and, bI_T, bI_F, Int.reduceToNat, Nat.reduceAdd, Nat.reduceMul, Int.reduceNeg, Option.bind_some, Int.toNat_natCast, zF]
      rfl
    · rw [show iz (8 * i + j) = 999999 from if_neg (by omega)]
      simp (disch := first | omega | (simp (disch := omega) only [uA_n]; done) | fail) only [iI_lit, iI_add, iI_sub, iI_mul, iI_neg, iI_lt, iI_le, iI_eq, zlt_t, zlt_f, zle_t, zle_f, zeq_t, zeq_f, nle_t, nle_f, iI_cl, rA, rS, rB, wA, wS, wB, mkp, mk2, uA_s, uA_n, ud_s, ud_n, bI_0, bI_1, nor_s, ↓reduceIte, or_false, false_or, or_true, true_or, or_self, not_true_eq_false, not_false_eq_true, and_true, true_and, and_false, false_and, bI_T, bI_F, Int.reduceToNat, Nat.reduceAdd, Nat.reduceMul, Int.reduceNeg, Option.bind_some, Int.toNat_natCast, zF]
      rfl
theorem em_mea2 (z : Nat → Int) : ∀ (r i q : Nat), r = 8 - i → i ≤ 8 → 8 < F → r < q → f_m_measure_2 F q (iI i) (mk Ax (sB B (gX iz z (8 * i)))) = f_m_measure_55 F F (iI 0) (mk Ax (sB B (gX iz z 64))) := by
  intro r
  induction r with
  | zero =>
    intro i q h1 h2 hF h3
    obtain ⟨q, rfl⟩ : ∃ p, q = p + 1 := ⟨q - 1, by omega⟩
    obtain rfl : i = 8 := by omega
    rw [f_m_measure_2]
    simp (disch := first | omega | (simp (disch := omega) only [uA_n]; done) | fail) only [iI_lit, iI_add, iI_sub, iI_mul, iI_neg, iI_lt, iI_le, iI_eq, zlt_t, zlt_f, zle_t, zle_f, zeq_t, zeq_f, nle_t, nle_f, iI_cl, rA, rS, rB, wA, wS, wB, mkp, mk2, uA_s, uA_n, ud_s, ud_n, bI_0, bI_1, nor_s, ↓reduceIte, or_false, false_or, or_true, true_or, or_self, not_true_eq_false, not_false_eq_true, and_true, true_and, and_false, false_and, bI_T, bI_F, Int.reduceToNat, Nat.reduceAdd, Nat.reduceMul, Int.reduceNeg, Option.bind_some, Int.toNat_natCast]
  | succ r ih =>
    intro i q h1 h2 hF h3
    obtain ⟨q, rfl⟩ : ∃ p, q = p + 1 := ⟨q - 1, by omega⟩
    have x := em_mea1 F Ax (B := B) z (i := i) (by omega) (f_m_measure_2 F q) 8 0 F (by omega) (by omega) (by omega)
    rw [f_m_measure_2]
    simp (disch := first | omega | (simp (disch := omega) only [uA_n]; done) | fail) only [iI_lit, iI_add, iI_sub, iI_mul, iI_neg, iI_lt, iI_le, iI_eq, zlt_t, zlt_f, zle_t, zle_f, zeq_t, zeq_f, nle_t, nle_f, iI_cl, rA, rS, rB, wA, wS, wB, mkp, mk2, uA_s, uA_n, ud_s, ud_n, bI_0, bI_1, nor_s, ↓reduceIte, or_false, false_or, or_true, true_or, or_self, not_true_eq_false, not_false_eq_true, and_true, true_and, and_false, false_and, bI_T, bI_F, Int.reduceToNat, Nat.reduceAdd, Nat.reduceMul, Int.reduceNeg, Option.bind_some, Int.toNat_natCast]
    exact Eq.trans x (ih (i + 1) q (by omega) (by omega) hF (by omega))
theorem em_mea3 {n : Nat} (hn : n ≤ 16) (h3 : B 400 3 = n) (hr : ∀ k, k < n → (0 ≤ B 401 k ∧ B 401 k < 8) ∧ (0 ≤ B 402 k ∧ B 402 k < 8) ∧ 1 ≤ B 403 k ∧ B 403 k ≤ 30) : ∀ (r i q : Nat) (g : Nat → Int), r = n - i → i ≤ n → r < q → fwD i (B 401) (B 402) (B 403) g → ∃ g' : Nat → Int, f_m_measure_55 F q (iI i) (mk Ax (sB B g)) = f_m_measure_165 F F (iI 0) (mk Ax (sB B g')) ∧ fwD n (B 401) (B 402) (B 403) g' := by
  have e400 : ∀ g : Nat → Int, sB B g 400 = B 400 := fun g => sB_n (by omega)
  have e401 : ∀ g : Nat → Int, sB B g 401 = B 401 := fun g => sB_n (by omega)
  have e402 : ∀ g : Nat → Int, sB B g 402 = B 402 := fun g => sB_n (by omega)
  have e403 : ∀ g : Nat → Int, sB B g 403 = B 403 := fun g => sB_n (by omega)
  intro r
  induction r with
  | zero =>
    intro i q g h1 h2 h3' hg
    obtain ⟨q, rfl⟩ : ∃ p, q = p + 1 := ⟨q - 1, by omega⟩
    obtain rfl : i = n := by omega
    refine ⟨g, ?_, hg⟩
    rw [f_m_measure_55]
    simp (disch := first | omega | (simp (disch := omega) only [uA_n]; done) | fail) only [iI_lit, iI_add, iI_sub, iI_mul, iI_neg, iI_lt, iI_le, iI_eq, zlt_t, zlt_f, zle_t, zle_f, zeq_t, zeq_f, nle_t, nle_f, iI_cl, rA, rS, rB, wA, wS, wB, mkp, mk2, uA_s, uA_n, ud_s, ud_n, bI_0, bI_1, nor_s, ↓reduceIte, or_false, false_or, or_true, true_or, or_self, not_true_eq_false, not_false_eq_true, and_true, true_and, and_false, false_and, bI_T, bI_F, Int.reduceToNat, Nat.reduceAdd, Nat.reduceMul, Int.reduceNeg, Option.bind_some, Int.toNat_natCast, dS, e400, h3]
  | succ r ih =>
    intro i q g h1 h2 h3' hg
    obtain ⟨q, rfl⟩ : ∃ p, q = p + 1 := ⟨q - 1, by omega⟩
    obtain ⟨⟨a1, a2⟩, ⟨b1, b2⟩, w1, w2⟩ := hr i (by omega)
    have g2 := hg.st (fun k hk => by have := hr k (by omega); omega) (by omega) (by omega) (by omega) (by omega)
    obtain ⟨g', x1, x2⟩ := ih (i + 1) q _ (by omega) (by omega) (by omega) g2
    refine ⟨g', ?_, x2⟩
    rw [← x1, f_m_measure_55]
    simp only [f_m_measure_106, f_m_measure_157]
    have hrg := hg.2.1 _ _ (show (B 401 i).toNat < 8 by omega) (show (B 402 i).toNat < 8 by omega)
    unfold fwR
    by_cases hc : g (8 * (B 401 i).toNat + (B 402 i).toNat) ≤ B 403 i
    · rw [if_pos hc]
      simp (disch := first | omega | (simp (disch := omega) only [uA_n]; done) | fail) only [iI_lit, iI_add, iI_sub, iI_mul, iI_neg, iI_lt, iI_le, iI_eq, zlt_t, zlt_f, zle_t, zle_f, zeq_t, zeq_f, nle_t, nle_f, iI_cl, rA, rS, rB, wA, wS, wB, mkp, mk2, uA_s, uA_n, ud_s, ud_n, bI_0, bI_1, nor_s, ↓reduceIte, or_false, false_or, or_true, true_or, or_self, not_true_eq_false, not_false_eq_true, and_true, true_and, and_false, false_and, bI_T, bI_F, Int.reduceToNat, Nat.reduceAdd, Nat.reduceMul, Int.reduceNeg, Option.bind_some, Int.toNat_natCast, dS, zR0, zR, zF, e400, e401, e402, e403, h3, sB_s]
      rfl
    · rw [if_neg hc]
      rw [← sB_u, ← sB_u]
      simp (disch := first | omega | (simp (disch := omega) only [uA_n]; done) | fail) only [iI_lit, iI_add, iI_sub, iI_mul, iI_neg, iI_lt, iI_le, iI_eq, zlt_t, zlt_f, zle_t, zle_f, zeq_t, zeq_f, nle_t, nle_f, iI_cl, rA, rS, rB, wA, wS, wB, mkp, mk2, uA_s, uA_n, ud_s, ud_n, bI_0, bI_1, nor_s, ↓reduceIte, or_false, false_or, or_true, true_or, or_self, not_true_eq_false, not_false_eq_true, and_true, true_and, and_false, false_and, bI_T, bI_F, Int.reduceToNat, Nat.reduceAdd, Nat.reduceMul, Int.reduceNeg, Option.bind_some, Int.toNat_natCast, dS, zR0, zR, zF, e400, e401, e402, e403, h3, sB_s]
      rfl
theorem em_mea4 {g : Nat → Int} {k i : Nat} (hk : k < 8) (hi : i < 8) (g0 : ∀ a, a < 8 → g (8 * a + a) = 0) (gr : ∀ a b, a < 8 → b < 8 → 0 ≤ g (8 * a + b) ∧ g (8 * a + b) ≤ 999999) (k165 : Int32 → mM → Option (Unit × mM)) (k173 : Int32 → Int32 → mM → Option (Unit × mM)) : ∀ (r j q : Nat), r = 8 - j → j ≤ 8 → r < q → f_m_measure_181 F k165 k173 q (iI k) (iI i) (iI j) (mk Ax (sB B (gX (fwS g k) g (8 * i + j)))) = k173 (iI k) (iI ((i + 1 : Nat) : Int)) (mk Ax (sB B (gX (fwS g k) g (8 * (i + 1))))) := by
  intro r
  induction r with
  | zero =>
    intro j q h1 h2 h3
    obtain ⟨q, rfl⟩ : ∃ p, q = p + 1 := ⟨q - 1, by omega⟩
    obtain rfl : j = 8 := by omega
    rw [f_m_measure_181]
    simp (disch := first | omega | (simp (disch := omega) only [uA_n]; done) | fail) only [iI_lit, iI_add, iI_sub, iI_mul, iI_neg, iI_lt, iI_le, iI_eq, zlt_t, zlt_f, zle_t, zle_f, zeq_t, zeq_f, nle_t, nle_f, iI_cl, rA, rS, rB, wA, wS, wB, mkp, mk2, uA_s, uA_n, ud_s, ud_n, bI_0, bI_1, nor_s, ↓reduceIte, or_false, false_or, or_true, true_or, or_self, not_true_eq_false, not_false_eq_true, and_true, true_and, and_false, false_and, bI_T, bI_F, Int.reduceToNat, Nat.reduceAdd, Nat.reduceMul, Int.reduceNeg, Option.bind_some, Int.toNat_natCast]
    rfl
  | succ r ih =>
    intro j q h1 h2 h3
    obtain ⟨q, rfl⟩ : ∃ p, q = p + 1 := ⟨q - 1, by omega⟩
    have nx := ih (j + 1) q (by omega) (by omega) (by omega)
    refine Eq.trans ?_ nx
    have e := gX_u (fwS g k) g (8 * i + j)
    have hkk := g0 k hk
    have q1 := gr i k hi hk
    have q2 := gr k j hk (by omega)
    have q3 := gr i j hi (by omega)
    have v1 : gX (fwS g k) g (8 * i + j) (8 * i + k) = g (8 * i + k) := by
      unfold gX
      split
      · rw [fwS_at g k hi hk]; omega
      · rfl
    have v2 : gX (fwS g k) g (8 * i + j) (8 * k + j) = g (8 * k + j) := by
      unfold gX
      split
      · rw [fwS_at g k hk (by omega)]; omega
      · rfl
    have v3 : gX (fwS g k) g (8 * i + j) (8 * i + j) = g (8 * i + j) := by unfold gX; rw [if_neg (by omega)]
    have f := fwS_at g k hi (j := j) (by omega)
    rw [f_m_measure_181]
    simp only [f_m_measure_253]
    by_cases hc : g (8 * i + j) ≤ g (8 * i + k) + g (8 * k + j)
    · rw [show fwS g k (8 * i + j) = g (8 * i + j) by omega] at e
      have e5 : sB B (gX (fwS g k) g (8 * i + (j + 1))) = sB B (gX (fwS g k) g (8 * i + j)) := by
        rw [show 8 * i + (j + 1) = 8 * i + j + 1 by omega, ← e, ← v3]
        congr 1
        funext x
        by_cases h : x = 8 * i + j
        · subst h; rw [ud_s]
        · rw [ud_n h]
      rw [e5]
      simp (disch := first | omega | (simp (disch := omega) only [uA_n]; done) | fail) only [iI_lit, iI_add, iI_sub, iI_mul, iI_neg, iI_lt, iI_le, iI_eq, zlt_t, zlt_f, zle_t, zle_f, zeq_t, zeq_f, nle_t, nle_f, iI_cl, rA, rS, rB, wA, wS, wB, mkp, mk2, uA_s, uA_n, ud_s, ud_n, bI_0, bI_1, nor_s, ↓reduceIte, or_false, false_or, or_true, true_or, or_self, not_true_eq_false, not_false_eq_true, and_true, true_and, and_false, false_and, bI_T, bI_F, Int.reduceToNat, Nat.reduceAdd, Nat.reduceMul, Int.reduceNeg, Option.bind_some, Int.toNat_natCast, zF, sB_s, v1, v2, v3]
      rfl
    · rw [show fwS g k (8 * i + j) = g (8 * i + k) + g (8 * k + j) by omega] at e
      rw [show 8 * i + (j + 1) = 8 * i + j + 1 by omega, ← e, ← sB_u]
      simp (disch := first | omega | (simp (disch := omega) only [uA_n]; done) | fail) only [iI_lit, iI_add, iI_sub, iI_mul, iI_neg, iI_lt, iI_le, iI_eq, zlt_t, zlt_f, zle_t, zle_f, zeq_t, zeq_f, nle_t, nle_f, iI_cl, rA, rS, rB, wA, wS, wB, mkp, mk2, uA_s, uA_n, ud_s, ud_n, bI_0, bI_1, nor_s, ↓reduceIte, or_false, false_or, or_true, true_or, or_self, not_true_eq_false, not_false_eq_true, and_true, true_and, and_false, false_and, bI_T, bI_F, Int.reduceToNat, Nat.reduceAdd, Nat.reduceMul, Int.reduceNeg, Option.bind_some, Int.toNat_natCast, zF, sB_s, v1, v2, v3]
      rfl
theorem em_mea5 {g : Nat → Int} {k : Nat} (hF : 1000 ≤ F) (hk : k < 8) (g0 : ∀ a, a < 8 → g (8 * a + a) = 0) (gr : ∀ a b, a < 8 → b < 8 → 0 ≤ g (8 * a + b) ∧ g (8 * a + b) ≤ 999999) (k165 : Int32 → mM → Option (Unit × mM)) : ∀ (r i q : Nat), r = 8 - i → i ≤ 8 → r < q → f_m_measure_173 F k165 q (iI k) (iI i) (mk Ax (sB B (gX (fwS g k) g (8 * i)))) = k165 (iI ((k + 1 : Nat) : Int)) (mk Ax (sB B (gX (fwS g k) g 64))) := by
  intro r
  induction r with
  | zero =>
    intro i q h1 h2 h3
    obtain ⟨q, rfl⟩ : ∃ p, q = p + 1 := ⟨q - 1, by omega⟩
    obtain rfl : i = 8 := by omega
    rw [f_m_measure_173]
    simp (disch := first | omega | (simp (disch := omega) only [uA_n]; done) | fail) only [iI_lit, iI_add, iI_sub, iI_mul, iI_neg, iI_lt, iI_le, iI_eq, zlt_t, zlt_f, zle_t, zle_f, zeq_t, zeq_f, nle_t, nle_f, iI_cl, rA, rS, rB, wA, wS, wB, mkp, mk2, uA_s, uA_n, ud_s, ud_n, bI_0, bI_1, nor_s, ↓reduceIte, or_false, false_or, or_true, true_or, or_self, not_true_eq_false, not_false_eq_true, and_true, true_and, and_false, false_and, bI_T, bI_F, Int.reduceToNat, Nat.reduceAdd, Nat.reduceMul, Int.reduceNeg, Option.bind_some, Int.toNat_natCast]
    rfl
  | succ r ih =>
    intro i q h1 h2 h3
    obtain ⟨q, rfl⟩ : ∃ p, q = p + 1 := ⟨q - 1, by omega⟩
    have x := em_mea4 F Ax (B := B) hk (i := i) (by omega) g0 gr k165 (f_m_measure_173 F k165 q) 8 0 F (by omega) (by omega) (by omega)
    rw [f_m_measure_173]
    simp (disch := first | omega | (simp (disch := omega) only [uA_n]; done) | fail) only [iI_lit, iI_add, iI_sub, iI_mul, iI_neg, iI_lt, iI_le, iI_eq, zlt_t, zlt_f, zle_t, zle_f, zeq_t, zeq_f, nle_t, nle_f, iI_cl, rA, rS, rB, wA, wS, wB, mkp, mk2, uA_s, uA_n, ud_s, ud_n, bI_0, bI_1, nor_s, ↓reduceIte, or_false, false_or, or_true, true_or, or_self, not_true_eq_false, not_false_eq_true, and_true, true_and, and_false, false_and, bI_T, bI_F, Int.reduceToNat, Nat.reduceAdd, Nat.reduceMul, Int.reduceNeg, Option.bind_some, Int.toNat_natCast]
    exact Eq.trans x (ih (i + 1) q (by omega) (by omega) (by omega))
theorem em_mea6 (hF : 1000 ≤ F) {n : Nat} {ra rb rd : Nat → Int} (hr : ∀ i, i < n → (ra i).toNat < 8 ∧ (rb i).toNat < 8) : ∀ (r k q : Nat) (g : Nat → Int), r = 8 - k → k ≤ 8 → r < q → fwI n ra rb rd g k → ∃ g' : Nat → Int, f_m_measure_165 F q (iI k) (mk Ax (sB B g)) = some ((), mk Ax (sB B g')) ∧ fwI n ra rb rd g' 8 := by
  intro r
  induction r with
  | zero =>
    intro k q g h1 h2 h3 hg
    obtain ⟨q, rfl⟩ : ∃ p, q = p + 1 := ⟨q - 1, by omega⟩
    obtain rfl : k = 8 := by omega
    refine ⟨g, ?_, hg⟩
    rw [f_m_measure_165]
    simp (disch := first | omega | (simp (disch := omega) only [uA_n]; done) | fail) only [iI_lit, iI_add, iI_sub, iI_mul, iI_neg, iI_lt, iI_le, iI_eq, zlt_t, zlt_f, zle_t, zle_f, zeq_t, zeq_f, nle_t, nle_f, iI_cl, rA, rS, rB, wA, wS, wB, mkp, mk2, uA_s, uA_n, ud_s, ud_n, bI_0, bI_1, nor_s, ↓reduceIte, or_false, false_or, or_true, true_or, or_self, not_true_eq_false, not_false_eq_true, and_true, true_and, and_false, false_and, bI_T, bI_F, Int.reduceToNat, Nat.reduceAdd, Nat.reduceMul, Int.reduceNeg, Option.bind_some, Int.toNat_natCast]
  | succ r ih =>
    intro k q g h1 h2 h3 hg
    obtain ⟨q, rfl⟩ : ∃ p, q = p + 1 := ⟨q - 1, by omega⟩
    have x := em_mea5 F Ax (B := B) hF (k := k) (by omega) hg.1 hg.2.1 (f_m_measure_165 F q) 8 0 F (by omega) (by omega) (by omega)
    have hst := hg.st hr (by omega)
    have hst2 : fwI n ra rb rd (gX (fwS g k) g 64) (k + 1) := by
      have e : ∀ a b : Nat, a < 8 → b < 8 → gX (fwS g k) g 64 (8 * a + b) = fwS g k (8 * a + b) := fun a b ha hb => if_pos (by omega)
      obtain ⟨s1, s2, s3, s4, s5⟩ := hst
      refine ⟨fun a ha => by rw [e a a ha ha]; exact s1 a ha, fun a b ha hb => by rw [e a b ha hb]; exact s2 a b ha hb, fun i hi => ?_, fun a b c ha hb hc => ?_, fun f hf a b ha hb => by rw [e a b ha hb]; exact s5 f hf a b ha hb⟩
      · obtain ⟨u1, u2⟩ := hr i hi
        rw [e _ _ u1 u2, e _ _ u2 u1]; exact s3 i hi
      · rw [e a b ha hb, e a c ha (by omega), e c b (by omega) hb]; exact s4 a b c ha hb hc
    obtain ⟨g', y1, y2⟩ := ih (k + 1) q _ (by omega) (by omega) (by omega) hst2
    refine ⟨g', ?_, y2⟩
    have e0 : gX (fwS g k) g (8 * 0) = g := by funext t; unfold gX; rw [if_neg (by omega)]
    rw [e0] at x
    rw [f_m_measure_165]
    simp (disch := first | omega | (simp (disch := omega) only [uA_n]; done) | fail) only [iI_lit, iI_add, iI_sub, iI_mul, iI_neg, iI_lt, iI_le, iI_eq, zlt_t, zlt_f, zle_t, zle_f, zeq_t, zeq_f, nle_t, nle_f, iI_cl, rA, rS, rB, wA, wS, wB, mkp, mk2, uA_s, uA_n, ud_s, ud_n, bI_0, bI_1, nor_s, ↓reduceIte, or_false, false_or, or_true, true_or, or_self, not_true_eq_false, not_false_eq_true, and_true, true_and, and_false, false_and, bI_T, bI_F, Int.reduceToNat, Nat.reduceAdd, Nat.reduceMul, Int.reduceNeg, Option.bind_some, Int.toNat_natCast]
    exact Eq.trans x y1
theorem em_measure (hF : 1000 ≤ F) {n : Nat} (hn : n ≤ 16) (h3 : B 400 3 = n) (hr : ∀ k, k < n → (0 ≤ B 401 k ∧ B 401 k < 8) ∧ (0 ≤ B 402 k ∧ B 402 k < 8) ∧ 1 ≤ B 403 k ∧ B 403 k ≤ 30) : ∃ g : Nat → Int, f_m_measure F (mk Ax B) = some ((), mk Ax (sB B g)) ∧ dOK n (B 401) (B 402) (B 403) g := by
  have e0 : sB B (gX iz (B 404) (8 * 0)) = B := by
    funext k
    by_cases hk : k = 404
    · subst hk; rw [sB_s]; funext t; unfold gX; rw [if_neg (by omega)]
    · rw [sB_n hk]
  have x := em_mea2 F Ax (B := B) (B 404) 8 0 F rfl (by omega) (by omega) (by omega)
  rw [e0] at x
  have ez : ∀ a b : Nat, a < 8 → b < 8 → gX iz (B 404) 64 (8 * a + b) = if a = b then 0 else 999999 := fun a b ha hb => by
    unfold gX iz
    rw [if_pos (by omega), show (8 * a + b) / 8 = a by omega, show (8 * a + b) % 8 = b by omega]
  have d0 : fwD 0 (B 401) (B 402) (B 403) (gX iz (B 404) 64) := by
    refine ⟨fun a ha => by rw [ez a a ha ha, if_pos rfl], fun a b ha hb => ?_, fun i hi => absurd hi (by omega), fun f f1 f2 _ a b ha hb => ?_⟩
    · rw [ez a b ha hb, ez b a hb ha]
      by_cases h : a = b
      · rw [if_pos h, if_pos h.symm]; omega
      · rw [if_neg h, if_neg (fun z => h z.symm)]; omega
    · rw [ez a b ha hb]
      by_cases h : a = b
      · subst h; rw [if_pos rfl, f1 a ha]; exact Int.le_refl _
      · rw [if_neg h]; exact (f2 a b ha hb).2
  obtain ⟨g1, y1, y2⟩ := em_mea3 F Ax (B := B) hn h3 hr n 0 F _ (by omega) (by omega) (by omega) d0
  obtain ⟨g2, z1, z2⟩ := em_mea6 F Ax (B := B) hF (fun i hi => by have := hr i hi; omega) 8 0 F g1 (by omega) (by omega) (by omega) y2.i
  exact ⟨g2, (x.trans y1).trans z1, z2.ok⟩
end MROA
