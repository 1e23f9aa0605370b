/-! A PAPER MORE -/
def xAdd (A : hI) (p : Nat) (k d h s u : Int) : hI := uA (uA (uA (uA (uA (uA (uA (uA (uA (uA (uA (uA (uA (uA (uA (uA A 32 p k) 33 p s) 34 p d) 35 p h) 36 p u) 37 p 0) 39 p (if k = 1 then 2 else 0)) 38 (6 * p) d) 38 (6 * p + 1) h) 40 p 0) 41 p (-1)) 42 p (-1)) 43 p 0) 44 p (-1)) 31 14 (A 31 14 + 1)) 31 15 (max (A 31 15) ((p : Int) + 1))
def mZ (B : hI) (p t : Nat) : hI := fun c => if 450 ≤ c ∧ c < 450 + t then ud (B c) p 0 else B c
def mAd0 (B : hI) (p : Nat) (k d h s u : Int) : hI := uA (uA (uA (uA (uA (uA (uA (uA (uA (mZ B p 20) 450 p 1) 451 p k) 452 p s) 453 p d) 454 p h) 455 p u) 465 p (-1)) 466 p (B 400 0)) 467 p (-1)
def mAdd (B : hI) (p : Nat) (k d h s u : Int) : hI := if k = 1 then uA (uA (uA (mAd0 B p k d h s u) 457 p 2) 458 p d) 459 p h else mAd0 B p k d h s u
theorem mZ_0 (B : hI) (p : Nat) : mZ B p 0 = B := by
  funext c; unfold mZ; rw [if_neg (by omega)]
theorem mZ_u (B : hI) (p t : Nat) : uA (mZ B p t) (450 + t) p 0 = mZ B p (t + 1) := by
  funext c
  by_cases h : c = 450 + t
  · subst h; rw [uA_s]; unfold mZ; rw [if_neg (by omega), if_pos (by omega)]
  · rw [uA_n h]; unfold mZ
    by_cases h2 : 450 ≤ c ∧ c < 450 + t
    · rw [if_pos h2, if_pos (by omega)]
    · rw [if_neg h2, if_neg (by omega)]
theorem mZ_i {B : hI} {p c : Nat} (h : 450 ≤ c ∧ c < 470) : mZ B p 20 c = ud (B c) p 0 := if_pos (by omega)
theorem mZ_o {B : hI} {p c : Nat} (h : ¬ (450 ≤ c ∧ c < 470)) : mZ B p 20 c = B c := if_neg (by omega)
theorem xAdd_o (A : hI) (p : Nat) (k d h s u : Int) {c : Nat} (hc : ¬ (31 ≤ c ∧ c ≤ 44)) : xAdd A p k d h s u c = A c := by
  unfold xAdd
  simp (disch := omega) only [uA_n]
theorem xAdd_q (A : hI) (p : Nat) (k d h s u : Int) {c q : Nat} (hc : 32 ≤ c ∧ c ≤ 44) (hc2 : c ≠ 38) (hq : q ≠ p) : xAdd A p k d h s u c q = A c q := by
  unfold xAdd
  rcases (show c = 32 ∨ c = 33 ∨ c = 34 ∨ c = 35 ∨ c = 36 ∨ c = 37 ∨ c = 39 ∨ c = 40 ∨ c = 41 ∨ c = 42 ∨ c = 43 ∨ c = 44 by omega) with rfl | rfl | rfl | rfl | rfl | rfl | rfl | rfl | rfl | rfl | rfl | rfl <;> simp (disch := omega) only [uA_s, uA_n, ud_n]
theorem xAdd_p (A : hI) (p : Nat) (k d h s u : Int) : (xAdd A p k d h s u 32 p = k ∧ xAdd A p k d h s u 33 p = s ∧ xAdd A p k d h s u 34 p = d ∧ xAdd A p k d h s u 35 p = h ∧ xAdd A p k d h s u 36 p = u ∧ xAdd A p k d h s u 37 p = 0) ∧ (xAdd A p k d h s u 39 p = if k = 1 then 2 else 0) ∧ (xAdd A p k d h s u 40 p = 0 ∧ xAdd A p k d h s u 41 p = -1 ∧ xAdd A p k d h s u 42 p = -1 ∧ xAdd A p k d h s u 43 p = 0 ∧ xAdd A p k d h s u 44 p = -1) ∧ xAdd A p k d h s u 38 (6 * p) = d ∧ xAdd A p k d h s u 38 (6 * p + 1) = h ∧ xAdd A p k d h s u 31 14 = A 31 14 + 1 ∧ xAdd A p k d h s u 31 15 = max (A 31 15) ((p : Int) + 1) := by
  unfold xAdd
  simp (disch := omega) only [uA_s, uA_n, ud_n, ud_s, and_self]
theorem xAdd_38 (A : hI) (p : Nat) (k d h s u : Int) {j : Nat} (hj : j ≠ 6 * p) (hj2 : j ≠ 6 * p + 1) : xAdd A p k d h s u 38 j = A 38 j := by
  unfold xAdd
  simp (disch := omega) only [uA_s, uA_n, ud_n]
theorem mAd0_o (B : hI) (p : Nat) (k d h s u : Int) {c : Nat} (hc : ¬ (450 ≤ c ∧ c < 470)) : mAd0 B p k d h s u c = B c := by
  unfold mAd0
  simp (disch := omega) only [uA_n]
  exact mZ_o hc
theorem mAdd_o (B : hI) (p : Nat) (k d h s u : Int) {c : Nat} (hc : ¬ (450 ≤ c ∧ c < 470)) : mAdd B p k d h s u c = B c := by
  unfold mAdd
  split
  · simp (disch := omega) only [uA_n]; exact mAd0_o B p k d h s u hc
  · exact mAd0_o B p k d h s u hc
theorem mAd0_q (B : hI) (p : Nat) (k d h s u : Int) {c q : Nat} (hc : 450 ≤ c ∧ c < 470) (hq : q ≠ p) : mAd0 B p k d h s u c q = B c q := by
  unfold mAd0
  have z : ∀ X : hI, ∀ e v, uA X e p v c q = X c q := fun X e v => by
    by_cases h : c = e
    · subst h; rw [uA_s, ud_n hq]
    · rw [uA_n h]
  rw [z, z, z, z, z, z, z, z, z, mZ_i hc, ud_n hq]
theorem mAdd_q (B : hI) (p : Nat) (k d h s u : Int) {c q : Nat} (hc : 450 ≤ c ∧ c < 470) (hq : q ≠ p) : mAdd B p k d h s u c q = B c q := by
  unfold mAdd
  have z : ∀ X : hI, ∀ e v, uA X e p v c q = X c q := fun X e v => by
    by_cases h : c = e
    · subst h; rw [uA_s, ud_n hq]
    · rw [uA_n h]
  split
  · rw [z, z, z, mAd0_q B p k d h s u hc hq]
  · exact mAd0_q B p k d h s u hc hq
theorem mAd0_p (B : hI) (p : Nat) (k d h s u : Int) : (mAd0 B p k d h s u 450 p = 1 ∧ mAd0 B p k d h s u 451 p = k ∧ mAd0 B p k d h s u 452 p = s ∧ mAd0 B p k d h s u 453 p = d ∧ mAd0 B p k d h s u 454 p = h ∧ mAd0 B p k d h s u 455 p = u ∧ mAd0 B p k d h s u 456 p = 0) ∧ (mAd0 B p k d h s u 464 p = 0 ∧ mAd0 B p k d h s u 465 p = -1 ∧ mAd0 B p k d h s u 466 p = B 400 0 ∧ mAd0 B p k d h s u 467 p = -1 ∧ mAd0 B p k d h s u 468 p = 0) ∧ mAd0 B p k d h s u 457 p = 0 := by
  unfold mAd0
  simp (disch := omega) only [uA_s, uA_n, ud_s, mZ_i, and_self]
theorem mAdd_p (B : hI) (p : Nat) (k d h s u : Int) : (mAdd B p k d h s u 450 p = 1 ∧ mAdd B p k d h s u 451 p = k ∧ mAdd B p k d h s u 452 p = s ∧ mAdd B p k d h s u 453 p = d ∧ mAdd B p k d h s u 454 p = h ∧ mAdd B p k d h s u 455 p = u ∧ mAdd B p k d h s u 456 p = 0) ∧ (mAdd B p k d h s u 464 p = 0 ∧ mAdd B p k d h s u 465 p = -1 ∧ mAdd B p k d h s u 466 p = B 400 0 ∧ mAdd B p k d h s u 467 p = -1 ∧ mAdd B p k d h s u 468 p = 0) ∧ (mAdd B p k d h s u 457 p = if k = 1 then 2 else 0) ∧ (k = 1 → mAdd B p k d h s u 458 p = d ∧ mAdd B p k d h s u 459 p = h) := by
  have e := mAd0_p B p k d h s u
  unfold mAdd
  by_cases hk : k = 1
  · rw [if_pos hk, if_pos hk]
    simp (disch := omega) only [uA_s, uA_n, ud_s]
    exact ⟨e.1, e.2.1, trivial, fun _ => ⟨trivial, trivial⟩⟩
  · rw [if_neg hk, if_neg hk]
    exact ⟨e.1, e.2.1, e.2.2, fun z => absurd z hk⟩
section ADDP
variable {K D : Int} {A0 B0 A B : hI} (F : Nat)
theorem ex_addPaper (R : RR K D A0 B0 A B) (hF : 1000 ≤ F) (Bx : hI) {p : Nat} (hp : p < 60) (hf : A 32 p = -1) (hq : ∀ q, q < p → A 32 q ≠ -1) (k d h s u : Int) (hk : 0 ≤ k ∧ k ≤ 3) : f_Papers_addPaper F (iI k) (iI d) (iI h) (iI s) (iI u) (mk A Bx) = some (iI p, mk (xAdd A p k d h s u) Bx) := by
  have P := R.gP
  have hpu := P.pe1
  have hpe := P.pe2
  unfold f_Papers_addPaper
  refine loopF (f := fun q (z : Int32 × mM) => f_Papers_addPaper_3 F q (iI k) (iI d) (iI h) (iI s) (iI u) z.1 z.2) (s := (0, mk A Bx)) (fun i z => z = (iI (i : Int), mk A Bx)) (fun t => t = some (iI p, mk (xAdd A p k d h s u) Bx)) p rfl ?_ (by omega)
  rintro q i z hi rfl
  show f_Papers_addPaper_3 F (q + 1) (iI k) (iI d) (iI h) (iI s) (iI u) (iI (i : Int)) (mk A Bx) = _ ∨ _
  rw [f_Papers_addPaper_3]
  simp only [f_Papers_addPaper_87, f_Papers_addPaper_128, f_Papers_addPaper_162]
  have kr := R.kr (p := i) (by omega)
  by_cases hip : i = p
  · subst hip
    have em : ∀ m : mM, f_Math_max F (iI (A 31 15)) (iI ((i : Int) + 1)) m = some (iI (max (A 31 15) ((i : Int) + 1)), m) := fun m => ex_max F _ _ m (by omega) (by omega) (by omega) (by omega)
    have c1 : ((i : Int) * 6).toNat = 6 * i := by omega
    have c2 : ((i : Int) * 6 + 1).toNat = 6 * i + 1 := by omega
    refine Or.inl ?_
    unfold xAdd
    by_cases h1 : k = 1
    · rw [if_pos h1]
      simp (disch := first | omega | (simp (disch := omega) only [uA_n]; done) | fail) only [iI_lit, iI_add, iI_sub, iI_mul, iI_neg, iI_lt, iI_le, iI_eq, zlt_t, zlt_f, zle_t, zle_f, zeq_t, zeq_f, nle_t, nle_f, iI_cl, rA, rS, rB, wA, wS, wB, mkp, mk2, uA_s, uA_n, ud_s, ud_n, bI_0, bI_1, nor_s, ↓reduceIte, or_false, false_or, or_true, true_or, or_self, not_true_eq_false, not_false_eq_true, and_true, true_and, and_false, false_and, bI_T, bI_F, Int.reduceToNat, Nat.reduceAdd, Nat.reduceMul, Int.reduceNeg, Option.bind_some, Int.toNat_natCast, hf, c1, c2, em]
    · rw [if_neg h1]
      simp (disch := first | omega | (simp (disch := omega) only [uA_n]; done) | fail) only [iI_lit, iI_add, iI_sub, iI_mul, iI_neg, iI_lt, iI_le, iI_eq, zlt_t, zlt_f, zle_t, zle_f, zeq_t, zeq_f, nle_t, nle_f, iI_cl, rA, rS, rB, wA, wS, wB, mkp, mk2, uA_s, uA_n, ud_s, ud_n, bI_0, bI_1, nor_s, ↓reduceIte, or_false, false_or, or_true, true_or, or_self, not_true_eq_false, not_false_eq_true, and_true, true_and, and_false, false_and, bI_T, bI_F, Int.reduceToNat, Nat.reduceAdd, Nat.reduceMul, Int.reduceNeg, Option.bind_some, Int.toNat_natCast, hf, c1, c2, em]
  · have h0 := hq i (by omega)
    refine Or.inr ⟨by omega, (iI ((i + 1 : Nat) : Int), mk A Bx), ?_, rfl⟩
    simp (disch := first | omega | (simp (disch := omega) only [uA_n]; done) | fail) only [iI_lit, iI_add, iI_sub, iI_mul, iI_neg, iI_lt, iI_le, iI_eq, zlt_t, zlt_f, zle_t, zle_f, zeq_t, zeq_f, nle_t, nle_f, iI_cl, rA, rS, rB, wA, wS, wB, mkp, mk2, uA_s, uA_n, ud_s, ud_n, bI_0, bI_1, nor_s, ↓reduceIte, or_false, false_or, or_true, true_or, or_self, not_true_eq_false, not_false_eq_true, and_true, true_and, and_false, false_and, bI_T, bI_F, Int.reduceToNat, Nat.reduceAdd, Nat.reduceMul, Int.reduceNeg, Option.bind_some, Int.toNat_natCast]
    rfl
theorem em_free1 (R : RR K D A0 B0 A B) (hF : 1000 ≤ F) (Ax : hI) {p : Nat} (hp : p < 60) (hf : A 32 p = -1) (hq : ∀ q, q < p → A 32 q ≠ -1) : f_m_free F (mk Ax B) = some (iI p, mk Ax B) := by
  unfold f_m_free
  refine loopF (f := fun q (z : Int32 × mM) => f_m_free_2 F q z.1 z.2) (s := (0, mk Ax B)) (fun i z => z = (iI (i : Int), mk Ax B)) (fun t => t = some (iI p, mk Ax B)) p rfl ?_ (by omega)
  rintro q i z hi rfl
  show f_m_free_2 F (q + 1) (iI (i : Int)) (mk Ax B) = _ ∨ _
  rw [f_m_free_2]
  simp only [f_m_free_24]
  have kr := R.kr (p := i) (by omega)
  by_cases hip : i = p
  · subst hip
    refine Or.inl ?_
    simp (disch := first | omega | (simp (disch := omega) only [uA_n]; done) | fail) only [iI_lit, iI_add, iI_sub, iI_mul, iI_neg, iI_lt, iI_le, iI_eq, zlt_t, zlt_f, zle_t, zle_f, zeq_t, zeq_f, nle_t, nle_f, iI_cl, rA, rS, rB, wA, wS, wB, mkp, mk2, uA_s, uA_n, ud_s, ud_n, bI_0, bI_1, nor_s, ↓reduceIte, or_false, false_or, or_true, true_or, or_self, not_true_eq_false, not_false_eq_true, and_true, true_and, and_false, false_and, bI_T, bI_F, Int.reduceToNat, Nat.reduceAdd, Nat.reduceMul, Int.reduceNeg, Option.bind_some, Int.toNat_natCast, em_paper]
  · have h0 := hq i (by omega)
    refine Or.inr ⟨by omega, (iI ((i + 1 : Nat) : Int), mk Ax B), ?_, rfl⟩
    simp (disch := first | omega | (simp (disch := omega) only [uA_n]; done) | fail) only [iI_lit, iI_add, iI_sub, iI_mul, iI_neg, iI_lt, iI_le, iI_eq, zlt_t, zlt_f, zle_t, zle_f, zeq_t, zeq_f, nle_t, nle_f, iI_cl, rA, rS, rB, wA, wS, wB, mkp, mk2, uA_s, uA_n, ud_s, ud_n, bI_0, bI_1, nor_s, ↓reduceIte, or_false, false_or, or_true, true_or, or_self, not_true_eq_false, not_false_eq_true, and_true, true_and, and_false, false_and, bI_T, bI_F, Int.reduceToNat, Nat.reduceAdd, Nat.reduceMul, Int.reduceNeg, Option.bind_some, Int.toNat_natCast, em_paper]
    rfl
theorem em_free0 (R : RR K D A0 B0 A B) (hF : 1000 ≤ F) (Ax : hI) (hq : ∀ q, q < 60 → A 32 q ≠ -1) : f_m_free F (mk Ax B) = some (iI 60, mk Ax B) := by
  unfold f_m_free
  refine loopF (f := fun q (z : Int32 × mM) => f_m_free_2 F q z.1 z.2) (s := (0, mk Ax B)) (fun i z => z = (iI (i : Int), mk Ax B)) (fun t => t = some (iI 60, mk Ax B)) 60 rfl ?_ (by omega)
  rintro q i z hi rfl
  show f_m_free_2 F (q + 1) (iI (i : Int)) (mk Ax B) = _ ∨ _
  rw [f_m_free_2]
  simp only [f_m_free_24]
  by_cases hip : i = 60
  · subst hip
    refine Or.inl ?_
    simp (disch := first | omega | (simp (disch := omega) only [uA_n]; done) | fail) only [iI_lit, iI_add, iI_sub, iI_mul, iI_neg, iI_lt, iI_le, iI_eq, zlt_t, zlt_f, zle_t, zle_f, zeq_t, zeq_f, nle_t, nle_f, iI_cl, rA, rS, rB, wA, wS, wB, mkp, mk2, uA_s, uA_n, ud_s, ud_n, bI_0, bI_1, nor_s, ↓reduceIte, or_false, false_or, or_true, true_or, or_self, not_true_eq_false, not_false_eq_true, and_true, true_and, and_false, false_and, bI_T, bI_F, Int.reduceToNat, Nat.reduceAdd, Nat.reduceMul, Int.reduceNeg, Option.bind_some, Int.toNat_natCast]
    rfl
  · have kr := R.kr (p := i) (by omega)
    have h0 := hq i (by omega)
    refine Or.inr ⟨by omega, (iI ((i + 1 : Nat) : Int), mk Ax B), ?_, rfl⟩
    simp (disch := first | omega | (simp (disch := omega) only [uA_n]; done) | fail) only [iI_lit, iI_add, iI_sub, iI_mul, iI_neg, iI_lt, iI_le, iI_eq, zlt_t, zlt_f, zle_t, zle_f, zeq_t, zeq_f, nle_t, nle_f, iI_cl, rA, rS, rB, wA, wS, wB, mkp, mk2, uA_s, uA_n, ud_s, ud_n, bI_0, bI_1, nor_s, ↓reduceIte, or_false, false_or, or_true, true_or, or_self, not_true_eq_false, not_false_eq_true, and_true, true_and, and_false, false_and, bI_T, bI_F, Int.reduceToNat, Nat.reduceAdd, Nat.reduceMul, Int.reduceNeg, Option.bind_some, Int.toNat_natCast, em_paper]
    rfl
theorem em_makes (R : RR K D A0 B0 A B) (hF : 1000 ≤ F) (Ax : hI) {p : Nat} (hp : p < 60) (hf : A 32 p = -1) (hq : ∀ q, q < p → A 32 q ≠ -1) (k d h s u : Int) (hk : 0 ≤ k ∧ k ≤ 3) : f_m_makes F (iI k) (iI s) (iI d) (iI h) (iI u) (mk Ax B) = some (iI p, mk Ax (mAdd B p k d h s u)) := by
  unfold f_m_makes
  refine obd (v := (iI p, mk Ax B)) (em_free1 F R hF Ax hp hf hq) ?_
  show f_m_makes_20 F F (iI k) (iI s) (iI d) (iI h) (iI u) (iI p) (6200 + 20 * iI p) 0 (mk Ax B) = _
  rw [show (6200 : Int32) + 20 * iI p = iI (6200 + 20 * (p : Int)) by rw [show (20 : Int32) = iI 20 from rfl, iI_mul, show (6200 : Int32) = iI 6200 from rfl, iI_add]]
  refine loopF (f := fun q (z : Int32 × mM) => f_m_makes_20 F q (iI k) (iI s) (iI d) (iI h) (iI u) (iI p) (iI (6200 + 20 * (p : Int))) z.1 z.2) (s := (0, mk Ax B)) (fun i z => z = (iI (i : Int), mk Ax (mZ B p i))) (fun t => t = some (iI p, mk Ax (mAdd B p k d h s u))) 20 (by rw [mZ_0]; rfl) ?_ (by omega)
  rintro q i z hi rfl
  show f_m_makes_20 F (q + 1) (iI k) (iI s) (iI d) (iI h) (iI u) (iI p) (iI (6200 + 20 * (p : Int))) (iI (i : Int)) (mk Ax (mZ B p i)) = _ ∨ _
  rw [f_m_makes_20]
  by_cases hi2 : i = 20
  · subst hi2
    refine Or.inl ?_
    simp only [f_m_makes_84, f_m_makes_133, f_m_makes_185]
    have e4 : mZ B p 20 400 = B 400 := mZ_o (by omega)
    have a1 : (6200 : Int) + 20 * p + 0 = 6200 + 20 * p := by omega
    unfold mAdd mAd0
    by_cases h1 : k = 1
    · rw [if_pos h1]
      simp (disch := first | omega | (simp (disch := omega) only [uA_n]; done) | fail) only [iI_lit, iI_add, iI_sub, iI_mul, iI_neg, iI_lt, iI_le, iI_eq, zlt_t, zlt_f, zle_t, zle_f, zeq_t, zeq_f, nle_t, nle_f, iI_cl, rA, rS, rB, wA, wS, wB, mkp, mk2, uA_s, uA_n, ud_s, ud_n, bI_0, bI_1, nor_s, ↓reduceIte, or_false, false_or, or_true, true_or, or_self, not_true_eq_false, not_false_eq_true, and_true, true_and, and_false, false_and, bI_T, bI_F, Int.reduceToNat, Nat.reduceAdd, Nat.reduceMul, Int.reduceNeg, Option.bind_some, Int.toNat_natCast, zP, zP0, zP8, dS, e4, a1]
    · rw [if_neg h1]
      simp (disch := first | omega | (simp (disch := omega) only [uA_n]; done) | fail) only [iI_lit, iI_add, iI_sub, iI_mul, iI_neg, iI_lt, iI_le, iI_eq, zlt_t, zlt_f, zle_t, zle_f, zeq_t, zeq_f, nle_t, nle_f, iI_cl, rA, rS, rB, wA, wS, wB, mkp, mk2, uA_s, uA_n, ud_s, ud_n, bI_0, bI_1, nor_s, ↓reduceIte, or_false, false_or, or_true, true_or, or_self, not_true_eq_false, not_false_eq_true, and_true, true_and, and_false, false_and, bI_T, bI_F, Int.reduceToNat, Nat.reduceAdd, Nat.reduceMul, Int.reduceNeg, Option.bind_some, Int.toNat_natCast, zP, zP0, zP8, dS, e4, a1]
  · refine Or.inr ⟨by omega, (iI ((i + 1 : Nat) : Int), mk Ax (mZ B p (i + 1))), ?_, rfl⟩
    have e9 : uA (mZ B p i) (450 + i) p 0 399 = mZ B p i 399 := uA_n (by omega)
    simp (disch := first | omega | (simp (disch := omega) only [uA_n]; done) | fail) only [iI_lit, iI_add, iI_sub, iI_mul, iI_neg, iI_lt, iI_le, iI_eq, zlt_t, zlt_f, zle_t, zle_f, zeq_t, zeq_f, nle_t, nle_f, iI_cl, rA, rS, rB, wA, wS, wB, mkp, mk2, uA_s, uA_n, ud_s, ud_n, bI_0, bI_1, nor_s, ↓reduceIte, or_false, false_or, or_true, true_or, or_self, not_true_eq_false, not_false_eq_true, and_true, true_and, and_false, false_and, bI_T, bI_F, Int.reduceToNat, Nat.reduceAdd, Nat.reduceMul, Int.reduceNeg, Option.bind_some, Int.toNat_natCast, zP, mk2 e9, mZ_u]
    rfl
theorem RR.addp (R : RR K D A0 B0 A B) {p : Nat} (hp : p < 60) (hf : A 32 p = -1) {k d h s u : Int} (hk : 0 ≤ k ∧ k ≤ 2) (hd : 1 ≤ d ∧ d < A 19 11) (hh : 1 ≤ h ∧ h < A 19 11) (hs : 1 ≤ s ∧ s ≤ 9999) (hu : k = 2 → u = -1 ∧ h ≠ d) (hu2 : k ≠ 2 → D ≤ u ∧ u ≤ A 16 9 + 60) (hup : k ≠ 1 → A 27 d.toNat = -1) : RR K D A0 (b9 B0 (mAdd B p k d h s u)) (xAdd A p k d h s u) (mAdd B p k d h s u) := by
  have hd1 := R.gD.dd1
  have hd2 := R.gD.dd2
  have hdD := R.gD.dD1
  obtain ⟨⟨x1, x2, x3, x4, x5, x6⟩, x7, ⟨x8, x9, x10, x11, x12⟩, x13, x14, x15, x16⟩ := xAdd_p A p k d h s u
  obtain ⟨⟨y1, y2, y3, y4, y5, y6, y7⟩, ⟨y8, y9, y10, y11, y12⟩, y13, y14⟩ := mAdd_p B p k d h s u
  have hmx := R.gP.pe2
  have hmn := R.gP.pe1
  have e469 : mAdd B p k d h s u 469 = uA B 469 p 0 469 := by
    rw [uA_s]
    unfold mAdd mAd0
    split <;> (simp (disch := omega) only [uA_n]; exact mZ_i (by omega))
  have eb : b9 B0 (mAdd B p k d h s u) = b9 B0 (uA B 469 p 0) := by
    funext c
    by_cases hc : c = 469
    · rw [hc, b9_s, b9_s, e469]
    · rw [b9_n hc, b9_n hc]
  rw [eb]
  refine (R.r9 p 0).pap (fun c hc => xAdd_o A p k d h s u (by omega)) (fun c hc => ?_) ?_
  · by_cases h9 : c = 469
    · rw [h9]; exact e469
    · rw [mAdd_o B p k d h s u (by omega), uA_n h9]
  have o27 := xAdd_o A p k d h s u (c := 27) (by omega)
  have o19 := xAdd_o A p k d h s u (c := 19) (by omega)
  have o16 := xAdd_o A p k d h s u (c := 16) (by omega)
  refine R.gP.loc hp (fun c c1 c2 c3 q hq => xAdd_q A p k d h s u ⟨c1, c2⟩ c3 hq) (fun q i hq hi => xAdd_38 A p k d h s u (by omega) (by omega)) (fun c c1 c2 q hq => mAdd_q B p k d h s u ⟨c1, by omega⟩ hq) (fun q _ => by rw [mAdd_o B p k d h s u (by omega)]) o27 (by rw [o19]) (by rw [o16]) ?_ (by omega) (by omega) ⟨fun z => by omega, Or.inr ⟨?_, ?_, ?_⟩⟩ ?_ ?_
  · rw [x15, x1, bI_t (show k ≠ -1 by omega), bI_f (fun z => z hf)]; omega
  · unfold PU
    rw [x1, x2, x3, x4, x5, x6, x7, x8, x9, x10, x11, x12, y1, y2, y3, y4, y5, y6, y7, y8, y9, y10, y11, y12, y13, o27, o19, o16]
    refine ⟨by omega, rfl, rfl, ⟨rfl, hs.1, by omega, fun _ => hs.2⟩, by omega, by omega, by omega, by omega, rfl, by omega, rfl, by omega, by omega, fun z => ⟨if_neg z, by omega, by omega⟩, fun _ z => hu2 z, fun _ z => hup z, fun z => ⟨(hu z).1, (hu z).2⟩, fun _ => hh.1, fun z => by omega⟩
  · intro z
    rw [x1] at z
    have y14 := y14 z
    rw [x7, if_pos z, x6, o19]
    refine ⟨by omega, fun i hi => ?_, fun z => by omega⟩
    rcases (show i = 0 ∨ i = 1 by omega) with rfl | rfl
    · show mAdd B p k d h s u 458 p = xAdd A p k d h s u 38 (6 * p) ∧ 1 ≤ xAdd A p k d h s u 38 (6 * p) ∧ xAdd A p k d h s u 38 (6 * p) < _
      rw [x13, y14.1]; exact ⟨rfl, hd.1, hd.2⟩
    · show mAdd B p k d h s u 459 p = xAdd A p k d h s u 38 (6 * p + 1) ∧ 1 ≤ xAdd A p k d h s u 38 (6 * p + 1) ∧ xAdd A p k d h s u 38 (6 * p + 1) < _
      rw [x14, y14.2]; exact ⟨rfl, hh.1, hh.2⟩
  · intro z
    rw [x1] at z
    omega
  · intro q hq hqp h3 h0 e
    have g := R.gP.ppg q hq h3 h0
    rw [e, Int.toNat_natCast, hf] at g
    omega
  · intro z
    rw [x1] at z
    omega
end ADDP
