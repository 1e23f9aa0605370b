/-! SEASONS -/
theorem fm_chk : ∀ k : Fin 103, (0 ≤ (iI ((k.val : Int) - 51) ^^^ (52 : Int32)) ↔ 0 ≤ (k.val : Int) - 51) ∧ iI ((k.val : Int) - 51) - iI ((k.val : Int) - 51) / 52 * 52 = iI ((k.val : Int) - 51) := by decide +kernel
theorem ex_floorMod (F : Nat) (x : Int) (m : mM) (h : -52 < x) (h2 : x < 52) : f_Math_floorMod F (iI x) 52 m = some (iI (if 0 ≤ x then x else x + 52), m) := by
  have c := fm_chk ⟨(x + 51).toNat, by omega⟩
  have e : (((x + 51).toNat : Nat) : Int) - 51 = x := by omega
  simp only [e] at c
  obtain ⟨c1, c2⟩ := c
  unfold f_Math_floorMod f_Math_floorMod_18
  rw [if_neg (by decide), c2]
  by_cases h0 : 0 ≤ x
  · rw [if_pos (c1.2 h0), if_pos h0]
  · rw [if_neg (fun z => h0 (c1.1 z)), if_neg h0, if_neg (by rw [show (0 : Int32) = iI 0 from rfl, iI_eq (by omega) (by omega) (by omega) (by omega)]; omega), show (52 : Int32) = iI 52 from rfl, iI_add]
def fil (A : hI) (w pl : Nat) : Nat → Nat → Int
  | 0, _ => if w = 0 then 100 else 5
  | f + 1, i => if A 53 (52 * w + (pl + 52 - i) % 52) = -1 then fil A w pl f (i + 1) else A 53 (52 * w + (pl + 52 - i) % 52)
def flv (A : hI) (w : Nat) (week : Int) : Int := fil A w (week % 52).toNat 52 0
section SEAS
variable {K D : Int} {A0 B0 A B : hI} (F : Nat)
theorem fil_rg (S : WS A B) {w : Nat} (hw : w < 2) (pl : Nat) : ∀ f i : Nat, 0 ≤ fil A w pl f i ∧ fil A w pl f i ≤ 200 ∧ (w = 1 → fil A w pl f i ≤ 20) := by
  intro f
  induction f with
  | zero => intro i; unfold fil; split <;> omega
  | succ f ih =>
    intro i
    unfold fil
    have r := S.sr (52 * w + (pl + 52 - i) % 52) (by omega)
    by_cases h : A 53 (52 * w + (pl + 52 - i) % 52) = -1
    · rw [if_pos h]; exact ih (i + 1)
    · rw [if_neg h]
      refine ⟨by omega, r.2.1, fun z => r.2.2 (by omega)⟩
theorem RR.flvr (R : RR K D A0 B0 A B) {w : Nat} (hw : w < 2) (week : Int) : 0 ≤ flv A w week ∧ flv A w week ≤ 200 ∧ (w = 1 → flv A w week ≤ 20) := fil_rg R.gS hw _ _ _
theorem flv_c {A A' : hI} (h : A' 53 = A 53) (w : Nat) (week : Int) : flv A' w week = flv A w week := by
  have key : ∀ f i, fil A' w (week % 52).toNat f i = fil A w (week % 52).toNat f i := by
    intro f
    induction f with
    | zero => intro i; rfl
    | succ f ih => intro i; unfold fil; rw [h, ih]
  exact key 52 0
theorem ex_filled (R : RR K D A0 B0 A B) (hF : 1000 ≤ F) (Bx : hI) {w : Nat} (hw : w < 2) {week : Int} (h0 : 0 ≤ week) (h1 : week < 2147483648) : f_Seasons_filled F (iI w) (iI week) (mk A Bx) = some (iI (flv A w week), mk A Bx) := by
  have S := R.gS
  obtain ⟨pl, hpl⟩ : ∃ pl : Nat, (pl : Int) = week % 52 := ⟨(week % 52).toNat, by omega⟩
  have key : ∀ (f i q : Nat), f + i = 52 → f < q → f_Seasons_filled_8 F q (iI w) (iI pl) (iI i) (mk A Bx) = some (iI (fil A w pl f i), mk A Bx) := by
    intro f
    induction f with
    | zero =>
      intro i q hi hq
      obtain ⟨q, rfl⟩ : ∃ s, q = s + 1 := ⟨q - 1, by omega⟩
      obtain rfl : i = 52 := by omega
      rw [f_Seasons_filled_8]
      simp only [f_Seasons_filled_61]
      unfold fil
      by_cases hz : w = 0
      · rw [if_pos hz]; simp (disch := first | omega | (simp (disch := omega) only [uA_n]; done) | fail) only [iI_lit, iI_add, iI_sub, iI_mul, iI_neg, iI_lt, iI_le, iI_eq, zlt_t, zlt_f, zle_t, zle_f, zeq_t, zeq_f, nle_t, nle_f, iI_cl, rA, rS, rB, wA, wS, wB, mkp, mk2, uA_s, uA_n, ud_s, ud_n, bI_0, bI_1, nor_s, ↓reduceIte, or_false, false_or, or_true, true_or, or_self, not_true_eq_false, not_false_eq_true, and_true, true_and, and_false, false_and, bI_T, bI_F, Int.reduceToNat, Nat.reduceAdd, Nat.reduceMul, Int.reduceNeg, Option.bind_some, Int.toNat_natCast]
      · rw [if_neg hz]; simp (disch := first | omega | (simp (disch := omega) only [uA_n]; done) | fail) only [iI_lit, iI_add, iI_sub, iI_mul, iI_neg, iI_lt, iI_le, iI_eq, zlt_t, zlt_f, zle_t, zle_f, zeq_t, zeq_f, nle_t, nle_f, iI_cl, rA, rS, rB, wA, wS, wB, mkp, mk2, uA_s, uA_n, ud_s, ud_n, bI_0, bI_1, nor_s, ↓reduceIte, or_false, false_or, or_true, true_or, or_self, not_true_eq_false, not_false_eq_true, and_true, true_and, and_false, false_and, bI_T, bI_F, Int.reduceToNat, Nat.reduceAdd, Nat.reduceMul, Int.reduceNeg, Option.bind_some, Int.toNat_natCast]
    | succ f ih =>
      intro i q hi hq
      obtain ⟨q, rfl⟩ : ∃ s, q = s + 1 := ⟨q - 1, by omega⟩
      have nx := ih (i + 1) q (by omega) (by omega)
      have fm := ex_floorMod F ((pl : Int) - i) (mk A Bx) (by omega) (by omega)
      have fe : (if 0 ≤ (pl : Int) - i then (pl : Int) - i else (pl : Int) - i + 52) = (((pl + 52 - i) % 52 : Nat) : Int) := by split <;> omega
      rw [fe] at fm
      have r := S.sr (52 * w + (pl + 52 - i) % 52) (by omega)
      have c1 : ((w : Int) * 52 + (((pl + 52 - i) % 52 : Nat) : Int)).toNat = 52 * w + (pl + 52 - i) % 52 := by omega
      have hm : (pl + 52 - i) % 52 < 52 := Nat.mod_lt _ (by omega)
      unfold fil
      generalize (pl + 52 - i) % 52 = j at *
      rw [f_Seasons_filled_8]
      have fm : f_Math_floorMod F (iI ((pl : Int) - i)) (iI 52) (mk A Bx) = some (iI (j : Int), mk A Bx) := fm
      by_cases h : A 53 (52 * w + j) = -1
      · rw [if_pos h]
        refine Eq.trans ?_ nx
        simp (disch := first | omega | (simp (disch := omega) only [uA_n]; done) | fail) only [iI_lit, iI_add, iI_sub, iI_mul, iI_neg, iI_lt, iI_le, iI_eq, zlt_t, zlt_f, zle_t, zle_f, zeq_t, zeq_f, nle_t, nle_f, iI_cl, rA, rS, rB, wA, wS, wB, mkp, mk2, uA_s, uA_n, ud_s, ud_n, bI_0, bI_1, nor_s, ↓reduceIte, or_false, false_or, or_true, true_or, or_self, not_true_eq_false, not_false_eq_true, and_true, true_and, and_false, false_and, bI_T, bI_F, Int.reduceToNat, Nat.reduceAdd, Nat.reduceMul, Int.reduceNeg, Option.bind_some, Int.toNat_natCast, fm, c1, h]
        rfl
      · rw [if_neg h]
        simp (disch := first | omega | (simp (disch := omega) only [uA_n]; done) | fail) only [iI_lit, iI_add, iI_sub, iI_mul, iI_neg, iI_lt, iI_le, iI_eq, zlt_t, zlt_f, zle_t, zle_f, zeq_t, zeq_f, nle_t, nle_f, iI_cl, rA, rS, rB, wA, wS, wB, mkp, mk2, uA_s, uA_n, ud_s, ud_n, bI_0, bI_1, nor_s, ↓reduceIte, or_false, false_or, or_true, true_or, or_self, not_true_eq_false, not_false_eq_true, and_true, true_and, and_false, false_and, bI_T, bI_F, Int.reduceToNat, Nat.reduceAdd, Nat.reduceMul, Int.reduceNeg, Option.bind_some, Int.toNat_natCast, fm, c1]
  have x := key 52 0 F rfl (by omega)
  have e : week - week / 52 * 52 = (pl : Int) := by omega
  unfold f_Seasons_filled flv
  rw [← hpl, Int.toNat_natCast]
  simp (disch := first | omega | (simp (disch := omega) only [uA_n]; done) | fail) only [iI_lit, iI_add, iI_sub, iI_mul, iI_neg, iI_lt, iI_le, iI_eq, zlt_t, zlt_f, zle_t, zle_f, zeq_t, zeq_f, nle_t, nle_f, iI_cl, rA, rS, rB, wA, wS, wB, mkp, mk2, uA_s, uA_n, ud_s, ud_n, bI_0, bI_1, nor_s, ↓reduceIte, or_false, false_or, or_true, true_or, or_self, not_true_eq_false, not_false_eq_true, and_true, true_and, and_false, false_and, bI_T, bI_F, Int.reduceToNat, Nat.reduceAdd, Nat.reduceMul, Int.reduceNeg, Option.bind_some, Int.toNat_natCast, iI_div, e]
  exact x
theorem em_weekOf (R : RR K D A0 B0 A B) (hF : 1000 ≤ F) (Ax : hI) {w : Nat} (hw : w < 2) {week : Int} (h0 : 0 ≤ week) (h1 : week < 2147483648) : f_m_weekOf F (iI w) (iI week) (mk Ax B) = some (iI (flv A w week), mk Ax B) := by
  have S := R.gS
  obtain ⟨pl, hpl⟩ : ∃ pl : Nat, (pl : Int) = week % 52 := ⟨(week % 52).toNat, by omega⟩
  have key : ∀ (f i q : Nat), f + i = 52 → f < q → f_m_weekOf_8 F q (iI w) (iI pl) (iI i) (mk Ax B) = some (iI (fil A w pl f i), mk Ax B) := by
    intro f
    induction f with
    | zero =>
      intro i q hi hq
      obtain ⟨q, rfl⟩ : ∃ s, q = s + 1 := ⟨q - 1, by omega⟩
      obtain rfl : i = 52 := by omega
      rw [f_m_weekOf_8]
      simp only [f_m_weekOf_66]
      unfold fil
      by_cases hz : w = 0
      · rw [if_pos hz]; simp (disch := first | omega | (simp (disch := omega) only [uA_n]; done) | fail) only [iI_lit, iI_add, iI_sub, iI_mul, iI_neg, iI_lt, iI_le, iI_eq, zlt_t, zlt_f, zle_t, zle_f, zeq_t, zeq_f, nle_t, nle_f, iI_cl, rA, rS, rB, wA, wS, wB, mkp, mk2, uA_s, uA_n, ud_s, ud_n, bI_0, bI_1, nor_s, ↓reduceIte, or_false, false_or, or_true, true_or, or_self, not_true_eq_false, not_false_eq_true, and_true, true_and, and_false, false_and, bI_T, bI_F, Int.reduceToNat, Nat.reduceAdd, Nat.reduceMul, Int.reduceNeg, Option.bind_some, Int.toNat_natCast]
      · rw [if_neg hz]; simp (disch := first | omega | (simp (disch := omega) only [uA_n]; done) | fail) only [iI_lit, iI_add, iI_sub, iI_mul, iI_neg, iI_lt, iI_le, iI_eq, zlt_t, zlt_f, zle_t, zle_f, zeq_t, zeq_f, nle_t, nle_f, iI_cl, rA, rS, rB, wA, wS, wB, mkp, mk2, uA_s, uA_n, ud_s, ud_n, bI_0, bI_1, nor_s, ↓reduceIte, or_false, false_or, or_true, true_or, or_self, not_true_eq_false, not_false_eq_true, and_true, true_and, and_false, false_and, bI_T, bI_F, Int.reduceToNat, Nat.reduceAdd, Nat.reduceMul, Int.reduceNeg, Option.bind_some, Int.toNat_natCast]
    | succ f ih =>
      intro i q hi hq
      obtain ⟨q, rfl⟩ : ∃ s, q = s + 1 := ⟨q - 1, by omega⟩
      have nx := ih (i + 1) q (by omega) (by omega)
      have r := S.sr (52 * w + (pl + 52 - i) % 52) (by omega)
      have se := S.se (52 * w + (pl + 52 - i) % 52) (by omega)
      have hm : (pl + 52 - i) % 52 < 52 := Nat.mod_lt _ (by omega)
      have c1 : (pl : Int) + 52 - i - ((pl : Int) + 52 - i) / 52 * 52 = (((pl + 52 - i) % 52 : Nat) : Int) := by omega
      unfold fil
      generalize (pl + 52 - i) % 52 = j at *
      rw [f_m_weekOf_8]
      have c2 : 52 * ((w : Int).toNat) + ((j : Int).toNat) = 52 * w + j := by omega
      by_cases h : A 53 (52 * w + j) = -1
      · rw [if_pos h]
        refine Eq.trans ?_ nx
        simp (disch := first | omega | (simp (disch := omega) only [uA_n]; done) | fail) only [iI_lit, iI_add, iI_sub, iI_mul, iI_neg, iI_lt, iI_le, iI_eq, zlt_t, zlt_f, zle_t, zle_f, zeq_t, zeq_f, nle_t, nle_f, iI_cl, rA, rS, rB, wA, wS, wB, mkp, mk2, uA_s, uA_n, ud_s, ud_n, bI_0, bI_1, nor_s, ↓reduceIte, or_false, false_or, or_true, true_or, or_self, not_true_eq_false, not_false_eq_true, and_true, true_and, and_false, false_and, bI_T, bI_F, Int.reduceToNat, Nat.reduceAdd, Nat.reduceMul, Int.reduceNeg, Option.bind_some, Int.toNat_natCast, iI_div, c1, zW, se, h]
        rfl
      · rw [if_neg h]
        simp (disch := first | omega | (simp (disch := omega) only [uA_n]; done) | fail) only [iI_lit, iI_add, iI_sub, iI_mul, iI_neg, iI_lt, iI_le, iI_eq, zlt_t, zlt_f, zle_t, zle_f, zeq_t, zeq_f, nle_t, nle_f, iI_cl, rA, rS, rB, wA, wS, wB, mkp, mk2, uA_s, uA_n, ud_s, ud_n, bI_0, bI_1, nor_s, ↓reduceIte, or_false, false_or, or_true, true_or, or_self, not_true_eq_false, not_false_eq_true, and_true, true_and, and_false, false_and, bI_T, bI_F, Int.reduceToNat, Nat.reduceAdd, Nat.reduceMul, Int.reduceNeg, Option.bind_some, Int.toNat_natCast, iI_div, c1, zW, se]
  have x := key 52 0 F rfl (by omega)
  have e : week - week / 52 * 52 = (pl : Int) := by omega
  unfold f_m_weekOf flv
  rw [← hpl, Int.toNat_natCast]
  simp (disch := first | omega | (simp (disch := omega) only [uA_n]; done) | fail) only [iI_lit, iI_add, iI_sub, iI_mul, iI_neg, iI_lt, iI_le, iI_eq, zlt_t, zlt_f, zle_t, zle_f, zeq_t, zeq_f, nle_t, nle_f, iI_cl, rA, rS, rB, wA, wS, wB, mkp, mk2, uA_s, uA_n, ud_s, ud_n, bI_0, bI_1, nor_s, ↓reduceIte, or_false, false_or, or_true, true_or, or_self, not_true_eq_false, not_false_eq_true, and_true, true_and, and_false, false_and, bI_T, bI_F, Int.reduceToNat, Nat.reduceAdd, Nat.reduceMul, Int.reduceNeg, Option.bind_some, Int.toNat_natCast, iI_div, e]
  exact x
end SEAS
