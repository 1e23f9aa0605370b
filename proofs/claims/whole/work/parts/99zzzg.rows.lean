/-! A PLAN'S ROWS -/
section ROWS
variable {K D : Int} {A B A' w S : hI} (F : Nat) {Ax B0 : hI} {Bs : mM → Prop} {v1 : Int32} {W : Nat} {Kb d0 r0 : Int} {i : Nat}
def BEST (W n : Nat) (A : hI) (M : mM) (b s f r : Int) : Prop := (n = 0 ∧ s = 2 ∧ b = 0 ∧ f = 0 ∧ r = 0) ∨ (n ≠ 0 ∧ (0 ≤ s ∧ s ≤ 1) ∧ (0 ≤ f ∧ f ≤ 15) ∧ (0 ≤ r ∧ r ≤ 25200) ∧ b = (s * 16 + f) * 100000 + r ∧ ∀ t, t < 4 * W → M.1 315 t = iI (A 117 t))
theorem px_take (hW : W ≤ 4) (A Bx : hI) (k65 : Int32 → Int32 → Int32 → Int32 → Int32 → Int32 → mM → Option (Int32 × mM)) (v3 v8 : Int32) (n : Nat) : f_x_plan_205 F k65 v1 (iI (W : Int)) v3 (iI (n : Int)) v8 (mk A Bx) = k65 v1 (iI (W : Int)) v3 v8 (iI (A 19 12)) (iI ((n + 1 : Nat) : Int)) (mk (rwA A 117 (fun j => if j < 4 * W then A 118 j else A 117 j)) Bx) := by
  have kW : (iI (W : Int) * 4).toNatClampNeg = 4 * W := by
    simp (disch := first | omega | (simp (disch := omega) only [uA_n]; done) | fail) only [iI_lit, iI_add, iI_sub, iI_mul, iI_neg, iI_lt, iI_le, iI_eq, zlt_t, zlt_f, zle_t, zle_f, zeq_t, zeq_f, nle_t, nle_f, iI_cl, rA, rS, rB, wA, wS, wB, mkp, mk2, uA_s, uA_n, ud_s, ud_n, bI_0, bI_1, nor_s, ↓reduceIte, or_false, false_or, or_true, true_or, or_self, not_true_eq_false, not_false_eq_true, and_true, true_and, and_false, false_and, bI_T, bI_F, Int.reduceToNat, Nat.reduceAdd, Nat.reduceMul, Int.reduceNeg, Option.bind_some, Int.toNat_natCast]
    omega
  have z0 : (0 : Int32).toNatClampNeg = 0 := rfl
  have n1 : iI (n : Int) + 1 = iI ((n + 1 : Nat) : Int) := by rw [← iI_s]; rfl
  unfold f_x_plan_205
  rw [z0, kW]
  refine (if_neg ?_).trans ?_
  · rintro (z | z | z | z | z)
    · exact absurd z (by decide)
    · exact absurd z (by decide)
    · have z : iI (W : Int) * iI 4 < iI 0 := z
      rw [iI_mul, iI_lt (by omega) (by omega) (by omega) (by omega)] at z
      omega
    · omega
    · omega
  · unfold f_x_plan_237
    rw [n1]
    have e : m_row (mk A Bx).1 117 (va_cpy ((mk A Bx).1 118) ((mk A Bx).1 117) 0 0 (4 * W)) = (mk (rwA A 117 (fun j => if j < 4 * W then A 118 j else A 117 j)) Bx).1 := by
      refine mrow (A := A) (B := Bx) (c := 117) (by omega) (fun j => ?_)
      unfold va_cpy
      by_cases c : j < 4 * W
      · rw [if_pos ⟨Nat.zero_le _, by omega⟩, if_pos c, Nat.sub_zero, Nat.zero_add, rA (by omega)]
      · rw [if_neg (fun z => c (by omega)), if_neg c, rA (by omega)]
    rw [e]
    rfl
theorem rows (hF : 10000 ≤ F) (hb5 : ∀ M g, Bs M → Bs (m315 M g)) {A10 : hI} (P0 : PLC F Ax B0 Bs v1 W Kb d0 r0 A10) {T : Nat} (hT : T = 4 ^ W) (hT2 : 4 ≤ T ∧ T ≤ 256) (Bx : hI) : ∀ (k n q q2 : Nat) (A A1 : hI) (M : mM) (b s f r : Int), k + n = T → k < q → k < q2 → (∀ c, c ≠ 117 → A1 c = A10 c) → GF A1 A → (n < T → RW0 F Ax B0 Bs v1 W Kb d0 r0 A1 n (fstN W n) A) → Bs M → BEST W n A M b s f r → ∃ (A' A1' : hI) (M' : mM) (f' : Int), f_x_plan_65 F q v1 (iI (W : Int)) (iI (T : Int)) (iI b) (iI f) (iI (n : Int)) (mk A Bx) = some (iI f', mk (bec (uA A' 0 10 (4 * W)) 104 0) Bx) ∧ f_m_plan_70 F q2 v1 (iI (W : Int)) (iI (T : Int)) (iI s) (iI f) (iI r) (iI (n : Int)) M = f_m_plan_352 F F (iI f') 0 (m_up (m_up M'.1 304 30 1) 304 29 (4 * iI (W : Int)), M'.2) ∧ (∀ c, c ≠ 117 → A1' c = A10 c) ∧ GF A1' A' ∧ Bs M' ∧ ∀ t, t < 4 * W → M'.1 315 t = iI (A' 117 t) := by
  have hW1 := P0.hW1
  have hW := P0.hW
  have hK := P0.hK
  intro k
  induction k with
  | zero =>
    intro n q q2 A A1 M b s f r e hq hq2 hA hg _ hM hB
    obtain ⟨q, rfl⟩ : ∃ k, q = k + 1 := ⟨q - 1, by omega⟩
    obtain ⟨q2, rfl⟩ : ∃ k, q2 = k + 1 := ⟨q2 - 1, by omega⟩
    obtain rfl : n = T := by omega
    rcases hB with ⟨z, _⟩ | ⟨-, -, -, -, -, ht⟩
    · omega
    refine ⟨A, A1, M, f, ?_, ?_, hA, hg, hM, ht⟩
    · rw [f_x_plan_65]
      refine (if_pos (by simp (disch := first | omega | (simp (disch := omega) only [uA_n]; done) | fail) only [iI_lit, iI_add, iI_sub, iI_mul, iI_neg, iI_lt, iI_le, iI_eq, zlt_t, zlt_f, zle_t, zle_f, zeq_t, zeq_f, nle_t, nle_f, iI_cl, rA, rS, rB, wA, wS, wB, mkp, mk2, uA_s, uA_n, ud_s, ud_n, bI_0, bI_1, nor_s, ↓reduceIte, or_false, false_or, or_true, true_or, or_self, not_true_eq_false, not_false_eq_true, and_true, true_and, and_false, false_and, bI_T, bI_F, Int.reduceToNat, Nat.reduceAdd, Nat.reduceMul, Int.reduceNeg, Option.bind_some, Int.toNat_natCast])).trans ?_
      refine (if_pos rfl).trans ?_
      refine obd (v := ((), mk (bec (uA A 0 10 (4 * W)) 104 0) Bx)) (Eq.trans ?_ (ex_bc_16_120 F (uA A 0 10 (4 * W)) Bx)) rfl
      have e4 : iI (W : Int) * 4 = iI (4 * W) := by simp (disch := first | omega | (simp (disch := omega) only [uA_n]; done) | fail) only [iI_lit, iI_add, iI_sub, iI_mul, iI_neg, iI_lt, iI_le, iI_eq, zlt_t, zlt_f, zle_t, zle_f, zeq_t, zeq_f, nle_t, nle_f, iI_cl, rA, rS, rB, wA, wS, wB, mkp, mk2, uA_s, uA_n, ud_s, ud_n, bI_0, bI_1, nor_s, ↓reduceIte, or_false, false_or, or_true, true_or, or_self, not_true_eq_false, not_false_eq_true, and_true, true_and, and_false, false_and, bI_T, bI_F, Int.reduceToNat, Nat.reduceAdd, Nat.reduceMul, Int.reduceNeg, Option.bind_some, Int.toNat_natCast]
      show f_World_become_16_120 F (m_up (mk A Bx).1 0 10 (iI (W : Int) * 4), (mk A Bx).2) = _
      rw [e4]
      simp (disch := first | omega | (simp (disch := omega) only [uA_n]; done) | fail) only [iI_lit, iI_add, iI_sub, iI_mul, iI_neg, iI_lt, iI_le, iI_eq, zlt_t, zlt_f, zle_t, zle_f, zeq_t, zeq_f, nle_t, nle_f, iI_cl, rA, rS, rB, wA, wS, wB, mkp, mk2, uA_s, uA_n, ud_s, ud_n, bI_0, bI_1, nor_s, ↓reduceIte, or_false, false_or, or_true, true_or, or_self, not_true_eq_false, not_false_eq_true, and_true, true_and, and_false, false_and, bI_T, bI_F, Int.reduceToNat, Nat.reduceAdd, Nat.reduceMul, Int.reduceNeg, Option.bind_some, Int.toNat_natCast]
    · rw [f_m_plan_70]
      exact if_pos (by simp (disch := first | omega | (simp (disch := omega) only [uA_n]; done) | fail) only [iI_lit, iI_add, iI_sub, iI_mul, iI_neg, iI_lt, iI_le, iI_eq, zlt_t, zlt_f, zle_t, zle_f, zeq_t, zeq_f, nle_t, nle_f, iI_cl, rA, rS, rB, wA, wS, wB, mkp, mk2, uA_s, uA_n, ud_s, ud_n, bI_0, bI_1, nor_s, ↓reduceIte, or_false, false_or, or_true, true_or, or_self, not_true_eq_false, not_false_eq_true, and_true, true_and, and_false, false_and, bI_T, bI_F, Int.reduceToNat, Nat.reduceAdd, Nat.reduceMul, Int.reduceNeg, Option.bind_some, Int.toNat_natCast])
  | succ k ih =>
    intro n q q2 A A1 M b s f r e hq hq2 hA hg hrow hM hB
    obtain ⟨q, rfl⟩ : ∃ k, q = k + 1 := ⟨q - 1, by omega⟩
    obtain ⟨q2, rfl⟩ : ∃ k, q2 = k + 1 := ⟨q2 - 1, by omega⟩
    have hn : n < T := by omega
    have P : PLC F Ax B0 Bs v1 W Kb d0 r0 A1 := ⟨P0.hb, P0.hF, P0.hG, P0.hW1, P0.hW, P0.hd, P0.hK, P0.hr, by rw [hA 120 (by omega)]; exact P0.hr0, P0.hB, P0.hE⟩
    have hf1 : fstN W n < W := by
      by_cases c : n = 0
      · unfold fstN; rw [if_pos c]; omega
      · exact fst_ok1 W (by omega) n (by omega) (by omega) c
    have X0 : ∀ z, f_x_plan_91 F (f_x_plan_65 F q) v1 (iI (W : Int)) (iI (T : Int)) (iI b) (iI f) (iI (n : Int)) (iI (fstN W n : Int)) (mk A Bx) = z → f_x_plan_65 F (q + 1) v1 (iI (W : Int)) (iI (T : Int)) (iI b) (iI f) (iI (n : Int)) (mk A Bx) = z := fun z h => by
      rw [f_x_plan_65]
      refine (if_neg (by simp (disch := first | omega | (simp (disch := omega) only [uA_n]; done) | fail) only [iI_lit, iI_add, iI_sub, iI_mul, iI_neg, iI_lt, iI_le, iI_eq, zlt_t, zlt_f, zle_t, zle_f, zeq_t, zeq_f, nle_t, nle_f, iI_cl, rA, rS, rB, wA, wS, wB, mkp, mk2, uA_s, uA_n, ud_s, ud_n, bI_0, bI_1, nor_s, ↓reduceIte, or_false, false_or, or_true, true_or, or_self, not_true_eq_false, not_false_eq_true, and_true, true_and, and_false, false_and, bI_T, bI_F, Int.reduceToNat, Nat.reduceAdd, Nat.reduceMul, Int.reduceNeg, Option.bind_some, Int.toNat_natCast])).trans ?_
      by_cases c : n = 0
      · subst c
        exact (if_pos rfl).trans h
      · refine (if_neg (by simp (disch := first | omega | (simp (disch := omega) only [uA_n]; done) | fail) only [iI_lit, iI_add, iI_sub, iI_mul, iI_neg, iI_lt, iI_le, iI_eq, zlt_t, zlt_f, zle_t, zle_f, zeq_t, zeq_f, nle_t, nle_f, iI_cl, rA, rS, rB, wA, wS, wB, mkp, mk2, uA_s, uA_n, ud_s, ud_n, bI_0, bI_1, nor_s, ↓reduceIte, or_false, false_or, or_true, true_or, or_self, not_true_eq_false, not_false_eq_true, and_true, true_and, and_false, false_and, bI_T, bI_F, Int.reduceToNat, Nat.reduceAdd, Nat.reduceMul, Int.reduceNeg, Option.bind_some, Int.toNat_natCast])).trans ?_
        refine obd (ex_ntz F (by omega) c (mk A Bx)) ?_
        show f_x_plan_91 F (f_x_plan_65 F q) v1 (iI (W : Int)) (iI (T : Int)) (iI b) (iI f) (iI (n : Int)) ((iI (W : Int) - 1) - iI (ntzN n : Int) / 2) (mk A Bx) = z
        rw [fst_ok2 W (by omega) n (by omega) (by omega) c]
        exact h
    obtain ⟨q', A2, x2, h2⟩ := px_row0 F P (n := n) (f := fstN W n) (by omega) hf1 (hrow hn) Bx (f_x_plan_65 F q) (iI (T : Int)) (iI b) (iI f)
    obtain ⟨q3, M2, y2, R2, t2, b2⟩ := pm_row F P (A := A2) (n := n) (by omega) h2.2.2.2.1 (f_m_plan_70 F q2) (iI (T : Int)) (iI s) (iI f) (iI r) W 0 F M (by omega) (by omega) hM (fun t ht => absurd ht (by omega))
    have hl := h2.1
    obtain ⟨hN2, hP2, h29, h12a, h12b⟩ := hl
    have hg2 := h2.2.2.2.2
    have rs : 0 ≤ s ∧ s ≤ 2 := by rcases hB with ⟨_, z, _⟩ | ⟨_, z, _⟩ <;> omega
    have rf0 : 0 ≤ f ∧ f ≤ 15 := by rcases hB with ⟨_, _, _, z, _⟩ | ⟨_, _, z, _⟩ <;> omega
    have rr : 0 ≤ r ∧ r ≤ 25200 := by rcases hB with ⟨_, _, _, _, z⟩ | ⟨_, _, _, z, _⟩ <;> omega
    obtain ⟨x, hx⟩ : ∃ x : Int, x = if A2 16 13 = -1 then 0 else 1 := ⟨_, rfl⟩
    have hx2 : 0 ≤ x ∧ x ≤ 1 := by rw [hx]; split <;> omega
    obtain ⟨fr, sr, M3, hM3, c15, c16, yT, yF⟩ := pm_fin F P hF (K := Kb + 9310000 * (W : Int)) (by omega) hP2 R2 (x := x) (rf := A2 16 12 - r0) (s := s) (f := f) (r := r) hx rfl (by omega) (by omega) rs rf0 rr (f_m_plan_70 F q2) (iI (T : Int)) (iI (n : Int)) q3
    have Y0 : ∀ z, f_m_plan_79 F (f_m_plan_70 F q2) (q3 + 1) v1 (iI (W : Int)) (iI (T : Int)) (iI s) (iI f) (iI r) (iI (n : Int)) (iI (W : Int)) M2 = z → f_m_plan_70 F (q2 + 1) v1 (iI (W : Int)) (iI (T : Int)) (iI s) (iI f) (iI r) (iI (n : Int)) M = z := fun z h => by
      rw [f_m_plan_70]
      refine (if_neg (by simp (disch := first | omega | (simp (disch := omega) only [uA_n]; done) | fail) only [iI_lit, iI_add, iI_sub, iI_mul, iI_neg, iI_lt, iI_le, iI_eq, zlt_t, zlt_f, zle_t, zle_f, zeq_t, zeq_f, nle_t, nle_f, iI_cl, rA, rS, rB, wA, wS, wB, mkp, mk2, uA_s, uA_n, ud_s, ud_n, bI_0, bI_1, nor_s, ↓reduceIte, or_false, false_or, or_true, true_or, or_self, not_true_eq_false, not_false_eq_true, and_true, true_and, and_false, false_and, bI_T, bI_F, Int.reduceToNat, Nat.reduceAdd, Nat.reduceMul, Int.reduceNeg, Option.bind_some, Int.toNat_natCast])).trans ?_
      exact y2.trans h
    have a120 : A2 120 12 = r0 := by
      rw [hg2.1 120 (by omega)]; exact P.hr0
    have xb := ex_bad F Bx a120 sr.1 sr.2
    have eb : bad A2 r0 = (x * 16 + A2 19 12) * 100000 + (A2 16 12 - r0) := by unfold bad; rw [hx]
    rw [eb] at xb
    obtain ⟨bd, hbd⟩ : ∃ z : Int, z = (x * 16 + A2 19 12) * 100000 + (A2 16 12 - r0) := ⟨_, rfl⟩
    rw [← hbd] at xb
    have X1 : ∀ z, (if iI (n : Int) = 0 then f_x_plan_205 F (f_x_plan_65 F q) v1 (iI (W : Int)) (iI (T : Int)) (iI (n : Int)) (iI bd) (mk A2 Bx) else (if iI b ≤ iI bd then f_x_plan_237 F (f_x_plan_65 F q) v1 (iI (W : Int)) (iI (T : Int)) (iI b) (iI f) (iI (n : Int)) (mk A2 Bx) else f_x_plan_205 F (f_x_plan_65 F q) v1 (iI (W : Int)) (iI (T : Int)) (iI (n : Int)) (iI bd) (mk A2 Bx))) = z → f_x_plan_65 F (q + 1) v1 (iI (W : Int)) (iI (T : Int)) (iI b) (iI f) (iI (n : Int)) (mk A Bx) = z := fun z h => X0 z (x2.trans (by
      rw [f_x_plan_97]
      refine (if_pos (by simp (disch := first | omega | (simp (disch := omega) only [uA_n]; done) | fail) only [iI_lit, iI_add, iI_sub, iI_mul, iI_neg, iI_lt, iI_le, iI_eq, zlt_t, zlt_f, zle_t, zle_f, zeq_t, zeq_f, nle_t, nle_f, iI_cl, rA, rS, rB, wA, wS, wB, mkp, mk2, uA_s, uA_n, ud_s, ud_n, bI_0, bI_1, nor_s, ↓reduceIte, or_false, false_or, or_true, true_or, or_self, not_true_eq_false, not_false_eq_true, and_true, true_and, and_false, false_and, bI_T, bI_F, Int.reduceToNat, Nat.reduceAdd, Nat.reduceMul, Int.reduceNeg, Option.bind_some, Int.toNat_natCast])).trans ?_
      exact obd xb h))
    have n1 : iI (n : Int) + 1 = iI ((n + 1 : Nat) : Int) := by rw [← iI_s]; rfl
    have nx : ∀ (A3 : hI), (∀ c, c ≠ 117 → A3 c = A2 c) → GF (rwA A1 117 (A3 117)) A3 ∧ (n + 1 < T → RW0 F Ax B0 Bs v1 W Kb d0 r0 (rwA A1 117 (A3 117)) (n + 1) (fstN W (n + 1)) A3) := fun A3 e3 => by
      refine ⟨hg2.row e3, fun h => ?_⟩
      have hf3 : fstN W (n + 1) < W := fst_ok1 W (by omega) (n + 1) (by omega) (by omega) (by omega)
      have hd : ∀ j, j < fstN W (n + 1) → dgt W (n + 1) j = dgt W n j := fun j hj => fst_ok3 (n := n + 1) (by omega) (by omega) (by omega) (by omega) hj
      exact (h2.next hf3 hd).row hK (by omega) e3
    by_cases hb : better x (A2 19 12) (A2 16 12 - r0) s f r
    · obtain ⟨g, y4, hg4⟩ := pm_cp F (v1 := v1) hW (f_m_plan_70 F q2) (iI (T : Int)) (iI x) (iI (A2 19 12)) (iI (A2 16 12 - r0)) (iI (n : Int)) (4 * W) 0 F M3 (by omega) (by omega)
      obtain ⟨g5, w5⟩ := nx (rwA A2 117 (fun j => if j < 4 * W then A2 118 j else A2 117 j)) (fun c hc => rwA_n hc)
      obtain ⟨A', A1', M', f', x6, y6, r6⟩ := ih (n + 1) q q2 (rwA A2 117 (fun j => if j < 4 * W then A2 118 j else A2 117 j)) _ (m315 M3 g) bd x (A2 19 12) (A2 16 12 - r0) (by omega) (by omega) (by omega) (fun c hc => by rw [rwA_n hc]; exact hA c hc) g5 w5 (hb5 _ _ hM3) (Or.inr ⟨by omega, hx2, fr, by omega, hbd, fun t ht => by
        show g t = _
        rw [hg4 t, if_pos ⟨Nat.zero_le _, ht⟩, c16, t2 t ht, rwA_s, if_pos ht]⟩)
      refine ⟨A', A1', M', f', X1 _ ?_, Y0 _ ((yT hb).trans (y4.trans ?_)), r6⟩
      · have tk := (px_take F (v1 := v1) hW A2 Bx (f_x_plan_65 F q) (iI (T : Int)) (iI bd) n).trans x6
        by_cases c : n = 0
        · exact (if_pos (by rw [c]; rfl)).trans tk
        · refine (if_neg (by simp (disch := first | omega | (simp (disch := omega) only [uA_n]; done) | fail) only [iI_lit, iI_add, iI_sub, iI_mul, iI_neg, iI_lt, iI_le, iI_eq, zlt_t, zlt_f, zle_t, zle_f, zeq_t, zeq_f, nle_t, nle_f, iI_cl, rA, rS, rB, wA, wS, wB, mkp, mk2, uA_s, uA_n, ud_s, ud_n, bI_0, bI_1, nor_s, ↓reduceIte, or_false, false_or, or_true, true_or, or_self, not_true_eq_false, not_false_eq_true, and_true, true_and, and_false, false_and, bI_T, bI_F, Int.reduceToNat, Nat.reduceAdd, Nat.reduceMul, Int.reduceNeg, Option.bind_some, Int.toNat_natCast])).trans ?_
          refine (if_neg ?_).trans tk
          rcases hB with ⟨z, _⟩ | ⟨_, z1, z2, z3, z4, _⟩
          · exact absurd z c
          · rw [iI_le (by omega) (by omega) (by omega) (by omega)]
            unfold better at hb
            omega
      · unfold f_m_plan_331
        rw [n1]
        exact y6
    · obtain ⟨g5, w5⟩ := nx A2 (fun _ _ => rfl)
      rcases hB with ⟨z1, z2, _⟩ | ⟨z0, z1, z2, z3, z4, z5⟩
      · exact absurd (show better x (A2 19 12) (A2 16 12 - r0) s f r from Or.inl (by omega)) hb
      obtain ⟨A', A1', M', f', x6, y6, r6⟩ := ih (n + 1) q q2 A2 _ M3 b s f r (by omega) (by omega) (by omega) (fun c hc => by rw [rwA_n hc]; exact hA c hc) g5 w5 hM3 (Or.inr ⟨by omega, z1, z2, z3, z4, fun t ht => by
        rw [c15, b2, z5 t ht, hg2.1 117 (by omega), hg.1 117 (by omega)]⟩)
      refine ⟨A', A1', M', f', X1 _ ?_, Y0 _ ((yF hb).trans ?_), r6⟩
      · refine (if_neg (by simp (disch := first | omega | (simp (disch := omega) only [uA_n]; done) | fail) only [iI_lit, iI_add, iI_sub, iI_mul, iI_neg, iI_lt, iI_le, iI_eq, zlt_t, zlt_f, zle_t, zle_f, zeq_t, zeq_f, nle_t, nle_f, iI_cl, rA, rS, rB, wA, wS, wB, mkp, mk2, uA_s, uA_n, ud_s, ud_n, bI_0, bI_1, nor_s, ↓reduceIte, or_false, false_or, or_true, true_or, or_self, not_true_eq_false, not_false_eq_true, and_true, true_and, and_false, false_and, bI_T, bI_F, Int.reduceToNat, Nat.reduceAdd, Nat.reduceMul, Int.reduceNeg, Option.bind_some, Int.toNat_natCast])).trans ?_
        refine (if_pos ?_).trans ?_
        · rw [iI_le (by omega) (by omega) (by omega) (by omega)]
          unfold better at hb
          omega
        · unfold f_x_plan_237
          rw [n1]
          exact x6
      · unfold f_m_plan_331
        rw [n1]
        exact y6
end ROWS
