/-! THE REFERENCE'S NEXT TOKEN, whole -/
section MTK2
variable {B B' : hI} {b : Nat → Int} {L : Nat} (F : Nat) (Ax : hI)
theorem em_blank (hL : L ≤ 120) (h1 : B 304 11 = L) (h2 : ∀ i, i < L → B 312 i = b i ∧ 0 ≤ b i ∧ b i ≤ 255) : ∀ (q p : Nat), L - p < q → p ≤ L → f_m_next_0 F q (mk Ax (uA B 304 15 p)) = f_m_next_0 F (q - (adv (fun i => decide (b i = 32)) (L - p) p - p)) (mk Ax (uA B 304 15 (adv (fun i => decide (b i = 32)) (L - p) p : Nat))) := by
  intro q
  induction q with
  | zero => intro p hq; omega
  | succ q ih =>
    intro p hq hp
    by_cases hpl : p = L
    · subst hpl
      rw [show p - p = 0 by omega]
      unfold adv
      rw [Nat.sub_self, Nat.sub_zero]
    · obtain ⟨b1, b2, b3⟩ := h2 p (by omega)
      by_cases h32 : b p = 32
      · have ha := adv_rg (fun i => decide (b i = 32)) (L - (p + 1)) (p + 1)
        rw [show L - p = (L - (p + 1)) + 1 by omega, adv_st (by simpa using h32)]
        have nx := ih (p + 1) (by omega) (by omega)
        rw [show q + 1 - (adv (fun i => decide (b i = 32)) (L - (p + 1)) (p + 1) - p) = q - (adv (fun i => decide (b i = 32)) (L - (p + 1)) (p + 1) - (p + 1)) by omega]
        refine Eq.trans ?_ nx
        have eb := em_byteAt (B := uA B 304 15 p) F Ax hL (by rw [uA_s, ud_n (by omega)]; exact h1) (fun i hi => by rw [uA_n (by omega)]; exact h2 i hi) p (by omega)
        rw [if_pos (by omega), h32] at eb
        rw [f_m_next_0]
        simp (disch := first | omega | (simp (disch := omega) only [uA_n]; done) | fail) only [iI_lit, iI_add, iI_sub, iI_mul, iI_neg, iI_lt, iI_le, iI_eq, zlt_t, zlt_f, zle_t, zle_f, zeq_t, zeq_f, nle_t, nle_f, iI_cl, rA, rS, rB, wA, wS, wB, mkp, mk2, uA_s, uA_n, ud_s, ud_n, bI_0, bI_1, nor_s, ↓reduceIte, or_false, false_or, or_true, true_or, or_self, not_true_eq_false, not_false_eq_true, and_true, true_and, and_false, false_and, bI_T, bI_F, Int.reduceToNat, Nat.reduceAdd, Nat.reduceMul, Int.reduceNeg, Option.bind_some, Int.toNat_natCast, eb, uA_uA]
        rfl
      · rw [adv_no (by simpa using h32), Nat.sub_self, Nat.sub_zero]
theorem em_nx (hF : 1000 ≤ F) (hL : L ≤ 120) (hb : ∀ i, i < L → 0 ≤ b i ∧ b i ≤ 255) {s : PS} {o : Int} (r1 : B 304 11 = L) (r2 : ∀ i, i < L → B 312 i = b i) (r3 : B 304 16 = o) (r6 : B 304 17 = 0) (e15 : B 304 15 = s.2.2.2.1) (k399 : -9223372036854775808 ≤ B 399 304 ∧ B 399 304 < 9223372036854775808) (hp : s.2.2.2.1 ≤ L) (hf : s.2.2.2.2.1 = -1) : ∃ B' : hI, f_m_next F (mk Ax B) = some ((), mk Ax B') ∧ tRel B' b L (pnx b L s) o ∧ frM B B' := by
  have h2 : ∀ i, i < L → B 312 i = b i ∧ 0 ≤ b i ∧ b i ≤ 255 := fun i hi => ⟨r2 i hi, hb i hi⟩
  have h15 : uA B 304 15 (s.2.2.2.1 : Int) = B := by
    funext q
    by_cases h : q = 304
    · subst h; rw [uA_s]; funext j; by_cases hj : j = 15
      · subst hj; rw [ud_s, e15]
      · rw [ud_n hj]
    · rw [uA_n h]
  have sk := em_blank (b := b) (B := B) F Ax hL r1 h2 F s.2.2.2.1 (by omega) hp
  rw [h15] at sk
  have hpr := adv_rg (fun i => decide (b i = 32)) (L - s.2.2.2.1) s.2.2.2.1
  have hpe := adv_end (fun i => decide (b i = 32)) (L - s.2.2.2.1) s.2.2.2.1
  unfold f_m_next
  rw [sk]
  unfold pnx tkn
  generalize adv (fun i => decide (b i = 32)) (L - s.2.2.2.1) s.2.2.2.1 = p at *
  obtain ⟨q, hq⟩ : ∃ q, F - (p - s.2.2.2.1) = q + 1 := ⟨F - (p - s.2.2.2.1) - 1, by omega⟩
  rw [hq]
  simp only
  -- what any end of a token leaves
  have mkr : ∀ (B1 : hI) (t v : Int) (e : Nat), (∀ k : Nat, k ≠ 304 → k ≠ 399 → B1 k = B k) → (∀ j : Nat, ¬ (j = 12 ∨ j = 13 ∨ j = 15) → B1 304 j = B 304 j) → B1 304 13 = p → tkB B1 (t, v, p, e, s.2.2.2.2.1, s.2.2.2.2.2) → tRel B1 b L (t, v, p, e, s.2.2.2.2.1, s.2.2.2.2.2) o ∧ frM B B1 := by
    intro B1 t v e k1 k2 k3 k4
    refine ⟨⟨by rw [k2 11 (by omega)]; exact r1, fun i hi => by rw [k1 312 (by omega) (by omega)]; exact r2 i hi, by rw [k2 16 (by omega)]; exact r3, fun _ => ⟨by rw [k2 17 (by omega)]; exact r6, k3, k4⟩, fun z => absurd hf z⟩, k1, fun j hj => k2 j (by omega)⟩
  have b15 : (uA B 304 15 (p : Int)) 304 15 = p := by rw [uA_s, ud_s]
  have b11 : (uA B 304 15 (p : Int)) 304 11 = L := by rw [uA_s, ud_n (by omega)]; exact r1
  have eb := em_byteAt (b := b) (B := uA B 304 15 p) F Ax hL b11 (fun i hi => by rw [uA_n (by omega)]; exact h2 i hi) p (by omega)
  have eb2 := em_byteAt (b := b) (B := uA (uA B 304 15 p) 304 13 p) F Ax hL (by rw [uA_s, ud_n (by omega)]; exact b11) (fun i hi => by rw [uA_n (by omega), uA_n (by omega)]; exact h2 i hi) p (by omega)
  rw [f_m_next_0]
  simp only [f_m_next_359, f_m_next_338]
  by_cases c1 : L ≤ p
  · rw [if_neg (by omega)] at eb eb2
    rw [if_pos c1]
    obtain rfl : p = L := by omega
    refine ⟨uA (uA (uA (uA (uA B 304 15 p) 304 13 p) 304 12 4) 304 12 0) 304 13 p, ?_, mkr _ 0 0 p (fun k hk hk2 => by rw [uA_n hk, uA_n hk, uA_n hk, uA_n hk, uA_n hk]) (fun j hj => by simp (disch := first | omega | (simp (disch := omega) only [uA_n]; done) | fail) only [iI_lit, iI_add, iI_sub, iI_mul, iI_neg, iI_lt, iI_le, iI_eq, zlt_t, zlt_f, zle_t, zle_f, zeq_t, zeq_f, nle_t, nle_f, iI_cl, rA, rS, rB, wA, wS, wB, mkp, mk2, uA_s, uA_n, ud_s, ud_n, bI_0, bI_1, nor_s, ↓reduceIte, or_false, false_or, or_true, true_or, or_self, not_true_eq_false, not_false_eq_true, and_true, true_and, and_false, false_and, bI_T, bI_F, Int.reduceToNat, Nat.reduceAdd, Nat.reduceMul, Int.reduceNeg, Option.bind_some, Int.toNat_natCast]) (by simp (disch := first | omega | (simp (disch := omega) only [uA_n]; done) | fail) only [iI_lit, iI_add, iI_sub, iI_mul, iI_neg, iI_lt, iI_le, iI_eq, zlt_t, zlt_f, zle_t, zle_f, zeq_t, zeq_f, nle_t, nle_f, iI_cl, rA, rS, rB, wA, wS, wB, mkp, mk2, uA_s, uA_n, ud_s, ud_n, bI_0, bI_1, nor_s, ↓reduceIte, or_false, false_or, or_true, true_or, or_self, not_true_eq_false, not_false_eq_true, and_true, true_and, and_false, false_and, bI_T, bI_F, Int.reduceToNat, Nat.reduceAdd, Nat.reduceMul, Int.reduceNeg, Option.bind_some, Int.toNat_natCast]) ?_⟩
    · simp (disch := first | omega | (simp (disch := omega) only [uA_n]; done) | fail) only [iI_lit, iI_add, iI_sub, iI_mul, iI_neg, iI_lt, iI_le, iI_eq, zlt_t, zlt_f, zle_t, zle_f, zeq_t, zeq_f, nle_t, nle_f, iI_cl, rA, rS, rB, wA, wS, wB, mkp, mk2, uA_s, uA_n, ud_s, ud_n, bI_0, bI_1, nor_s, ↓reduceIte, or_false, false_or, or_true, true_or, or_self, not_true_eq_false, not_false_eq_true, and_true, true_and, and_false, false_and, bI_T, bI_F, Int.reduceToNat, Nat.reduceAdd, Nat.reduceMul, Int.reduceNeg, Option.bind_some, Int.toNat_natCast, b15, b11, eb, eb2, r1]
    · refine ⟨fun _ => by simp (disch := first | omega | (simp (disch := omega) only [uA_n]; done) | fail) only [iI_lit, iI_add, iI_sub, iI_mul, iI_neg, iI_lt, iI_le, iI_eq, zlt_t, zlt_f, zle_t, zle_f, zeq_t, zeq_f, nle_t, nle_f, iI_cl, rA, rS, rB, wA, wS, wB, mkp, mk2, uA_s, uA_n, ud_s, ud_n, bI_0, bI_1, nor_s, ↓reduceIte, or_false, false_or, or_true, true_or, or_self, not_true_eq_false, not_false_eq_true, and_true, true_and, and_false, false_and, bI_T, bI_F, Int.reduceToNat, Nat.reduceAdd, Nat.reduceMul, Int.reduceNeg, Option.bind_some, Int.toNat_natCast], by simp (disch := first | omega | (simp (disch := omega) only [uA_n]; done) | fail) only [iI_lit, iI_add, iI_sub, iI_mul, iI_neg, iI_lt, iI_le, iI_eq, zlt_t, zlt_f, zle_t, zle_f, zeq_t, zeq_f, nle_t, nle_f, iI_cl, rA, rS, rB, wA, wS, wB, mkp, mk2, uA_s, uA_n, ud_s, ud_n, bI_0, bI_1, nor_s, ↓reduceIte, or_false, false_or, or_true, true_or, or_self, not_true_eq_false, not_false_eq_true, and_true, true_and, and_false, false_and, bI_T, bI_F, Int.reduceToNat, Nat.reduceAdd, Nat.reduceMul, Int.reduceNeg, Option.bind_some, Int.toNat_natCast], by rw [uA_n (by omega), uA_n (by omega), uA_n (by omega), uA_n (by omega), uA_n (by omega)]; exact k399, by simp (disch := first | omega | (simp (disch := omega) only [uA_n]; done) | fail) only [iI_lit, iI_add, iI_sub, iI_mul, iI_neg, iI_lt, iI_le, iI_eq, zlt_t, zlt_f, zle_t, zle_f, zeq_t, zeq_f, nle_t, nle_f, iI_cl, rA, rS, rB, wA, wS, wB, mkp, mk2, uA_s, uA_n, ud_s, ud_n, bI_0, bI_1, nor_s, ↓reduceIte, or_false, false_or, or_true, true_or, or_self, not_true_eq_false, not_false_eq_true, and_true, true_and, and_false, false_and, bI_T, bI_F, Int.reduceToNat, Nat.reduceAdd, Nat.reduceMul, Int.reduceNeg, Option.bind_some, Int.toNat_natCast], by simp (disch := first | omega | (simp (disch := omega) only [uA_n]; done) | fail) only [iI_lit, iI_add, iI_sub, iI_mul, iI_neg, iI_lt, iI_le, iI_eq, zlt_t, zlt_f, zle_t, zle_f, zeq_t, zeq_f, nle_t, nle_f, iI_cl, rA, rS, rB, wA, wS, wB, mkp, mk2, uA_s, uA_n, ud_s, ud_n, bI_0, bI_1, nor_s, ↓reduceIte, or_false, false_or, or_true, true_or, or_self, not_true_eq_false, not_false_eq_true, and_true, true_and, and_false, false_and, bI_T, bI_F, Int.reduceToNat, Nat.reduceAdd, Nat.reduceMul, Int.reduceNeg, Option.bind_some, Int.toNat_natCast], (fun z => by cases z), fun j h0 h1 => ⟨fun z => ?_, fun z => ?_⟩, fun c h0 h1 => ⟨fun z => ?_, fun z => ?_⟩, ⟨fun z => ?_, fun z => ?_⟩⟩
      · have := z.1; rw [uA_s, ud_n (by omega), uA_s, ud_s] at this; cases this
      · have : (-1 : Int) = j := z; omega
      · have := z.1; rw [uA_s, ud_n (by omega), uA_s, ud_s] at this; cases this
      · have : (0 : Int) = c := z; omega
      · rw [uA_s, ud_n (by omega), uA_s, ud_s] at z; cases z
      · rcases z with z | z
        · have : (0 : Int) ≤ -1 := z; omega
        · cases z.1
  · rw [if_pos (by omega)] at eb eb2
    rw [if_neg c1]
    obtain ⟨x1, x2, x3⟩ := h2 p (by omega)
    have hn32 : b p ≠ 32 := fun z => by have := hpe (by omega); simp [z] at this
    have e1 := fun m => em_in F (b p) 97 122 m (by omega) (by omega) (by omega) (by omega) (by omega) (by omega)
    have e2 := fun m => em_in F (b p) 48 57 m (by omega) (by omega) (by omega) (by omega) (by omega) (by omega)
    have pLi : pL (b p) = true ↔ 97 ≤ b p ∧ b p ≤ 122 := by unfold pL; simp only [Bool.and_eq_true, decide_eq_true_eq]
    have pDi : pD (b p) = true ↔ 48 ≤ b p ∧ b p ≤ 57 := by unfold pD; simp only [Bool.and_eq_true, decide_eq_true_eq]
    generalize hB1 : uA (uA (uA B 304 15 (p : Int)) 304 13 (p : Int)) 304 12 4 = B1
    have y304 : ∀ j : Nat, ¬ (j = 12 ∨ j = 13 ∨ j = 15) → B1 304 j = B 304 j := fun j hj => by rw [← hB1]; simp (disch := first | omega | (simp (disch := omega) only [uA_n]; done) | fail) only [iI_lit, iI_add, iI_sub, iI_mul, iI_neg, iI_lt, iI_le, iI_eq, zlt_t, zlt_f, zle_t, zle_f, zeq_t, zeq_f, nle_t, nle_f, iI_cl, rA, rS, rB, wA, wS, wB, mkp, mk2, uA_s, uA_n, ud_s, ud_n, bI_0, bI_1, nor_s, ↓reduceIte, or_false, false_or, or_true, true_or, or_self, not_true_eq_false, not_false_eq_true, and_true, true_and, and_false, false_and, bI_T, bI_F, Int.reduceToNat, Nat.reduceAdd, Nat.reduceMul, Int.reduceNeg, Option.bind_some, Int.toNat_natCast]
    have yo : ∀ k : Nat, k ≠ 304 → B1 k = B k := fun k hk => by rw [← hB1, uA_n hk, uA_n hk, uA_n hk]
    have y13 : B1 304 13 = p := by rw [← hB1]; simp (disch := first | omega | (simp (disch := omega) only [uA_n]; done) | fail) only [iI_lit, iI_add, iI_sub, iI_mul, iI_neg, iI_lt, iI_le, iI_eq, zlt_t, zlt_f, zle_t, zle_f, zeq_t, zeq_f, nle_t, nle_f, iI_cl, rA, rS, rB, wA, wS, wB, mkp, mk2, uA_s, uA_n, ud_s, ud_n, bI_0, bI_1, nor_s, ↓reduceIte, or_false, false_or, or_true, true_or, or_self, not_true_eq_false, not_false_eq_true, and_true, true_and, and_false, false_and, bI_T, bI_F, Int.reduceToNat, Nat.reduceAdd, Nat.reduceMul, Int.reduceNeg, Option.bind_some, Int.toNat_natCast]
    have y15 : B1 304 15 = p := by rw [← hB1]; simp (disch := first | omega | (simp (disch := omega) only [uA_n]; done) | fail) only [iI_lit, iI_add, iI_sub, iI_mul, iI_neg, iI_lt, iI_le, iI_eq, zlt_t, zlt_f, zle_t, zle_f, zeq_t, zeq_f, nle_t, nle_f, iI_cl, rA, rS, rB, wA, wS, wB, mkp, mk2, uA_s, uA_n, ud_s, ud_n, bI_0, bI_1, nor_s, ↓reduceIte, or_false, false_or, or_true, true_or, or_self, not_true_eq_false, not_false_eq_true, and_true, true_and, and_false, false_and, bI_T, bI_F, Int.reduceToNat, Nat.reduceAdd, Nat.reduceMul, Int.reduceNeg, Option.bind_some, Int.toNat_natCast]
    by_cases c2 : pL (b p) = true
    · rw [if_pos c2]
      have c2' := pLi.mp c2
      have hq2 := adv_rg (fun i => pL (b i)) (L - p) p
      have hq3 := adv_1 (P := fun i => pL (b i)) (n := L - p) c2 (by omega)
      have hq4 := adv_in (fun i => pL (b i)) (L - p) p
      have lt : ∀ i, p ≤ i → i < adv (fun i => pL (b i)) (L - p) p → 97 ≤ b i ∧ b i ≤ 122 := fun i z1 z2 => by
        have := hq4 i z1 z2
        unfold pL at this
        simp only [Bool.and_eq_true, decide_eq_true_eq] at this
        exact this
      have ml := em_letters (b := b) (B := uA B1 304 12 1) F Ax hL (by rw [uA_s, ud_n (by omega), y304 11 (by omega)]; exact r1) (fun i hi => by rw [uA_n (by omega), yo 312 (by omega)]; exact h2 i hi) p (by omega) lt F 0 (by omega) (by omega)
      generalize adv (fun i => pL (b i)) (L - p) p = e at *
      have ho := hsh_ok (b := b) (p := p) (q := e) (by omega) lt
      have w := pWd_rg b p e
      have l0 : uA (uA (uA B1 304 12 1) 304 15 ((p + 0 : Nat) : Int)) 399 304 (hsh b p 0) = uA (uA B1 304 12 1) 399 304 0 := by
        have : uA (uA B1 304 12 1) 304 15 ((p + 0 : Nat) : Int) = uA B1 304 12 1 := by
          funext k
          by_cases hk : k = 304
          · subst hk; rw [uA_s]; funext j; by_cases hj : j = 15
            · subst hj; rw [ud_s, uA_s, ud_n (by omega), y15]; rfl
            · rw [ud_n hj]
          · rw [uA_n hk]
        rw [this]; rfl
      rw [l0, show ((0 : Nat) : Int) = 0 from rfl] at ml
      have h399 : uA B1 304 12 1 399 = uA (uA B 304 15 (p : Int)) 304 13 (p : Int) 399 := by rw [uA_n (by omega), yo 399 (by omega), uA_n (by omega), uA_n (by omega)]
      have res : f_m_next_0 F (q + 1) (mk Ax (uA B 304 15 (p : Int))) = some ((), mk Ax (uA (uA (uA B1 304 12 1) 304 15 (e : Int)) 399 304 (hsh b p (e - p)))) := by
        rw [f_m_next_0]
        simp only [f_m_next_359, f_m_next_338]
        rw [bI_t c2'] at e1
        simp (disch := first | omega | (simp (disch := omega) only [uA_n]; done) | fail) only [iI_lit, iI_add, iI_sub, iI_mul, iI_neg, iI_lt, iI_le, iI_eq, zlt_t, zlt_f, zle_t, zle_f, zeq_t, zeq_f, nle_t, nle_f, iI_cl, rA, rS, rB, wA, wS, wB, mkp, mk2, uA_s, uA_n, ud_s, ud_n, bI_0, bI_1, nor_s, ↓reduceIte, or_false, false_or, or_true, true_or, or_self, not_true_eq_false, not_false_eq_true, and_true, true_and, and_false, false_and, bI_T, bI_F, Int.reduceToNat, Nat.reduceAdd, Nat.reduceMul, Int.reduceNeg, Option.bind_some, Int.toNat_natCast, b15, eb, eb2, hB1, e1, lI_lit, wL h399, ml]
      rw [f_m_next_0] at res
      simp only [f_m_next_359, f_m_next_338] at res
      refine ⟨_, res, ?_⟩
      generalize hH : uA (uA (uA B1 304 12 1) 304 15 (e : Int)) 399 304 (hsh b p (e - p)) = H
      have z304 : ∀ j : Nat, ¬ (j = 12 ∨ j = 13 ∨ j = 15) → H 304 j = B 304 j := fun j hj => by rw [← hH]; simp (disch := first | omega | (simp (disch := omega) only [uA_n]; done) | fail) only [iI_lit, iI_add, iI_sub, iI_mul, iI_neg, iI_lt, iI_le, iI_eq, zlt_t, zlt_f, zle_t, zle_f, zeq_t, zeq_f, nle_t, nle_f, iI_cl, rA, rS, rB, wA, wS, wB, mkp, mk2, uA_s, uA_n, ud_s, ud_n, bI_0, bI_1, nor_s, ↓reduceIte, or_false, false_or, or_true, true_or, or_self, not_true_eq_false, not_false_eq_true, and_true, true_and, and_false, false_and, bI_T, bI_F, Int.reduceToNat, Nat.reduceAdd, Nat.reduceMul, Int.reduceNeg, Option.bind_some, Int.toNat_natCast]; exact y304 j hj
      have zo : ∀ k : Nat, k ≠ 304 → k ≠ 399 → H k = B k := fun k hk hk2 => by rw [← hH, uA_n hk2, uA_n hk, uA_n hk]; exact yo k hk
      have z12 : H 304 12 = 1 := by rw [← hH]; simp (disch := first | omega | (simp (disch := omega) only [uA_n]; done) | fail) only [iI_lit, iI_add, iI_sub, iI_mul, iI_neg, iI_lt, iI_le, iI_eq, zlt_t, zlt_f, zle_t, zle_f, zeq_t, zeq_f, nle_t, nle_f, iI_cl, rA, rS, rB, wA, wS, wB, mkp, mk2, uA_s, uA_n, ud_s, ud_n, bI_0, bI_1, nor_s, ↓reduceIte, or_false, false_or, or_true, true_or, or_self, not_true_eq_false, not_false_eq_true, and_true, true_and, and_false, false_and, bI_T, bI_F, Int.reduceToNat, Nat.reduceAdd, Nat.reduceMul, Int.reduceNeg, Option.bind_some, Int.toNat_natCast]
      have z13 : H 304 13 = p := by rw [← hH]; simp (disch := first | omega | (simp (disch := omega) only [uA_n]; done) | fail) only [iI_lit, iI_add, iI_sub, iI_mul, iI_neg, iI_lt, iI_le, iI_eq, zlt_t, zlt_f, zle_t, zle_f, zeq_t, zeq_f, nle_t, nle_f, iI_cl, rA, rS, rB, wA, wS, wB, mkp, mk2, uA_s, uA_n, ud_s, ud_n, bI_0, bI_1, nor_s, ↓reduceIte, or_false, false_or, or_true, true_or, or_self, not_true_eq_false, not_false_eq_true, and_true, true_and, and_false, false_and, bI_T, bI_F, Int.reduceToNat, Nat.reduceAdd, Nat.reduceMul, Int.reduceNeg, Option.bind_some, Int.toNat_natCast, y13]
      have z15 : H 304 15 = e := by rw [← hH]; simp (disch := first | omega | (simp (disch := omega) only [uA_n]; done) | fail) only [iI_lit, iI_add, iI_sub, iI_mul, iI_neg, iI_lt, iI_le, iI_eq, zlt_t, zlt_f, zle_t, zle_f, zeq_t, zeq_f, nle_t, nle_f, iI_cl, rA, rS, rB, wA, wS, wB, mkp, mk2, uA_s, uA_n, ud_s, ud_n, bI_0, bI_1, nor_s, ↓reduceIte, or_false, false_or, or_true, true_or, or_self, not_true_eq_false, not_false_eq_true, and_true, true_and, and_false, false_and, bI_T, bI_F, Int.reduceToNat, Nat.reduceAdd, Nat.reduceMul, Int.reduceNeg, Option.bind_some, Int.toNat_natCast]
      have z399 : H 399 304 = hsh b p (e - p) := by rw [← hH, uA_s, ud_s]
      have big : ∀ (t v : Int), (pWd b p e = -1 ∧ t = 1 ∨ pWd b p e ≠ -1 ∧ tkw t v = pWd b p e ∧ (t = 3 ∨ t = 4 ∨ (5 ≤ t ∧ t ≤ 8))) → tkB H (t, v, p, e, s.2.2.2.2.1, s.2.2.2.2.2) := by
        intro t v hc
        refine ⟨fun _ => z15, by rw [z12]; omega, by rw [z399]; omega, ?_, ?_, fun z => ?_, fun j h0 h1 => ?_, fun c h0 h1 => ?_, ?_⟩
        · rw [z12]; show t = 0 ↔ _; omega
        · rw [z12]; show t = 2 ↔ _; omega
        · have z : t = 2 := z; omega
        · rw [z12, z399]
          show (_ ∧ _) ↔ tkw t v = j
          rw [ho.1 j h0 h1]
          rcases hc with ⟨a1, a2⟩ | ⟨a1, a2, a3⟩
          · rw [a2]
            have : tkw 1 v = -1 := rfl
            rw [this]
            omega
          · rw [a2]; exact ⟨fun z => z.2, fun z => ⟨rfl, z⟩⟩
        · rw [z12]; show _ ↔ t = c; omega
        · rw [z12]
          refine ⟨fun _ => ?_, fun _ => rfl⟩
          rcases hc with ⟨a1, a2⟩ | ⟨a1, a2, a3⟩
          · exact Or.inr ⟨a2, rfl⟩
          · left; show 0 ≤ tkw t v; omega
      generalize pWd b p e = v at *
      by_cases d1 : v = -1
      · rw [if_pos d1]; exact mkr H 1 0 e zo (fun j hj => z304 j hj) z13 (big 1 0 (Or.inl ⟨d1, rfl⟩))
      · rw [if_neg d1]
        by_cases d2 : v < 7
        · rw [if_pos d2]; exact mkr H 3 v e zo (fun j hj => z304 j hj) z13 (big 3 v (Or.inr ⟨d1, rfl, Or.inl rfl⟩))
        · rw [if_neg d2]
          by_cases d3 : v < 17
          · rw [if_pos d3]; exact mkr H 4 (v - 7) e zo (fun j hj => z304 j hj) z13 (big 4 (v - 7) (Or.inr ⟨d1, by show v - 7 + 7 = v; omega, Or.inr (Or.inl rfl)⟩))
          · rw [if_neg d3]
            refine mkr H (5 + v - 17) 0 e zo (fun j hj => z304 j hj) z13 (big (5 + v - 17) 0 (Or.inr ⟨d1, ?_, Or.inr (Or.inr (by omega))⟩))
            unfold tkw
            rw [if_neg (by omega), if_neg (by omega), if_pos (by omega)]; omega
    · rw [if_neg c2]
      have c2' : ¬ (97 ≤ b p ∧ b p ≤ 122) := fun z => c2 (pLi.mpr z)
      rw [bI_f c2'] at e1
      by_cases c3 : pD (b p) = true
      · rw [if_pos c3]
        have c3' := pDi.mp c3
        have hq2 := adv_rg (fun i => pD (b i)) (L - p) p
        have hq3 := adv_1 (P := fun i => pD (b i)) (n := L - p) c3 (by omega)
        have hq4 := adv_in (fun i => pD (b i)) (L - p) p
        have lt : ∀ i, p ≤ i → i < adv (fun i => pD (b i)) (L - p) p → 48 ≤ b i ∧ b i ≤ 57 := fun i z1 z2 => by
          have := hq4 i z1 z2
          unfold pD at this
          simp only [Bool.and_eq_true, decide_eq_true_eq] at this
          exact this
        have ml := em_digits (b := b) (B := uA B1 304 12 2) F Ax hL (by rw [uA_s, ud_n (by omega), y304 11 (by omega)]; exact r1) (fun i hi => by rw [uA_n (by omega), yo 312 (by omega)]; exact h2 i hi) p (by omega) lt F 0 (by omega) (by omega)
        generalize adv (fun i => pD (b i)) (L - p) p = e at *
        have l0 : uA (uA (uA B1 304 12 2) 304 15 ((p + 0 : Nat) : Int)) 399 304 (nu5 b p 0) = uA (uA B1 304 12 2) 399 304 0 := by
          have : uA (uA B1 304 12 2) 304 15 ((p + 0 : Nat) : Int) = uA B1 304 12 2 := by
            funext k
            by_cases hk : k = 304
            · subst hk; rw [uA_s]; funext j; by_cases hj : j = 15
              · subst hj; rw [ud_s, uA_s, ud_n (by omega), y15]; rfl
              · rw [ud_n hj]
            · rw [uA_n hk]
          rw [this]; rfl
        rw [l0, show ((0 : Nat) : Int) = 0 from rfl] at ml
        have h399 : uA B1 304 12 2 399 = uA (uA B 304 15 (p : Int)) 304 13 (p : Int) 399 := by rw [uA_n (by omega), yo 399 (by omega), uA_n (by omega), uA_n (by omega)]
        have nr := nu5_rg b p (e - p) (fun i hi => lt (p + i) (by omega) (by omega))
        have hp10 : (10 : Int) ^ (min (e - p) 5) ≤ 100000 := by
          rcases (show min (e - p) 5 = 0 ∨ min (e - p) 5 = 1 ∨ min (e - p) 5 = 2 ∨ min (e - p) 5 = 3 ∨ min (e - p) 5 = 4 ∨ min (e - p) 5 = 5 by omega) with e | e | e | e | e | e <;> rw [e] <;> decide
        have res : f_m_next_0 F (q + 1) (mk Ax (uA B 304 15 (p : Int))) = some ((), mk Ax (uA (uA (uA (uA B1 304 12 2) 304 15 (e : Int)) 399 304 (nu5 b p (e - p))) 304 12 (if e - p ≤ 5 then 2 else 4))) := by
          rw [f_m_next_0]
          simp only [f_m_next_359, f_m_next_338]
          rw [bI_t c3'] at e2
          simp (disch := first | omega | (simp (disch := omega) only [uA_n]; done) | fail) only [iI_lit, iI_add, iI_sub, iI_mul, iI_neg, iI_lt, iI_le, iI_eq, zlt_t, zlt_f, zle_t, zle_f, zeq_t, zeq_f, nle_t, nle_f, iI_cl, rA, rS, rB, wA, wS, wB, mkp, mk2, uA_s, uA_n, ud_s, ud_n, bI_0, bI_1, nor_s, ↓reduceIte, or_false, false_or, or_true, true_or, or_self, not_true_eq_false, not_false_eq_true, and_true, true_and, and_false, false_and, bI_T, bI_F, Int.reduceToNat, Nat.reduceAdd, Nat.reduceMul, Int.reduceNeg, Option.bind_some, Int.toNat_natCast, b15, eb, eb2, hB1, e1, e2, lI_lit, wL h399, ml]
        rw [f_m_next_0] at res
        simp only [f_m_next_359, f_m_next_338] at res
        refine ⟨_, res, ?_⟩
        generalize hH : uA (uA (uA (uA B1 304 12 2) 304 15 (e : Int)) 399 304 (nu5 b p (e - p))) 304 12 (if e - p ≤ 5 then 2 else 4) = H
        have z304 : ∀ j : Nat, ¬ (j = 12 ∨ j = 13 ∨ j = 15) → H 304 j = B 304 j := fun j hj => by rw [← hH]; simp (disch := first | omega | (simp (disch := omega) only [uA_n]; done) | fail) only [iI_lit, iI_add, iI_sub, iI_mul, iI_neg, iI_lt, iI_le, iI_eq, zlt_t, zlt_f, zle_t, zle_f, zeq_t, zeq_f, nle_t, nle_f, iI_cl, rA, rS, rB, wA, wS, wB, mkp, mk2, uA_s, uA_n, ud_s, ud_n, bI_0, bI_1, nor_s, ↓reduceIte, or_false, false_or, or_true, true_or, or_self, not_true_eq_false, not_false_eq_true, and_true, true_and, and_false, false_and, bI_T, bI_F, Int.reduceToNat, Nat.reduceAdd, Nat.reduceMul, Int.reduceNeg, Option.bind_some, Int.toNat_natCast]; exact y304 j hj
        have zo : ∀ k : Nat, k ≠ 304 → k ≠ 399 → H k = B k := fun k hk hk2 => by rw [← hH, uA_n hk, uA_n hk2, uA_n hk, uA_n hk]; exact yo k hk
        have z12 : H 304 12 = if e - p ≤ 5 then 2 else 4 := by rw [← hH, uA_s, ud_s]
        have z13 : H 304 13 = p := by rw [← hH]; simp (disch := first | omega | (simp (disch := omega) only [uA_n]; done) | fail) only [iI_lit, iI_add, iI_sub, iI_mul, iI_neg, iI_lt, iI_le, iI_eq, zlt_t, zlt_f, zle_t, zle_f, zeq_t, zeq_f, nle_t, nle_f, iI_cl, rA, rS, rB, wA, wS, wB, mkp, mk2, uA_s, uA_n, ud_s, ud_n, bI_0, bI_1, nor_s, ↓reduceIte, or_false, false_or, or_true, true_or, or_self, not_true_eq_false, not_false_eq_true, and_true, true_and, and_false, false_and, bI_T, bI_F, Int.reduceToNat, Nat.reduceAdd, Nat.reduceMul, Int.reduceNeg, Option.bind_some, Int.toNat_natCast, y13]
        have z15 : H 304 15 = e := by rw [← hH]; simp (disch := first | omega | (simp (disch := omega) only [uA_n]; done) | fail) only [iI_lit, iI_add, iI_sub, iI_mul, iI_neg, iI_lt, iI_le, iI_eq, zlt_t, zlt_f, zle_t, zle_f, zeq_t, zeq_f, nle_t, nle_f, iI_cl, rA, rS, rB, wA, wS, wB, mkp, mk2, uA_s, uA_n, ud_s, ud_n, bI_0, bI_1, nor_s, ↓reduceIte, or_false, false_or, or_true, true_or, or_self, not_true_eq_false, not_false_eq_true, and_true, true_and, and_false, false_and, bI_T, bI_F, Int.reduceToNat, Nat.reduceAdd, Nat.reduceMul, Int.reduceNeg, Option.bind_some, Int.toNat_natCast]
        have z399 : H 399 304 = nu5 b p (e - p) := by rw [← hH, uA_n (by omega), uA_s, ud_s]
        by_cases d1 : e - p ≤ 5
        · rw [if_pos d1] at z12 ⊢
          have eq5 := nu5_ok b p (e - p) d1
          rw [show p + (e - p) = e by omega] at eq5
          refine mkr H 2 _ e zo (fun j hj => z304 j hj) z13 ⟨fun _ => z15, by rw [z12]; omega, by rw [z399]; omega, by rw [z12], by rw [z12], fun _ => by rw [z399, eq5], fun j h0 h1 => ⟨fun z => ?_, fun z => ?_⟩, fun c h0 h1 => ⟨fun z => ?_, fun z => ?_⟩, ⟨fun z => ?_, fun z => ?_⟩⟩
          · rw [z12] at z; cases z.1
          · have : (-1 : Int) = j := z; omega
          · rw [z12] at z; cases z.1
          · have : (2 : Int) = c := z; omega
          · rw [z12] at z; cases z
          · rcases z with z | z
            · have : (0 : Int) ≤ -1 := z; omega
            · cases z.1
        · rw [if_neg d1] at z12 ⊢
          refine mkr H 1 0 e zo (fun j hj => z304 j hj) z13 ⟨fun z => absurd rfl z, by rw [z12]; omega, by rw [z399]; omega, by rw [z12]; exact Iff.intro (fun z => by cases z) (fun z => by cases z), by rw [z12]; exact Iff.intro (fun z => by cases z) (fun z => by cases z), (fun z => by cases z), fun j h0 h1 => ⟨fun z => ?_, fun z => ?_⟩, fun c h0 h1 => ⟨fun z => ?_, fun z => ?_⟩, ⟨fun z => ?_, fun z => ?_⟩⟩
          · rw [z12] at z; cases z.1
          · have : (-1 : Int) = j := z; omega
          · rw [z12] at z; cases z.1
          · have : (1 : Int) = c := z; omega
          · rw [z12] at z; cases z
          · rcases z with z | z
            · have : (0 : Int) ≤ -1 := z; omega
            · exact z.2
      · rw [if_neg c3]
        have c3' : ¬ (48 ≤ b p ∧ b p ≤ 57) := fun z => c3 (pDi.mpr z)
        rw [bI_f c3'] at e2
        by_cases c4 : pSg (b p) = true
        · rw [if_pos c4]
          have c4' := (pSg_iff _).mp c4
          have h399 : uA (uA B1 304 12 3) 304 15 ((p : Int) + 1) 399 = uA (uA B 304 15 (p : Int)) 304 13 (p : Int) 399 := by rw [uA_n (by omega), uA_n (by omega), yo 399 (by omega), uA_n (by omega), uA_n (by omega)]
          generalize hH : uA (uA (uA B1 304 12 3) 304 15 ((p : Int) + 1)) 399 304 (b p) = H
          have z304 : ∀ j : Nat, ¬ (j = 12 ∨ j = 13 ∨ j = 15) → H 304 j = B 304 j := fun j hj => by rw [← hH]; simp (disch := first | omega | (simp (disch := omega) only [uA_n]; done) | fail) only [iI_lit, iI_add, iI_sub, iI_mul, iI_neg, iI_lt, iI_le, iI_eq, zlt_t, zlt_f, zle_t, zle_f, zeq_t, zeq_f, nle_t, nle_f, iI_cl, rA, rS, rB, wA, wS, wB, mkp, mk2, uA_s, uA_n, ud_s, ud_n, bI_0, bI_1, nor_s, ↓reduceIte, or_false, false_or, or_true, true_or, or_self, not_true_eq_false, not_false_eq_true, and_true, true_and, and_false, false_and, bI_T, bI_F, Int.reduceToNat, Nat.reduceAdd, Nat.reduceMul, Int.reduceNeg, Option.bind_some, Int.toNat_natCast]; exact y304 j hj
          have zo : ∀ k : Nat, k ≠ 304 → k ≠ 399 → H k = B k := fun k hk hk2 => by rw [← hH, uA_n hk2, uA_n hk, uA_n hk]; exact yo k hk
          have z12 : H 304 12 = 3 := by rw [← hH]; simp (disch := first | omega | (simp (disch := omega) only [uA_n]; done) | fail) only [iI_lit, iI_add, iI_sub, iI_mul, iI_neg, iI_lt, iI_le, iI_eq, zlt_t, zlt_f, zle_t, zle_f, zeq_t, zeq_f, nle_t, nle_f, iI_cl, rA, rS, rB, wA, wS, wB, mkp, mk2, uA_s, uA_n, ud_s, ud_n, bI_0, bI_1, nor_s, ↓reduceIte, or_false, false_or, or_true, true_or, or_self, not_true_eq_false, not_false_eq_true, and_true, true_and, and_false, false_and, bI_T, bI_F, Int.reduceToNat, Nat.reduceAdd, Nat.reduceMul, Int.reduceNeg, Option.bind_some, Int.toNat_natCast]
          have z13 : H 304 13 = p := by rw [← hH]; simp (disch := first | omega | (simp (disch := omega) only [uA_n]; done) | fail) only [iI_lit, iI_add, iI_sub, iI_mul, iI_neg, iI_lt, iI_le, iI_eq, zlt_t, zlt_f, zle_t, zle_f, zeq_t, zeq_f, nle_t, nle_f, iI_cl, rA, rS, rB, wA, wS, wB, mkp, mk2, uA_s, uA_n, ud_s, ud_n, bI_0, bI_1, nor_s, ↓reduceIte, or_false, false_or, or_true, true_or, or_self, not_true_eq_false, not_false_eq_true, and_true, true_and, and_false, false_and, bI_T, bI_F, Int.reduceToNat, Nat.reduceAdd, Nat.reduceMul, Int.reduceNeg, Option.bind_some, Int.toNat_natCast, y13]
          have z15 : H 304 15 = ((p + 1 : Nat) : Int) := by rw [← hH]; simp (disch := first | omega | (simp (disch := omega) only [uA_n]; done) | fail) only [iI_lit, iI_add, iI_sub, iI_mul, iI_neg, iI_lt, iI_le, iI_eq, zlt_t, zlt_f, zle_t, zle_f, zeq_t, zeq_f, nle_t, nle_f, iI_cl, rA, rS, rB, wA, wS, wB, mkp, mk2, uA_s, uA_n, ud_s, ud_n, bI_0, bI_1, nor_s, ↓reduceIte, or_false, false_or, or_true, true_or, or_self, not_true_eq_false, not_false_eq_true, and_true, true_and, and_false, false_and, bI_T, bI_F, Int.reduceToNat, Nat.reduceAdd, Nat.reduceMul, Int.reduceNeg, Option.bind_some, Int.toNat_natCast]
          have z399 : H 399 304 = b p := by rw [← hH, uA_s, ud_s]
          refine ⟨H, ?_, mkr H (b p) 0 (p + 1) zo (fun j hj => z304 j hj) z13 ⟨fun _ => z15, by rw [z12]; omega, by rw [z399]; omega, by rw [z12]; show b p = 0 ↔ _; omega, by rw [z12]; show b p = 2 ↔ _; omega, fun z => by have z : b p = 2 := z; omega, fun j h0 h1 => ⟨fun z => ?_, fun z => ?_⟩, fun c h0 h1 => ?_, ⟨fun z => ?_, fun z => ?_⟩⟩⟩
          · rcases c4' with z | z | z | z | z | z | z | z | z | z <;> rw [z] at eb eb2 e1 e2 hH x1 <;> (simp (disch := first | omega | (simp (disch := omega) only [uA_n]; done) | fail) only [iI_lit, iI_add, iI_sub, iI_mul, iI_neg, iI_lt, iI_le, iI_eq, zlt_t, zlt_f, zle_t, zle_f, zeq_t, zeq_f, nle_t, nle_f, iI_cl, rA, rS, rB, wA, wS, wB, mkp, mk2, uA_s, uA_n, ud_s, ud_n, bI_0, bI_1, nor_s, ↓reduceIte, or_false, false_or, or_true, true_or, or_self, not_true_eq_false, not_false_eq_true, and_true, true_and, and_false, false_and, bI_T, bI_F, Int.reduceToNat, Nat.reduceAdd, Nat.reduceMul, Int.reduceNeg, Option.bind_some, Int.toNat_natCast, b15, eb, eb2, hB1, y15, e1, e2, iI_long, wL h399, hH])
          · rw [z12] at z; cases z.1
          · have z : tkw (b p) 0 = j := z
            unfold tkw at z
            rw [if_neg (by omega), if_neg (by omega), if_neg (by omega)] at z; omega
          · rw [z12, z399]; show _ ↔ b p = c; exact ⟨fun z => z.2, fun z => ⟨rfl, z⟩⟩
          · rw [z12] at z; cases z
          · rcases z with z | z
            · have z : 0 ≤ tkw (b p) 0 := z
              unfold tkw at z
              rw [if_neg (by omega), if_neg (by omega), if_neg (by omega)] at z; omega
            · have z := z.1
              have z : b p = 1 := z
              omega
        · rw [if_neg c4]
          have c4' : ¬ (b p = 40 ∨ b p = 41 ∨ b p = 43 ∨ b p = 45 ∨ b p = 42 ∨ b p = 47 ∨ b p = 37 ∨ b p = 61 ∨ b p = 60 ∨ b p = 62) := fun z => c4 ((pSg_iff _).mpr z)
          have z12 : B1 304 12 = 4 := by rw [← hB1]; simp (disch := first | omega | (simp (disch := omega) only [uA_n]; done) | fail) only [iI_lit, iI_add, iI_sub, iI_mul, iI_neg, iI_lt, iI_le, iI_eq, zlt_t, zlt_f, zle_t, zle_f, zeq_t, zeq_f, nle_t, nle_f, iI_cl, rA, rS, rB, wA, wS, wB, mkp, mk2, uA_s, uA_n, ud_s, ud_n, bI_0, bI_1, nor_s, ↓reduceIte, or_false, false_or, or_true, true_or, or_self, not_true_eq_false, not_false_eq_true, and_true, true_and, and_false, false_and, bI_T, bI_F, Int.reduceToNat, Nat.reduceAdd, Nat.reduceMul, Int.reduceNeg, Option.bind_some, Int.toNat_natCast]
          have z399 : B1 399 304 = B 399 304 := by rw [yo 399 (by omega)]
          refine ⟨B1, ?_, mkr B1 1 0 (p + 1) (fun k hk _ => yo k hk) (fun j hj => y304 j hj) y13 ⟨fun z => absurd rfl z, by rw [z12]; omega, by rw [z399]; exact k399, by rw [z12]; exact Iff.intro (fun z => by cases z) (fun z => by cases z), by rw [z12]; exact Iff.intro (fun z => by cases z) (fun z => by cases z), (fun z => by cases z), fun j h0 h1 => ⟨fun z => ?_, fun z => ?_⟩, fun c h0 h1 => ⟨fun z => ?_, fun z => ?_⟩, ⟨fun z => ?_, fun z => ?_⟩⟩⟩
          · have h399 : B1 399 = uA (uA B 304 15 (p : Int)) 304 13 (p : Int) 399 := by rw [yo 399 (by omega), uA_n (by omega), uA_n (by omega)]
            simp (disch := first | omega | (simp (disch := omega) only [uA_n]; done) | fail) only [iI_lit, iI_add, iI_sub, iI_mul, iI_neg, iI_lt, iI_le, iI_eq, zlt_t, zlt_f, zle_t, zle_f, zeq_t, zeq_f, nle_t, nle_f, iI_cl, rA, rS, rB, wA, wS, wB, mkp, mk2, uA_s, uA_n, ud_s, ud_n, bI_0, bI_1, nor_s, ↓reduceIte, or_false, false_or, or_true, true_or, or_self, not_true_eq_false, not_false_eq_true, and_true, true_and, and_false, false_and, bI_T, bI_F, Int.reduceToNat, Nat.reduceAdd, Nat.reduceMul, Int.reduceNeg, Option.bind_some, Int.toNat_natCast, b15, eb, eb2, hB1, e1, e2, mk2 h399]
          · rw [z12] at z; cases z.1
          · have : (-1 : Int) = j := z; omega
          · rw [z12] at z; cases z.1
          · have : (1 : Int) = c := z; omega
          · rw [z12] at z; cases z
          · rcases z with z | z
            · have : (0 : Int) ≤ -1 := z; omega
            · exact z.2
theorem em_next (hF : 1000 ≤ F) (hL : L ≤ 120) (hb : ∀ i, i < L → 0 ≤ b i ∧ b i ≤ 255) {s : PS} {o : Int} (hr : tRel B b L s o) (hp : s.2.2.2.1 ≤ L) (hf : s.2.2.2.2.1 = -1) (ht : s.1 ≠ 1) : ∃ B' : hI, f_m_next F (mk Ax B) = some ((), mk Ax B') ∧ tRel B' b L (pnx b L s) o ∧ frM B B' :=
  em_nx F Ax hF hL hb hr.1 hr.2.1 hr.2.2.1 (hr.2.2.2.1 hf).1 ((hr.2.2.2.1 hf).2.2.1 ht) (hr.2.2.2.1 hf).2.2.2.2.1 hp hf
end MTK2
