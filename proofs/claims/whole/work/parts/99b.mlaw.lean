/-! THE LAW, the reference -/
section MLAW
variable {K D : Int} {A0 B0 A B B' : hI} (F : Nat) (Ax : hI)
theorem em_copy {x : Nat} (hx : x < 12) {L : Nat} (hL : L ≤ 120) {key bill : Int} : ∀ (r j q : Nat) (B1 : hI), r = L - j → j ≤ L → r < q → fr4 B B1 → B1 304 11 = L → (∀ i, i < j → B1 312 i = xby B x i) → ∃ B2 : hI, fr4 B B2 ∧ B2 304 11 = L ∧ (∀ i, i < L → B2 312 i = xby B x i) ∧ ∀ k9 : Int32 → Int32 → Int32 → mM → Option (Int32 × mM), f_m_rules1_89 F k9 q (iI key) (iI bill) (iI x) (iI (7544 + 124 * (x : Int))) (iI j) (mk Ax B1) = ((f_m_readText F (iI bill) (mk Ax B2)).bind fun q1 => (if (q1.2.1 304 22) = 0 then f_m_rules1_137 F k9 (iI key) (iI bill) (iI x) q1.2 else some (iI x, q1.2))) := by
  intro r
  induction r with
  | zero =>
    intro j q B1 hr hj hq f1 h11 h312
    obtain ⟨q, rfl⟩ : ∃ p, q = p + 1 := ⟨q - 1, by omega⟩
    obtain rfl : j = L := by omega
    refine ⟨B1, f1, h11, h312, fun k9 => ?_⟩
    rw [f_m_rules1_89]
    simp (disch := first | omega | (simp (disch := omega) only [uA_n]; done) | fail) only [iI_lit, iI_add, iI_sub, iI_mul, iI_neg, iI_lt, iI_le, iI_eq, zlt_t, zlt_f, zle_t, zle_f, zeq_t, zeq_f, nle_t, nle_f, iI_cl, rA, rS, rB, wA, wS, wB, mkp, mk2, uA_s, uA_n, ud_s, ud_n, bI_0, bI_1, nor_s, ↓reduceIte, or_false, false_or, or_true, true_or, or_self, not_true_eq_false, not_false_eq_true, and_true, true_and, and_false, false_and, bI_T, bI_F, Int.reduceToNat, Nat.reduceAdd, Nat.reduceMul, Int.reduceNeg, Option.bind_some, Int.toNat_natCast, h11]
  | succ r ih =>
    intro j q B1 hr hj hq f1 h11 h312
    obtain ⟨q, rfl⟩ : ∃ p, q = p + 1 := ⟨q - 1, by omega⟩
    have e6 : B1 (604 + j) = B (604 + j) := f1.1 _ (by omega) (by omega) (by omega)
    obtain ⟨B2, x1, x2, x3, x4⟩ := ih (j + 1) q (uA B1 312 j (B (604 + j) x)) (by omega) (by omega) (by omega) (f1.tr ⟨fun k _ _ h3 => uA_n h3, fun i _ => by rw [uA_n (by omega)]⟩) (by rw [uA_n (by omega)]; exact h11) (fun i hi => by
      rw [uA_s]
      by_cases h : i = j
      · subst h; rw [ud_s]; unfold xby; rw [if_pos (by omega)]
      · rw [ud_n h]; exact h312 i (by omega))
    refine ⟨B2, x1, x2, x3, fun k9 => ?_⟩
    rw [← x4 k9, f_m_rules1_89]
    have e8 : uA B1 312 j (B (604 + j) x) 399 = B1 399 := uA_n (by omega)
    simp (disch := first | omega | (simp (disch := omega) only [uA_n]; done) | fail) only [iI_lit, iI_add, iI_sub, iI_mul, iI_neg, iI_lt, iI_le, iI_eq, zlt_t, zlt_f, zle_t, zle_f, zeq_t, zeq_f, nle_t, nle_f, iI_cl, rA, rS, rB, wA, wS, wB, mkp, mk2, uA_s, uA_n, ud_s, ud_n, bI_0, bI_1, nor_s, ↓reduceIte, or_false, false_or, or_true, true_or, or_self, not_true_eq_false, not_false_eq_true, and_true, true_and, and_false, false_and, bI_T, bI_F, Int.reduceToNat, Nat.reduceAdd, Nat.reduceMul, Int.reduceNeg, Option.bind_some, Int.toNat_natCast, h11, zX4, e6, mk2 e8]
    rfl
theorem em_rules1 (R : RR K D A0 B0 A B) (hF : 1000 ≤ F) (hK : K ≤ 1000000000) {bill key : Int} (hbill : bill = -1 ∨ (0 ≤ bill ∧ bill < 60 ∧ A 32 bill.toNat ≠ -1)) (hk0 : 0 ≤ key) (hk7 : key < 7) : ∀ (n q : Nat) (B1 : hI), (n : Int) ≤ A 16 14 → n < q → fr4 B B1 → ∃ B2 : hI, f_m_rules1_9 F q (iI key) (iI bill) (iI ((n : Int) - 1)) (mk Ax B1) = some (iI (tin A B bill key n), mk Ax B2) ∧ fr4 B B2 ∧ (tin A B bill key n ≠ -1 → iI (B2 304 21) = tsy A B bill (tin A B bill key n).toNat) := by
  have hd1 := R.gD.dd1
  have hd2 := R.gD.dd2
  have hd3 := R.gD.dd3
  have X := R.gX
  have hx2 := X.xn2
  intro n
  induction n with
  | zero =>
    intro q B1 _ hq f1
    obtain ⟨q, rfl⟩ : ∃ p, q = p + 1 := ⟨q - 1, by omega⟩
    refine ⟨B1, ?_, f1, fun z => absurd rfl z⟩
    rw [f_m_rules1_9]
    unfold tin
    simp (disch := first | omega | (simp (disch := omega) only [uA_n]; done) | fail) only [iI_lit, iI_add, iI_sub, iI_mul, iI_neg, iI_lt, iI_le, iI_eq, zlt_t, zlt_f, zle_t, zle_f, zeq_t, zeq_f, nle_t, nle_f, iI_cl, rA, rS, rB, wA, wS, wB, mkp, mk2, uA_s, uA_n, ud_s, ud_n, bI_0, bI_1, nor_s, ↓reduceIte, or_false, false_or, or_true, true_or, or_self, not_true_eq_false, not_false_eq_true, and_true, true_and, and_false, false_and, bI_T, bI_F, Int.reduceToNat, Nat.reduceAdd, Nat.reduceMul, Int.reduceNeg, Option.bind_some, Int.toNat_natCast, show ((0 : Nat) : Int) - 1 = -1 from rfl]
  | succ n ih =>
    intro q B1 hn hq f1
    obtain ⟨q, rfl⟩ : ∃ p, q = p + 1 := ⟨q - 1, by omega⟩
    have hc := X.xx n (by omega)
    have hok := X.xp n (by omega)
    have hl := X.xl n (by omega)
    have hbb := X.xb n
    have hkr : 0 ≤ A 9 n ∧ A 9 n < 7 := by
      have tk := (p0_PI (xby B n) (B 603 n).toNat).1.2.2.2.2.2.1
      have := hok.1
      rw [hok.2.2.1]
      simp only [tkR] at tk
      omega
    have e1 : ((n + 1 : Nat) : Int) - 1 = (n : Int) := by omega
    have e2 : (n : Int) + -1 = (n : Int) - 1 := by omega
    have b0 : B1 400 = B 400 := f1.1 _ (by omega) (by omega) (by omega)
    have b600 : B1 600 = B 600 := f1.1 _ (by omega) (by omega) (by omega)
    have b601 : B1 601 = B 601 := f1.1 _ (by omega) (by omega) (by omega)
    have b602 : B1 602 = B 602 := f1.1 _ (by omega) (by omega) (by omega)
    have b603 : B1 603 = B 603 := f1.1 _ (by omega) (by omega) (by omega)
    have c0 : B 600 n = A 9 n := hc.1
    have c1' : B 601 n = A 10 n := hc.2.1
    have c2' : B 602 n = A 11 n := hc.2.2.1
    have nx := ih q B1 (by omega) (by omega) f1
    unfold tin
    rw [e1, f_m_rules1_9]
    simp only [f_m_rules1_137]
    by_cases c1 : A 9 n = key
    · by_cases c2 : A 16 9 < A 10 n
      · rw [if_neg (show ¬ tfc A B bill key n from fun z => by have := z.2.1; omega)]
        obtain ⟨B2, x1, x2⟩ := nx
        exact ⟨B2, by simp (disch := first | omega | (simp (disch := omega) only [uA_n]; done) | fail) only [iI_lit, iI_add, iI_sub, iI_mul, iI_neg, iI_lt, iI_le, iI_eq, zlt_t, zlt_f, zle_t, zle_f, zeq_t, zeq_f, nle_t, nle_f, iI_cl, rA, rS, rB, wA, wS, wB, mkp, mk2, uA_s, uA_n, ud_s, ud_n, bI_0, bI_1, nor_s, ↓reduceIte, or_false, false_or, or_true, true_or, or_self, not_true_eq_false, not_false_eq_true, and_true, true_and, and_false, false_and, bI_T, bI_F, Int.reduceToNat, Nat.reduceAdd, Nat.reduceMul, Int.reduceNeg, Option.bind_some, Int.toNat_natCast, zX0, zX, dS, b0, b600, b601, b602, b603, c0, c1', c2', hd3, e2, x1], x2⟩
      · by_cases c3 : A 11 n ≤ A 16 9
        · rw [if_neg (show ¬ tfc A B bill key n from fun z => by have := z.2.2.1; omega)]
          obtain ⟨B2, x1, x2⟩ := nx
          exact ⟨B2, by simp (disch := first | omega | (simp (disch := omega) only [uA_n]; done) | fail) only [iI_lit, iI_add, iI_sub, iI_mul, iI_neg, iI_lt, iI_le, iI_eq, zlt_t, zlt_f, zle_t, zle_f, zeq_t, zeq_f, nle_t, nle_f, iI_cl, rA, rS, rB, wA, wS, wB, mkp, mk2, uA_s, uA_n, ud_s, ud_n, bI_0, bI_1, nor_s, ↓reduceIte, or_false, false_or, or_true, true_or, or_self, not_true_eq_false, not_false_eq_true, and_true, true_and, and_false, false_and, bI_T, bI_F, Int.reduceToNat, Nat.reduceAdd, Nat.reduceMul, Int.reduceNeg, Option.bind_some, Int.toNat_natCast, zX0, zX, dS, b0, b600, b601, b602, b603, c0, c1', c2', hd3, e2, x1], x2⟩
        · have hL : txL B n ≤ 120 := by unfold txL; omega
          have hLc : (txL B n : Int) = B 603 n := by unfold txL; omega
          obtain ⟨B2, y1, y2, y3, y4⟩ := em_copy F Ax (B := B) (x := n) (by omega) hL (key := key) (bill := bill) (txL B n) 0 F (uA B1 304 11 (B 603 n)) (by omega) (by omega) (by omega) (f1.u (by omega) _) (by rw [uA_s, ud_s]; exact hLc.symm) (fun i hi => by omega)
          have hbx : ∀ i, i < txL B n → 0 ≤ xby B n i ∧ xby B n i ≤ 255 := fun i hi => by
            have := hbb i (by omega) (by omega)
            unfold xby
            rw [if_pos (by omega)]
            exact this
          obtain ⟨B3, z1, z2, z3, -, -, -, z7⟩ := em_readText F Ax (R.x4 y1) hF hK hbill hL hbx y2 y3
          obtain ⟨z8, z9, z10⟩ := z7 hok.2.1
          have z1 : f_m_readText F (iI bill) (mk Ax B2) = some ((), mk Ax B3) := z1
          have e8 : uA B1 304 11 (B 603 n) 399 = B1 399 := uA_n (by omega)
          have y4' := y4 (f_m_rules1_9 F q)
          rw [show (((0 : Nat)) : Int) = 0 from rfl] at y4'
          by_cases h : thd (fct A bill) (xby B n) (txL B n)
          · rw [if_pos (show tfc A B bill key n from ⟨c1, by omega, by omega, h⟩)]
            have z9 := z9 h
            refine ⟨B3, ?_, y1.tr z3, fun _ => z8⟩
            simp (disch := first | omega | (simp (disch := omega) only [uA_n]; done) | fail) only [iI_lit, iI_add, iI_sub, iI_mul, iI_neg, iI_lt, iI_le, iI_eq, zlt_t, zlt_f, zle_t, zle_f, zeq_t, zeq_f, nle_t, nle_f, iI_cl, rA, rS, rB, wA, wS, wB, mkp, mk2, uA_s, uA_n, ud_s, ud_n, bI_0, bI_1, nor_s, ↓reduceIte, or_false, false_or, or_true, true_or, or_self, not_true_eq_false, not_false_eq_true, and_true, true_and, and_false, false_and, bI_T, bI_F, Int.reduceToNat, Nat.reduceAdd, Nat.reduceMul, Int.reduceNeg, Option.bind_some, Int.toNat_natCast, zX0, zX, dS, b0, b600, b601, b602, b603, c0, c1', c2', hd3, mk2 e8, y4', ↓bind_of z1, z9]
          · rw [if_neg (show ¬ tfc A B bill key n from fun z => h z.2.2.2)]
            have z10 := z10 h
            obtain ⟨B4, x1, x2⟩ := ih q B3 (by omega) (by omega) (y1.tr z3)
            refine ⟨B4, ?_, x2⟩
            simp (disch := first | omega | (simp (disch := omega) only [uA_n]; done) | fail) only [iI_lit, iI_add, iI_sub, iI_mul, iI_neg, iI_lt, iI_le, iI_eq, zlt_t, zlt_f, zle_t, zle_f, zeq_t, zeq_f, nle_t, nle_f, iI_cl, rA, rS, rB, wA, wS, wB, mkp, mk2, uA_s, uA_n, ud_s, ud_n, bI_0, bI_1, nor_s, ↓reduceIte, or_false, false_or, or_true, true_or, or_self, not_true_eq_false, not_false_eq_true, and_true, true_and, and_false, false_and, bI_T, bI_F, Int.reduceToNat, Nat.reduceAdd, Nat.reduceMul, Int.reduceNeg, Option.bind_some, Int.toNat_natCast, zX0, zX, dS, b0, b600, b601, b602, b603, c0, c1', c2', hd3, mk2 e8, y4', ↓bind_of z1, z10, f_m_rules1_137, e2]
            exact x1
    · rw [if_neg (show ¬ tfc A B bill key n from fun z => c1 z.1)]
      obtain ⟨B2, x1, x2⟩ := nx
      exact ⟨B2, by simp (disch := first | omega | (simp (disch := omega) only [uA_n]; done) | fail) only [iI_lit, iI_add, iI_sub, iI_mul, iI_neg, iI_lt, iI_le, iI_eq, zlt_t, zlt_f, zle_t, zle_f, zeq_t, zeq_f, nle_t, nle_f, iI_cl, rA, rS, rB, wA, wS, wB, mkp, mk2, uA_s, uA_n, ud_s, ud_n, bI_0, bI_1, nor_s, ↓reduceIte, or_false, false_or, or_true, true_or, or_self, not_true_eq_false, not_false_eq_true, and_true, true_and, and_false, false_and, bI_T, bI_F, Int.reduceToNat, Nat.reduceAdd, Nat.reduceMul, Int.reduceNeg, Option.bind_some, Int.toNat_natCast, zX0, zX, dS, b0, b600, b601, b602, b603, c0, c1', c2', hd3, e2, x1], x2⟩
theorem em_rules (R : RR K D A0 B0 A B) (hF : 1000 ≤ F) (hK : K ≤ 1000000000) {bill key : Int} (hbill : bill = -1 ∨ (0 ≤ bill ∧ bill < 60 ∧ A 32 bill.toNat ≠ -1)) (hk0 : 0 ≤ key) (hk7 : key < 7) : ∃ B' : hI, f_m_rules1 F (iI key) (iI bill) (mk Ax B) = some (iI (twh A B bill key), mk Ax B') ∧ fr4 B B' ∧ (twh A B bill key ≠ -1 → iI (B' 304 21) = tsy A B bill (twh A B bill key).toNat) := by
  have X := R.gX
  have hx1 := X.xn1
  have hx2 := X.xn2
  have hx3 := X.xn3
  obtain ⟨B2, x1, x2, x3⟩ := em_rules1 F Ax R hF hK hbill hk0 hk7 (A 16 14).toNat F B (by omega) (by omega) (fr4.rf B)
  rw [show ((A 16 14).toNat : Int) - 1 = A 16 14 - 1 by omega] at x1
  refine ⟨B2, ?_, x2, x3⟩
  simp only [f_m_rules1]
  simp (disch := first | omega | (simp (disch := omega) only [uA_n]; done) | fail) only [iI_lit, iI_add, iI_sub, iI_mul, iI_neg, iI_lt, iI_le, iI_eq, zlt_t, zlt_f, zle_t, zle_f, zeq_t, zeq_f, nle_t, nle_f, iI_cl, rA, rS, rB, wA, wS, wB, mkp, mk2, uA_s, uA_n, ud_s, ud_n, bI_0, bI_1, nor_s, ↓reduceIte, or_false, false_or, or_true, true_or, or_self, not_true_eq_false, not_false_eq_true, and_true, true_and, and_false, false_and, bI_T, bI_F, Int.reduceToNat, Nat.reduceAdd, Nat.reduceMul, Int.reduceNeg, Option.bind_some, Int.toNat_natCast, dS, hx3, x1]
  rfl
theorem em_ruled (R : RR K D A0 B0 A B) (hF : 1000 ≤ F) (hK : K ≤ 1000000000) {bill key : Int} (hbill : bill = -1 ∨ (0 ≤ bill ∧ bill < 60 ∧ A 32 bill.toNat ≠ -1)) (hk0 : 0 ≤ key) (hk7 : key < 7) {d : Int32} (hd : d = iI (dfl A key)) : ∃ B' : hI, f_m_ruled F (iI key) (iI bill) d (mk Ax B) = some (say A B bill key, mk Ax B') ∧ fr4 B B' := by
  have rg := tin_rg A B bill key (A 16 14).toNat
  have X := R.gX
  have hx1 := X.xn1
  have hx2 := X.xn2
  have hw : -1 ≤ twh A B bill key ∧ twh A B bill key < 12 := by unfold twh; omega
  obtain ⟨B2, x1, x2, x3⟩ := em_rules F Ax R hF hK hbill hk0 hk7
  refine ⟨B2, ?_, x2⟩
  subst hd
  simp only [f_m_ruled, f_m_rules, f_m_rules_15, f_m_ruled_17]
  unfold say
  by_cases c : twh A B bill key = -1
  · rw [if_pos c]
    rw [c] at x1
    simp (disch := first | omega | (simp (disch := omega) only [uA_n]; done) | fail) only [iI_lit, iI_add, iI_sub, iI_mul, iI_neg, iI_lt, iI_le, iI_eq, zlt_t, zlt_f, zle_t, zle_f, zeq_t, zeq_f, nle_t, nle_f, iI_cl, rA, rS, rB, wA, wS, wB, mkp, mk2, uA_s, uA_n, ud_s, ud_n, bI_0, bI_1, nor_s, ↓reduceIte, or_false, false_or, or_true, true_or, or_self, not_true_eq_false, not_false_eq_true, and_true, true_and, and_false, false_and, bI_T, bI_F, Int.reduceToNat, Nat.reduceAdd, Nat.reduceMul, Int.reduceNeg, Option.bind_some, Int.toNat_natCast, ↓bind_of x1]
  · rw [if_neg c]
    have x3 := x3 c
    simp (disch := first | omega | (simp (disch := omega) only [uA_n]; done) | fail) only [iI_lit, iI_add, iI_sub, iI_mul, iI_neg, iI_lt, iI_le, iI_eq, zlt_t, zlt_f, zle_t, zle_f, zeq_t, zeq_f, nle_t, nle_f, iI_cl, rA, rS, rB, wA, wS, wB, mkp, mk2, uA_s, uA_n, ud_s, ud_n, bI_0, bI_1, nor_s, ↓reduceIte, or_false, false_or, or_true, true_or, or_self, not_true_eq_false, not_false_eq_true, and_true, true_and, and_false, false_and, bI_T, bI_F, Int.reduceToNat, Nat.reduceAdd, Nat.reduceMul, Int.reduceNeg, Option.bind_some, Int.toNat_natCast, ↓bind_of x1, x3]
end MLAW
