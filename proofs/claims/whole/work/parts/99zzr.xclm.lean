/-! WHAT CLAIMS GET: the class -/
section XCLM
variable {K D : Int} {A0 B0 A B : hI} (F : Nat)
/-- the cells of the claims at the shares x -/
def CS (A : hI) (x : Nat → Int) (A1 : hI) : Prop := (∀ k : Nat, ¬ (110 ≤ k ∧ k ≤ 113) → A1 k = A k) ∧ (∀ p : Nat, (p : Int) < A 31 15 → A1 110 p = x p) ∧ (∀ h : Nat, h < 16 → A1 111 h = wl A x h) ∧ (∀ h : Nat, h < 16 → A1 112 h = dpS A h) ∧ ∀ h : Nat, h < 16 → A1 113 h = otS A h
theorem RR.cs (R : RR K D A0 B0 A B) {A1 : hI} (e : ∀ k : Nat, ¬ (110 ≤ k ∧ k ≤ 113) → A1 k = A k) : RR K D A1 B A1 B := ⟨R.wr.cg (fun k hk => e k (by omega)) (fun k hk => e k (by omega)) (fun _ _ => rfl), SX.rf A1, SB.rf B⟩
theorem RR.smE (R : RR K D A0 B0 A B) {f : Nat → Int} (h : ∀ p, A 32 p = -1 → f p = 0) : sm (A 31 15).toNat f = sm 60 f := by
  have e1 := R.gP.pe1
  have e2 := R.gP.pe2
  have q : ∀ r n : Nat, r + n = 60 → (A 31 15).toNat ≤ n → sm n f = sm 60 f := by
    intro r
    induction r with
    | zero => intro n e _; rw [show n = 60 by omega]
    | succ r ih =>
      intro n e hn
      rw [← ih (n + 1) (by omega) (by omega)]
      show _ = sm n f + f n
      rw [h n (R.endf (p := n) (by omega) (by omega)).1]
      omega
  exact q (60 - (A 31 15).toNat) _ (by omega) (Nat.le_refl _)
theorem ex_begin1 (R : RR K D A0 B0 A B) (Bx : hI) : ∀ (r h q : Nat) (A1 : hI), r + h = 16 → r < q → (∀ k : Nat, ¬ (111 ≤ k ∧ k ≤ 113) → A1 k = A k) → (∀ j : Nat, j < h → A1 111 j = A 22 j + 10 * A 61 j ∧ A1 112 j = 0 ∧ A1 113 j = 0) → ∃ A2 : hI, f_Claims_begin_109_16_7 F q (iI (h : Int)) (mk A1 Bx) = f_Claims_begin_109_16_46 F F 0 (mk A2 Bx) ∧ (∀ k : Nat, ¬ (111 ≤ k ∧ k ≤ 113) → A2 k = A k) ∧ ∀ j : Nat, j < 16 → A2 111 j = A 22 j + 10 * A 61 j ∧ A2 112 j = 0 ∧ A2 113 j = 0 := by
  intro r
  induction r with
  | zero =>
    intro h q A1 e hq e1 e2
    obtain ⟨q, rfl⟩ : ∃ k, q = k + 1 := ⟨q - 1, by omega⟩
    obtain rfl : h = 16 := by omega
    refine ⟨A1, ?_, e1, e2⟩
    rw [f_Claims_begin_109_16_7]
    exact if_pos (by simp (disch := first | omega | (simp (disch := omega) only [uA_n]; done) | fail) only [iI_lit, iI_add, iI_sub, iI_mul, iI_neg, iI_lt, iI_le, iI_eq, zlt_t, zlt_f, zle_t, zle_f, zeq_t, zeq_f, nle_t, nle_f, iI_cl, rA, rS, rB, wA, wS, wB, mkp, mk2, uA_s, uA_n, ud_s, ud_n, bI_0, bI_1, nor_s, ↓reduceIte, or_false, false_or, or_true, true_or, or_self, not_true_eq_false, not_false_eq_true, and_true, true_and, and_false, false_and, bI_T, bI_F, Int.reduceToNat, Nat.reduceAdd, Nat.reduceMul, Int.reduceNeg, Option.bind_some, Int.toNat_natCast])
  | succ r ih =>
    intro h q A1 e hq e1 e2
    obtain ⟨q, rfl⟩ : ∃ k, q = k + 1 := ⟨q - 1, by omega⟩
    obtain ⟨A2, x, g1, g2⟩ := ih (h + 1) q (uA (uA (uA A1 111 h (A 22 h + 10 * A 61 h)) 112 h 0) 113 h 0) (by omega) (by omega) (fun k hk => by rw [uA_n (by omega), uA_n (by omega), uA_n (by omega)]; exact e1 k hk) (fun j hj => by
      simp (disch := omega) only [uA_n, uA_s]
      by_cases z : j = h
      · subst z; rw [ud_s, ud_s, ud_s]; exact ⟨rfl, rfl, rfl⟩
      · rw [ud_n z, ud_n z, ud_n z]; exact e2 j (by omega))
    refine ⟨A2, Eq.trans ?_ x, g1, g2⟩
    have a22 := e1 22 (by omega)
    have a61 := e1 61 (by omega)
    rw [f_Claims_begin_109_16_7]
    refine (if_neg (by simp (disch := first | omega | (simp (disch := omega) only [uA_n]; done) | fail) only [iI_lit, iI_add, iI_sub, iI_mul, iI_neg, iI_lt, iI_le, iI_eq, zlt_t, zlt_f, zle_t, zle_f, zeq_t, zeq_f, nle_t, nle_f, iI_cl, rA, rS, rB, wA, wS, wB, mkp, mk2, uA_s, uA_n, ud_s, ud_n, bI_0, bI_1, nor_s, ↓reduceIte, or_false, false_or, or_true, true_or, or_self, not_true_eq_false, not_false_eq_true, and_true, true_and, and_false, false_and, bI_T, bI_F, Int.reduceToNat, Nat.reduceAdd, Nat.reduceMul, Int.reduceNeg, Option.bind_some, Int.toNat_natCast])).trans ?_
    have ec : f_World_coin F (iI (h : Int)) (mk A1 Bx) = some (iI (A 22 h + 10 * A 61 h), mk A1 Bx) := by
      simp only [f_World_coin]
      simp (disch := first | omega | (simp (disch := omega) only [uA_n]; done) | fail) only [iI_lit, iI_add, iI_sub, iI_mul, iI_neg, iI_lt, iI_le, iI_eq, zlt_t, zlt_f, zle_t, zle_f, zeq_t, zeq_f, nle_t, nle_f, iI_cl, rA, rS, rB, wA, wS, wB, mkp, mk2, uA_s, uA_n, ud_s, ud_n, bI_0, bI_1, nor_s, ↓reduceIte, or_false, false_or, or_true, true_or, or_self, not_true_eq_false, not_false_eq_true, and_true, true_and, and_false, false_and, bI_T, bI_F, Int.reduceToNat, Nat.reduceAdd, Nat.reduceMul, Int.reduceNeg, Option.bind_some, Int.toNat_natCast, a22, a61]
    refine obd ec ?_
    refine (if_neg (by simp (disch := first | omega | (simp (disch := omega) only [uA_n]; done) | fail) only [iI_lit, iI_add, iI_sub, iI_mul, iI_neg, iI_lt, iI_le, iI_eq, zlt_t, zlt_f, zle_t, zle_f, zeq_t, zeq_f, nle_t, nle_f, iI_cl, rA, rS, rB, wA, wS, wB, mkp, mk2, uA_s, uA_n, ud_s, ud_n, bI_0, bI_1, nor_s, ↓reduceIte, or_false, false_or, or_true, true_or, or_self, not_true_eq_false, not_false_eq_true, and_true, true_and, and_false, false_and, bI_T, bI_F, Int.reduceToNat, Nat.reduceAdd, Nat.reduceMul, Int.reduceNeg, Option.bind_some, Int.toNat_natCast])).trans ?_
    rw [← iI_s]
    simp (disch := first | omega | (simp (disch := omega) only [uA_n]; done) | fail) only [iI_lit, iI_add, iI_sub, iI_mul, iI_neg, iI_lt, iI_le, iI_eq, zlt_t, zlt_f, zle_t, zle_f, zeq_t, zeq_f, nle_t, nle_f, iI_cl, rA, rS, rB, wA, wS, wB, mkp, mk2, uA_s, uA_n, ud_s, ud_n, bI_0, bI_1, nor_s, ↓reduceIte, or_false, false_or, or_true, true_or, or_self, not_true_eq_false, not_false_eq_true, and_true, true_and, and_false, false_and, bI_T, bI_F, Int.reduceToNat, Nat.reduceAdd, Nat.reduceMul, Int.reduceNeg, Option.bind_some, Int.toNat_natCast]
theorem ex_begin2 (R : RR K D A0 B0 A B) (Bx : hI) : ∀ (r i q : Nat) (A1 : hI), r = (A 31 15).toNat - i → i ≤ (A 31 15).toNat → r < q → (∀ k : Nat, ¬ (110 ≤ k ∧ k ≤ 113) → A1 k = A k) → (∀ p : Nat, p < i → A1 110 p = 0) → (∀ h : Nat, h < 16 → A1 111 h = A 22 h + 10 * A 61 h + sm i (wlB A h) ∧ A1 112 h = sm i (dpT A h) ∧ A1 113 h = sm i (otT A h)) → ∃ A2 : hI, f_Claims_begin_109_16_46 F q (iI (i : Int)) (mk A1 Bx) = some ((), mk A2 Bx) ∧ (∀ k : Nat, ¬ (110 ≤ k ∧ k ≤ 113) → A2 k = A k) ∧ (∀ p : Nat, p < (A 31 15).toNat → A2 110 p = 0) ∧ ∀ h : Nat, h < 16 → A2 111 h = A 22 h + 10 * A 61 h + sm (A 31 15).toNat (wlB A h) ∧ A2 112 h = sm (A 31 15).toNat (dpT A h) ∧ A2 113 h = sm (A 31 15).toNat (otT A h) := by
  have e1 := R.gP.pe1
  have e2 := R.gP.pe2
  have hn2 := R.gH.hn2
  intro r
  induction r with
  | zero =>
    intro i q A1 e hi hq g1 g2 g3
    obtain ⟨q, rfl⟩ : ∃ k, q = k + 1 := ⟨q - 1, by omega⟩
    obtain rfl : i = (A 31 15).toNat := by omega
    refine ⟨A1, ?_, g1, g2, g3⟩
    have a31 := g1 31 (by omega)
    rw [f_Claims_begin_109_16_46]
    exact if_pos (by simp (disch := first | omega | (simp (disch := omega) only [uA_n]; done) | fail) only [iI_lit, iI_add, iI_sub, iI_mul, iI_neg, iI_lt, iI_le, iI_eq, zlt_t, zlt_f, zle_t, zle_f, zeq_t, zeq_f, nle_t, nle_f, iI_cl, rA, rS, rB, wA, wS, wB, mkp, mk2, uA_s, uA_n, ud_s, ud_n, bI_0, bI_1, nor_s, ↓reduceIte, or_false, false_or, or_true, true_or, or_self, not_true_eq_false, not_false_eq_true, and_true, true_and, and_false, false_and, bI_T, bI_F, Int.reduceToNat, Nat.reduceAdd, Nat.reduceMul, Int.reduceNeg, Option.bind_some, Int.toNat_natCast, a31])
  | succ r ih =>
    intro i q A1 e hi hq g1 g2 g3
    obtain ⟨q, rfl⟩ : ∃ k, q = k + 1 := ⟨q - 1, by omega⟩
    have a31 := g1 31 (by omega)
    have a32 := g1 32 (by omega)
    have a33 := g1 33 (by omega)
    have a34 := g1 34 (by omega)
    have a35 := g1 35 (by omega)
    have kr := R.kr (p := i) (by omega)
    have st : ∀ f : Nat → Int, sm (i + 1) f = sm i f + f i := fun f => rfl
    have fr : ∀ (X : hI) (c j : Nat) (v : Int), 111 ≤ c → c ≤ 113 → (∀ k : Nat, ¬ (110 ≤ k ∧ k ≤ 113) → X k = A k) → ∀ k : Nat, ¬ (110 ≤ k ∧ k ≤ 113) → uA X c j v k = A k := fun X c j v h1 h2 h k hk => by rw [uA_n (by omega)]; exact h k hk
    have k0 : ∀ k : Nat, ¬ (110 ≤ k ∧ k ≤ 113) → uA A1 110 i 0 k = A k := fun k hk => by rw [uA_n (by omega)]; exact g1 k hk
    have z0 : ∀ p : Nat, p < i + 1 → uA A1 110 i 0 110 p = 0 := fun p hp => by
      rw [uA_s]
      by_cases z : p = i
      · subst z; rw [ud_s]
      · rw [ud_n z]; exact g2 p (by omega)
    rw [f_Claims_begin_109_16_46]
    simp only [f_Claims_begin_109_16_162, f_Claims_begin_109_16_143]
    by_cases c : A 32 i = -1
    · obtain ⟨A2, x, q1, q2, q3⟩ := ih (i + 1) q (uA A1 110 i 0) (by omega) (by omega) (by omega) k0 z0 (fun h hh => by
        rw [uA_n (by omega), uA_n (by omega), uA_n (by omega), st, st, st, show wlB A h i = 0 from if_neg (fun z => z.1 c), show dpT A h i = 0 from if_neg (fun z => z.1.1 c), show otT A h i = 0 from if_neg (fun z => z.1.1 c)]
        have := g3 h hh
        omega)
      refine ⟨A2, Eq.trans ?_ x, q1, q2, q3⟩
      refine (if_neg (by simp (disch := first | omega | (simp (disch := omega) only [uA_n]; done) | fail) only [iI_lit, iI_add, iI_sub, iI_mul, iI_neg, iI_lt, iI_le, iI_eq, zlt_t, zlt_f, zle_t, zle_f, zeq_t, zeq_f, nle_t, nle_f, iI_cl, rA, rS, rB, wA, wS, wB, mkp, mk2, uA_s, uA_n, ud_s, ud_n, bI_0, bI_1, nor_s, ↓reduceIte, or_false, false_or, or_true, true_or, or_self, not_true_eq_false, not_false_eq_true, and_true, true_and, and_false, false_and, bI_T, bI_F, Int.reduceToNat, Nat.reduceAdd, Nat.reduceMul, Int.reduceNeg, Option.bind_some, Int.toNat_natCast, a31])).trans ?_
      refine (if_neg (by simp (disch := first | omega | (simp (disch := omega) only [uA_n]; done) | fail) only [iI_lit, iI_add, iI_sub, iI_mul, iI_neg, iI_lt, iI_le, iI_eq, zlt_t, zlt_f, zle_t, zle_f, zeq_t, zeq_f, nle_t, nle_f, iI_cl, rA, rS, rB, wA, wS, wB, mkp, mk2, uA_s, uA_n, ud_s, ud_n, bI_0, bI_1, nor_s, ↓reduceIte, or_false, false_or, or_true, true_or, or_self, not_true_eq_false, not_false_eq_true, and_true, true_and, and_false, false_and, bI_T, bI_F, Int.reduceToNat, Nat.reduceAdd, Nat.reduceMul, Int.reduceNeg, Option.bind_some, Int.toNat_natCast])).trans ?_
      refine (if_pos (by simp (disch := first | omega | (simp (disch := omega) only [uA_n]; done) | fail) only [iI_lit, iI_add, iI_sub, iI_mul, iI_neg, iI_lt, iI_le, iI_eq, zlt_t, zlt_f, zle_t, zle_f, zeq_t, zeq_f, nle_t, nle_f, iI_cl, rA, rS, rB, wA, wS, wB, mkp, mk2, uA_s, uA_n, ud_s, ud_n, bI_0, bI_1, nor_s, ↓reduceIte, or_false, false_or, or_true, true_or, or_self, not_true_eq_false, not_false_eq_true, and_true, true_and, and_false, false_and, bI_T, bI_F, Int.reduceToNat, Nat.reduceAdd, Nat.reduceMul, Int.reduceNeg, Option.bind_some, Int.toNat_natCast, a32, c])).trans ?_
      rw [← iI_s]
      simp (disch := first | omega | (simp (disch := omega) only [uA_n]; done) | fail) only [iI_lit, iI_add, iI_sub, iI_mul, iI_neg, iI_lt, iI_le, iI_eq, zlt_t, zlt_f, zle_t, zle_f, zeq_t, zeq_f, nle_t, nle_f, iI_cl, rA, rS, rB, wA, wS, wB, mkp, mk2, uA_s, uA_n, ud_s, ud_n, bI_0, bI_1, nor_s, ↓reduceIte, or_false, false_or, or_true, true_or, or_self, not_true_eq_false, not_false_eq_true, and_true, true_and, and_false, false_and, bI_T, bI_F, Int.reduceToNat, Nat.reduceAdd, Nat.reduceMul, Int.reduceNeg, Option.bind_some, Int.toNat_natCast]
    · have pd := R.gP.pd i (by omega) c
      have ph := R.gP.ph i (by omega) c
      have ps := R.gP.ps i (by omega) c
      have xu := ex_isUp F (R.cs k0) Bx (A 34 i) (by omega) (by rw [k0 19 (by omega)]; omega)
      rw [k0 27 (by omega)] at xu
      by_cases d : A 27 (A 34 i).toNat = -1
      · rw [bI_t d] at xu
        have g35 := g3 (A 35 i).toNat (by omega)
        rw [show (((A 35 i).toNat : Nat) : Int) = A 35 i by omega] at g35
        obtain ⟨A2, x, q1, q2, q3⟩ := ih (i + 1) q (uA (uA A1 110 i 0) 111 (A 35 i).toNat (A1 111 (A 35 i).toNat + A 33 i)) (by omega) (by omega) (by omega) (fr _ _ _ _ (by omega) (by omega) k0) (fun p hp => by rw [uA_n (by omega)]; exact z0 p hp) (fun h hh => by
          rw [uA_s, uA_n (by omega), uA_n (by omega), uA_n (by omega), uA_n (by omega), uA_n (by omega), st, st, st, show dpT A h i = 0 from if_neg (fun z => z.1.2 d), show otT A h i = 0 from if_neg (fun z => z.1.2 d)]
          have gh := g3 h hh
          by_cases z : h = (A 35 i).toNat
          · rw [z, ud_s, show wlB A ((A 35 i).toNat : Nat) i = A 33 i from if_pos ⟨c, d, by omega⟩]
            rw [z] at gh
            omega
          · rw [ud_n z, show wlB A h i = 0 from if_neg (fun y => z (by omega))]
            omega)
        refine ⟨A2, Eq.trans ?_ x, q1, q2, q3⟩
        refine (if_neg (by simp (disch := first | omega | (simp (disch := omega) only [uA_n]; done) | fail) only [iI_lit, iI_add, iI_sub, iI_mul, iI_neg, iI_lt, iI_le, iI_eq, zlt_t, zlt_f, zle_t, zle_f, zeq_t, zeq_f, nle_t, nle_f, iI_cl, rA, rS, rB, wA, wS, wB, mkp, mk2, uA_s, uA_n, ud_s, ud_n, bI_0, bI_1, nor_s, ↓reduceIte, or_false, false_or, or_true, true_or, or_self, not_true_eq_false, not_false_eq_true, and_true, true_and, and_false, false_and, bI_T, bI_F, Int.reduceToNat, Nat.reduceAdd, Nat.reduceMul, Int.reduceNeg, Option.bind_some, Int.toNat_natCast, a31])).trans ?_
        refine (if_neg (by simp (disch := first | omega | (simp (disch := omega) only [uA_n]; done) | fail) only [iI_lit, iI_add, iI_sub, iI_mul, iI_neg, iI_lt, iI_le, iI_eq, zlt_t, zlt_f, zle_t, zle_f, zeq_t, zeq_f, nle_t, nle_f, iI_cl, rA, rS, rB, wA, wS, wB, mkp, mk2, uA_s, uA_n, ud_s, ud_n, bI_0, bI_1, nor_s, ↓reduceIte, or_false, false_or, or_true, true_or, or_self, not_true_eq_false, not_false_eq_true, and_true, true_and, and_false, false_and, bI_T, bI_F, Int.reduceToNat, Nat.reduceAdd, Nat.reduceMul, Int.reduceNeg, Option.bind_some, Int.toNat_natCast])).trans ?_
        refine (if_neg (by simp (disch := first | omega | (simp (disch := omega) only [uA_n]; done) | fail) only [iI_lit, iI_add, iI_sub, iI_mul, iI_neg, iI_lt, iI_le, iI_eq, zlt_t, zlt_f, zle_t, zle_f, zeq_t, zeq_f, nle_t, nle_f, iI_cl, rA, rS, rB, wA, wS, wB, mkp, mk2, uA_s, uA_n, ud_s, ud_n, bI_0, bI_1, nor_s, ↓reduceIte, or_false, false_or, or_true, true_or, or_self, not_true_eq_false, not_false_eq_true, and_true, true_and, and_false, false_and, bI_T, bI_F, Int.reduceToNat, Nat.reduceAdd, Nat.reduceMul, Int.reduceNeg, Option.bind_some, Int.toNat_natCast, a32])).trans ?_
        refine obd (v := (iI 1, mk (uA A1 110 i 0) Bx)) (by simp (disch := first | omega | (simp (disch := omega) only [uA_n]; done) | fail) only [iI_lit, iI_add, iI_sub, iI_mul, iI_neg, iI_lt, iI_le, iI_eq, zlt_t, zlt_f, zle_t, zle_f, zeq_t, zeq_f, nle_t, nle_f, iI_cl, rA, rS, rB, wA, wS, wB, mkp, mk2, uA_s, uA_n, ud_s, ud_n, bI_0, bI_1, nor_s, ↓reduceIte, or_false, false_or, or_true, true_or, or_self, not_true_eq_false, not_false_eq_true, and_true, true_and, and_false, false_and, bI_T, bI_F, Int.reduceToNat, Nat.reduceAdd, Nat.reduceMul, Int.reduceNeg, Option.bind_some, Int.toNat_natCast, a34, xu]) ?_
        refine (if_neg i1n0).trans ?_
        refine (if_neg (by simp (disch := first | omega | (simp (disch := omega) only [uA_n]; done) | fail) only [iI_lit, iI_add, iI_sub, iI_mul, iI_neg, iI_lt, iI_le, iI_eq, zlt_t, zlt_f, zle_t, zle_f, zeq_t, zeq_f, nle_t, nle_f, iI_cl, rA, rS, rB, wA, wS, wB, mkp, mk2, uA_s, uA_n, ud_s, ud_n, bI_0, bI_1, nor_s, ↓reduceIte, or_false, false_or, or_true, true_or, or_self, not_true_eq_false, not_false_eq_true, and_true, true_and, and_false, false_and, bI_T, bI_F, Int.reduceToNat, Nat.reduceAdd, Nat.reduceMul, Int.reduceNeg, Option.bind_some, Int.toNat_natCast, a35])).trans ?_
        rw [← iI_s]
        simp (disch := first | omega | (simp (disch := omega) only [uA_n]; done) | fail) only [iI_lit, iI_add, iI_sub, iI_mul, iI_neg, iI_lt, iI_le, iI_eq, zlt_t, zlt_f, zle_t, zle_f, zeq_t, zeq_f, nle_t, nle_f, iI_cl, rA, rS, rB, wA, wS, wB, mkp, mk2, uA_s, uA_n, ud_s, ud_n, bI_0, bI_1, nor_s, ↓reduceIte, or_false, false_or, or_true, true_or, or_self, not_true_eq_false, not_false_eq_true, and_true, true_and, and_false, false_and, bI_T, bI_F, Int.reduceToNat, Nat.reduceAdd, Nat.reduceMul, Int.reduceNeg, Option.bind_some, Int.toNat_natCast, a35, a33]
      · rw [bI_f d] at xu
        have hc : clm A i := ⟨c, d⟩
        by_cases k2 : A 32 i = 2
        · obtain ⟨A2, x, q1, q2, q3⟩ := ih (i + 1) q (uA (uA A1 110 i 0) 112 (A 34 i).toNat (A1 112 (A 34 i).toNat + A 33 i)) (by omega) (by omega) (by omega) (fr _ _ _ _ (by omega) (by omega) k0) (fun p hp => by rw [uA_n (by omega)]; exact z0 p hp) (fun h hh => by
            rw [uA_s, uA_n (by omega), uA_n (by omega), uA_n (by omega), uA_n (by omega), uA_n (by omega), st, st, st, show wlB A h i = 0 from if_neg (fun z => d z.2.1), show otT A h i = 0 from if_neg (fun z => z.2.1 k2)]
            have gh := g3 h hh
            by_cases z : h = (A 34 i).toNat
            · rw [z, ud_s, show dpT A ((A 34 i).toNat : Nat) i = A 33 i from if_pos ⟨hc, k2, by omega⟩]
              rw [z] at gh
              omega
            · rw [ud_n z, show dpT A h i = 0 from if_neg (fun y => z (by omega))]
              omega)
          refine ⟨A2, Eq.trans ?_ x, q1, q2, q3⟩
          refine (if_neg (by simp (disch := first | omega | (simp (disch := omega) only [uA_n]; done) | fail) only [iI_lit, iI_add, iI_sub, iI_mul, iI_neg, iI_lt, iI_le, iI_eq, zlt_t, zlt_f, zle_t, zle_f, zeq_t, zeq_f, nle_t, nle_f, iI_cl, rA, rS, rB, wA, wS, wB, mkp, mk2, uA_s, uA_n, ud_s, ud_n, bI_0, bI_1, nor_s, ↓reduceIte, or_false, false_or, or_true, true_or, or_self, not_true_eq_false, not_false_eq_true, and_true, true_and, and_false, false_and, bI_T, bI_F, Int.reduceToNat, Nat.reduceAdd, Nat.reduceMul, Int.reduceNeg, Option.bind_some, Int.toNat_natCast, a31])).trans ?_
          refine (if_neg (by simp (disch := first | omega | (simp (disch := omega) only [uA_n]; done) | fail) only [iI_lit, iI_add, iI_sub, iI_mul, iI_neg, iI_lt, iI_le, iI_eq, zlt_t, zlt_f, zle_t, zle_f, zeq_t, zeq_f, nle_t, nle_f, iI_cl, rA, rS, rB, wA, wS, wB, mkp, mk2, uA_s, uA_n, ud_s, ud_n, bI_0, bI_1, nor_s, ↓reduceIte, or_false, false_or, or_true, true_or, or_self, not_true_eq_false, not_false_eq_true, and_true, true_and, and_false, false_and, bI_T, bI_F, Int.reduceToNat, Nat.reduceAdd, Nat.reduceMul, Int.reduceNeg, Option.bind_some, Int.toNat_natCast])).trans ?_
          refine (if_neg (by simp (disch := first | omega | (simp (disch := omega) only [uA_n]; done) | fail) only [iI_lit, iI_add, iI_sub, iI_mul, iI_neg, iI_lt, iI_le, iI_eq, zlt_t, zlt_f, zle_t, zle_f, zeq_t, zeq_f, nle_t, nle_f, iI_cl, rA, rS, rB, wA, wS, wB, mkp, mk2, uA_s, uA_n, ud_s, ud_n, bI_0, bI_1, nor_s, ↓reduceIte, or_false, false_or, or_true, true_or, or_self, not_true_eq_false, not_false_eq_true, and_true, true_and, and_false, false_and, bI_T, bI_F, Int.reduceToNat, Nat.reduceAdd, Nat.reduceMul, Int.reduceNeg, Option.bind_some, Int.toNat_natCast, a32])).trans ?_
          refine obd (v := (iI 0, mk (uA A1 110 i 0) Bx)) (by simp (disch := first | omega | (simp (disch := omega) only [uA_n]; done) | fail) only [iI_lit, iI_add, iI_sub, iI_mul, iI_neg, iI_lt, iI_le, iI_eq, zlt_t, zlt_f, zle_t, zle_f, zeq_t, zeq_f, nle_t, nle_f, iI_cl, rA, rS, rB, wA, wS, wB, mkp, mk2, uA_s, uA_n, ud_s, ud_n, bI_0, bI_1, nor_s, ↓reduceIte, or_false, false_or, or_true, true_or, or_self, not_true_eq_false, not_false_eq_true, and_true, true_and, and_false, false_and, bI_T, bI_F, Int.reduceToNat, Nat.reduceAdd, Nat.reduceMul, Int.reduceNeg, Option.bind_some, Int.toNat_natCast, a34, xu]) ?_
          refine (if_pos rfl).trans ?_
          refine (if_pos (by simp (disch := first | omega | (simp (disch := omega) only [uA_n]; done) | fail) only [iI_lit, iI_add, iI_sub, iI_mul, iI_neg, iI_lt, iI_le, iI_eq, zlt_t, zlt_f, zle_t, zle_f, zeq_t, zeq_f, nle_t, nle_f, iI_cl, rA, rS, rB, wA, wS, wB, mkp, mk2, uA_s, uA_n, ud_s, ud_n, bI_0, bI_1, nor_s, ↓reduceIte, or_false, false_or, or_true, true_or, or_self, not_true_eq_false, not_false_eq_true, and_true, true_and, and_false, false_and, bI_T, bI_F, Int.reduceToNat, Nat.reduceAdd, Nat.reduceMul, Int.reduceNeg, Option.bind_some, Int.toNat_natCast, a32, k2])).trans ?_
          refine (if_neg (by simp (disch := first | omega | (simp (disch := omega) only [uA_n]; done) | fail) only [iI_lit, iI_add, iI_sub, iI_mul, iI_neg, iI_lt, iI_le, iI_eq, zlt_t, zlt_f, zle_t, zle_f, zeq_t, zeq_f, nle_t, nle_f, iI_cl, rA, rS, rB, wA, wS, wB, mkp, mk2, uA_s, uA_n, ud_s, ud_n, bI_0, bI_1, nor_s, ↓reduceIte, or_false, false_or, or_true, true_or, or_self, not_true_eq_false, not_false_eq_true, and_true, true_and, and_false, false_and, bI_T, bI_F, Int.reduceToNat, Nat.reduceAdd, Nat.reduceMul, Int.reduceNeg, Option.bind_some, Int.toNat_natCast, a34])).trans ?_
          rw [← iI_s]
          simp (disch := first | omega | (simp (disch := omega) only [uA_n]; done) | fail) only [iI_lit, iI_add, iI_sub, iI_mul, iI_neg, iI_lt, iI_le, iI_eq, zlt_t, zlt_f, zle_t, zle_f, zeq_t, zeq_f, nle_t, nle_f, iI_cl, rA, rS, rB, wA, wS, wB, mkp, mk2, uA_s, uA_n, ud_s, ud_n, bI_0, bI_1, nor_s, ↓reduceIte, or_false, false_or, or_true, true_or, or_self, not_true_eq_false, not_false_eq_true, and_true, true_and, and_false, false_and, bI_T, bI_F, Int.reduceToNat, Nat.reduceAdd, Nat.reduceMul, Int.reduceNeg, Option.bind_some, Int.toNat_natCast, a34, a33]
        · obtain ⟨A2, x, q1, q2, q3⟩ := ih (i + 1) q (uA (uA A1 110 i 0) 113 (A 34 i).toNat (A1 113 (A 34 i).toNat + A 33 i)) (by omega) (by omega) (by omega) (fr _ _ _ _ (by omega) (by omega) k0) (fun p hp => by rw [uA_n (by omega)]; exact z0 p hp) (fun h hh => by
            rw [uA_s, uA_n (by omega), uA_n (by omega), uA_n (by omega), uA_n (by omega), uA_n (by omega), st, st, st, show wlB A h i = 0 from if_neg (fun z => d z.2.1), show dpT A h i = 0 from if_neg (fun z => k2 z.2.1)]
            have gh := g3 h hh
            by_cases z : h = (A 34 i).toNat
            · rw [z, ud_s, show otT A ((A 34 i).toNat : Nat) i = A 33 i from if_pos ⟨hc, k2, by omega⟩]
              rw [z] at gh
              omega
            · rw [ud_n z, show otT A h i = 0 from if_neg (fun y => z (by omega))]
              omega)
          refine ⟨A2, Eq.trans ?_ x, q1, q2, q3⟩
          refine (if_neg (by simp (disch := first | omega | (simp (disch := omega) only [uA_n]; done) | fail) only [iI_lit, iI_add, iI_sub, iI_mul, iI_neg, iI_lt, iI_le, iI_eq, zlt_t, zlt_f, zle_t, zle_f, zeq_t, zeq_f, nle_t, nle_f, iI_cl, rA, rS, rB, wA, wS, wB, mkp, mk2, uA_s, uA_n, ud_s, ud_n, bI_0, bI_1, nor_s, ↓reduceIte, or_false, false_or, or_true, true_or, or_self, not_true_eq_false, not_false_eq_true, and_true, true_and, and_false, false_and, bI_T, bI_F, Int.reduceToNat, Nat.reduceAdd, Nat.reduceMul, Int.reduceNeg, Option.bind_some, Int.toNat_natCast, a31])).trans ?_
          refine (if_neg (by simp (disch := first | omega | (simp (disch := omega) only [uA_n]; done) | fail) only [iI_lit, iI_add, iI_sub, iI_mul, iI_neg, iI_lt, iI_le, iI_eq, zlt_t, zlt_f, zle_t, zle_f, zeq_t, zeq_f, nle_t, nle_f, iI_cl, rA, rS, rB, wA, wS, wB, mkp, mk2, uA_s, uA_n, ud_s, ud_n, bI_0, bI_1, nor_s, ↓reduceIte, or_false, false_or, or_true, true_or, or_self, not_true_eq_false, not_false_eq_true, and_true, true_and, and_false, false_and, bI_T, bI_F, Int.reduceToNat, Nat.reduceAdd, Nat.reduceMul, Int.reduceNeg, Option.bind_some, Int.toNat_natCast])).trans ?_
          refine (if_neg (by simp (disch := first | omega | (simp (disch := omega) only [uA_n]; done) | fail) only [iI_lit, iI_add, iI_sub, iI_mul, iI_neg, iI_lt, iI_le, iI_eq, zlt_t, zlt_f, zle_t, zle_f, zeq_t, zeq_f, nle_t, nle_f, iI_cl, rA, rS, rB, wA, wS, wB, mkp, mk2, uA_s, uA_n, ud_s, ud_n, bI_0, bI_1, nor_s, ↓reduceIte, or_false, false_or, or_true, true_or, or_self, not_true_eq_false, not_false_eq_true, and_true, true_and, and_false, false_and, bI_T, bI_F, Int.reduceToNat, Nat.reduceAdd, Nat.reduceMul, Int.reduceNeg, Option.bind_some, Int.toNat_natCast, a32])).trans ?_
          refine obd (v := (iI 0, mk (uA A1 110 i 0) Bx)) (by simp (disch := first | omega | (simp (disch := omega) only [uA_n]; done) | fail) only [iI_lit, iI_add, iI_sub, iI_mul, iI_neg, iI_lt, iI_le, iI_eq, zlt_t, zlt_f, zle_t, zle_f, zeq_t, zeq_f, nle_t, nle_f, iI_cl, rA, rS, rB, wA, wS, wB, mkp, mk2, uA_s, uA_n, ud_s, ud_n, bI_0, bI_1, nor_s, ↓reduceIte, or_false, false_or, or_true, true_or, or_self, not_true_eq_false, not_false_eq_true, and_true, true_and, and_false, false_and, bI_T, bI_F, Int.reduceToNat, Nat.reduceAdd, Nat.reduceMul, Int.reduceNeg, Option.bind_some, Int.toNat_natCast, a34, xu]) ?_
          refine (if_pos rfl).trans ?_
          refine (if_neg (by simp (disch := first | omega | (simp (disch := omega) only [uA_n]; done) | fail) only [iI_lit, iI_add, iI_sub, iI_mul, iI_neg, iI_lt, iI_le, iI_eq, zlt_t, zlt_f, zle_t, zle_f, zeq_t, zeq_f, nle_t, nle_f, iI_cl, rA, rS, rB, wA, wS, wB, mkp, mk2, uA_s, uA_n, ud_s, ud_n, bI_0, bI_1, nor_s, ↓reduceIte, or_false, false_or, or_true, true_or, or_self, not_true_eq_false, not_false_eq_true, and_true, true_and, and_false, false_and, bI_T, bI_F, Int.reduceToNat, Nat.reduceAdd, Nat.reduceMul, Int.reduceNeg, Option.bind_some, Int.toNat_natCast, a32])).trans ?_
          refine (if_neg (by simp (disch := first | omega | (simp (disch := omega) only [uA_n]; done) | fail) only [iI_lit, iI_add, iI_sub, iI_mul, iI_neg, iI_lt, iI_le, iI_eq, zlt_t, zlt_f, zle_t, zle_f, zeq_t, zeq_f, nle_t, nle_f, iI_cl, rA, rS, rB, wA, wS, wB, mkp, mk2, uA_s, uA_n, ud_s, ud_n, bI_0, bI_1, nor_s, ↓reduceIte, or_false, false_or, or_true, true_or, or_self, not_true_eq_false, not_false_eq_true, and_true, true_and, and_false, false_and, bI_T, bI_F, Int.reduceToNat, Nat.reduceAdd, Nat.reduceMul, Int.reduceNeg, Option.bind_some, Int.toNat_natCast, a34])).trans ?_
          rw [← iI_s]
          simp (disch := first | omega | (simp (disch := omega) only [uA_n]; done) | fail) only [iI_lit, iI_add, iI_sub, iI_mul, iI_neg, iI_lt, iI_le, iI_eq, zlt_t, zlt_f, zle_t, zle_f, zeq_t, zeq_f, nle_t, nle_f, iI_cl, rA, rS, rB, wA, wS, wB, mkp, mk2, uA_s, uA_n, ud_s, ud_n, bI_0, bI_1, nor_s, ↓reduceIte, or_false, false_or, or_true, true_or, or_self, not_true_eq_false, not_false_eq_true, and_true, true_and, and_false, false_and, bI_T, bI_F, Int.reduceToNat, Nat.reduceAdd, Nat.reduceMul, Int.reduceNeg, Option.bind_some, Int.toNat_natCast, a34, a33]
theorem ex_begin (R : RR K D A0 B0 A B) (hF : 1000 ≤ F) (Bx : hI) : ∃ A1 : hI, f_Claims_begin_109_16 F (mk A Bx) = some ((), mk A1 Bx) ∧ CS A (fun _ => 0) A1 := by
  have e1 := R.gP.pe1
  have e2 := R.gP.pe2
  obtain ⟨A1, x1, g1, g2⟩ := ex_begin1 F R Bx 16 0 F A (by omega) (by omega) (fun _ _ => rfl) (fun j hj => absurd hj (Nat.not_lt_zero j))
  obtain ⟨A2, x2, q1, q2, q3⟩ := ex_begin2 F R Bx (A 31 15).toNat 0 F A1 (by omega) (Nat.zero_le _) (by omega) (fun k hk => g1 k (by omega)) (fun p hp => absurd hp (Nat.not_lt_zero p)) (fun h hh => by
    have := g2 h hh
    show _ = _ + (0 : Int) ∧ _ = (0 : Int) ∧ _ = (0 : Int)
    omega)
  refine ⟨A2, ?_, q1, fun p hp => q2 p (by omega), fun h hh => ?_, fun h hh => ?_, fun h hh => ?_⟩
  · unfold f_Claims_begin_109_16
    exact x1.trans x2
  · rw [(q3 h hh).1, R.smE (f := wlB A h) (fun p c => if_neg (fun z => z.1 c))]
    unfold wl
    rw [show sm 60 (wlC A (fun _ => 0) h) = 0 from sm_0 fun p _ => by unfold wlC; split <;> rfl, Int.toNat_natCast]
    omega
  · rw [(q3 h hh).2.1, R.smE (f := dpT A h) (fun p c => if_neg (fun z => z.1.1 c))]; rfl
  · rw [(q3 h hh).2.2, R.smE (f := otT A h) (fun p c => if_neg (fun z => z.1.1 c))]; rfl
theorem ex_pay (A1 Bx : hI) {p : Nat} (hp : p < 60) {s l a : Int} (hs : 0 ≤ s ∧ s ≤ 11000) (hl : 0 ≤ l ∧ l < 2147483648) (ha : 0 ≤ a ∧ a ≤ 660000) (e : A1 33 p = s) : f_Claims_shareOf_109_31_57 F (iI (p : Int)) (iI l) (iI a) (mk A1 Bx) = some (iI (pay s l a), mk A1 Bx) := by
  simp only [f_Claims_shareOf_109_31_57, f_Claims_shareOf_109_31_96]
  unfold pay
  by_cases c : l < a
  · rw [if_pos c]
    have m1 : 0 ≤ s * l := Int.mul_nonneg hs.1 hl.1
    have m2 : s * l ≤ 11000 * 660000 := Int.mul_le_mul hs.2 (by omega) hl.1 (by omega)
    have d := (pay_rg (s := s) (l := l) (a := a) hs.1 hl.1)
    unfold pay at d
    rw [if_pos c] at d
    refine (if_pos (by simp (disch := first | omega | (simp (disch := omega) only [uA_n]; done) | fail) only [iI_lit, iI_add, iI_sub, iI_mul, iI_neg, iI_lt, iI_le, iI_eq, zlt_t, zlt_f, zle_t, zle_f, zeq_t, zeq_f, nle_t, nle_f, iI_cl, rA, rS, rB, wA, wS, wB, mkp, mk2, uA_s, uA_n, ud_s, ud_n, bI_0, bI_1, nor_s, ↓reduceIte, or_false, false_or, or_true, true_or, or_self, not_true_eq_false, not_false_eq_true, and_true, true_and, and_false, false_and, bI_T, bI_F, Int.reduceToNat, Nat.reduceAdd, Nat.reduceMul, Int.reduceNeg, Option.bind_some, Int.toNat_natCast])).trans ?_
    refine (if_neg (by simp (disch := first | omega | (simp (disch := omega) only [uA_n]; done) | fail) only [iI_lit, iI_add, iI_sub, iI_mul, iI_neg, iI_lt, iI_le, iI_eq, zlt_t, zlt_f, zle_t, zle_f, zeq_t, zeq_f, nle_t, nle_f, iI_cl, rA, rS, rB, wA, wS, wB, mkp, mk2, uA_s, uA_n, ud_s, ud_n, bI_0, bI_1, nor_s, ↓reduceIte, or_false, false_or, or_true, true_or, or_self, not_true_eq_false, not_false_eq_true, and_true, true_and, and_false, false_and, bI_T, bI_F, Int.reduceToNat, Nat.reduceAdd, Nat.reduceMul, Int.reduceNeg, Option.bind_some, Int.toNat_natCast])).trans ?_
    refine (if_neg (by simp (disch := first | omega | (simp (disch := omega) only [uA_n]; done) | fail) only [iI_lit, iI_add, iI_sub, iI_mul, iI_neg, iI_lt, iI_le, iI_eq, zlt_t, zlt_f, zle_t, zle_f, zeq_t, zeq_f, nle_t, nle_f, iI_cl, rA, rS, rB, wA, wS, wB, mkp, mk2, uA_s, uA_n, ud_s, ud_n, bI_0, bI_1, nor_s, ↓reduceIte, or_false, false_or, or_true, true_or, or_self, not_true_eq_false, not_false_eq_true, and_true, true_and, and_false, false_and, bI_T, bI_F, Int.reduceToNat, Nat.reduceAdd, Nat.reduceMul, Int.reduceNeg, Option.bind_some, Int.toNat_natCast])).trans ?_
    refine (if_neg (by simp (disch := first | omega | (simp (disch := omega) only [uA_n]; done) | fail) only [iI_lit, iI_add, iI_sub, iI_mul, iI_neg, iI_lt, iI_le, iI_eq, zlt_t, zlt_f, zle_t, zle_f, zeq_t, zeq_f, nle_t, nle_f, iI_cl, rA, rS, rB, wA, wS, wB, mkp, mk2, uA_s, uA_n, ud_s, ud_n, bI_0, bI_1, nor_s, ↓reduceIte, or_false, false_or, or_true, true_or, or_self, not_true_eq_false, not_false_eq_true, and_true, true_and, and_false, false_and, bI_T, bI_F, Int.reduceToNat, Nat.reduceAdd, Nat.reduceMul, Int.reduceNeg, Option.bind_some, Int.toNat_natCast, lI_lit, iI_long, lI_eq])).trans ?_
    simp (disch := first | omega | (simp (disch := omega) only [uA_n]; done) | fail) only [iI_lit, iI_add, iI_sub, iI_mul, iI_neg, iI_lt, iI_le, iI_eq, zlt_t, zlt_f, zle_t, zle_f, zeq_t, zeq_f, nle_t, nle_f, iI_cl, rA, rS, rB, wA, wS, wB, mkp, mk2, uA_s, uA_n, ud_s, ud_n, bI_0, bI_1, nor_s, ↓reduceIte, or_false, false_or, or_true, true_or, or_self, not_true_eq_false, not_false_eq_true, and_true, true_and, and_false, false_and, bI_T, bI_F, Int.reduceToNat, Nat.reduceAdd, Nat.reduceMul, Int.reduceNeg, Option.bind_some, Int.toNat_natCast, e, lI_lit, iI_long, lI_mul, lI_div, lI_int]
  · rw [if_neg c]
    refine (if_neg (by simp (disch := first | omega | (simp (disch := omega) only [uA_n]; done) | fail) only [iI_lit, iI_add, iI_sub, iI_mul, iI_neg, iI_lt, iI_le, iI_eq, zlt_t, zlt_f, zle_t, zle_f, zeq_t, zeq_f, nle_t, nle_f, iI_cl, rA, rS, rB, wA, wS, wB, mkp, mk2, uA_s, uA_n, ud_s, ud_n, bI_0, bI_1, nor_s, ↓reduceIte, or_false, false_or, or_true, true_or, or_self, not_true_eq_false, not_false_eq_true, and_true, true_and, and_false, false_and, bI_T, bI_F, Int.reduceToNat, Nat.reduceAdd, Nat.reduceMul, Int.reduceNeg, Option.bind_some, Int.toNat_natCast])).trans ?_
    refine (if_neg (by simp (disch := first | omega | (simp (disch := omega) only [uA_n]; done) | fail) only [iI_lit, iI_add, iI_sub, iI_mul, iI_neg, iI_lt, iI_le, iI_eq, zlt_t, zlt_f, zle_t, zle_f, zeq_t, zeq_f, nle_t, nle_f, iI_cl, rA, rS, rB, wA, wS, wB, mkp, mk2, uA_s, uA_n, ud_s, ud_n, bI_0, bI_1, nor_s, ↓reduceIte, or_false, false_or, or_true, true_or, or_self, not_true_eq_false, not_false_eq_true, and_true, true_and, and_false, false_and, bI_T, bI_F, Int.reduceToNat, Nat.reduceAdd, Nat.reduceMul, Int.reduceNeg, Option.bind_some, Int.toNat_natCast])).trans ?_
    simp (disch := first | omega | (simp (disch := omega) only [uA_n]; done) | fail) only [iI_lit, iI_add, iI_sub, iI_mul, iI_neg, iI_lt, iI_le, iI_eq, zlt_t, zlt_f, zle_t, zle_f, zeq_t, zeq_f, nle_t, nle_f, iI_cl, rA, rS, rB, wA, wS, wB, mkp, mk2, uA_s, uA_n, ud_s, ud_n, bI_0, bI_1, nor_s, ↓reduceIte, or_false, false_or, or_true, true_or, or_self, not_true_eq_false, not_false_eq_true, and_true, true_and, and_false, false_and, bI_T, bI_F, Int.reduceToNat, Nat.reduceAdd, Nat.reduceMul, Int.reduceNeg, Option.bind_some, Int.toNat_natCast, e]
theorem ex_share (R : RR K D A0 B0 A B) (hK : K ≤ 1000000000) (Bx : hI) {x : Nat → Int} {A1 : hI} (hc : CS A x A1) (hx : xrg A x) {p : Nat} (hp : p < 60) (c : clm A p) : f_Claims_shareOf_109_31 F (iI (p : Int)) (mk A1 Bx) = some (iI (shr A x p), mk A1 Bx) := by
  obtain ⟨q1, q2, q3, q4, q5⟩ := hc
  have hn2 := R.gH.hn2
  have pd := R.gP.pd p hp c.1
  have ps := R.gP.ps p hp c.1
  have kr := R.kr hp
  have w := R.wlr hK hx (h := A 34 p) (by omega) (by omega)
  have cl := R.clb
  have c2 := cl.2.1 (A 34 p)
  have c3 := cl.2.2.1 (A 34 p)
  have a34 := q1 34 (by omega)
  have a32 := q1 32 (by omega)
  have a33 := q1 33 (by omega)
  have u3 := q3 (A 34 p).toNat (by omega)
  have u4 := q4 (A 34 p).toNat (by omega)
  have u5 := q5 (A 34 p).toNat (by omega)
  rw [show (((A 34 p).toNat : Nat) : Int) = A 34 p by omega] at u3 u4 u5
  unfold f_Claims_shareOf_109_31 shr
  refine (if_neg (by simp (disch := first | omega | (simp (disch := omega) only [uA_n]; done) | fail) only [iI_lit, iI_add, iI_sub, iI_mul, iI_neg, iI_lt, iI_le, iI_eq, zlt_t, zlt_f, zle_t, zle_f, zeq_t, zeq_f, nle_t, nle_f, iI_cl, rA, rS, rB, wA, wS, wB, mkp, mk2, uA_s, uA_n, ud_s, ud_n, bI_0, bI_1, nor_s, ↓reduceIte, or_false, false_or, or_true, true_or, or_self, not_true_eq_false, not_false_eq_true, and_true, true_and, and_false, false_and, bI_T, bI_F, Int.reduceToNat, Nat.reduceAdd, Nat.reduceMul, Int.reduceNeg, Option.bind_some, Int.toNat_natCast])).trans ?_
  refine (if_neg (by simp (disch := first | omega | (simp (disch := omega) only [uA_n]; done) | fail) only [iI_lit, iI_add, iI_sub, iI_mul, iI_neg, iI_lt, iI_le, iI_eq, zlt_t, zlt_f, zle_t, zle_f, zeq_t, zeq_f, nle_t, nle_f, iI_cl, rA, rS, rB, wA, wS, wB, mkp, mk2, uA_s, uA_n, ud_s, ud_n, bI_0, bI_1, nor_s, ↓reduceIte, or_false, false_or, or_true, true_or, or_self, not_true_eq_false, not_false_eq_true, and_true, true_and, and_false, false_and, bI_T, bI_F, Int.reduceToNat, Nat.reduceAdd, Nat.reduceMul, Int.reduceNeg, Option.bind_some, Int.toNat_natCast, a34])).trans ?_
  by_cases k2 : A 32 p = 2
  · rw [if_pos k2]
    refine (if_pos (by simp (disch := first | omega | (simp (disch := omega) only [uA_n]; done) | fail) only [iI_lit, iI_add, iI_sub, iI_mul, iI_neg, iI_lt, iI_le, iI_eq, zlt_t, zlt_f, zle_t, zle_f, zeq_t, zeq_f, nle_t, nle_f, iI_cl, rA, rS, rB, wA, wS, wB, mkp, mk2, uA_s, uA_n, ud_s, ud_n, bI_0, bI_1, nor_s, ↓reduceIte, or_false, false_or, or_true, true_or, or_self, not_true_eq_false, not_false_eq_true, and_true, true_and, and_false, false_and, bI_T, bI_F, Int.reduceToNat, Nat.reduceAdd, Nat.reduceMul, Int.reduceNeg, Option.bind_some, Int.toNat_natCast, a32, k2])).trans ?_
    refine Eq.trans ?_ (ex_pay F A1 Bx hp (s := A 33 p) (l := wl A x (A 34 p)) (a := dpS A (A 34 p)) (by omega) (by omega) c2 (by rw [a33]))
    simp (disch := first | omega | (simp (disch := omega) only [uA_n]; done) | fail) only [iI_lit, iI_add, iI_sub, iI_mul, iI_neg, iI_lt, iI_le, iI_eq, zlt_t, zlt_f, zle_t, zle_f, zeq_t, zeq_f, nle_t, nle_f, iI_cl, rA, rS, rB, wA, wS, wB, mkp, mk2, uA_s, uA_n, ud_s, ud_n, bI_0, bI_1, nor_s, ↓reduceIte, or_false, false_or, or_true, true_or, or_self, not_true_eq_false, not_false_eq_true, and_true, true_and, and_false, false_and, bI_T, bI_F, Int.reduceToNat, Nat.reduceAdd, Nat.reduceMul, Int.reduceNeg, Option.bind_some, Int.toNat_natCast, a34, u3, u4]
  · rw [if_neg k2]
    refine (if_neg (by simp (disch := first | omega | (simp (disch := omega) only [uA_n]; done) | fail) only [iI_lit, iI_add, iI_sub, iI_mul, iI_neg, iI_lt, iI_le, iI_eq, zlt_t, zlt_f, zle_t, zle_f, zeq_t, zeq_f, nle_t, nle_f, iI_cl, rA, rS, rB, wA, wS, wB, mkp, mk2, uA_s, uA_n, ud_s, ud_n, bI_0, bI_1, nor_s, ↓reduceIte, or_false, false_or, or_true, true_or, or_self, not_true_eq_false, not_false_eq_true, and_true, true_and, and_false, false_and, bI_T, bI_F, Int.reduceToNat, Nat.reduceAdd, Nat.reduceMul, Int.reduceNeg, Option.bind_some, Int.toNat_natCast, a32])).trans ?_
    by_cases d : wl A x (A 34 p) < dpS A (A 34 p)
    · rw [if_pos d]
      exact (if_neg (by simp (disch := first | omega | (simp (disch := omega) only [uA_n]; done) | fail) only [iI_lit, iI_add, iI_sub, iI_mul, iI_neg, iI_lt, iI_le, iI_eq, zlt_t, zlt_f, zle_t, zle_f, zeq_t, zeq_f, nle_t, nle_f, iI_cl, rA, rS, rB, wA, wS, wB, mkp, mk2, uA_s, uA_n, ud_s, ud_n, bI_0, bI_1, nor_s, ↓reduceIte, or_false, false_or, or_true, true_or, or_self, not_true_eq_false, not_false_eq_true, and_true, true_and, and_false, false_and, bI_T, bI_F, Int.reduceToNat, Nat.reduceAdd, Nat.reduceMul, Int.reduceNeg, Option.bind_some, Int.toNat_natCast, a34, u3, u4])).trans rfl
    · rw [if_neg d]
      refine (if_pos (by simp (disch := first | omega | (simp (disch := omega) only [uA_n]; done) | fail) only [iI_lit, iI_add, iI_sub, iI_mul, iI_neg, iI_lt, iI_le, iI_eq, zlt_t, zlt_f, zle_t, zle_f, zeq_t, zeq_f, nle_t, nle_f, iI_cl, rA, rS, rB, wA, wS, wB, mkp, mk2, uA_s, uA_n, ud_s, ud_n, bI_0, bI_1, nor_s, ↓reduceIte, or_false, false_or, or_true, true_or, or_self, not_true_eq_false, not_false_eq_true, and_true, true_and, and_false, false_and, bI_T, bI_F, Int.reduceToNat, Nat.reduceAdd, Nat.reduceMul, Int.reduceNeg, Option.bind_some, Int.toNat_natCast, a34, u3, u4])).trans ?_
      refine Eq.trans ?_ (ex_pay F A1 Bx hp (s := A 33 p) (l := wl A x (A 34 p) - dpS A (A 34 p)) (a := otS A (A 34 p)) (by omega) (by omega) c3 (by rw [a33]))
      simp (disch := first | omega | (simp (disch := omega) only [uA_n]; done) | fail) only [iI_lit, iI_add, iI_sub, iI_mul, iI_neg, iI_lt, iI_le, iI_eq, zlt_t, zlt_f, zle_t, zle_f, zeq_t, zeq_f, nle_t, nle_f, iI_cl, rA, rS, rB, wA, wS, wB, mkp, mk2, uA_s, uA_n, ud_s, ud_n, bI_0, bI_1, nor_s, ↓reduceIte, or_false, false_or, or_true, true_or, or_self, not_true_eq_false, not_false_eq_true, and_true, true_and, and_false, false_and, bI_T, bI_F, Int.reduceToNat, Nat.reduceAdd, Nat.reduceMul, Int.reduceNeg, Option.bind_some, Int.toNat_natCast, a34, u3, u4, u5]
theorem ex_improve (R : RR K D A0 B0 A B) (hK : K ≤ 1000000000) (Bx : hI) {x0 : Nat → Int} : ∀ (r i q : Nat) (x : Nat → Int) (f : Int) (A1 : hI), r = (A 31 15).toNat - i → i ≤ (A 31 15).toNat → r < q → CS A x A1 → xrg A x → pre A x → lef A x → ((f = 0 ∧ (∀ p, p < 60 → x p = x0 p) ∧ ∀ p, p < i → clm A p → shr A x p = x p) ∨ (f = 1 ∧ sm 60 x0 + 1 ≤ sm 60 x)) → ∃ (x' : Nat → Int) (f' : Int) (A2 : hI), f_Claims_improve_109_16_10 F q (iI f) (iI (i : Int)) (mk A1 Bx) = some (iI f', mk A2 Bx) ∧ CS A x' A2 ∧ xrg A x' ∧ pre A x' ∧ lef A x' ∧ ((f' = 0 ∧ isF A x') ∨ (f' = 1 ∧ sm 60 x0 + 1 ≤ sm 60 x')) := by
  have e1 := R.gP.pe1
  have e2 := R.gP.pe2
  have hn2 := R.gH.hn2
  intro r
  induction r with
  | zero =>
    intro i q x f A1 e hi hq hc hx h1 h2 h3
    obtain ⟨q, rfl⟩ : ∃ k, q = k + 1 := ⟨q - 1, by omega⟩
    obtain rfl : i = (A 31 15).toNat := by omega
    have a31 := hc.1 31 (by omega)
    refine ⟨x, f, A1, ?_, hc, hx, h1, h2, ?_⟩
    · rw [f_Claims_improve_109_16_10]
      refine (if_pos (by simp (disch := first | omega | (simp (disch := omega) only [uA_n]; done) | fail) only [iI_lit, iI_add, iI_sub, iI_mul, iI_neg, iI_lt, iI_le, iI_eq, zlt_t, zlt_f, zle_t, zle_f, zeq_t, zeq_f, nle_t, nle_f, iI_cl, rA, rS, rB, wA, wS, wB, mkp, mk2, uA_s, uA_n, ud_s, ud_n, bI_0, bI_1, nor_s, ↓reduceIte, or_false, false_or, or_true, true_or, or_self, not_true_eq_false, not_false_eq_true, and_true, true_and, and_false, false_and, bI_T, bI_F, Int.reduceToNat, Nat.reduceAdd, Nat.reduceMul, Int.reduceNeg, Option.bind_some, Int.toNat_natCast, a31])).trans ?_
      refine if_pos ?_
      rcases h3 with z | z
      · rw [z.1]; exact Or.inl rfl
      · rw [z.1]; exact Or.inr rfl
    · rcases h3 with ⟨z1, z2, z3⟩ | z
      · refine Or.inl ⟨z1, fun p hp c => z3 p ?_ c⟩
        refine Decidable.byContradiction fun y => c.1 (R.endf hp (by omega)).1
      · exact Or.inr z
  | succ r ih =>
    intro i q x f A1 e hi hq hc hx h1 h2 h3
    obtain ⟨q, rfl⟩ : ∃ k, q = k + 1 := ⟨q - 1, by omega⟩
    have a31 := hc.1 31 (by omega)
    have a32 := hc.1 32 (by omega)
    have a34 := hc.1 34 (by omega)
    have a35 := hc.1 35 (by omega)
    have kr := R.kr (p := i) (by omega)
    have nx : (¬ clm A i ∨ shr A x i = x i) → ((f = 0 ∧ (∀ p, p < 60 → x p = x0 p) ∧ ∀ p, p < i + 1 → clm A p → shr A x p = x p) ∨ (f = 1 ∧ sm 60 x0 + 1 ≤ sm 60 x)) := fun y => by
      rcases h3 with ⟨z1, z2, z3⟩ | z
      · refine Or.inl ⟨z1, z2, fun p hp c => ?_⟩
        by_cases w : p = i
        · subst w
          rcases y with y | y
          · exact absurd c y
          · exact y
        · exact z3 p (by omega) c
      · exact Or.inr z
    rw [f_Claims_improve_109_16_10]
    simp only [f_Claims_improve_109_16_104]
    by_cases c : A 32 i = -1
    · obtain ⟨x', f', A2, y, z⟩ := ih (i + 1) q x f A1 (by omega) (by omega) (by omega) hc hx h1 h2 (nx (Or.inl fun z => z.1 c))
      refine ⟨x', f', A2, Eq.trans ?_ y, z⟩
      refine (if_neg (by simp (disch := first | omega | (simp (disch := omega) only [uA_n]; done) | fail) only [iI_lit, iI_add, iI_sub, iI_mul, iI_neg, iI_lt, iI_le, iI_eq, zlt_t, zlt_f, zle_t, zle_f, zeq_t, zeq_f, nle_t, nle_f, iI_cl, rA, rS, rB, wA, wS, wB, mkp, mk2, uA_s, uA_n, ud_s, ud_n, bI_0, bI_1, nor_s, ↓reduceIte, or_false, false_or, or_true, true_or, or_self, not_true_eq_false, not_false_eq_true, and_true, true_and, and_false, false_and, bI_T, bI_F, Int.reduceToNat, Nat.reduceAdd, Nat.reduceMul, Int.reduceNeg, Option.bind_some, Int.toNat_natCast, a31])).trans ?_
      refine (if_neg (by simp (disch := first | omega | (simp (disch := omega) only [uA_n]; done) | fail) only [iI_lit, iI_add, iI_sub, iI_mul, iI_neg, iI_lt, iI_le, iI_eq, zlt_t, zlt_f, zle_t, zle_f, zeq_t, zeq_f, nle_t, nle_f, iI_cl, rA, rS, rB, wA, wS, wB, mkp, mk2, uA_s, uA_n, ud_s, ud_n, bI_0, bI_1, nor_s, ↓reduceIte, or_false, false_or, or_true, true_or, or_self, not_true_eq_false, not_false_eq_true, and_true, true_and, and_false, false_and, bI_T, bI_F, Int.reduceToNat, Nat.reduceAdd, Nat.reduceMul, Int.reduceNeg, Option.bind_some, Int.toNat_natCast])).trans ?_
      refine (if_pos (by simp (disch := first | omega | (simp (disch := omega) only [uA_n]; done) | fail) only [iI_lit, iI_add, iI_sub, iI_mul, iI_neg, iI_lt, iI_le, iI_eq, zlt_t, zlt_f, zle_t, zle_f, zeq_t, zeq_f, nle_t, nle_f, iI_cl, rA, rS, rB, wA, wS, wB, mkp, mk2, uA_s, uA_n, ud_s, ud_n, bI_0, bI_1, nor_s, ↓reduceIte, or_false, false_or, or_true, true_or, or_self, not_true_eq_false, not_false_eq_true, and_true, true_and, and_false, false_and, bI_T, bI_F, Int.reduceToNat, Nat.reduceAdd, Nat.reduceMul, Int.reduceNeg, Option.bind_some, Int.toNat_natCast, a32, c])).trans ?_
      rw [← iI_s]; rfl
    · have pd := R.gP.pd i (by omega) c
      have ph := R.gP.ph i (by omega) c
      have ps := R.gP.ps i (by omega) c
      have xu := ex_isUp F (R.cs hc.1) Bx (A 34 i) (by omega) (by rw [hc.1 19 (by omega)]; omega)
      rw [hc.1 27 (by omega)] at xu
      by_cases d : A 27 (A 34 i).toNat = -1
      · rw [bI_t d] at xu
        obtain ⟨x', f', A2, y, z⟩ := ih (i + 1) q x f A1 (by omega) (by omega) (by omega) hc hx h1 h2 (nx (Or.inl fun z => z.2 d))
        refine ⟨x', f', A2, Eq.trans ?_ y, z⟩
        refine (if_neg (by simp (disch := first | omega | (simp (disch := omega) only [uA_n]; done) | fail) only [iI_lit, iI_add, iI_sub, iI_mul, iI_neg, iI_lt, iI_le, iI_eq, zlt_t, zlt_f, zle_t, zle_f, zeq_t, zeq_f, nle_t, nle_f, iI_cl, rA, rS, rB, wA, wS, wB, mkp, mk2, uA_s, uA_n, ud_s, ud_n, bI_0, bI_1, nor_s, ↓reduceIte, or_false, false_or, or_true, true_or, or_self, not_true_eq_false, not_false_eq_true, and_true, true_and, and_false, false_and, bI_T, bI_F, Int.reduceToNat, Nat.reduceAdd, Nat.reduceMul, Int.reduceNeg, Option.bind_some, Int.toNat_natCast, a31])).trans ?_
        refine (if_neg (by simp (disch := first | omega | (simp (disch := omega) only [uA_n]; done) | fail) only [iI_lit, iI_add, iI_sub, iI_mul, iI_neg, iI_lt, iI_le, iI_eq, zlt_t, zlt_f, zle_t, zle_f, zeq_t, zeq_f, nle_t, nle_f, iI_cl, rA, rS, rB, wA, wS, wB, mkp, mk2, uA_s, uA_n, ud_s, ud_n, bI_0, bI_1, nor_s, ↓reduceIte, or_false, false_or, or_true, true_or, or_self, not_true_eq_false, not_false_eq_true, and_true, true_and, and_false, false_and, bI_T, bI_F, Int.reduceToNat, Nat.reduceAdd, Nat.reduceMul, Int.reduceNeg, Option.bind_some, Int.toNat_natCast])).trans ?_
        refine (if_neg (by simp (disch := first | omega | (simp (disch := omega) only [uA_n]; done) | fail) only [iI_lit, iI_add, iI_sub, iI_mul, iI_neg, iI_lt, iI_le, iI_eq, zlt_t, zlt_f, zle_t, zle_f, zeq_t, zeq_f, nle_t, nle_f, iI_cl, rA, rS, rB, wA, wS, wB, mkp, mk2, uA_s, uA_n, ud_s, ud_n, bI_0, bI_1, nor_s, ↓reduceIte, or_false, false_or, or_true, true_or, or_self, not_true_eq_false, not_false_eq_true, and_true, true_and, and_false, false_and, bI_T, bI_F, Int.reduceToNat, Nat.reduceAdd, Nat.reduceMul, Int.reduceNeg, Option.bind_some, Int.toNat_natCast, a32])).trans ?_
        refine obd (v := (iI 1, mk A1 Bx)) (by simp (disch := first | omega | (simp (disch := omega) only [uA_n]; done) | fail) only [iI_lit, iI_add, iI_sub, iI_mul, iI_neg, iI_lt, iI_le, iI_eq, zlt_t, zlt_f, zle_t, zle_f, zeq_t, zeq_f, nle_t, nle_f, iI_cl, rA, rS, rB, wA, wS, wB, mkp, mk2, uA_s, uA_n, ud_s, ud_n, bI_0, bI_1, nor_s, ↓reduceIte, or_false, false_or, or_true, true_or, or_self, not_true_eq_false, not_false_eq_true, and_true, true_and, and_false, false_and, bI_T, bI_F, Int.reduceToNat, Nat.reduceAdd, Nat.reduceMul, Int.reduceNeg, Option.bind_some, Int.toNat_natCast, a34, xu]) ?_
        refine (if_neg i1n0).trans ?_
        rw [← iI_s]; rfl
      · rw [bI_f d] at xu
        have cl : clm A i := ⟨c, d⟩
        have xs := ex_share F R hK Bx hc hx (p := i) (by omega) cl
        have sr := R.shr_rg hK hx (p := i) (by omega) cl
        have xi := (hx i (by omega)).1 cl
        have a110 := hc.2.1 i (by omega)
        by_cases g : shr A x i = x i
        · obtain ⟨x', f', A2, y, z⟩ := ih (i + 1) q x f A1 (by omega) (by omega) (by omega) hc hx h1 h2 (nx (Or.inr g))
          refine ⟨x', f', A2, Eq.trans ?_ y, z⟩
          refine (if_neg (by simp (disch := first | omega | (simp (disch := omega) only [uA_n]; done) | fail) only [iI_lit, iI_add, iI_sub, iI_mul, iI_neg, iI_lt, iI_le, iI_eq, zlt_t, zlt_f, zle_t, zle_f, zeq_t, zeq_f, nle_t, nle_f, iI_cl, rA, rS, rB, wA, wS, wB, mkp, mk2, uA_s, uA_n, ud_s, ud_n, bI_0, bI_1, nor_s, ↓reduceIte, or_false, false_or, or_true, true_or, or_self, not_true_eq_false, not_false_eq_true, and_true, true_and, and_false, false_and, bI_T, bI_F, Int.reduceToNat, Nat.reduceAdd, Nat.reduceMul, Int.reduceNeg, Option.bind_some, Int.toNat_natCast, a31])).trans ?_
          refine (if_neg (by simp (disch := first | omega | (simp (disch := omega) only [uA_n]; done) | fail) only [iI_lit, iI_add, iI_sub, iI_mul, iI_neg, iI_lt, iI_le, iI_eq, zlt_t, zlt_f, zle_t, zle_f, zeq_t, zeq_f, nle_t, nle_f, iI_cl, rA, rS, rB, wA, wS, wB, mkp, mk2, uA_s, uA_n, ud_s, ud_n, bI_0, bI_1, nor_s, ↓reduceIte, or_false, false_or, or_true, true_or, or_self, not_true_eq_false, not_false_eq_true, and_true, true_and, and_false, false_and, bI_T, bI_F, Int.reduceToNat, Nat.reduceAdd, Nat.reduceMul, Int.reduceNeg, Option.bind_some, Int.toNat_natCast])).trans ?_
          refine (if_neg (by simp (disch := first | omega | (simp (disch := omega) only [uA_n]; done) | fail) only [iI_lit, iI_add, iI_sub, iI_mul, iI_neg, iI_lt, iI_le, iI_eq, zlt_t, zlt_f, zle_t, zle_f, zeq_t, zeq_f, nle_t, nle_f, iI_cl, rA, rS, rB, wA, wS, wB, mkp, mk2, uA_s, uA_n, ud_s, ud_n, bI_0, bI_1, nor_s, ↓reduceIte, or_false, false_or, or_true, true_or, or_self, not_true_eq_false, not_false_eq_true, and_true, true_and, and_false, false_and, bI_T, bI_F, Int.reduceToNat, Nat.reduceAdd, Nat.reduceMul, Int.reduceNeg, Option.bind_some, Int.toNat_natCast, a32])).trans ?_
          refine obd (v := (iI 0, mk A1 Bx)) (by simp (disch := first | omega | (simp (disch := omega) only [uA_n]; done) | fail) only [iI_lit, iI_add, iI_sub, iI_mul, iI_neg, iI_lt, iI_le, iI_eq, zlt_t, zlt_f, zle_t, zle_f, zeq_t, zeq_f, nle_t, nle_f, iI_cl, rA, rS, rB, wA, wS, wB, mkp, mk2, uA_s, uA_n, ud_s, ud_n, bI_0, bI_1, nor_s, ↓reduceIte, or_false, false_or, or_true, true_or, or_self, not_true_eq_false, not_false_eq_true, and_true, true_and, and_false, false_and, bI_T, bI_F, Int.reduceToNat, Nat.reduceAdd, Nat.reduceMul, Int.reduceNeg, Option.bind_some, Int.toNat_natCast, a34, xu]) ?_
          refine (if_pos rfl).trans ?_
          refine obd xs ?_
          refine (if_pos (by simp (disch := first | omega | (simp (disch := omega) only [uA_n]; done) | fail) only [iI_lit, iI_add, iI_sub, iI_mul, iI_neg, iI_lt, iI_le, iI_eq, zlt_t, zlt_f, zle_t, zle_f, zeq_t, zeq_f, nle_t, nle_f, iI_cl, rA, rS, rB, wA, wS, wB, mkp, mk2, uA_s, uA_n, ud_s, ud_n, bI_0, bI_1, nor_s, ↓reduceIte, or_false, false_or, or_true, true_or, or_self, not_true_eq_false, not_false_eq_true, and_true, true_and, and_false, false_and, bI_T, bI_F, Int.reduceToNat, Nat.reduceAdd, Nat.reduceMul, Int.reduceNeg, Option.bind_some, Int.toNat_natCast, a110, g])).trans ?_
          rw [← iI_s]; rfl
        · obtain ⟨s1, s2, s3, s4⟩ := R.shr_st hK hx h1 h2 (p := i) (by omega) cl
          have wlu := wl_ud (A := A) (x := x) (p := i) (by omega) cl (shr A x i)
          obtain ⟨q1, q2, q3, q4, q5⟩ := hc
          have cs2 : CS A (ud x i (shr A x i)) (uA (uA A1 111 (A 35 i).toNat (A1 111 (A 35 i).toNat + (shr A x i - x i))) 110 i (shr A x i)) := by
            refine ⟨fun k hk => by rw [uA_n (by omega), uA_n (by omega)]; exact q1 k hk, fun p hp => ?_, fun h hh => ?_, fun h hh => by rw [uA_n (by omega), uA_n (by omega)]; exact q4 h hh, fun h hh => by rw [uA_n (by omega), uA_n (by omega)]; exact q5 h hh⟩
            · rw [uA_s, uA_n (by omega)]
              by_cases z : p = i
              · subst z; rw [ud_s, ud_s]
              · rw [ud_n z, ud_n z]; exact q2 p hp
            · rw [uA_n (by omega), uA_s, wlu]
              by_cases z : h = (A 35 i).toNat
              · rw [z, ud_s, q3 _ (by omega), if_pos (by omega)]
              · rw [ud_n z, q3 h hh, if_neg (by omega)]
          have sum1 : sm 60 (ud x i (shr A x i)) = sm 60 x - x i + shr A x i := sm_ud (by omega)
          have pi := h1 i (by omega) cl
          obtain ⟨x', f', A2, y, z⟩ := ih (i + 1) q (ud x i (shr A x i)) 1 _ (by omega) (by omega) (by omega) cs2 s1 s2 s3 (Or.inr ⟨rfl, by
            rcases h3 with ⟨z1, z2, z3⟩ | z
            · rw [sum1, sm_c (f := x) (g := x0) z2]; omega
            · omega⟩)
          refine ⟨x', f', A2, Eq.trans ?_ y, z⟩
          refine (if_neg (by simp (disch := first | omega | (simp (disch := omega) only [uA_n]; done) | fail) only [iI_lit, iI_add, iI_sub, iI_mul, iI_neg, iI_lt, iI_le, iI_eq, zlt_t, zlt_f, zle_t, zle_f, zeq_t, zeq_f, nle_t, nle_f, iI_cl, rA, rS, rB, wA, wS, wB, mkp, mk2, uA_s, uA_n, ud_s, ud_n, bI_0, bI_1, nor_s, ↓reduceIte, or_false, false_or, or_true, true_or, or_self, not_true_eq_false, not_false_eq_true, and_true, true_and, and_false, false_and, bI_T, bI_F, Int.reduceToNat, Nat.reduceAdd, Nat.reduceMul, Int.reduceNeg, Option.bind_some, Int.toNat_natCast, a31])).trans ?_
          refine (if_neg (by simp (disch := first | omega | (simp (disch := omega) only [uA_n]; done) | fail) only [iI_lit, iI_add, iI_sub, iI_mul, iI_neg, iI_lt, iI_le, iI_eq, zlt_t, zlt_f, zle_t, zle_f, zeq_t, zeq_f, nle_t, nle_f, iI_cl, rA, rS, rB, wA, wS, wB, mkp, mk2, uA_s, uA_n, ud_s, ud_n, bI_0, bI_1, nor_s, ↓reduceIte, or_false, false_or, or_true, true_or, or_self, not_true_eq_false, not_false_eq_true, and_true, true_and, and_false, false_and, bI_T, bI_F, Int.reduceToNat, Nat.reduceAdd, Nat.reduceMul, Int.reduceNeg, Option.bind_some, Int.toNat_natCast])).trans ?_
          refine (if_neg (by simp (disch := first | omega | (simp (disch := omega) only [uA_n]; done) | fail) only [iI_lit, iI_add, iI_sub, iI_mul, iI_neg, iI_lt, iI_le, iI_eq, zlt_t, zlt_f, zle_t, zle_f, zeq_t, zeq_f, nle_t, nle_f, iI_cl, rA, rS, rB, wA, wS, wB, mkp, mk2, uA_s, uA_n, ud_s, ud_n, bI_0, bI_1, nor_s, ↓reduceIte, or_false, false_or, or_true, true_or, or_self, not_true_eq_false, not_false_eq_true, and_true, true_and, and_false, false_and, bI_T, bI_F, Int.reduceToNat, Nat.reduceAdd, Nat.reduceMul, Int.reduceNeg, Option.bind_some, Int.toNat_natCast, a32])).trans ?_
          refine obd (v := (iI 0, mk A1 Bx)) (by simp (disch := first | omega | (simp (disch := omega) only [uA_n]; done) | fail) only [iI_lit, iI_add, iI_sub, iI_mul, iI_neg, iI_lt, iI_le, iI_eq, zlt_t, zlt_f, zle_t, zle_f, zeq_t, zeq_f, nle_t, nle_f, iI_cl, rA, rS, rB, wA, wS, wB, mkp, mk2, uA_s, uA_n, ud_s, ud_n, bI_0, bI_1, nor_s, ↓reduceIte, or_false, false_or, or_true, true_or, or_self, not_true_eq_false, not_false_eq_true, and_true, true_and, and_false, false_and, bI_T, bI_F, Int.reduceToNat, Nat.reduceAdd, Nat.reduceMul, Int.reduceNeg, Option.bind_some, Int.toNat_natCast, a34, xu]) ?_
          refine (if_pos rfl).trans ?_
          refine obd xs ?_
          refine (if_neg (by simp (disch := first | omega | (simp (disch := omega) only [uA_n]; done) | fail) only [iI_lit, iI_add, iI_sub, iI_mul, iI_neg, iI_lt, iI_le, iI_eq, zlt_t, zlt_f, zle_t, zle_f, zeq_t, zeq_f, nle_t, nle_f, iI_cl, rA, rS, rB, wA, wS, wB, mkp, mk2, uA_s, uA_n, ud_s, ud_n, bI_0, bI_1, nor_s, ↓reduceIte, or_false, false_or, or_true, true_or, or_self, not_true_eq_false, not_false_eq_true, and_true, true_and, and_false, false_and, bI_T, bI_F, Int.reduceToNat, Nat.reduceAdd, Nat.reduceMul, Int.reduceNeg, Option.bind_some, Int.toNat_natCast, a110])).trans ?_
          refine (if_neg (by simp (disch := first | omega | (simp (disch := omega) only [uA_n]; done) | fail) only [iI_lit, iI_add, iI_sub, iI_mul, iI_neg, iI_lt, iI_le, iI_eq, zlt_t, zlt_f, zle_t, zle_f, zeq_t, zeq_f, nle_t, nle_f, iI_cl, rA, rS, rB, wA, wS, wB, mkp, mk2, uA_s, uA_n, ud_s, ud_n, bI_0, bI_1, nor_s, ↓reduceIte, or_false, false_or, or_true, true_or, or_self, not_true_eq_false, not_false_eq_true, and_true, true_and, and_false, false_and, bI_T, bI_F, Int.reduceToNat, Nat.reduceAdd, Nat.reduceMul, Int.reduceNeg, Option.bind_some, Int.toNat_natCast, a35])).trans ?_
          rw [← iI_s]
          simp (disch := first | omega | (simp (disch := omega) only [uA_n]; done) | fail) only [iI_lit, iI_add, iI_sub, iI_mul, iI_neg, iI_lt, iI_le, iI_eq, zlt_t, zlt_f, zle_t, zle_f, zeq_t, zeq_f, nle_t, nle_f, iI_cl, rA, rS, rB, wA, wS, wB, mkp, mk2, uA_s, uA_n, ud_s, ud_n, bI_0, bI_1, nor_s, ↓reduceIte, or_false, false_or, or_true, true_or, or_self, not_true_eq_false, not_false_eq_true, and_true, true_and, and_false, false_and, bI_T, bI_F, Int.reduceToNat, Nat.reduceAdd, Nat.reduceMul, Int.reduceNeg, Option.bind_some, Int.toNat_natCast, a35, a110]
theorem ex_outer (R : RR K D A0 B0 A B) (hK : K ≤ 1000000000) (hF : 1000 ≤ F) (Bx : hI) : ∀ (r q : Nat) (v : Nat) (x : Nat → Int) (A1 : hI), 660001 ≤ sm 60 x + r → r + 1 < q → (v : Int) ≤ sm 60 x → CS A x A1 → xrg A x → pre A x → lef A x → ∃ (x' : Nat → Int) (A2 : hI), f_Claims_shareOut_109_16_9 F q 1 (iI (v : Int)) (mk A1 Bx) = some ((), mk A2 Bx) ∧ CS A x' A2 ∧ isMu A x' := by
  have e1 := R.gP.pe1
  have e2 := R.gP.pe2
  intro r
  induction r with
  | zero =>
    intro q v x A1 hr hq hv hc hx h1 h2
    have := xrg_sum R hx
    omega
  | succ r ih =>
    intro q v x A1 hr hq hv hc hx h1 h2
    obtain ⟨q, rfl⟩ : ∃ k, q = k + 2 := ⟨q - 2, by omega⟩
    have s1 := xrg_sum R hx
    obtain ⟨x', f', A2, y, c2, x2, p2, l2, z⟩ := ex_improve F R hK Bx (x0 := x) (A 31 15).toNat 0 F x 0 A1 (by omega) (Nat.zero_le _) (by omega) hc hx h1 h2 (Or.inl ⟨rfl, fun _ _ => rfl, fun p hp => absurd hp (Nat.not_lt_zero p)⟩)
    have y1 : f_Claims_improve_109_16 F (mk A1 Bx) = some (iI f', mk A2 Bx) := y
    have fst : f_Claims_shareOut_109_16_9 F (q + 1 + 1) 1 (iI (v : Int)) (mk A1 Bx) = f_Claims_shareOut_109_16_9 F (q + 1) (iI f') (iI ((v + 1 : Nat) : Int)) (mk A2 Bx) := by
      rw [f_Claims_shareOut_109_16_9]
      refine (if_neg (by simp (disch := first | omega | (simp (disch := omega) only [uA_n]; done) | fail) only [iI_lit, iI_add, iI_sub, iI_mul, iI_neg, iI_lt, iI_le, iI_eq, zlt_t, zlt_f, zle_t, zle_f, zeq_t, zeq_f, nle_t, nle_f, iI_cl, rA, rS, rB, wA, wS, wB, mkp, mk2, uA_s, uA_n, ud_s, ud_n, bI_0, bI_1, nor_s, ↓reduceIte, or_false, false_or, or_true, true_or, or_self, not_true_eq_false, not_false_eq_true, and_true, true_and, and_false, false_and, bI_T, bI_F, Int.reduceToNat, Nat.reduceAdd, Nat.reduceMul, Int.reduceNeg, Option.bind_some, Int.toNat_natCast])).trans ?_
      refine (if_neg (by decide)).trans ?_
      refine obd y1 ?_
      rw [← iI_s]; rfl
    rw [fst]
    rcases z with ⟨z1, z2⟩ | ⟨z1, z2⟩
    · refine ⟨x', A2, ?_, c2, x2, z2, l2⟩
      rw [z1, f_Claims_shareOut_109_16_9]
      unfold f_Claims_shareOut_109_16_31
      by_cases w : (1000000 : Int32) ≤ iI ((v + 1 : Nat) : Int)
      · exact if_pos w
      · refine (if_neg w).trans ?_
        exact if_pos rfl
    · have s2 := xrg_sum R x2
      obtain ⟨x3, A3, y3, w⟩ := ih (q + 1) (v + 1) x' A2 (by omega) (by omega) (by omega) c2 x2 p2 l2
      refine ⟨x3, A3, ?_, w⟩
      rw [z1]
      exact y3
theorem ex_shareOut (R : RR K D A0 B0 A B) (hK : K ≤ 1000000000) (hF : 700000 ≤ F) (Bx : hI) : ∃ (x : Nat → Int) (A1 : hI), f_Claims_shareOut_109_16 F (mk A Bx) = some ((), mk A1 Bx) ∧ CS A x A1 ∧ isMu A x := by
  obtain ⟨A1, x1, c1⟩ := ex_begin F R (by omega) Bx
  obtain ⟨z1, z2, z3⟩ := zero_st R hK
  have s0 : sm 60 (fun _ => (0 : Int)) = 0 := sm_0 fun _ _ => rfl
  obtain ⟨x, A2, y, c2, m⟩ := ex_outer F R hK (by omega) Bx 660001 F 0 (fun _ => 0) A1 (by omega) (by omega) (by omega) c1 z1 z2 z3
  refine ⟨x, A2, ?_, c2, m⟩
  unfold f_Claims_shareOut_109_16
  exact obd x1 y
end XCLM
