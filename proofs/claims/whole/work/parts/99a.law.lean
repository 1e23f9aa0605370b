/-! THE LAW: which text says, and what; the class -/
def txL (B : hI) (x : Nat) : Nat := (B 603 x).toNat
abbrev tfc (A B : hI) (bill key : Int) (x : Nat) : Prop := A 9 x = key ∧ A 10 x ≤ A 16 9 ∧ A 16 9 < A 11 x ∧ thd (fct A bill) (xby B x) (txL B x)
def tin (A B : hI) (bill key : Int) : Nat → Int
  | 0 => -1
  | n + 1 => if tfc A B bill key n then (n : Int) else tin A B bill key n
theorem tin_rg (A B : hI) (bill key : Int) : ∀ n : Nat, -1 ≤ tin A B bill key n ∧ tin A B bill key n < n := by
  intro n
  induction n with
  | zero => exact ⟨Int.le_refl _, show (-1 : Int) < 0 by decide⟩
  | succ n ih =>
    unfold tin
    split <;> omega
def dfl (A : hI) (key : Int) : Int := if key = 0 then A 22 0 else if key = 1 then A 16 10 else if key = 2 then 1 else if key = 5 then 63 else 0
def tsy (A B : hI) (bill : Int) (x : Nat) : Int32 := tv1 (fct A bill) (xby B x) (txL B x)
def twh (A B : hI) (bill key : Int) : Int := tin A B bill key (A 16 14).toNat
def say (A B : hI) (bill key : Int) : Int32 := if twh A B bill key = -1 then iI (dfl A key) else tsy A B bill (twh A B bill key).toNat
theorem fct_c {A A' : hI} (h : ∀ k : Nat, (16 ≤ k ∧ k < 54) ∨ k = 55 → A' k = A k) (bill : Int) (i : Nat) : fct A' bill i = fct A bill i := by
  unfold fct
  rw [h 22 (by omega), h 55 (by omega), h 16 (by omega), h 33 (by omega), h 36 (by omega), h 39 (by omega), h 34 (by omega), h 21 (by omega)]
theorem tfc_c {A A' B B' : hI} (h : ∀ k : Nat, (9 ≤ k ∧ k ≤ 14) ∨ (16 ≤ k ∧ k < 54) ∨ k = 55 → A' k = A k) (hB : ∀ k : Nat, 600 ≤ k → k < 724 → B' k = B k) (bill key : Int) (x : Nat) : tfc A' B' bill key x ↔ tfc A B bill key x := by
  have e1 : xby B' x = xby B x := by funext i; unfold xby; split; · rw [hB _ (by omega) (by omega)]
                                     · rfl
  have e2 : txL B' x = txL B x := by unfold txL; rw [hB _ (by omega) (by omega)]
  have e3 : fct A' bill = fct A bill := funext fun i => fct_c (fun k hk => h k (by omega)) bill i
  unfold tfc
  rw [e1, e2, e3, h 9 (by omega), h 10 (by omega), h 11 (by omega), h 16 (by omega)]
theorem tin_c {A A' B B' : hI} (h : ∀ k : Nat, (9 ≤ k ∧ k ≤ 14) ∨ (16 ≤ k ∧ k < 54) ∨ k = 55 → A' k = A k) (hB : ∀ k : Nat, 600 ≤ k → k < 724 → B' k = B k) (bill key : Int) (n : Nat) : tin A' B' bill key n = tin A B bill key n := by
  induction n with
  | zero => rfl
  | succ n ih =>
    unfold tin
    have := tfc_c h hB bill key n
    by_cases hc : tfc A B bill key n
    · rw [if_pos hc, if_pos (this.mpr hc)]
    · rw [if_neg hc, if_neg (fun z => hc (this.mp z)), ih]
theorem twh_c {A A' B B' : hI} (h : ∀ k : Nat, (9 ≤ k ∧ k ≤ 14) ∨ (16 ≤ k ∧ k < 54) ∨ k = 55 → A' k = A k) (hB : ∀ k : Nat, 600 ≤ k → k < 724 → B' k = B k) (bill key : Int) : twh A' B' bill key = twh A B bill key := by
  unfold twh
  rw [h 16 (by omega), tin_c h hB]
theorem say_c {A A' B B' : hI} (h : ∀ k : Nat, (9 ≤ k ∧ k ≤ 14) ∨ (16 ≤ k ∧ k < 54) ∨ k = 55 → A' k = A k) (hB : ∀ k : Nat, 600 ≤ k → k < 724 → B' k = B k) (bill key : Int) : say A' B' bill key = say A B bill key := by
  have e3 : fct A' bill = fct A bill := funext fun i => fct_c (fun k hk => h k (by omega)) bill i
  have e1 : ∀ x, xby B' x = xby B x := fun x => by funext i; unfold xby; split; · rw [hB _ (by omega) (by omega)]
                                                   · rfl
  have e2 : ∀ x, txL B' x = txL B x := fun x => by unfold txL; rw [hB _ (by omega) (by omega)]
  unfold say
  rw [twh_c h hB]
  unfold dfl tsy
  rw [e1, e2, e3, h 22 (by omega), h 16 (by omega)]
section LAW
variable {K D : Int} {A0 B0 A B : hI} (F : Nat)
theorem ex_gather (R : RR K D A0 B0 A B) (hK : K ≤ 1000000000) (Bx : hI) {bill : Int} (hbill : bill = -1 ∨ (0 ≤ bill ∧ bill < 60 ∧ A 32 bill.toNat ≠ -1)) : ∃ A' : hI, f_World_gatherFacts F (iI bill) (mk A Bx) = some ((), mk A' Bx) ∧ (∀ i, i < 10 → A' 54 i = fct A bill i) ∧ ∀ k : Nat, k ≠ 54 → A' k = A k := by
  have gl := R.gle (h := 0) (by have := R.gH.hn1; omega)
  have hd1 := R.gD.dd1
  have hd2 := R.gD.dd2
  have hn2 := R.gH.hn2
  have hr1 := R.gD.dr1
  have hr2 := R.gD.dr2
  have ho := R.out.1
  have ip := ex_isPaper F R Bx bill (by omega) (by omega)
  have e9 : A 16 9 / 7 = A 16 9 / 7 := rfl
  simp only [f_World_gatherFacts, f_World_gatherFacts_40, f_World_gatherFacts_73, f_World_gatherFacts_106, f_World_gatherFacts_135, f_World_gatherFacts_159, f_World_gatherFacts_191]
  generalize hA1 : uA (uA A 54 0 (A 22 0)) 54 1 (10 * A 55 9) = A1
  have a1 : ∀ k : Nat, k ≠ 54 → A1 k = A k := fun k hk => by rw [← hA1, uA_n hk, uA_n hk]
  have R1 : RR K D A0 B0 A1 B := R.xA (fun k _ _ h3 => a1 k h3)
  have er := ex_reserve F R1 hK Bx
  rw [a1 22 (by omega), a1 55 (by omega)] at er
  have h0 : A1 54 0 = A 22 0 := by rw [← hA1]; simp (disch := first | omega | (simp (disch := omega) only [uA_n]; done) | fail) only [iI_lit, iI_add, iI_sub, iI_mul, iI_neg, iI_lt, iI_le, iI_eq, zlt_t, zlt_f, zle_t, zle_f, zeq_t, zeq_f, nle_t, nle_f, iI_cl, rA, rS, rB, wA, wS, wB, mkp, mk2, uA_s, uA_n, ud_s, ud_n, bI_0, bI_1, nor_s, ↓reduceIte, or_false, false_or, or_true, true_or, or_self, not_true_eq_false, not_false_eq_true, and_true, true_and, and_false, false_and, bI_T, bI_F, Int.reduceToNat, Nat.reduceAdd, Nat.reduceMul, Int.reduceNeg, Option.bind_some, Int.toNat_natCast]
  have h1 : A1 54 1 = 10 * A 55 9 := by rw [← hA1]; simp (disch := first | omega | (simp (disch := omega) only [uA_n]; done) | fail) only [iI_lit, iI_add, iI_sub, iI_mul, iI_neg, iI_lt, iI_le, iI_eq, zlt_t, zlt_f, zle_t, zle_f, zeq_t, zeq_f, nle_t, nle_f, iI_cl, rA, rS, rB, wA, wS, wB, mkp, mk2, uA_s, uA_n, ud_s, ud_n, bI_0, bI_1, nor_s, ↓reduceIte, or_false, false_or, or_true, true_or, or_self, not_true_eq_false, not_false_eq_true, and_true, true_and, and_false, false_and, bI_T, bI_F, Int.reduceToNat, Nat.reduceAdd, Nat.reduceMul, Int.reduceNeg, Option.bind_some, Int.toNat_natCast]
  rcases hbill with rfl | hbill
  · rw [bI_f (by omega)] at ip
    refine ⟨uA (uA (uA (uA (uA (uA (uA (uA A1 54 2 (rsv (A 22 0) (10 * A 55 9))) 54 3 (A 16 9 / 7)) 54 4 (A 16 9)) 54 5 (A 16 10)) 54 6 0) 54 7 0) 54 8 0) 54 9 0, ?_, ?_, fun k hk => by rw [uA_n hk, uA_n hk, uA_n hk, uA_n hk, uA_n hk, uA_n hk, uA_n hk, uA_n hk, a1 k hk]⟩
    · simp (disch := first | omega | (simp (disch := omega) only [uA_n]; done) | fail) only [iI_lit, iI_add, iI_sub, iI_mul, iI_neg, iI_lt, iI_le, iI_eq, zlt_t, zlt_f, zle_t, zle_f, zeq_t, zeq_f, nle_t, nle_f, iI_cl, rA, rS, rB, wA, wS, wB, mkp, mk2, uA_s, uA_n, ud_s, ud_n, bI_0, bI_1, nor_s, ↓reduceIte, or_false, false_or, or_true, true_or, or_self, not_true_eq_false, not_false_eq_true, and_true, true_and, and_false, false_and, bI_T, bI_F, Int.reduceToNat, Nat.reduceAdd, Nat.reduceMul, Int.reduceNeg, Option.bind_some, Int.toNat_natCast, ↓bind_of ip, hA1, ↓bind_of er, iI_div, a1]
    · intro i hi
      rcases (show i = 0 ∨ i = 1 ∨ i = 2 ∨ i = 3 ∨ i = 4 ∨ i = 5 ∨ i = 6 ∨ i = 7 ∨ i = 8 ∨ i = 9 by omega) with rfl | rfl | rfl | rfl | rfl | rfl | rfl | rfl | rfl | rfl <;> (simp (disch := first | omega | (simp (disch := omega) only [uA_n]; done) | fail) only [iI_lit, iI_add, iI_sub, iI_mul, iI_neg, iI_lt, iI_le, iI_eq, zlt_t, zlt_f, zle_t, zle_f, zeq_t, zeq_f, nle_t, nle_f, iI_cl, rA, rS, rB, wA, wS, wB, mkp, mk2, uA_s, uA_n, ud_s, ud_n, bI_0, bI_1, nor_s, ↓reduceIte, or_false, false_or, or_true, true_or, or_self, not_true_eq_false, not_false_eq_true, and_true, true_and, and_false, false_and, bI_T, bI_F, Int.reduceToNat, Nat.reduceAdd, Nat.reduceMul, Int.reduceNeg, Option.bind_some, Int.toNat_natCast, h0, h1]; rfl)
  · rw [bI_t (by omega)] at ip
    have ps := R.gP.ps bill.toNat (by omega) hbill.2.2
    have pd := R.gP.pd bill.toNat (by omega) hbill.2.2
    have pu := R.gP.pdu bill.toNat (by omega) hbill.2.2
    refine ⟨uA (uA (uA (uA (uA (uA (uA (uA A1 54 2 (rsv (A 22 0) (10 * A 55 9))) 54 3 (A 16 9 / 7)) 54 4 (A 16 9)) 54 5 (A 16 10)) 54 6 (A 33 bill.toNat)) 54 7 (A 36 bill.toNat - A 16 9)) 54 8 (A 39 bill.toNat)) 54 9 (A 21 (A 34 bill.toNat).toNat), ?_, ?_, fun k hk => by rw [uA_n hk, uA_n hk, uA_n hk, uA_n hk, uA_n hk, uA_n hk, uA_n hk, uA_n hk, a1 k hk]⟩
    · simp (disch := first | omega | (simp (disch := omega) only [uA_n]; done) | fail) only [iI_lit, iI_add, iI_sub, iI_mul, iI_neg, iI_lt, iI_le, iI_eq, zlt_t, zlt_f, zle_t, zle_f, zeq_t, zeq_f, nle_t, nle_f, iI_cl, rA, rS, rB, wA, wS, wB, mkp, mk2, uA_s, uA_n, ud_s, ud_n, bI_0, bI_1, nor_s, ↓reduceIte, or_false, false_or, or_true, true_or, or_self, not_true_eq_false, not_false_eq_true, and_true, true_and, and_false, false_and, bI_T, bI_F, Int.reduceToNat, Nat.reduceAdd, Nat.reduceMul, Int.reduceNeg, Option.bind_some, Int.toNat_natCast, ↓bind_of ip, hA1, ↓bind_of er, iI_div, a1]
    · intro i hi
      have nb : ¬ bill = -1 := by omega
      rcases (show i = 0 ∨ i = 1 ∨ i = 2 ∨ i = 3 ∨ i = 4 ∨ i = 5 ∨ i = 6 ∨ i = 7 ∨ i = 8 ∨ i = 9 by omega) with rfl | rfl | rfl | rfl | rfl | rfl | rfl | rfl | rfl | rfl <;> (simp (disch := first | omega | (simp (disch := omega) only [uA_n]; done) | fail) only [iI_lit, iI_add, iI_sub, iI_mul, iI_neg, iI_lt, iI_le, iI_eq, zlt_t, zlt_f, zle_t, zle_f, zeq_t, zeq_f, nle_t, nle_f, iI_cl, rA, rS, rB, wA, wS, wB, mkp, mk2, uA_s, uA_n, ud_s, ud_n, bI_0, bI_1, nor_s, ↓reduceIte, or_false, false_or, or_true, true_or, or_self, not_true_eq_false, not_false_eq_true, and_true, true_and, and_false, false_and, bI_T, bI_F, Int.reduceToNat, Nat.reduceAdd, Nat.reduceMul, Int.reduceNeg, Option.bind_some, Int.toNat_natCast, h0, h1]; unfold fct; simp [nb])
theorem ex_tif (R : RR K D A0 B0 A B) (hF : 1000 ≤ F) (Bx : hI) {bill key : Int} (hk0 : 0 ≤ key) (hk7 : key < 7) : ∀ (n q : Nat) (A1 : hI), (n : Int) ≤ A 16 14 → n < q → (∀ k : Nat, k ≠ 15 → k ≠ 54 → A1 k = A k) → (∀ i, i < 10 → A1 54 i = fct A bill i) → ∃ A2 : hI, f_World_textInForce_7 F q (iI key) (iI ((n : Int) - 1)) (mk A1 Bx) = some (iI (tin A B bill key n), mk A2 Bx) ∧ (∀ k : Nat, k ≠ 15 → k ≠ 54 → A2 k = A k) ∧ ∀ i, i < 10 → A2 54 i = fct A bill i := by
  have hd1 := R.gD.dd1
  have hd2 := R.gD.dd2
  have X := R.gX
  have hx2 := X.xn2
  intro n
  induction n with
  | zero =>
    intro q A1 _ hq h1 h2
    obtain ⟨q, rfl⟩ : ∃ p, q = p + 1 := ⟨q - 1, by omega⟩
    refine ⟨A1, ?_, h1, h2⟩
    rw [f_World_textInForce_7]
    unfold tin
    simp (disch := first | omega | (simp (disch := omega) only [uA_n]; done) | fail) only [iI_lit, iI_add, iI_sub, iI_mul, iI_neg, iI_lt, iI_le, iI_eq, zlt_t, zlt_f, zle_t, zle_f, zeq_t, zeq_f, nle_t, nle_f, iI_cl, rA, rS, rB, wA, wS, wB, mkp, mk2, uA_s, uA_n, ud_s, ud_n, bI_0, bI_1, nor_s, ↓reduceIte, or_false, false_or, or_true, true_or, or_self, not_true_eq_false, not_false_eq_true, and_true, true_and, and_false, false_and, bI_T, bI_F, Int.reduceToNat, Nat.reduceAdd, Nat.reduceMul, Int.reduceNeg, Option.bind_some, Int.toNat_natCast, show ((0 : Nat) : Int) - 1 = -1 from rfl]
  | succ n ih =>
    intro q A1 hn hq h1 h2
    obtain ⟨q, rfl⟩ : ∃ p, q = p + 1 := ⟨q - 1, by omega⟩
    have hc := X.xx n (by omega)
    have hok := X.xp n (by omega)
    have hl := X.xl n (by omega)
    have hkr : 0 ≤ A 9 n ∧ A 9 n < 7 := by
      have tk := (p0_PI (xby B n) (B 603 n).toNat).1.2.2.2.2.2.1
      have := hok.1
      rw [hok.2.2.1]
      simp only [tkR] at tk
      omega
    have e1 : ((n + 1 : Nat) : Int) - 1 = (n : Int) := by omega
    have e2 : (n : Int) + -1 = (n : Int) - 1 := by omega
    have b9 : A1 9 = A 9 := h1 9 (by omega) (by omega)
    have b10 : A1 10 = A 10 := h1 10 (by omega) (by omega)
    have b11 : A1 11 = A 11 := h1 11 (by omega) (by omega)
    have b16 : A1 16 = A 16 := h1 16 (by omega) (by omega)
    have b12 : A1 12 = A 12 := h1 12 (by omega) (by omega)
    have b13 : A1 13 = A 13 := h1 13 (by omega) (by omega)
    have b14 : A1 14 = A 14 := h1 14 (by omega) (by omega)
    have nx := ih q A1 (by omega) (by omega) h1 h2
    unfold tin
    rw [e1, f_World_textInForce_7]
    simp only [f_World_textInForce_56, f_World_textInForce_54, f_Texts_isInForce, f_Texts_isInForce_34, f_Texts_isInForce_35]
    by_cases c1 : A 9 n = key
    · by_cases c2 : A 16 9 < A 10 n
      · rw [if_neg (show ¬ tfc A B bill key n from fun z => by have := z.2.1; omega)]
        obtain ⟨A2, x1, x2⟩ := nx
        exact ⟨A2, by simp (disch := first | omega | (simp (disch := omega) only [uA_n]; done) | fail) only [iI_lit, iI_add, iI_sub, iI_mul, iI_neg, iI_lt, iI_le, iI_eq, zlt_t, zlt_f, zle_t, zle_f, zeq_t, zeq_f, nle_t, nle_f, iI_cl, rA, rS, rB, wA, wS, wB, mkp, mk2, uA_s, uA_n, ud_s, ud_n, bI_0, bI_1, nor_s, ↓reduceIte, or_false, false_or, or_true, true_or, or_self, not_true_eq_false, not_false_eq_true, and_true, true_and, and_false, false_and, bI_T, bI_F, Int.reduceToNat, Nat.reduceAdd, Nat.reduceMul, Int.reduceNeg, Option.bind_some, Int.toNat_natCast, b9, b10, b11, b16, e2, x1], x2⟩
      · by_cases c3 : A 11 n ≤ A 16 9
        · rw [if_neg (show ¬ tfc A B bill key n from fun z => by have := z.2.2.1; omega)]
          obtain ⟨A2, x1, x2⟩ := nx
          exact ⟨A2, by simp (disch := first | omega | (simp (disch := omega) only [uA_n]; done) | fail) only [iI_lit, iI_add, iI_sub, iI_mul, iI_neg, iI_lt, iI_le, iI_eq, zlt_t, zlt_f, zle_t, zle_f, zeq_t, zeq_f, nle_t, nle_f, iI_cl, rA, rS, rB, wA, wS, wB, mkp, mk2, uA_s, uA_n, ud_s, ud_n, bI_0, bI_1, nor_s, ↓reduceIte, or_false, false_or, or_true, true_or, or_self, not_true_eq_false, not_false_eq_true, and_true, true_and, and_false, false_and, bI_T, bI_F, Int.reduceToNat, Nat.reduceAdd, Nat.reduceMul, Int.reduceNeg, Option.bind_some, Int.toNat_natCast, b9, b10, b11, b16, e2, x1], x2⟩
        · have hok1 : pOK (xby B n) (txL B n) (A1 9 n) (A1 12 n) (A1 13 n) (fun i => A1 14 (120 * n + i)) := by rw [b9, b12, b13, b14]; exact hok
          have hL : txL B n ≤ 120 := by unfold txL; omega
          have tx := tx_ok hok.1 hok.2.1
          have hsz := hok.2.2.2.2.1
          have hms := hok.2.2.2.1
          rw [tx.1] at hsz
          have q2 := pE2_PI (xby B n) (B 603 n).toNat
          have h120 : (pE2 (xby B n) (B 603 n).toNat).2.2.2.2.2.length ≤ 120 := by have := q2.2.2.2.2.1; have := q2.1; have := q2.2.1; unfold txL at hL; omega
          simp only [f_Texts_hasIf, f_Texts_hasIf_20]
          by_cases h5 : (pE1 (xby B n) (txL B n)).1 = 5
          · obtain ⟨n2, u, -, u2⟩ := tx.2.2.2.2.2.1 h5
            have hlt : A 12 n < A 13 n := by
              rw [hms, hsz, u, List.length_append]
              have : 0 < n2.length := List.length_pos_iff.mpr u2
              omega
            have h13 : A 13 n ≤ 120 := by rw [hsz]; omega
            have h12 : 0 ≤ A 12 n := by rw [hms]; omega
            obtain ⟨A2, w1, w2⟩ := ex_work2 F Bx hF hL (x := n) (by omega) hok1 h5
            have w1 : f_Texts_work_8_54 F (iI n) 1 (mk A1 Bx) = some (tv2 (fct A bill) (xby B n) (txL B n), mk A2 Bx) := by rw [w1, tv2_c (f := fun j => A1 54 j) (g := fct A bill) h2]
            by_cases c4 : tv2 (fct A bill) (xby B n) (txL B n) = 0
            · rw [if_neg (show ¬ tfc A B bill key n from fun z => by
                rcases z.2.2.2 with y | y
                · exact y h5
                · exact y c4)]
              obtain ⟨A3, x1, x2, x3⟩ := ih q A2 (by omega) (by omega) (fun k hk1 hk2 => (w2 k hk1).trans (h1 k hk1 hk2)) (fun i hi => by rw [w2 54 (by omega)]; exact h2 i hi)
              refine ⟨A3, ?_, x2, x3⟩
              simp (disch := first | omega | (simp (disch := omega) only [uA_n]; done) | fail) only [iI_lit, iI_add, iI_sub, iI_mul, iI_neg, iI_lt, iI_le, iI_eq, zlt_t, zlt_f, zle_t, zle_f, zeq_t, zeq_f, nle_t, nle_f, iI_cl, rA, rS, rB, wA, wS, wB, mkp, mk2, uA_s, uA_n, ud_s, ud_n, bI_0, bI_1, nor_s, ↓reduceIte, or_false, false_or, or_true, true_or, or_self, not_true_eq_false, not_false_eq_true, and_true, true_and, and_false, false_and, bI_T, bI_F, Int.reduceToNat, Nat.reduceAdd, Nat.reduceMul, Int.reduceNeg, Option.bind_some, Int.toNat_natCast, b9, b10, b11, b16, b12, b13, e2]
              refine obd (v := (tv2 (fct A bill) (xby B n) (txL B n), mk A2 Bx)) w1 ?_
              exact (if_pos (c := tv2 (fct A bill) (xby B n) (txL B n) = iI 0) c4).trans x1
            · rw [if_pos (show tfc A B bill key n from ⟨c1, by omega, by omega, Or.inr c4⟩)]
              refine ⟨A2, ?_, fun k hk1 hk2 => (w2 k hk1).trans (h1 k hk1 hk2), fun i hi => by rw [w2 54 (by omega)]; exact h2 i hi⟩
              simp (disch := first | omega | (simp (disch := omega) only [uA_n]; done) | fail) only [iI_lit, iI_add, iI_sub, iI_mul, iI_neg, iI_lt, iI_le, iI_eq, zlt_t, zlt_f, zle_t, zle_f, zeq_t, zeq_f, nle_t, nle_f, iI_cl, rA, rS, rB, wA, wS, wB, mkp, mk2, uA_s, uA_n, ud_s, ud_n, bI_0, bI_1, nor_s, ↓reduceIte, or_false, false_or, or_true, true_or, or_self, not_true_eq_false, not_false_eq_true, and_true, true_and, and_false, false_and, bI_T, bI_F, Int.reduceToNat, Nat.reduceAdd, Nat.reduceMul, Int.reduceNeg, Option.bind_some, Int.toNat_natCast, b9, b10, b11, b16, b12, b13, e2]
              refine obd (v := (tv2 (fct A bill) (xby B n) (txL B n), mk A2 Bx)) w1 ?_
              exact if_neg (c := tv2 (fct A bill) (xby B n) (txL B n) = iI 0) c4
          · have hle : A 13 n ≤ A 12 n := by rw [hms, hsz, tx.2.2.2.2.2.2 h5]; exact Int.le_refl _
            have h13 : 0 ≤ A 13 n := by rw [hsz]; omega
            have h12 : A 12 n ≤ 120 := by rw [hms, ← tx.2.2.2.2.2.2 h5]; omega
            rw [if_pos (show tfc A B bill key n from ⟨c1, by omega, by omega, Or.inl h5⟩)]
            exact ⟨A1, by simp (disch := first | omega | (simp (disch := omega) only [uA_n]; done) | fail) only [iI_lit, iI_add, iI_sub, iI_mul, iI_neg, iI_lt, iI_le, iI_eq, zlt_t, zlt_f, zle_t, zle_f, zeq_t, zeq_f, nle_t, nle_f, iI_cl, rA, rS, rB, wA, wS, wB, mkp, mk2, uA_s, uA_n, ud_s, ud_n, bI_0, bI_1, nor_s, ↓reduceIte, or_false, false_or, or_true, true_or, or_self, not_true_eq_false, not_false_eq_true, and_true, true_and, and_false, false_and, bI_T, bI_F, Int.reduceToNat, Nat.reduceAdd, Nat.reduceMul, Int.reduceNeg, Option.bind_some, Int.toNat_natCast, b9, b10, b11, b16, b12, b13, e2], h1, h2⟩
    · rw [if_neg (show ¬ tfc A B bill key n from fun z => c1 z.1)]
      obtain ⟨A2, x1, x2⟩ := nx
      exact ⟨A2, by simp (disch := first | omega | (simp (disch := omega) only [uA_n]; done) | fail) only [iI_lit, iI_add, iI_sub, iI_mul, iI_neg, iI_lt, iI_le, iI_eq, zlt_t, zlt_f, zle_t, zle_f, zeq_t, zeq_f, nle_t, nle_f, iI_cl, rA, rS, rB, wA, wS, wB, mkp, mk2, uA_s, uA_n, ud_s, ud_n, bI_0, bI_1, nor_s, ↓reduceIte, or_false, false_or, or_true, true_or, or_self, not_true_eq_false, not_false_eq_true, and_true, true_and, and_false, false_and, bI_T, bI_F, Int.reduceToNat, Nat.reduceAdd, Nat.reduceMul, Int.reduceNeg, Option.bind_some, Int.toNat_natCast, b9, b10, b11, b16, e2, x1], x2⟩
theorem ex_which (R : RR K D A0 B0 A B) (hF : 1000 ≤ F) (hK : K ≤ 1000000000) (Bx : hI) {bill key : Int} (hbill : bill = -1 ∨ (0 ≤ bill ∧ bill < 60 ∧ A 32 bill.toNat ≠ -1)) (hk0 : 0 ≤ key) (hk7 : key < 7) : ∃ A' : hI, f_World_whichSays F (iI key) (iI bill) (mk A Bx) = some (iI (twh A B bill key), mk A' Bx) ∧ ∀ k : Nat, k ≠ 15 → k ≠ 54 → A' k = A k := by
  have X := R.gX
  have hx1 := X.xn1
  have hx2 := X.xn2
  obtain ⟨A1, x1, x2, x3⟩ := ex_gather F R hK Bx hbill
  obtain ⟨A2, y1, y2, -⟩ := ex_tif F R hF Bx (bill := bill) hk0 hk7 (A 16 14).toNat F A1 (by omega) (by omega) (fun k _ hk => x3 k hk) x2
  refine ⟨A2, ?_, y2⟩
  have e : A1 16 = A 16 := x3 16 (by omega)
  rw [show ((A 16 14).toNat : Int) - 1 = A 16 14 - 1 by omega] at y1
  simp only [f_World_whichSays, f_World_textInForce]
  simp (disch := first | omega | (simp (disch := omega) only [uA_n]; done) | fail) only [iI_lit, iI_add, iI_sub, iI_mul, iI_neg, iI_lt, iI_le, iI_eq, zlt_t, zlt_f, zle_t, zle_f, zeq_t, zeq_f, nle_t, nle_f, iI_cl, rA, rS, rB, wA, wS, wB, mkp, mk2, uA_s, uA_n, ud_s, ud_n, bI_0, bI_1, nor_s, ↓reduceIte, or_false, false_or, or_true, true_or, or_self, not_true_eq_false, not_false_eq_true, and_true, true_and, and_false, false_and, bI_T, bI_F, Int.reduceToNat, Nat.reduceAdd, Nat.reduceMul, Int.reduceNeg, Option.bind_some, Int.toNat_natCast, ↓bind_of x1, e, ↓bind_of y1]
  rfl
theorem ex_lawSays (R : RR K D A0 B0 A B) (hF : 1000 ≤ F) (hK : K ≤ 1000000000) (Bx : hI) {bill key : Int} (hbill : bill = -1 ∨ (0 ≤ bill ∧ bill < 60 ∧ A 32 bill.toNat ≠ -1)) (hk0 : 0 ≤ key) (hk7 : key < 7) : ∃ A' : hI, f_World_lawSays F (iI key) (iI bill) (mk A Bx) = some (say A B bill key, mk A' Bx) ∧ ∀ k : Nat, k ≠ 15 → k ≠ 54 → A' k = A k := by
  have X := R.gX
  have hx1 := X.xn1
  have hx2 := X.xn2
  obtain ⟨A1, x1, x2, x3⟩ := ex_gather F R hK Bx hbill
  obtain ⟨A2, y1, y2, y3⟩ := ex_tif F R hF Bx (bill := bill) hk0 hk7 (A 16 14).toNat F A1 (by omega) (by omega) (fun k _ hk => x3 k hk) x2
  have e : A1 16 = A 16 := x3 16 (by omega)
  have rg := tin_rg A B bill key (A 16 14).toNat
  rw [show ((A 16 14).toNat : Int) - 1 = A 16 14 - 1 by omega] at y1
  simp only [f_World_lawSays, f_World_textInForce]
  unfold say twh
  have b22 : A2 22 = A 22 := y2 22 (by omega) (by omega)
  have b16 : A2 16 = A 16 := y2 16 (by omega) (by omega)
  by_cases c : tin A B bill key (A 16 14).toNat = -1
  · rw [if_pos c]
    rw [c] at y1
    refine ⟨A2, ?_, y2⟩
    unfold dfl
    rcases (show key = 0 ∨ key = 1 ∨ key = 2 ∨ key = 3 ∨ key = 4 ∨ key = 5 ∨ key = 6 by omega) with rfl | rfl | rfl | rfl | rfl | rfl | rfl <;> simp (disch := first | omega | (simp (disch := omega) only [uA_n]; done) | fail) only [iI_lit, iI_add, iI_sub, iI_mul, iI_neg, iI_lt, iI_le, iI_eq, zlt_t, zlt_f, zle_t, zle_f, zeq_t, zeq_f, nle_t, nle_f, iI_cl, rA, rS, rB, wA, wS, wB, mkp, mk2, uA_s, uA_n, ud_s, ud_n, bI_0, bI_1, nor_s, ↓reduceIte, or_false, false_or, or_true, true_or, or_self, not_true_eq_false, not_false_eq_true, and_true, true_and, and_false, false_and, bI_T, bI_F, Int.reduceToNat, Nat.reduceAdd, Nat.reduceMul, Int.reduceNeg, Option.bind_some, Int.toNat_natCast, ↓bind_of x1, e, ↓bind_of y1, b22, b16]
  · rw [if_neg c]
    generalize tin A B bill key (A 16 14).toNat = t at *
    have b9 : A2 9 = A 9 := y2 9 (by omega) (by omega)
    have b12 : A2 12 = A 12 := y2 12 (by omega) (by omega)
    have b13 : A2 13 = A 13 := y2 13 (by omega) (by omega)
    have b14 : A2 14 = A 14 := y2 14 (by omega) (by omega)
    have hok := X.xp t.toNat (by omega)
    have hl := X.xl t.toNat (by omega)
    obtain ⟨A3, w1, w2⟩ := ex_work1 F Bx (A := A2) hF (L := txL B t.toNat) (b := xby B t.toNat) (key := A 9 t.toNat) (by unfold txL; omega) (x := t.toNat) (by omega) (by rw [b12, b13, b14]; exact hok)
    rw [tv1_c (f := fun j => A2 54 j) (g := fct A bill) y3, show ((t.toNat : Nat) : Int) = t by omega] at w1
    refine ⟨A3, ?_, fun k hk1 hk2 => (w2 k hk1).trans (y2 k hk1 hk2)⟩
    simp (disch := first | omega | (simp (disch := omega) only [uA_n]; done) | fail) only [iI_lit, iI_add, iI_sub, iI_mul, iI_neg, iI_lt, iI_le, iI_eq, zlt_t, zlt_f, zle_t, zle_f, zeq_t, zeq_f, nle_t, nle_f, iI_cl, rA, rS, rB, wA, wS, wB, mkp, mk2, uA_s, uA_n, ud_s, ud_n, bI_0, bI_1, nor_s, ↓reduceIte, or_false, false_or, or_true, true_or, or_self, not_true_eq_false, not_false_eq_true, and_true, true_and, and_false, false_and, bI_T, bI_F, Int.reduceToNat, Nat.reduceAdd, Nat.reduceMul, Int.reduceNeg, Option.bind_some, Int.toNat_natCast, ↓bind_of x1, e, ↓bind_of y1]
    exact obd (v := (tsy A B bill t.toNat, mk A3 Bx)) w1 rfl
end LAW
