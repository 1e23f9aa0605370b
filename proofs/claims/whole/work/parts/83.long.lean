/-! LONGS -/
def lI (x : Int) : Int64 := Int64.ofInt x
theorem lI_lit (n : Nat) : (OfNat.ofNat n : Int64) = lI (no_index (OfNat.ofNat n)) := rfl
theorem lI_add (a b : Int) : lI a + lI b = lI (a + b) := (Int64.ofInt_add a b).symm
theorem lI_sub (a b : Int) : lI a - lI b = lI (a - b) := (Int64.ofInt_sub a b).symm
theorem lI_mul (a b : Int) : lI a * lI b = lI (a * b) := (Int64.ofInt_mul a b).symm
theorem lI_neg (a : Int) : -lI a = lI (-a) := (Int64.ofInt_neg a).symm
theorem lI_toInt {a : Int} (h1 : -9223372036854775808 ≤ a) (h2 : a < 9223372036854775808) : (lI a).toInt = a := Int64.toInt_ofInt_of_le h1 h2
theorem lI_eq {a b : Int} (h1 : -9223372036854775808 ≤ a) (h2 : a < 9223372036854775808) (h3 : -9223372036854775808 ≤ b) (h4 : b < 9223372036854775808) : (lI a = lI b) = (a = b) := by
  rw [← Int64.toInt_inj, lI_toInt h1 h2, lI_toInt h3 h4]
theorem iI_long {a : Int} (h1 : -2147483648 ≤ a) (h2 : a < 2147483648) : (iI a).toInt64 = lI a := by
  rw [← Int64.toInt_inj, Int32.toInt_toInt64, iI_toInt h1 h2, lI_toInt (by omega) (by omega)]
theorem lI_int {a : Int} (h1 : -2147483648 ≤ a) (h2 : a < 2147483648) : (lI a).toInt32 = iI a := by
  rw [← Int32.toInt_inj, Int64.toInt_toInt32, lI_toInt (by omega) (by omega), iI_toInt h1 h2]
  exact Int.bmod_eq_of_le (by omega) (by omega)
/-- 1, 0, -1 as they compare -/
theorem lg_lI {a b : Int} (h1 : -9223372036854775808 ≤ a) (h2 : a < 9223372036854775808) (h3 : -9223372036854775808 ≤ b) (h4 : b < 9223372036854775808) : lg_cmp (lI a) (lI b) = iI (if b < a then 1 else if a = b then 0 else -1) := by
  unfold lg_cmp
  have e1 : (lI a > lI b) = (b < a) := by
    show (lI b < lI a) = _
    rw [Int64.lt_iff_toInt_lt, lI_toInt h1 h2, lI_toInt h3 h4]
  by_cases c1 : b < a
  · rw [if_pos (by rw [e1]; exact c1), if_pos c1]; rfl
  · rw [if_neg (by rw [e1]; exact c1), if_neg c1]
    by_cases c2 : a = b
    · rw [if_pos (by rw [c2]), if_pos c2]; rfl
    · rw [if_neg (by rw [lI_eq h1 h2 h3 h4]; exact c2), if_neg c2]; rfl
theorem lg_0 {a b : Int} (h1 : -9223372036854775808 ≤ a) (h2 : a < 9223372036854775808) (h3 : -9223372036854775808 ≤ b) (h4 : b < 9223372036854775808) : (lg_cmp (lI a) (lI b) = iI 0) = (a = b) := by
  rw [lg_lI h1 h2 h3 h4]
  by_cases c1 : b < a
  · rw [if_pos c1]; exact propext ⟨fun z => absurd z (by decide), fun z => by omega⟩
  · rw [if_neg c1]
    by_cases c2 : a = b
    · rw [if_pos c2]; exact propext ⟨fun _ => c2, fun _ => rfl⟩
    · rw [if_neg c2]; exact propext ⟨fun z => absurd z (by decide), fun z => absurd z c2⟩
theorem lg_le {a b : Int} (h1 : -9223372036854775808 ≤ a) (h2 : a < 9223372036854775808) (h3 : -9223372036854775808 ≤ b) (h4 : b < 9223372036854775808) : (lg_cmp (lI a) (lI b) ≤ iI 0) = (a ≤ b) := by
  rw [lg_lI h1 h2 h3 h4]
  by_cases c1 : b < a
  · rw [if_pos c1]; exact propext ⟨fun z => absurd z (by decide), fun z => by omega⟩
  · rw [if_neg c1]
    by_cases c2 : a = b
    · rw [if_pos c2]; exact propext ⟨fun _ => by omega, fun _ => by decide⟩
    · rw [if_neg c2]; exact propext ⟨fun _ => by omega, fun _ => by decide⟩
theorem lg_gt {a b : Int} (h1 : -9223372036854775808 ≤ a) (h2 : a < 9223372036854775808) (h3 : -9223372036854775808 ≤ b) (h4 : b < 9223372036854775808) : (iI 0 < lg_cmp (lI a) (lI b)) = (b < a) := by
  rw [lg_lI h1 h2 h3 h4]
  by_cases c1 : b < a
  · rw [if_pos c1]; exact propext ⟨fun _ => c1, fun _ => by decide⟩
  · rw [if_neg c1]
    by_cases c2 : a = b
    · rw [if_pos c2]; exact propext ⟨fun z => absurd z (by decide), fun z => absurd z c1⟩
    · rw [if_neg c2]; exact propext ⟨fun z => absurd z (by decide), fun z => absurd z c1⟩
theorem lI_div {a b : Int} (h1 : 0 ≤ a) (h2 : a < 9223372036854775808) (h3 : 0 < b) (h4 : b < 9223372036854775808) : lI a / lI b = lI (a / b) := by
  rw [← Int64.toInt_inj, Int64.toInt_div_of_ne_right _ _ (by rw [ne_eq, ← Int64.toInt_inj, lI_toInt (by omega) (by omega)]; show ¬ b = -1; omega), lI_toInt (by omega) (by omega), lI_toInt (by omega) (by omega), Int.tdiv_eq_ediv_of_nonneg h1]
  have hq : a / b ≤ a := Int.ediv_le_self b h1
  have hq0 : 0 ≤ a / b := Int.ediv_nonneg h1 (by omega)
  rw [lI_toInt (by omega) (by omega)]
theorem rL (A B : hI) (k : Nat) : (mk A B).2 k = lI (B 399 k) := rfl
/-- the reference's one long is written -/
theorem wL {A B B' : hI} {y : Int} (h : B' 399 = B 399) : ((mk A B').1, m_upl (mk A B).2 304 (lI y)) = mk A (uA B' 399 304 y) := by
  refine Prod.ext (funext fun k => funext fun j => ?_) (funext fun k => ?_)
  · have hd := dec_rg j
    show (if k < 304 then _ else if k = 305 then _ else if k = 313 then _ else if k = 314 then _ else if k < 318 then _ else _) = (if k < 304 then _ else if k = 305 then _ else if k = 313 then _ else if k = 314 then _ else if k < 318 then _ else _)
    (repeat' split) <;> first | rfl | omega | (rw [uA_n (by omega)])
  · show (if k = 304 then lI y else Int64.ofInt (B 399 k)) = Int64.ofInt (uA B' 399 304 y 399 k)
    rw [uA_s]
    by_cases hk : k = 304
    · subst hk; rw [if_pos rfl, ud_s]; rfl
    · rw [if_neg hk, ud_n hk, h]
/-- RESERVE, on both sides -/
def rsv (g o : Int) : Int := if o = 0 then 999 else min 999 (100 * g / o)
theorem rsv_rg {g o : Int} (hg : 0 ≤ g) (ho : 0 ≤ o) : 0 ≤ rsv g o ∧ rsv g o ≤ 999 := by
  unfold rsv
  split
  · omega
  · have : 0 ≤ 100 * g / o := Int.ediv_nonneg (by omega) ho
    omega
section LONG
variable {K D : Int} {A0 B0 A B : hI} (F : Nat)
theorem RR.out (R : RR K D A0 B0 A B) : (0 ≤ A 55 9 ∧ A 55 9 ≤ 300) ∧ (0 ≤ A 55 10 ∧ A 55 10 ≤ 300) ∧ (0 ≤ A 55 11 ∧ A 55 11 ≤ 300) := by
  have N := R.gN
  rw [N.nou, N.nin, N.nbu]
  exact ⟨sm_cnt 300 (fun k => A 56 k = 1), sm_cnt 300 (fun k => A 56 k = 2), sm_cnt 300 (fun k => A 56 k = 3)⟩
theorem em_many (R : RR K D A0 B0 A B) (hF : 1000 ≤ F) (Ax : hI) (v : Int) (hv : 0 ≤ v) (hv2 : v ≤ 3) : f_m_many F (iI v) (mk Ax B) = some (iI (sm 300 (fun k => bI (A 56 k = v))), mk Ax B) := by
  unfold f_m_many
  refine loopF (f := fun q (s : Int32 × Int32 × mM) => f_m_many_4 F q (iI v) s.1 s.2.1 s.2.2) (s := (0, 0, mk Ax B)) (fun i s => s = (iI (sm i (fun k => bI (A 56 k = v))), iI (i : Int), mk Ax B)) (fun t => t = some (iI (sm 300 (fun k => bI (A 56 k = v))), mk Ax B)) 300 rfl ?_ (by omega)
  rintro q i s hi rfl
  show f_m_many_4 F (q + 1) (iI v) (iI (sm i (fun k => bI (A 56 k = v)))) (iI (i : Int)) (mk Ax B) = _ ∨ _
  rw [f_m_many_4]
  simp only [f_m_many_26]
  by_cases h : i = 300
  · subst h
    refine Or.inl ?_
    simp (disch := first | omega | (simp (disch := omega) only [uA_n]; done) | fail) only [iI_lit, iI_add, iI_sub, iI_mul, iI_neg, iI_lt, iI_le, iI_eq, zlt_t, zlt_f, zle_t, zle_f, zeq_t, zeq_f, nle_t, nle_f, iI_cl, rA, rS, rB, wA, wS, wB, mkp, mk2, uA_s, uA_n, ud_s, ud_n, bI_0, bI_1, nor_s, ↓reduceIte, or_false, false_or, or_true, true_or, or_self, not_true_eq_false, not_false_eq_true, and_true, true_and, and_false, false_and, bI_T, bI_F, Int.reduceToNat, Nat.reduceAdd, Nat.reduceMul, Int.reduceNeg, Option.bind_some, Int.toNat_natCast, show ((300 : Nat) : Int) = 300 from rfl]
  · have h1 := R.gN.nst i (by omega)
    have h2 := R.gN.nsr i (by omega)
    refine Or.inr ⟨by omega, (iI (sm (i + 1) (fun k => bI (A 56 k = v))), iI ((i + 1 : Nat) : Int), mk Ax B), ?_, rfl⟩
    simp only [sm]
    by_cases h3 : A 56 i = v
    · rw [bI_t h3]
      simp (disch := first | omega | (simp (disch := omega) only [uA_n]; done) | fail) only [iI_lit, iI_add, iI_sub, iI_mul, iI_neg, iI_lt, iI_le, iI_eq, zlt_t, zlt_f, zle_t, zle_f, zeq_t, zeq_f, nle_t, nle_f, iI_cl, rA, rS, rB, wA, wS, wB, mkp, mk2, uA_s, uA_n, ud_s, ud_n, bI_0, bI_1, nor_s, ↓reduceIte, or_false, false_or, or_true, true_or, or_self, not_true_eq_false, not_false_eq_true, and_true, true_and, and_false, false_and, bI_T, bI_F, Int.reduceToNat, Nat.reduceAdd, Nat.reduceMul, Int.reduceNeg, Option.bind_some, Int.toNat_natCast, em_stateOf, h1]
      rfl
    · rw [bI_f h3]
      simp (disch := first | omega | (simp (disch := omega) only [uA_n]; done) | fail) only [iI_lit, iI_add, iI_sub, iI_mul, iI_neg, iI_lt, iI_le, iI_eq, zlt_t, zlt_f, zle_t, zle_f, zeq_t, zeq_f, nle_t, nle_f, iI_cl, rA, rS, rB, wA, wS, wB, mkp, mk2, uA_s, uA_n, ud_s, ud_n, bI_0, bI_1, nor_s, ↓reduceIte, or_false, false_or, or_true, true_or, or_self, not_true_eq_false, not_false_eq_true, and_true, true_and, and_false, false_and, bI_T, bI_F, Int.reduceToNat, Nat.reduceAdd, Nat.reduceMul, Int.reduceNeg, Option.bind_some, Int.toNat_natCast, em_stateOf, h1]
      rfl
theorem em_out (R : RR K D A0 B0 A B) (hF : 1000 ≤ F) (Ax : hI) : f_m_out F (mk Ax B) = some (iI (10 * A 55 9), mk Ax B) := by
  unfold f_m_out
  have e := em_many F R hF Ax 1 (by omega) (by omega)
  rw [← R.gN.nou] at e
  simp (disch := first | omega | (simp (disch := omega) only [uA_n]; done) | fail) only [iI_lit, iI_add, iI_sub, iI_mul, iI_neg, iI_lt, iI_le, iI_eq, zlt_t, zlt_f, zle_t, zle_f, zeq_t, zeq_f, nle_t, nle_f, iI_cl, rA, rS, rB, wA, wS, wB, mkp, mk2, uA_s, uA_n, ud_s, ud_n, bI_0, bI_1, nor_s, ↓reduceIte, or_false, false_or, or_true, true_or, or_self, not_true_eq_false, not_false_eq_true, and_true, true_and, and_false, false_and, bI_T, bI_F, Int.reduceToNat, Nat.reduceAdd, Nat.reduceMul, Int.reduceNeg, Option.bind_some, Int.toNat_natCast, e]
theorem ex_reserve (R : RR K D A0 B0 A B) (hK : K ≤ 1000000000) (Bx : hI) : f_World_reserve F (mk A Bx) = some (iI (rsv (A 22 0) (10 * A 55 9)), mk A Bx) := by
  have ho := R.out.1
  have g := R.gle (h := 0) (by have := R.gH.hn1; omega)
  simp only [f_World_reserve, f_World_reserve_39]
  by_cases h0 : A 55 9 = 0
  · rw [show rsv (A 22 0) (10 * A 55 9) = 999 from if_pos (by omega)]
    simp (disch := first | omega | (simp (disch := omega) only [uA_n]; done) | fail) only [iI_lit, iI_add, iI_sub, iI_mul, iI_neg, iI_lt, iI_le, iI_eq, zlt_t, zlt_f, zle_t, zle_f, zeq_t, zeq_f, nle_t, nle_f, iI_cl, rA, rS, rB, wA, wS, wB, mkp, mk2, uA_s, uA_n, ud_s, ud_n, bI_0, bI_1, nor_s, ↓reduceIte, or_false, false_or, or_true, true_or, or_self, not_true_eq_false, not_false_eq_true, and_true, true_and, and_false, false_and, bI_T, bI_F, Int.reduceToNat, Nat.reduceAdd, Nat.reduceMul, Int.reduceNeg, Option.bind_some, Int.toNat_natCast]
  · rw [show rsv (A 22 0) (10 * A 55 9) = min 999 (100 * A 22 0 / (10 * A 55 9)) from if_neg (by omega)]
    have hd0 : 0 ≤ 100 * A 22 0 / (10 * A 55 9) := Int.ediv_nonneg (by omega) (by omega)
    have hd1 : 100 * A 22 0 / (10 * A 55 9) ≤ 100 * A 22 0 := Int.ediv_le_self _ (by omega)
    by_cases h1 : 100 * A 22 0 / (10 * A 55 9) ≤ 999
    · rw [show min 999 (100 * A 22 0 / (10 * A 55 9)) = 100 * A 22 0 / (10 * A 55 9) by omega]
      simp (disch := first | omega | (simp (disch := omega) only [uA_n]; done) | fail) only [iI_lit, iI_add, iI_sub, iI_mul, iI_neg, iI_lt, iI_le, iI_eq, zlt_t, zlt_f, zle_t, zle_f, zeq_t, zeq_f, nle_t, nle_f, iI_cl, rA, rS, rB, wA, wS, wB, mkp, mk2, uA_s, uA_n, ud_s, ud_n, bI_0, bI_1, nor_s, ↓reduceIte, or_false, false_or, or_true, true_or, or_self, not_true_eq_false, not_false_eq_true, and_true, true_and, and_false, false_and, bI_T, bI_F, Int.reduceToNat, Nat.reduceAdd, Nat.reduceMul, Int.reduceNeg, Option.bind_some, Int.toNat_natCast, lI_lit, iI_long, lI_mul, lI_div, lI_eq, lg_le, lI_int]
    · rw [show min 999 (100 * A 22 0 / (10 * A 55 9)) = 999 by omega]
      simp (disch := first | omega | (simp (disch := omega) only [uA_n]; done) | fail) only [iI_lit, iI_add, iI_sub, iI_mul, iI_neg, iI_lt, iI_le, iI_eq, zlt_t, zlt_f, zle_t, zle_f, zeq_t, zeq_f, nle_t, nle_f, iI_cl, rA, rS, rB, wA, wS, wB, mkp, mk2, uA_s, uA_n, ud_s, ud_n, bI_0, bI_1, nor_s, ↓reduceIte, or_false, false_or, or_true, true_or, or_self, not_true_eq_false, not_false_eq_true, and_true, true_and, and_false, false_and, bI_T, bI_F, Int.reduceToNat, Nat.reduceAdd, Nat.reduceMul, Int.reduceNeg, Option.bind_some, Int.toNat_natCast, lI_lit, iI_long, lI_mul, lI_div, lI_eq, lg_le, lI_int]
theorem em_reserve (R : RR K D A0 B0 A B) (hF : 1000 ≤ F) (hK : K ≤ 1000000000) (Ax : hI) : f_m_reserve F (mk Ax B) = some (iI (rsv (A 22 0) (10 * A 55 9)), mk Ax B) := by
  have ho := R.out.1
  have g := R.gle (h := 0) (by have := R.gH.hn1; omega)
  have hg := R.gH.hg 0 (by omega)
  simp only [f_m_reserve, f_m_reserve_44]
  rw [em_out F R hF]
  by_cases h0 : A 55 9 = 0
  · rw [show rsv (A 22 0) (10 * A 55 9) = 999 from if_pos (by omega)]
    simp (disch := first | omega | (simp (disch := omega) only [uA_n]; done) | fail) only [iI_lit, iI_add, iI_sub, iI_mul, iI_neg, iI_lt, iI_le, iI_eq, zlt_t, zlt_f, zle_t, zle_f, zeq_t, zeq_f, nle_t, nle_f, iI_cl, rA, rS, rB, wA, wS, wB, mkp, mk2, uA_s, uA_n, ud_s, ud_n, bI_0, bI_1, nor_s, ↓reduceIte, or_false, false_or, or_true, true_or, or_self, not_true_eq_false, not_false_eq_true, and_true, true_and, and_false, false_and, bI_T, bI_F, Int.reduceToNat, Nat.reduceAdd, Nat.reduceMul, Int.reduceNeg, Option.bind_some, Int.toNat_natCast]
  · rw [show rsv (A 22 0) (10 * A 55 9) = min 999 (100 * A 22 0 / (10 * A 55 9)) from if_neg (by omega)]
    have hd0 : 0 ≤ 100 * A 22 0 / (10 * A 55 9) := Int.ediv_nonneg (by omega) (by omega)
    have hd1 : 100 * A 22 0 / (10 * A 55 9) ≤ 100 * A 22 0 := Int.ediv_le_self _ (by omega)
    by_cases h1 : 100 * A 22 0 / (10 * A 55 9) ≤ 999
    · rw [show min 999 (100 * A 22 0 / (10 * A 55 9)) = 100 * A 22 0 / (10 * A 55 9) by omega]
      simp (disch := first | omega | (simp (disch := omega) only [uA_n]; done) | fail) only [iI_lit, iI_add, iI_sub, iI_mul, iI_neg, iI_lt, iI_le, iI_eq, zlt_t, zlt_f, zle_t, zle_f, zeq_t, zeq_f, nle_t, nle_f, iI_cl, rA, rS, rB, wA, wS, wB, mkp, mk2, uA_s, uA_n, ud_s, ud_n, bI_0, bI_1, nor_s, ↓reduceIte, or_false, false_or, or_true, true_or, or_self, not_true_eq_false, not_false_eq_true, and_true, true_and, and_false, false_and, bI_T, bI_F, Int.reduceToNat, Nat.reduceAdd, Nat.reduceMul, Int.reduceNeg, Option.bind_some, Int.toNat_natCast, em_hs, hg, lI_lit, iI_long, lI_mul, Int.mul_comm (A 22 0) 100, lI_div, lI_eq, lg_le, lI_int]
    · rw [show min 999 (100 * A 22 0 / (10 * A 55 9)) = 999 by omega]
      simp (disch := first | omega | (simp (disch := omega) only [uA_n]; done) | fail) only [iI_lit, iI_add, iI_sub, iI_mul, iI_neg, iI_lt, iI_le, iI_eq, zlt_t, zlt_f, zle_t, zle_f, zeq_t, zeq_f, nle_t, nle_f, iI_cl, rA, rS, rB, wA, wS, wB, mkp, mk2, uA_s, uA_n, ud_s, ud_n, bI_0, bI_1, nor_s, ↓reduceIte, or_false, false_or, or_true, true_or, or_self, not_true_eq_false, not_false_eq_true, and_true, true_and, and_false, false_and, bI_T, bI_F, Int.reduceToNat, Nat.reduceAdd, Nat.reduceMul, Int.reduceNeg, Option.bind_some, Int.toNat_natCast, em_hs, hg, lI_lit, iI_long, lI_mul, Int.mul_comm (A 22 0) 100, lI_div, lI_eq, lg_le, lI_int]
end LONG
