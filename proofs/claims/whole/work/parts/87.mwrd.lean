/-! WHAT THE REFERENCE ASKS OF A TOKEN; what a name is worth -/
def bop (c : Int) (x y : Int32) : Int32 := if c = -13 then (if x ≠ 0 ∨ y ≠ 0 then 1 else 0) else if c = -14 then (if x ≠ 0 ∧ y ≠ 0 then 1 else 0) else if c = -15 then (if x = y then 1 else 0) else if c = -16 then (if x < y then 1 else 0) else if c = -17 then (if y < x then 1 else 0) else if c = -18 then x + y else if c = -19 then x - y else if c = -20 then x * y else if c = -21 then (if y = 0 then 0 else x / y) else (if y = 0 then 0 else x - x / y * y)
/-- one code on the stack -/
def ev1 (fc : Nat → Int) (c : Int) (st : List Int32) : List Int32 :=
  if 0 ≤ c then iI c :: st else if -11 < c then iI (fc (-1 - c).toNat) :: st
  else if c = -11 then (match st with | a :: r => (if a = 0 then 1 else 0) :: r | [] => [])
  else if c = -12 then (match st with | a :: r => (-a) :: r | [] => [])
  else match st with | y :: x :: r => bop c x y :: r | _ => []
def evs (fc : Nat → Int) (cs : List Int) (st : List Int32) : List Int32 := cs.foldl (fun st c => ev1 fc c st) st
theorem evs_app (fc : Nat → Int) (a c : List Int) (st : List Int32) : evs fc (a ++ c) st = evs fc c (evs fc a st) := List.foldl_append
/-- a name's worth; bill: of which paper -/
def fct (A : hI) (bill : Int) (i : Nat) : Int :=
  if i = 0 then A 22 0 else if i = 1 then 10 * A 55 9 else if i = 2 then rsv (A 22 0) (10 * A 55 9) else if i = 3 then A 16 9 / 7 else if i = 4 then A 16 9 else if i = 5 then A 16 10
  else if bill = -1 then 0 else if i = 6 then A 33 bill.toNat else if i = 7 then A 36 bill.toNat - A 16 9 else if i = 8 then A 39 bill.toNat else A 21 (A 34 bill.toNat).toNat
theorem bind_of {α β : Type} {x : Option α} {v : α} (h : x = some v) (f : α → Option β) : x.bind f = f v := by rw [h]; rfl
section MWRD
variable {K D : Int} {A0 B0 A B B' Bq : hI} {b : Nat → Int} {L : Nat} (F : Nat) (Ax : hI)
theorem em_isWord {s : PS} {o : Int} (hr : tRel B b L s o) (w j : Int) (hw : w = wv j) (h0 : 0 ≤ j) (h1 : j < 21) : f_m_isWord F (lI w) (mk Ax B) = some (iI (bI (s.2.2.2.2.1 = -1 ∧ tkw s.1 s.2.1 = j)), mk Ax B) := by
  obtain ⟨-, -, -, r4, r5⟩ := hr
  have hwr : 0 < w ∧ w < 10460353203 := by
    obtain ⟨i, hi⟩ : ∃ i : Nat, j = i := ⟨j.toNat, by omega⟩
    have := wv_pos ⟨i, by omega⟩
    rw [hw, hi]
    exact this
  simp only [f_m_isWord, f_m_isWord_28, f_m_isWord_29]
  by_cases hf : s.2.2.2.2.1 = -1
  · obtain ⟨a1, -, -, a3, a4, -, -, -, a8, -⟩ := r4 hf
    have h8 := a8 j h0 h1
    rw [← hw] at h8
    by_cases h12 : B 304 12 = 1
    · by_cases h3 : B 399 304 = w
      · rw [bI_t ⟨hf, h8.mp ⟨h12, h3⟩⟩]
        simp (disch := first | omega | (simp (disch := omega) only [uA_n]; done) | fail) only [iI_lit, iI_add, iI_sub, iI_mul, iI_neg, iI_lt, iI_le, iI_eq, zlt_t, zlt_f, zle_t, zle_f, zeq_t, zeq_f, nle_t, nle_f, iI_cl, rA, rS, rB, wA, wS, wB, mkp, mk2, uA_s, uA_n, ud_s, ud_n, bI_0, bI_1, nor_s, ↓reduceIte, or_false, false_or, or_true, true_or, or_self, not_true_eq_false, not_false_eq_true, and_true, true_and, and_false, false_and, bI_T, bI_F, Int.reduceToNat, Nat.reduceAdd, Nat.reduceMul, Int.reduceNeg, Option.bind_some, Int.toNat_natCast, a1, rL, lg_0]
      · rw [bI_f (fun z => h3 (h8.mpr z.2).2)]
        simp (disch := first | omega | (simp (disch := omega) only [uA_n]; done) | fail) only [iI_lit, iI_add, iI_sub, iI_mul, iI_neg, iI_lt, iI_le, iI_eq, zlt_t, zlt_f, zle_t, zle_f, zeq_t, zeq_f, nle_t, nle_f, iI_cl, rA, rS, rB, wA, wS, wB, mkp, mk2, uA_s, uA_n, ud_s, ud_n, bI_0, bI_1, nor_s, ↓reduceIte, or_false, false_or, or_true, true_or, or_self, not_true_eq_false, not_false_eq_true, and_true, true_and, and_false, false_and, bI_T, bI_F, Int.reduceToNat, Nat.reduceAdd, Nat.reduceMul, Int.reduceNeg, Option.bind_some, Int.toNat_natCast, a1, rL, lg_0]
    · rw [bI_f (fun z => h12 (h8.mpr z.2).1)]
      simp (disch := first | omega | (simp (disch := omega) only [uA_n]; done) | fail) only [iI_lit, iI_add, iI_sub, iI_mul, iI_neg, iI_lt, iI_le, iI_eq, zlt_t, zlt_f, zle_t, zle_f, zeq_t, zeq_f, nle_t, nle_f, iI_cl, rA, rS, rB, wA, wS, wB, mkp, mk2, uA_s, uA_n, ud_s, ud_n, bI_0, bI_1, nor_s, ↓reduceIte, or_false, false_or, or_true, true_or, or_self, not_true_eq_false, not_false_eq_true, and_true, true_and, and_false, false_and, bI_T, bI_F, Int.reduceToNat, Nat.reduceAdd, Nat.reduceMul, Int.reduceNeg, Option.bind_some, Int.toNat_natCast, a1]
  · obtain ⟨a1, -⟩ := r5 hf
    rw [bI_f (fun z => hf z.1)]
    simp (disch := first | omega | (simp (disch := omega) only [uA_n]; done) | fail) only [iI_lit, iI_add, iI_sub, iI_mul, iI_neg, iI_lt, iI_le, iI_eq, zlt_t, zlt_f, zle_t, zle_f, zeq_t, zeq_f, nle_t, nle_f, iI_cl, rA, rS, rB, wA, wS, wB, mkp, mk2, uA_s, uA_n, ud_s, ud_n, bI_0, bI_1, nor_s, ↓reduceIte, or_false, false_or, or_true, true_or, or_self, not_true_eq_false, not_false_eq_true, and_true, true_and, and_false, false_and, bI_T, bI_F, Int.reduceToNat, Nat.reduceAdd, Nat.reduceMul, Int.reduceNeg, Option.bind_some, Int.toNat_natCast, a1]
theorem em_isSign {s : PS} {o : Int} (hr : tRel B b L s o) (c : Int) (h0 : 37 ≤ c) (h1 : c ≤ 62) : f_m_isSign F (iI c) (mk Ax B) = some (iI (bI (s.2.2.2.2.1 = -1 ∧ s.1 = c)), mk Ax B) := by
  obtain ⟨-, -, -, r4, r5⟩ := hr
  simp only [f_m_isSign, f_m_isSign_29, f_m_isSign_30]
  by_cases hf : s.2.2.2.2.1 = -1
  · obtain ⟨a1, -, -, a3, a4, -, -, -, -, a9, -⟩ := r4 hf
    have h9 := a9 c h0 h1
    by_cases h12 : B 304 12 = 3
    · by_cases h3 : B 399 304 = c
      · rw [bI_t ⟨hf, h9.mp ⟨h12, h3⟩⟩]
        simp (disch := first | omega | (simp (disch := omega) only [uA_n]; done) | fail) only [iI_lit, iI_add, iI_sub, iI_mul, iI_neg, iI_lt, iI_le, iI_eq, zlt_t, zlt_f, zle_t, zle_f, zeq_t, zeq_f, nle_t, nle_f, iI_cl, rA, rS, rB, wA, wS, wB, mkp, mk2, uA_s, uA_n, ud_s, ud_n, bI_0, bI_1, nor_s, ↓reduceIte, or_false, false_or, or_true, true_or, or_self, not_true_eq_false, not_false_eq_true, and_true, true_and, and_false, false_and, bI_T, bI_F, Int.reduceToNat, Nat.reduceAdd, Nat.reduceMul, Int.reduceNeg, Option.bind_some, Int.toNat_natCast, a1, rL, lg_0, iI_long]
      · rw [bI_f (fun z => h3 (h9.mpr z.2).2)]
        simp (disch := first | omega | (simp (disch := omega) only [uA_n]; done) | fail) only [iI_lit, iI_add, iI_sub, iI_mul, iI_neg, iI_lt, iI_le, iI_eq, zlt_t, zlt_f, zle_t, zle_f, zeq_t, zeq_f, nle_t, nle_f, iI_cl, rA, rS, rB, wA, wS, wB, mkp, mk2, uA_s, uA_n, ud_s, ud_n, bI_0, bI_1, nor_s, ↓reduceIte, or_false, false_or, or_true, true_or, or_self, not_true_eq_false, not_false_eq_true, and_true, true_and, and_false, false_and, bI_T, bI_F, Int.reduceToNat, Nat.reduceAdd, Nat.reduceMul, Int.reduceNeg, Option.bind_some, Int.toNat_natCast, a1, rL, lg_0, iI_long]
    · rw [bI_f (fun z => h12 (h9.mpr z.2).1)]
      simp (disch := first | omega | (simp (disch := omega) only [uA_n]; done) | fail) only [iI_lit, iI_add, iI_sub, iI_mul, iI_neg, iI_lt, iI_le, iI_eq, zlt_t, zlt_f, zle_t, zle_f, zeq_t, zeq_f, nle_t, nle_f, iI_cl, rA, rS, rB, wA, wS, wB, mkp, mk2, uA_s, uA_n, ud_s, ud_n, bI_0, bI_1, nor_s, ↓reduceIte, or_false, false_or, or_true, true_or, or_self, not_true_eq_false, not_false_eq_true, and_true, true_and, and_false, false_and, bI_T, bI_F, Int.reduceToNat, Nat.reduceAdd, Nat.reduceMul, Int.reduceNeg, Option.bind_some, Int.toNat_natCast, a1]
  · obtain ⟨a1, -⟩ := r5 hf
    rw [bI_f (fun z => hf z.1)]
    simp (disch := first | omega | (simp (disch := omega) only [uA_n]; done) | fail) only [iI_lit, iI_add, iI_sub, iI_mul, iI_neg, iI_lt, iI_le, iI_eq, zlt_t, zlt_f, zle_t, zle_f, zeq_t, zeq_f, nle_t, nle_f, iI_cl, rA, rS, rB, wA, wS, wB, mkp, mk2, uA_s, uA_n, ud_s, ud_n, bI_0, bI_1, nor_s, ↓reduceIte, or_false, false_or, or_true, true_or, or_self, not_true_eq_false, not_false_eq_true, and_true, true_and, and_false, false_and, bI_T, bI_F, Int.reduceToNat, Nat.reduceAdd, Nat.reduceMul, Int.reduceNeg, Option.bind_some, Int.toNat_natCast, a1]
theorem em_fail {s : PS} {o : Int} (hr : tRel B b L s o) (hp : PI L s) : ∃ B' : hI, f_m_fail F (mk Ax B) = some ((), mk Ax B') ∧ tRel B' b L (pst s) o ∧ frM B B' := by
  obtain ⟨r1, r2, r3, r4, r5⟩ := hr
  simp only [f_m_fail, f_m_fail_20]
  have hne : (pst s).2.2.2.2.1 ≠ -1 := (pst_PI hp).2.2
  by_cases hf : s.2.2.2.2.1 = -1
  · obtain ⟨a1, a2, -⟩ := r4 hf
    refine ⟨uA (uA B 304 17 1) 304 18 (s.2.2.1 : Int), by simp (disch := first | omega | (simp (disch := omega) only [uA_n]; done) | fail) only [iI_lit, iI_add, iI_sub, iI_mul, iI_neg, iI_lt, iI_le, iI_eq, zlt_t, zlt_f, zle_t, zle_f, zeq_t, zeq_f, nle_t, nle_f, iI_cl, rA, rS, rB, wA, wS, wB, mkp, mk2, uA_s, uA_n, ud_s, ud_n, bI_0, bI_1, nor_s, ↓reduceIte, or_false, false_or, or_true, true_or, or_self, not_true_eq_false, not_false_eq_true, and_true, true_and, and_false, false_and, bI_T, bI_F, Int.reduceToNat, Nat.reduceAdd, Nat.reduceMul, Int.reduceNeg, Option.bind_some, Int.toNat_natCast, a1, a2], ⟨by simp (disch := first | omega | (simp (disch := omega) only [uA_n]; done) | fail) only [iI_lit, iI_add, iI_sub, iI_mul, iI_neg, iI_lt, iI_le, iI_eq, zlt_t, zlt_f, zle_t, zle_f, zeq_t, zeq_f, nle_t, nle_f, iI_cl, rA, rS, rB, wA, wS, wB, mkp, mk2, uA_s, uA_n, ud_s, ud_n, bI_0, bI_1, nor_s, ↓reduceIte, or_false, false_or, or_true, true_or, or_self, not_true_eq_false, not_false_eq_true, and_true, true_and, and_false, false_and, bI_T, bI_F, Int.reduceToNat, Nat.reduceAdd, Nat.reduceMul, Int.reduceNeg, Option.bind_some, Int.toNat_natCast], fun i hi => by rw [uA_n (by omega), uA_n (by omega)]; exact r2 i hi, by simp (disch := first | omega | (simp (disch := omega) only [uA_n]; done) | fail) only [iI_lit, iI_add, iI_sub, iI_mul, iI_neg, iI_lt, iI_le, iI_eq, zlt_t, zlt_f, zle_t, zle_f, zeq_t, zeq_f, nle_t, nle_f, iI_cl, rA, rS, rB, wA, wS, wB, mkp, mk2, uA_s, uA_n, ud_s, ud_n, bI_0, bI_1, nor_s, ↓reduceIte, or_false, false_or, or_true, true_or, or_self, not_true_eq_false, not_false_eq_true, and_true, true_and, and_false, false_and, bI_T, bI_F, Int.reduceToNat, Nat.reduceAdd, Nat.reduceMul, Int.reduceNeg, Option.bind_some, Int.toNat_natCast], fun z => absurd z hne, fun _ => ⟨by simp (disch := first | omega | (simp (disch := omega) only [uA_n]; done) | fail) only [iI_lit, iI_add, iI_sub, iI_mul, iI_neg, iI_lt, iI_le, iI_eq, zlt_t, zlt_f, zle_t, zle_f, zeq_t, zeq_f, nle_t, nle_f, iI_cl, rA, rS, rB, wA, wS, wB, mkp, mk2, uA_s, uA_n, ud_s, ud_n, bI_0, bI_1, nor_s, ↓reduceIte, or_false, false_or, or_true, true_or, or_self, not_true_eq_false, not_false_eq_true, and_true, true_and, and_false, false_and, bI_T, bI_F, Int.reduceToNat, Nat.reduceAdd, Nat.reduceMul, Int.reduceNeg, Option.bind_some, Int.toNat_natCast], ?_⟩⟩, ⟨fun k h1 h2 => by rw [uA_n h1, uA_n h1], fun j hj => by simp (disch := first | omega | (simp (disch := omega) only [uA_n]; done) | fail) only [iI_lit, iI_add, iI_sub, iI_mul, iI_neg, iI_lt, iI_le, iI_eq, zlt_t, zlt_f, zle_t, zle_f, zeq_t, zeq_f, nle_t, nle_f, iI_cl, rA, rS, rB, wA, wS, wB, mkp, mk2, uA_s, uA_n, ud_s, ud_n, bI_0, bI_1, nor_s, ↓reduceIte, or_false, false_or, or_true, true_or, or_self, not_true_eq_false, not_false_eq_true, and_true, true_and, and_false, false_and, bI_T, bI_F, Int.reduceToNat, Nat.reduceAdd, Nat.reduceMul, Int.reduceNeg, Option.bind_some, Int.toNat_natCast]⟩⟩
    rw [uA_s, ud_s]
    exact (if_pos hf).symm
  · obtain ⟨a1, a2⟩ := r5 hf
    refine ⟨B, by simp (disch := first | omega | (simp (disch := omega) only [uA_n]; done) | fail) only [iI_lit, iI_add, iI_sub, iI_mul, iI_neg, iI_lt, iI_le, iI_eq, zlt_t, zlt_f, zle_t, zle_f, zeq_t, zeq_f, nle_t, nle_f, iI_cl, rA, rS, rB, wA, wS, wB, mkp, mk2, uA_s, uA_n, ud_s, ud_n, bI_0, bI_1, nor_s, ↓reduceIte, or_false, false_or, or_true, true_or, or_self, not_true_eq_false, not_false_eq_true, and_true, true_and, and_false, false_and, bI_T, bI_F, Int.reduceToNat, Nat.reduceAdd, Nat.reduceMul, Int.reduceNeg, Option.bind_some, Int.toNat_natCast, a1], ⟨r1, r2, r3, fun z => absurd z hne, fun _ => ⟨a1, ?_⟩⟩, frM.rf B⟩
    rw [a2]
    exact (if_neg hf).symm
theorem RR.xM (R : RR K D A0 B0 A Bq) (h : frM Bq B) : RR K D A0 B0 A B := R.xB (fun k _ _ _ _ _ h6 h7 => h.1 k h7 h6) (h.2 9 (by omega)) (h.2 24 (by omega)) (h.2 29 (by omega)) (h.2 30 (by omega))
theorem em_name (R : RR K D A0 B0 A Bq) (hF : 1000 ≤ F) (hK : K ≤ 1000000000) {bill : Int} (hq : Bq 304 19 = bill) (hbill : bill = -1 ∨ (0 ≤ bill ∧ bill < 60 ∧ A 32 bill.toNat ≠ -1)) {s : PS} {o : Int} (hr : tRel B b L s o) (hp : PI L s) (hf : s.2.2.2.2.1 = -1) (hm : frM Bq B) : (s.1 = 4 → f_m_name_ F (mk Ax B) = some (iI (fct A bill s.2.1.toNat), mk Ax B)) ∧ (s.1 ≠ 4 → ∃ B' : hI, f_m_name_ F (mk Ax B) = some (iI 0, mk Ax B') ∧ tRel B' b L (pst s) o ∧ frM B B') := by
  have R1 := R.xM hm
  have e19 : B 304 19 = bill := by rw [hm.2 19 (by omega), hq]
  have tk := hp.2.2.2.2.2.1
  simp only [tkR] at tk
  have w7 : f_m_isWord F (149044 : Int64) (mk Ax B) = some (iI (bI (s.2.2.2.2.1 = -1 ∧ tkw s.1 s.2.1 = 7)), mk Ax B) := em_isWord F Ax hr 149044 7 (by decide) (by omega) (by omega)
  have w8 : f_m_isWord F (7750153 : Int64) (mk Ax B) = some (iI (bI (s.2.2.2.2.1 = -1 ∧ tkw s.1 s.2.1 = 8)), mk Ax B) := em_isWord F Ax hr 7750153 8 (by decide) (by omega) (by omega)
  have w9 : f_m_isWord F (7055522852 : Int64) (mk Ax B) = some (iI (bI (s.2.2.2.2.1 = -1 ∧ tkw s.1 s.2.1 = 9)), mk Ax B) := em_isWord F Ax hr 7055522852 9 (by decide) (by omega) (by omega)
  have w10 : f_m_isWord F (456500 : Int64) (mk Ax B) = some (iI (bI (s.2.2.2.2.1 = -1 ∧ tkw s.1 s.2.1 = 10)), mk Ax B) := em_isWord F Ax hr 456500 10 (by decide) (by omega) (by omega)
  have w11 : f_m_isWord F (2968 : Int64) (mk Ax B) = some (iI (bI (s.2.2.2.2.1 = -1 ∧ tkw s.1 s.2.1 = 11)), mk Ax B) := em_isWord F Ax hr 2968 11 (by decide) (by omega) (by omega)
  have w12 : f_m_isWord F (8863997 : Int64) (mk Ax B) = some (iI (bI (s.2.2.2.2.1 = -1 ∧ tkw s.1 s.2.1 = 12)), mk Ax B) := em_isWord F Ax hr 8863997 12 (by decide) (by omega) (by omega)
  have w13 : f_m_isWord F (14431 : Int64) (mk Ax B) = some (iI (bI (s.2.2.2.2.1 = -1 ∧ tkw s.1 s.2.1 = 13)), mk Ax B) := em_isWord F Ax hr 14431 13 (by decide) (by omega) (by omega)
  have w14 : f_m_isWord F (80155 : Int64) (mk Ax B) = some (iI (bI (s.2.2.2.2.1 = -1 ∧ tkw s.1 s.2.1 = 14)), mk Ax B) := em_isWord F Ax hr 80155 14 (by decide) (by omega) (by omega)
  have w15 : f_m_isWord F (7469488 : Int64) (mk Ax B) = some (iI (bI (s.2.2.2.2.1 = -1 ∧ tkw s.1 s.2.1 = 15)), mk Ax B) := em_isWord F Ax hr 7469488 15 (by decide) (by omega) (by omega)
  have w16 : f_m_isWord F (405230 : Int64) (mk Ax B) = some (iI (bI (s.2.2.2.2.1 = -1 ∧ tkw s.1 s.2.1 = 16)), mk Ax B) := em_isWord F Ax hr 405230 16 (by decide) (by omega) (by omega)
  have gl := R1.gle (h := 0) (by have := R1.gH.hn1; omega)
  have hg0 := R1.gH.hg 0 (by omega)
  have d3 := R1.gD.dd3
  have d1 := R1.gD.dd1
  have d2 := R1.gD.dd2
  have r3 := R1.gD.dr3
  have hn2 := R1.gH.hn2
  have eo := em_out F R1 hF Ax
  have er := em_reserve F R1 hF hK Ax
  simp only [f_m_name_, f_m_name__115, f_m_name__143, f_m_name__178, f_m_name__207, f_m_name__240]
  have key : ∀ j : Int, (tkw s.1 s.2.1 = j) ↔ (s.2.2.2.2.1 = -1 ∧ tkw s.1 s.2.1 = j) := fun j => ⟨fun z => ⟨hf, z⟩, fun z => z.2⟩
  refine ⟨fun h4 => ?_, fun h4 => ?_⟩
  · have hv : 0 ≤ s.2.1 ∧ s.2.1 < 10 := by omega
    have ew : tkw s.1 s.2.1 = s.2.1 + 7 := by unfold tkw; rw [if_neg (by omega), if_pos h4]
    rw [ew] at w7 w8 w9 w10 w11 w12 w13 w14 w15 w16
    generalize s.2.1 = v at *
    have no : ∀ j : Int, v + 7 ≠ j → bI (s.2.2.2.2.1 = -1 ∧ v + 7 = j) = 0 := fun j hj => bI_f (fun z => hj z.2)
    have ye : ∀ j : Int, v + 7 = j → bI (s.2.2.2.2.1 = -1 ∧ v + 7 = j) = 1 := fun j hj => bI_t ⟨hf, hj⟩
    rcases (show v = 0 ∨ v = 1 ∨ v = 2 ∨ v = 3 ∨ v = 4 ∨ v = 5 ∨ v = 6 ∨ v = 7 ∨ v = 8 ∨ v = 9 by omega) with e | e | e | e | e | e | e | e | e | e
    · rw [ye 7 (by omega)] at w7
      rw [show fct A bill v.toNat = A 22 0 by rw [e]; rfl]
      simp (disch := first | omega | (simp (disch := omega) only [uA_n]; done) | fail) only [iI_lit, iI_add, iI_sub, iI_mul, iI_neg, iI_lt, iI_le, iI_eq, zlt_t, zlt_f, zle_t, zle_f, zeq_t, zeq_f, nle_t, nle_f, iI_cl, rA, rS, rB, wA, wS, wB, mkp, mk2, uA_s, uA_n, ud_s, ud_n, bI_0, bI_1, nor_s, ↓reduceIte, or_false, false_or, or_true, true_or, or_self, not_true_eq_false, not_false_eq_true, and_true, true_and, and_false, false_and, bI_T, bI_F, Int.reduceToNat, Nat.reduceAdd, Nat.reduceMul, Int.reduceNeg, Option.bind_some, Int.toNat_natCast, ↓bind_of w7, em_hs, hg0]
    · rw [no 7 (by omega)] at w7; rw [ye 8 (by omega)] at w8
      rw [show fct A bill v.toNat = 10 * A 55 9 by rw [e]; rfl]
      simp (disch := first | omega | (simp (disch := omega) only [uA_n]; done) | fail) only [iI_lit, iI_add, iI_sub, iI_mul, iI_neg, iI_lt, iI_le, iI_eq, zlt_t, zlt_f, zle_t, zle_f, zeq_t, zeq_f, nle_t, nle_f, iI_cl, rA, rS, rB, wA, wS, wB, mkp, mk2, uA_s, uA_n, ud_s, ud_n, bI_0, bI_1, nor_s, ↓reduceIte, or_false, false_or, or_true, true_or, or_self, not_true_eq_false, not_false_eq_true, and_true, true_and, and_false, false_and, bI_T, bI_F, Int.reduceToNat, Nat.reduceAdd, Nat.reduceMul, Int.reduceNeg, Option.bind_some, Int.toNat_natCast, ↓bind_of w7, ↓bind_of w8, ↓bind_of eo]
    · rw [no 7 (by omega)] at w7; rw [no 8 (by omega)] at w8; rw [ye 9 (by omega)] at w9
      rw [show fct A bill v.toNat = rsv (A 22 0) (10 * A 55 9) by rw [e]; rfl]
      simp (disch := first | omega | (simp (disch := omega) only [uA_n]; done) | fail) only [iI_lit, iI_add, iI_sub, iI_mul, iI_neg, iI_lt, iI_le, iI_eq, zlt_t, zlt_f, zle_t, zle_f, zeq_t, zeq_f, nle_t, nle_f, iI_cl, rA, rS, rB, wA, wS, wB, mkp, mk2, uA_s, uA_n, ud_s, ud_n, bI_0, bI_1, nor_s, ↓reduceIte, or_false, false_or, or_true, true_or, or_self, not_true_eq_false, not_false_eq_true, and_true, true_and, and_false, false_and, bI_T, bI_F, Int.reduceToNat, Nat.reduceAdd, Nat.reduceMul, Int.reduceNeg, Option.bind_some, Int.toNat_natCast, ↓bind_of w7, ↓bind_of w8, ↓bind_of w9, ↓bind_of er]
    · rw [no 7 (by omega)] at w7; rw [no 8 (by omega)] at w8; rw [no 9 (by omega)] at w9; rw [ye 10 (by omega)] at w10
      rw [show fct A bill v.toNat = A 16 9 / 7 by rw [e]; rfl]
      simp (disch := first | omega | (simp (disch := omega) only [uA_n]; done) | fail) only [iI_lit, iI_add, iI_sub, iI_mul, iI_neg, iI_lt, iI_le, iI_eq, zlt_t, zlt_f, zle_t, zle_f, zeq_t, zeq_f, nle_t, nle_f, iI_cl, rA, rS, rB, wA, wS, wB, mkp, mk2, uA_s, uA_n, ud_s, ud_n, bI_0, bI_1, nor_s, ↓reduceIte, or_false, false_or, or_true, true_or, or_self, not_true_eq_false, not_false_eq_true, and_true, true_and, and_false, false_and, bI_T, bI_F, Int.reduceToNat, Nat.reduceAdd, Nat.reduceMul, Int.reduceNeg, Option.bind_some, Int.toNat_natCast, ↓bind_of w7, ↓bind_of w8, ↓bind_of w9, ↓bind_of w10, dS, d3, iI_div]
    · rw [no 7 (by omega)] at w7; rw [no 8 (by omega)] at w8; rw [no 9 (by omega)] at w9; rw [no 10 (by omega)] at w10; rw [ye 11 (by omega)] at w11
      rw [show fct A bill v.toNat = A 16 9 by rw [e]; rfl]
      simp (disch := first | omega | (simp (disch := omega) only [uA_n]; done) | fail) only [iI_lit, iI_add, iI_sub, iI_mul, iI_neg, iI_lt, iI_le, iI_eq, zlt_t, zlt_f, zle_t, zle_f, zeq_t, zeq_f, nle_t, nle_f, iI_cl, rA, rS, rB, wA, wS, wB, mkp, mk2, uA_s, uA_n, ud_s, ud_n, bI_0, bI_1, nor_s, ↓reduceIte, or_false, false_or, or_true, true_or, or_self, not_true_eq_false, not_false_eq_true, and_true, true_and, and_false, false_and, bI_T, bI_F, Int.reduceToNat, Nat.reduceAdd, Nat.reduceMul, Int.reduceNeg, Option.bind_some, Int.toNat_natCast, ↓bind_of w7, ↓bind_of w8, ↓bind_of w9, ↓bind_of w10, ↓bind_of w11, dS, d3]
    · rw [no 7 (by omega)] at w7; rw [no 8 (by omega)] at w8; rw [no 9 (by omega)] at w9; rw [no 10 (by omega)] at w10; rw [no 11 (by omega)] at w11; rw [ye 12 (by omega)] at w12
      rw [show fct A bill v.toNat = A 16 10 by rw [e]; rfl]
      simp (disch := first | omega | (simp (disch := omega) only [uA_n]; done) | fail) only [iI_lit, iI_add, iI_sub, iI_mul, iI_neg, iI_lt, iI_le, iI_eq, zlt_t, zlt_f, zle_t, zle_f, zeq_t, zeq_f, nle_t, nle_f, iI_cl, rA, rS, rB, wA, wS, wB, mkp, mk2, uA_s, uA_n, ud_s, ud_n, bI_0, bI_1, nor_s, ↓reduceIte, or_false, false_or, or_true, true_or, or_self, not_true_eq_false, not_false_eq_true, and_true, true_and, and_false, false_and, bI_T, bI_F, Int.reduceToNat, Nat.reduceAdd, Nat.reduceMul, Int.reduceNeg, Option.bind_some, Int.toNat_natCast, ↓bind_of w7, ↓bind_of w8, ↓bind_of w9, ↓bind_of w10, ↓bind_of w11, ↓bind_of w12, dS, r3]
    all_goals
      rw [no 7 (by omega)] at w7; rw [no 8 (by omega)] at w8; rw [no 9 (by omega)] at w9; rw [no 10 (by omega)] at w10; rw [no 11 (by omega)] at w11; rw [no 12 (by omega)] at w12
    · rw [ye 13 (by omega)] at w13
      by_cases hb : bill = -1
      · rw [show fct A bill v.toNat = 0 by rw [e, hb]; rfl]
        simp (disch := first | omega | (simp (disch := omega) only [uA_n]; done) | fail) only [iI_lit, iI_add, iI_sub, iI_mul, iI_neg, iI_lt, iI_le, iI_eq, zlt_t, zlt_f, zle_t, zle_f, zeq_t, zeq_f, nle_t, nle_f, iI_cl, rA, rS, rB, wA, wS, wB, mkp, mk2, uA_s, uA_n, ud_s, ud_n, bI_0, bI_1, nor_s, ↓reduceIte, or_false, false_or, or_true, true_or, or_self, not_true_eq_false, not_false_eq_true, and_true, true_and, and_false, false_and, bI_T, bI_F, Int.reduceToNat, Nat.reduceAdd, Nat.reduceMul, Int.reduceNeg, Option.bind_some, Int.toNat_natCast, ↓bind_of w7, ↓bind_of w8, ↓bind_of w9, ↓bind_of w10, ↓bind_of w11, ↓bind_of w12, ↓bind_of w13, e19, hb]
      · obtain ⟨p1, p2, p3⟩ := hbill.resolve_left hb
        have ps := R1.gP.ps bill.toNat (by omega) p3
        rw [show fct A bill v.toNat = A 33 bill.toNat by rw [e]; exact if_neg hb]
        simp (disch := first | omega | (simp (disch := omega) only [uA_n]; done) | fail) only [iI_lit, iI_add, iI_sub, iI_mul, iI_neg, iI_lt, iI_le, iI_eq, zlt_t, zlt_f, zle_t, zle_f, zeq_t, zeq_f, nle_t, nle_f, iI_cl, rA, rS, rB, wA, wS, wB, mkp, mk2, uA_s, uA_n, ud_s, ud_n, bI_0, bI_1, nor_s, ↓reduceIte, or_false, false_or, or_true, true_or, or_self, not_true_eq_false, not_false_eq_true, and_true, true_and, and_false, false_and, bI_T, bI_F, Int.reduceToNat, Nat.reduceAdd, Nat.reduceMul, Int.reduceNeg, Option.bind_some, Int.toNat_natCast, ↓bind_of w7, ↓bind_of w8, ↓bind_of w9, ↓bind_of w10, ↓bind_of w11, ↓bind_of w12, ↓bind_of w13, e19, em_paper, ps.1]
    · rw [no 13 (by omega)] at w13; rw [ye 14 (by omega)] at w14
      by_cases hb : bill = -1
      · rw [show fct A bill v.toNat = 0 by rw [e, hb]; rfl]
        simp (disch := first | omega | (simp (disch := omega) only [uA_n]; done) | fail) only [iI_lit, iI_add, iI_sub, iI_mul, iI_neg, iI_lt, iI_le, iI_eq, zlt_t, zlt_f, zle_t, zle_f, zeq_t, zeq_f, nle_t, nle_f, iI_cl, rA, rS, rB, wA, wS, wB, mkp, mk2, uA_s, uA_n, ud_s, ud_n, bI_0, bI_1, nor_s, ↓reduceIte, or_false, false_or, or_true, true_or, or_self, not_true_eq_false, not_false_eq_true, and_true, true_and, and_false, false_and, bI_T, bI_F, Int.reduceToNat, Nat.reduceAdd, Nat.reduceMul, Int.reduceNeg, Option.bind_some, Int.toNat_natCast, ↓bind_of w7, ↓bind_of w8, ↓bind_of w9, ↓bind_of w10, ↓bind_of w11, ↓bind_of w12, ↓bind_of w13, ↓bind_of w14, e19, hb]
      · obtain ⟨p1, p2, p3⟩ := hbill.resolve_left hb
        have ps := R1.gP.pdu bill.toNat (by omega) p3
        rw [show fct A bill v.toNat = A 36 bill.toNat - A 16 9 by rw [e]; exact if_neg hb]
        simp (disch := first | omega | (simp (disch := omega) only [uA_n]; done) | fail) only [iI_lit, iI_add, iI_sub, iI_mul, iI_neg, iI_lt, iI_le, iI_eq, zlt_t, zlt_f, zle_t, zle_f, zeq_t, zeq_f, nle_t, nle_f, iI_cl, rA, rS, rB, wA, wS, wB, mkp, mk2, uA_s, uA_n, ud_s, ud_n, bI_0, bI_1, nor_s, ↓reduceIte, or_false, false_or, or_true, true_or, or_self, not_true_eq_false, not_false_eq_true, and_true, true_and, and_false, false_and, bI_T, bI_F, Int.reduceToNat, Nat.reduceAdd, Nat.reduceMul, Int.reduceNeg, Option.bind_some, Int.toNat_natCast, ↓bind_of w7, ↓bind_of w8, ↓bind_of w9, ↓bind_of w10, ↓bind_of w11, ↓bind_of w12, ↓bind_of w13, ↓bind_of w14, e19, em_paper, ps.1, dS, d3]
    · rw [no 13 (by omega)] at w13; rw [no 14 (by omega)] at w14; rw [ye 15 (by omega)] at w15
      by_cases hb : bill = -1
      · rw [show fct A bill v.toNat = 0 by rw [e, hb]; rfl]
        simp (disch := first | omega | (simp (disch := omega) only [uA_n]; done) | fail) only [iI_lit, iI_add, iI_sub, iI_mul, iI_neg, iI_lt, iI_le, iI_eq, zlt_t, zlt_f, zle_t, zle_f, zeq_t, zeq_f, nle_t, nle_f, iI_cl, rA, rS, rB, wA, wS, wB, mkp, mk2, uA_s, uA_n, ud_s, ud_n, bI_0, bI_1, nor_s, ↓reduceIte, or_false, false_or, or_true, true_or, or_self, not_true_eq_false, not_false_eq_true, and_true, true_and, and_false, false_and, bI_T, bI_F, Int.reduceToNat, Nat.reduceAdd, Nat.reduceMul, Int.reduceNeg, Option.bind_some, Int.toNat_natCast, ↓bind_of w7, ↓bind_of w8, ↓bind_of w9, ↓bind_of w10, ↓bind_of w11, ↓bind_of w12, ↓bind_of w13, ↓bind_of w14, ↓bind_of w15, e19, hb]
      · obtain ⟨p1, p2, p3⟩ := hbill.resolve_left hb
        have ps := R1.gP.pnc bill.toNat (by omega) p3
        rw [show fct A bill v.toNat = A 39 bill.toNat by rw [e]; exact if_neg hb]
        simp (disch := first | omega | (simp (disch := omega) only [uA_n]; done) | fail) only [iI_lit, iI_add, iI_sub, iI_mul, iI_neg, iI_lt, iI_le, iI_eq, zlt_t, zlt_f, zle_t, zle_f, zeq_t, zeq_f, nle_t, nle_f, iI_cl, rA, rS, rB, wA, wS, wB, mkp, mk2, uA_s, uA_n, ud_s, ud_n, bI_0, bI_1, nor_s, ↓reduceIte, or_false, false_or, or_true, true_or, or_self, not_true_eq_false, not_false_eq_true, and_true, true_and, and_false, false_and, bI_T, bI_F, Int.reduceToNat, Nat.reduceAdd, Nat.reduceMul, Int.reduceNeg, Option.bind_some, Int.toNat_natCast, ↓bind_of w7, ↓bind_of w8, ↓bind_of w9, ↓bind_of w10, ↓bind_of w11, ↓bind_of w12, ↓bind_of w13, ↓bind_of w14, ↓bind_of w15, e19, em_paper, ps]
    · rw [no 13 (by omega)] at w13; rw [no 14 (by omega)] at w14; rw [no 15 (by omega)] at w15; rw [ye 16 (by omega)] at w16
      by_cases hb : bill = -1
      · rw [show fct A bill v.toNat = 0 by rw [e, hb]; rfl]
        simp (disch := first | omega | (simp (disch := omega) only [uA_n]; done) | fail) only [iI_lit, iI_add, iI_sub, iI_mul, iI_neg, iI_lt, iI_le, iI_eq, zlt_t, zlt_f, zle_t, zle_f, zeq_t, zeq_f, nle_t, nle_f, iI_cl, rA, rS, rB, wA, wS, wB, mkp, mk2, uA_s, uA_n, ud_s, ud_n, bI_0, bI_1, nor_s, ↓reduceIte, or_false, false_or, or_true, true_or, or_self, not_true_eq_false, not_false_eq_true, and_true, true_and, and_false, false_and, bI_T, bI_F, Int.reduceToNat, Nat.reduceAdd, Nat.reduceMul, Int.reduceNeg, Option.bind_some, Int.toNat_natCast, ↓bind_of w7, ↓bind_of w8, ↓bind_of w9, ↓bind_of w10, ↓bind_of w11, ↓bind_of w12, ↓bind_of w13, ↓bind_of w14, ↓bind_of w15, ↓bind_of w16, e19, hb]
      · obtain ⟨p1, p2, p3⟩ := hbill.resolve_left hb
        have ps := R1.gP.pd bill.toNat (by omega) p3
        have ht := R1.gH.ht (A 34 bill.toNat).toNat (by omega)
        rw [show fct A bill v.toNat = A 21 (A 34 bill.toNat).toNat by rw [e]; exact if_neg hb]
        simp (disch := first | omega | (simp (disch := omega) only [uA_n]; done) | fail) only [iI_lit, iI_add, iI_sub, iI_mul, iI_neg, iI_lt, iI_le, iI_eq, zlt_t, zlt_f, zle_t, zle_f, zeq_t, zeq_f, nle_t, nle_f, iI_cl, rA, rS, rB, wA, wS, wB, mkp, mk2, uA_s, uA_n, ud_s, ud_n, bI_0, bI_1, nor_s, ↓reduceIte, or_false, false_or, or_true, true_or, or_self, not_true_eq_false, not_false_eq_true, and_true, true_and, and_false, false_and, bI_T, bI_F, Int.reduceToNat, Nat.reduceAdd, Nat.reduceMul, Int.reduceNeg, Option.bind_some, Int.toNat_natCast, ↓bind_of w7, ↓bind_of w8, ↓bind_of w9, ↓bind_of w10, ↓bind_of w11, ↓bind_of w12, ↓bind_of w13, ↓bind_of w14, ↓bind_of w15, ↓bind_of w16, e19, em_paper, ps.1, em_hs, ht]
  · obtain ⟨B', f1, f2, f3⟩ := em_fail F Ax hr hp
    refine ⟨B', ?_, f2, f3⟩
    have hw : tkw s.1 s.2.1 < 7 ∨ 17 ≤ tkw s.1 s.2.1 := by
      unfold tkw
      (repeat' split) <;> omega
    have no : ∀ j : Int, 7 ≤ j → j < 17 → bI (s.2.2.2.2.1 = -1 ∧ tkw s.1 s.2.1 = j) = 0 := fun j h1 h2 => bI_f (fun z => by omega)
    rw [no 7 (by omega) (by omega)] at w7
    rw [no 8 (by omega) (by omega)] at w8
    rw [no 9 (by omega) (by omega)] at w9
    rw [no 10 (by omega) (by omega)] at w10
    rw [no 11 (by omega) (by omega)] at w11
    rw [no 12 (by omega) (by omega)] at w12
    rw [no 13 (by omega) (by omega)] at w13
    rw [no 14 (by omega) (by omega)] at w14
    rw [no 15 (by omega) (by omega)] at w15
    rw [no 16 (by omega) (by omega)] at w16
    by_cases hb : bill = -1 <;> simp (disch := first | omega | (simp (disch := omega) only [uA_n]; done) | fail) only [iI_lit, iI_add, iI_sub, iI_mul, iI_neg, iI_lt, iI_le, iI_eq, zlt_t, zlt_f, zle_t, zle_f, zeq_t, zeq_f, nle_t, nle_f, iI_cl, rA, rS, rB, wA, wS, wB, mkp, mk2, uA_s, uA_n, ud_s, ud_n, bI_0, bI_1, nor_s, ↓reduceIte, or_false, false_or, or_true, true_or, or_self, not_true_eq_false, not_false_eq_true, and_true, true_and, and_false, false_and, bI_T, bI_F, Int.reduceToNat, Nat.reduceAdd, Nat.reduceMul, Int.reduceNeg, Option.bind_some, Int.toNat_natCast, ↓bind_of w7, ↓bind_of w8, ↓bind_of w9, ↓bind_of w10, ↓bind_of w11, ↓bind_of w12, ↓bind_of w13, ↓bind_of w14, ↓bind_of w15, ↓bind_of w16, e19, ↓bind_of f1]
end MWRD
