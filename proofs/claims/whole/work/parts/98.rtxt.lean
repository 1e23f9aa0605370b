/-! the reference reads a text -/
section RTXT
variable {K D : Int} {A0 B0 A B B' Bq : hI} {b : Nat → Int} {L : Nat} (F : Nat) (Ax : hI)
theorem mk_n (Ax B : hI) : mk Ax (uA B 399 304 (Int64.ofInt (B 399 304)).toInt) = mk Ax B := by
  refine Prod.ext (funext fun k => funext fun j => ?_) (funext fun k => ?_)
  · have hd := dec_rg j
    show (if k < 304 then _ else if k = 305 then _ else if k = 313 then _ else if k = 314 then _ else if k < 318 then _ else _) = (if k < 304 then _ else if k = 305 then _ else if k = 313 then _ else if k = 314 then _ else if k < 318 then _ else _)
    (repeat' split) <;> first | rfl | omega | (rw [uA_n (by omega)])
  · show Int64.ofInt (uA B 399 304 (Int64.ofInt (B 399 304)).toInt 399 k) = Int64.ofInt (B 399 k)
    rw [uA_s]
    by_cases hk : k = 304
    · subst hk; rw [ud_s]; exact Int64.ofInt_toInt _
    · rw [ud_n hk]
theorem tRel.u {s : PS} {o : Int} (h : tRel B b L s o) {j : Nat} (hj : 19 ≤ j) (v : Int) : tRel (uA B 304 j v) b L s o := by
  have e : ∀ i : Nat, i < 19 → uA B 304 j v 304 i = B 304 i := fun i hi => by rw [uA_s, ud_n (by omega)]
  have e2 : ∀ k : Nat, k ≠ 304 → uA B 304 j v k = B k := fun k hk => uA_n hk
  obtain ⟨r1, r2, r3, r4, r5⟩ := h
  refine ⟨by rw [e 11 (by omega)]; exact r1, fun i hi => by rw [e2 312 (by omega)]; exact r2 i hi, by rw [e 16 (by omega)]; exact r3, fun z => ?_, fun z => ?_⟩
  · have := r4 z
    unfold tkB at this ⊢
    rw [e 17 (by omega), e 13 (by omega), e 12 (by omega), e 15 (by omega), e2 399 (by omega)]
    exact this
  · have := r5 z
    rw [e 17 (by omega), e 18 (by omega)]
    exact this
theorem em_keyHere {s : PS} {o : Int} (hr : tRel B b L s o) (hp : PI L s) (hf : s.2.2.2.2.1 = -1) : f_m_keyHere F (mk Ax B) = some (iI (if s.1 = 3 then s.2.1 else -1), mk Ax B) := by
  have tk := hp.2.2.2.2.2.1
  simp only [tkR] at tk
  have w0 : f_m_isWord F (11522 : Int64) (mk Ax B) = some (iI (bI (s.2.2.2.2.1 = -1 ∧ tkw s.1 s.2.1 = 0)), mk Ax B) := em_isWord F Ax hr 11522 0 (by decide) (by omega) (by omega)
  have w1 : f_m_isWord F (355568 : Int64) (mk Ax B) = some (iI (bI (s.2.2.2.2.1 = -1 ∧ tkw s.1 s.2.1 = 1)), mk Ax B) := em_isWord F Ax hr 355568 1 (by decide) (by omega) (by omega)
  have w2 : f_m_isWord F (2050 : Int64) (mk Ax B) = some (iI (bI (s.2.2.2.2.1 = -1 ∧ tkw s.1 s.2.1 = 2)), mk Ax B) := em_isWord F Ax hr 2050 2 (by decide) (by omega) (by omega)
  have w3 : f_m_isWord F (240223 : Int64) (mk Ax B) = some (iI (bI (s.2.2.2.2.1 = -1 ∧ tkw s.1 s.2.1 = 3)), mk Ax B) := em_isWord F Ax hr 240223 3 (by decide) (by omega) (by omega)
  have w4 : f_m_isWord F (164138 : Int64) (mk Ax B) = some (iI (bI (s.2.2.2.2.1 = -1 ∧ tkw s.1 s.2.1 = 4)), mk Ax B) := em_isWord F Ax hr 164138 4 (by decide) (by omega) (by omega)
  have w5 : f_m_isWord F (380237 : Int64) (mk Ax B) = some (iI (bI (s.2.2.2.2.1 = -1 ∧ tkw s.1 s.2.1 = 5)), mk Ax B) := em_isWord F Ax hr 380237 5 (by decide) (by omega) (by omega)
  have w6 : f_m_isWord F (242939 : Int64) (mk Ax B) = some (iI (bI (s.2.2.2.2.1 = -1 ∧ tkw s.1 s.2.1 = 6)), mk Ax B) := em_isWord F Ax hr 242939 6 (by decide) (by omega) (by omega)
  have no : ∀ j : Int, tkw s.1 s.2.1 ≠ j → bI (s.2.2.2.2.1 = -1 ∧ tkw s.1 s.2.1 = j) = 0 := fun j hj => bI_f (fun z => hj z.2)
  have ye : ∀ j : Int, tkw s.1 s.2.1 = j → bI (s.2.2.2.2.1 = -1 ∧ tkw s.1 s.2.1 = j) = 1 := fun j hj => bI_t ⟨hf, hj⟩
  simp only [f_m_keyHere, f_m_keyHere_100]
  by_cases h3 : s.1 = 3
  · have ew : tkw s.1 s.2.1 = s.2.1 := by unfold tkw; rw [if_pos h3]
    rw [if_pos h3]
    have hv : 0 ≤ s.2.1 ∧ s.2.1 < 7 := by omega
    rw [ew] at w0 w1 w2 w3 w4 w5 w6 no ye
    rcases (show s.2.1 = 0 ∨ s.2.1 = 1 ∨ s.2.1 = 2 ∨ s.2.1 = 3 ∨ s.2.1 = 4 ∨ s.2.1 = 5 ∨ s.2.1 = 6 by omega) with e | e | e | e | e | e | e
    · rw [ye 0 e] at w0; rw [e]; simp (disch := first | omega | (simp (disch := omega) only [uA_n]; done) | fail) only [iI_lit, iI_add, iI_sub, iI_mul, iI_neg, iI_lt, iI_le, iI_eq, zlt_t, zlt_f, zle_t, zle_f, zeq_t, zeq_f, nle_t, nle_f, iI_cl, rA, rS, rB, wA, wS, wB, mkp, mk2, uA_s, uA_n, ud_s, ud_n, bI_0, bI_1, nor_s, ↓reduceIte, or_false, false_or, or_true, true_or, or_self, not_true_eq_false, not_false_eq_true, and_true, true_and, and_false, false_and, bI_T, bI_F, Int.reduceToNat, Nat.reduceAdd, Nat.reduceMul, Int.reduceNeg, Option.bind_some, Int.toNat_natCast, ↓bind_of w0]
    · rw [no 0 (by omega)] at w0; rw [ye 1 e] at w1; rw [e]; simp (disch := first | omega | (simp (disch := omega) only [uA_n]; done) | fail) only [iI_lit, iI_add, iI_sub, iI_mul, iI_neg, iI_lt, iI_le, iI_eq, zlt_t, zlt_f, zle_t, zle_f, zeq_t, zeq_f, nle_t, nle_f, iI_cl, rA, rS, rB, wA, wS, wB, mkp, mk2, uA_s, uA_n, ud_s, ud_n, bI_0, bI_1, nor_s, ↓reduceIte, or_false, false_or, or_true, true_or, or_self, not_true_eq_false, not_false_eq_true, and_true, true_and, and_false, false_and, bI_T, bI_F, Int.reduceToNat, Nat.reduceAdd, Nat.reduceMul, Int.reduceNeg, Option.bind_some, Int.toNat_natCast, ↓bind_of w0, ↓bind_of w1]
    · rw [no 0 (by omega)] at w0; rw [no 1 (by omega)] at w1; rw [ye 2 e] at w2; rw [e]; simp (disch := first | omega | (simp (disch := omega) only [uA_n]; done) | fail) only [iI_lit, iI_add, iI_sub, iI_mul, iI_neg, iI_lt, iI_le, iI_eq, zlt_t, zlt_f, zle_t, zle_f, zeq_t, zeq_f, nle_t, nle_f, iI_cl, rA, rS, rB, wA, wS, wB, mkp, mk2, uA_s, uA_n, ud_s, ud_n, bI_0, bI_1, nor_s, ↓reduceIte, or_false, false_or, or_true, true_or, or_self, not_true_eq_false, not_false_eq_true, and_true, true_and, and_false, false_and, bI_T, bI_F, Int.reduceToNat, Nat.reduceAdd, Nat.reduceMul, Int.reduceNeg, Option.bind_some, Int.toNat_natCast, ↓bind_of w0, ↓bind_of w1, ↓bind_of w2]
    · rw [no 0 (by omega)] at w0; rw [no 1 (by omega)] at w1; rw [no 2 (by omega)] at w2; rw [ye 3 e] at w3; rw [e]; simp (disch := first | omega | (simp (disch := omega) only [uA_n]; done) | fail) only [iI_lit, iI_add, iI_sub, iI_mul, iI_neg, iI_lt, iI_le, iI_eq, zlt_t, zlt_f, zle_t, zle_f, zeq_t, zeq_f, nle_t, nle_f, iI_cl, rA, rS, rB, wA, wS, wB, mkp, mk2, uA_s, uA_n, ud_s, ud_n, bI_0, bI_1, nor_s, ↓reduceIte, or_false, false_or, or_true, true_or, or_self, not_true_eq_false, not_false_eq_true, and_true, true_and, and_false, false_and, bI_T, bI_F, Int.reduceToNat, Nat.reduceAdd, Nat.reduceMul, Int.reduceNeg, Option.bind_some, Int.toNat_natCast, ↓bind_of w0, ↓bind_of w1, ↓bind_of w2, ↓bind_of w3]
    · rw [no 0 (by omega)] at w0; rw [no 1 (by omega)] at w1; rw [no 2 (by omega)] at w2; rw [no 3 (by omega)] at w3; rw [ye 4 e] at w4; rw [e]; simp (disch := first | omega | (simp (disch := omega) only [uA_n]; done) | fail) only [iI_lit, iI_add, iI_sub, iI_mul, iI_neg, iI_lt, iI_le, iI_eq, zlt_t, zlt_f, zle_t, zle_f, zeq_t, zeq_f, nle_t, nle_f, iI_cl, rA, rS, rB, wA, wS, wB, mkp, mk2, uA_s, uA_n, ud_s, ud_n, bI_0, bI_1, nor_s, ↓reduceIte, or_false, false_or, or_true, true_or, or_self, not_true_eq_false, not_false_eq_true, and_true, true_and, and_false, false_and, bI_T, bI_F, Int.reduceToNat, Nat.reduceAdd, Nat.reduceMul, Int.reduceNeg, Option.bind_some, Int.toNat_natCast, ↓bind_of w0, ↓bind_of w1, ↓bind_of w2, ↓bind_of w3, ↓bind_of w4]
    · rw [no 0 (by omega)] at w0; rw [no 1 (by omega)] at w1; rw [no 2 (by omega)] at w2; rw [no 3 (by omega)] at w3; rw [no 4 (by omega)] at w4; rw [ye 5 e] at w5; rw [e]; simp (disch := first | omega | (simp (disch := omega) only [uA_n]; done) | fail) only [iI_lit, iI_add, iI_sub, iI_mul, iI_neg, iI_lt, iI_le, iI_eq, zlt_t, zlt_f, zle_t, zle_f, zeq_t, zeq_f, nle_t, nle_f, iI_cl, rA, rS, rB, wA, wS, wB, mkp, mk2, uA_s, uA_n, ud_s, ud_n, bI_0, bI_1, nor_s, ↓reduceIte, or_false, false_or, or_true, true_or, or_self, not_true_eq_false, not_false_eq_true, and_true, true_and, and_false, false_and, bI_T, bI_F, Int.reduceToNat, Nat.reduceAdd, Nat.reduceMul, Int.reduceNeg, Option.bind_some, Int.toNat_natCast, ↓bind_of w0, ↓bind_of w1, ↓bind_of w2, ↓bind_of w3, ↓bind_of w4, ↓bind_of w5]
    · rw [no 0 (by omega)] at w0; rw [no 1 (by omega)] at w1; rw [no 2 (by omega)] at w2; rw [no 3 (by omega)] at w3; rw [no 4 (by omega)] at w4; rw [no 5 (by omega)] at w5; rw [ye 6 e] at w6; rw [e]; simp (disch := first | omega | (simp (disch := omega) only [uA_n]; done) | fail) only [iI_lit, iI_add, iI_sub, iI_mul, iI_neg, iI_lt, iI_le, iI_eq, zlt_t, zlt_f, zle_t, zle_f, zeq_t, zeq_f, nle_t, nle_f, iI_cl, rA, rS, rB, wA, wS, wB, mkp, mk2, uA_s, uA_n, ud_s, ud_n, bI_0, bI_1, nor_s, ↓reduceIte, or_false, false_or, or_true, true_or, or_self, not_true_eq_false, not_false_eq_true, and_true, true_and, and_false, false_and, bI_T, bI_F, Int.reduceToNat, Nat.reduceAdd, Nat.reduceMul, Int.reduceNeg, Option.bind_some, Int.toNat_natCast, ↓bind_of w0, ↓bind_of w1, ↓bind_of w2, ↓bind_of w3, ↓bind_of w4, ↓bind_of w5, ↓bind_of w6]
  · have nk : ∀ j : Int, 0 ≤ j → j < 7 → tkw s.1 s.2.1 ≠ j := fun j h0 h7 => by
      unfold tkw; rw [if_neg h3]; (repeat' split) <;> omega
    rw [if_neg h3]
    rw [no 0 (nk 0 (by omega) (by omega))] at w0; rw [no 1 (nk 1 (by omega) (by omega))] at w1; rw [no 2 (nk 2 (by omega) (by omega))] at w2; rw [no 3 (nk 3 (by omega) (by omega))] at w3; rw [no 4 (nk 4 (by omega) (by omega))] at w4; rw [no 5 (nk 5 (by omega) (by omega))] at w5; rw [no 6 (nk 6 (by omega) (by omega))] at w6
    simp (disch := first | omega | (simp (disch := omega) only [uA_n]; done) | fail) only [iI_lit, iI_add, iI_sub, iI_mul, iI_neg, iI_lt, iI_le, iI_eq, zlt_t, zlt_f, zle_t, zle_f, zeq_t, zeq_f, nle_t, nle_f, iI_cl, rA, rS, rB, wA, wS, wB, mkp, mk2, uA_s, uA_n, ud_s, ud_n, bI_0, bI_1, nor_s, ↓reduceIte, or_false, false_or, or_true, true_or, or_self, not_true_eq_false, not_false_eq_true, and_true, true_and, and_false, false_and, bI_T, bI_F, Int.reduceToNat, Nat.reduceAdd, Nat.reduceMul, Int.reduceNeg, Option.bind_some, Int.toNat_natCast, ↓bind_of w0, ↓bind_of w1, ↓bind_of w2, ↓bind_of w3, ↓bind_of w4, ↓bind_of w5, ↓bind_of w6]
theorem tkw_if {t v : Int} (tk : tkR t v) : tkw t v = 17 ↔ t = 5 := by
  simp only [tkR] at tk
  unfold tkw
  (repeat' split) <;> omega
theorem em_rt105 {s : PS} {o : Int} (hr : tRel B b L s o) (hp : PI L s) : ∃ B' : hI, f_m_readText_105 F (mk Ax B) = some ((), mk Ax B') ∧ tRel B' b L (if s.1 = 0 then s else pst s) o ∧ frM B B' := by
  simp only [f_m_readText_105, f_m_readText_123]
  by_cases hf : s.2.2.2.2.1 = -1
  · obtain ⟨a1, a2, a3⟩ := hr.2.2.2.1 hf
    have a12 := a3.2.1
    by_cases h0 : s.1 = 0
    · have e12 : B 304 12 = 0 := a3.2.2.2.1.1 h0
      rw [if_pos h0]
      exact ⟨B, by simp (disch := first | omega | (simp (disch := omega) only [uA_n]; done) | fail) only [iI_lit, iI_add, iI_sub, iI_mul, iI_neg, iI_lt, iI_le, iI_eq, zlt_t, zlt_f, zle_t, zle_f, zeq_t, zeq_f, nle_t, nle_f, iI_cl, rA, rS, rB, wA, wS, wB, mkp, mk2, uA_s, uA_n, ud_s, ud_n, bI_0, bI_1, nor_s, ↓reduceIte, or_false, false_or, or_true, true_or, or_self, not_true_eq_false, not_false_eq_true, and_true, true_and, and_false, false_and, bI_T, bI_F, Int.reduceToNat, Nat.reduceAdd, Nat.reduceMul, Int.reduceNeg, Option.bind_some, Int.toNat_natCast, a1, e12], hr, frM.rf B⟩
    · have n12 : B 304 12 ≠ 0 := fun z => h0 (a3.2.2.2.1.2 z)
      rw [if_neg h0]
      obtain ⟨B1, x1, x2, x3⟩ := em_fail F Ax hr hp
      exact ⟨B1, by simp (disch := first | omega | (simp (disch := omega) only [uA_n]; done) | fail) only [iI_lit, iI_add, iI_sub, iI_mul, iI_neg, iI_lt, iI_le, iI_eq, zlt_t, zlt_f, zle_t, zle_f, zeq_t, zeq_f, nle_t, nle_f, iI_cl, rA, rS, rB, wA, wS, wB, mkp, mk2, uA_s, uA_n, ud_s, ud_n, bI_0, bI_1, nor_s, ↓reduceIte, or_false, false_or, or_true, true_or, or_self, not_true_eq_false, not_false_eq_true, and_true, true_and, and_false, false_and, bI_T, bI_F, Int.reduceToNat, Nat.reduceAdd, Nat.reduceMul, Int.reduceNeg, Option.bind_some, Int.toNat_natCast, a1, ↓bind_of x1], x2, x3⟩
  · obtain ⟨a1, a2⟩ := hr.2.2.2.2 hf
    have h1 : s.1 = 1 := by have := hp.2.2.1; omega
    rw [if_neg (show ¬ s.1 = 0 by omega)]
    obtain ⟨B1, x1, x2, x3⟩ := em_fail F Ax hr hp
    refine ⟨B, by simp (disch := first | omega | (simp (disch := omega) only [uA_n]; done) | fail) only [iI_lit, iI_add, iI_sub, iI_mul, iI_neg, iI_lt, iI_le, iI_eq, zlt_t, zlt_f, zle_t, zle_f, zeq_t, zeq_f, nle_t, nle_f, iI_cl, rA, rS, rB, wA, wS, wB, mkp, mk2, uA_s, uA_n, ud_s, ud_n, bI_0, bI_1, nor_s, ↓reduceIte, or_false, false_or, or_true, true_or, or_self, not_true_eq_false, not_false_eq_true, and_true, true_and, and_false, false_and, bI_T, bI_F, Int.reduceToNat, Nat.reduceAdd, Nat.reduceMul, Int.reduceNeg, Option.bind_some, Int.toNat_natCast, a1], ⟨hr.1, hr.2.1, hr.2.2.1, fun z => absurd z (pst_PI hp).2.2, fun z => ⟨a1, ?_⟩⟩, frM.rf B⟩
    rw [a2]
    exact (if_neg hf).symm
theorem pst_pst {s : PS} (h : PI L s) : pst (pst s) = pst s := by
  have := (pst_PI h).2.2
  unfold pst at this ⊢
  simp only at this ⊢
  rw [if_neg this]
def fr4 (B B' : hI) : Prop := (∀ k : Nat, k ≠ 304 → k ≠ 399 → k ≠ 312 → B' k = B k) ∧ ∀ j : Nat, j < 11 ∨ j = 14 ∨ 22 < j → B' 304 j = B 304 j
theorem fr4.rf (B : hI) : fr4 B B := ⟨fun _ _ _ _ => rfl, fun _ _ => rfl⟩
theorem fr4.tr {A A1 A2 : hI} (h : fr4 A A1) (g : fr4 A1 A2) : fr4 A A2 := ⟨fun k h1 h2 h3 => (g.1 k h1 h2 h3).trans (h.1 k h1 h2 h3), fun j hj => (g.2 j hj).trans (h.2 j hj)⟩
theorem frM.f4 (h : frM B B') : fr4 B B' := ⟨fun k h1 h2 _ => h.1 k h1 h2, fun j hj => h.2 j (by omega)⟩
theorem fr4.u (h : fr4 B B') {j : Nat} (hj : 11 ≤ j ∧ j ≤ 22 ∧ j ≠ 14) (v : Int) : fr4 B (uA B' 304 j v) := h.tr ⟨fun k h1 _ _ => uA_n h1, fun i hi => by rw [uA_s, ud_n (by omega)]⟩
theorem RR.x4 (R : RR K D A0 B0 A B) (h : fr4 B B') : RR K D A0 B0 A B' := R.xB (fun k _ h2 _ _ h5 h6 h7 => h.1 k h7 h6 h5) (h.2 9 (by omega)) (h.2 24 (by omega)) (h.2 29 (by omega)) (h.2 30 (by omega))
theorem hd_of {fc : Nat → Int} {cs : List Int} {v : Int32} (h : ∀ st, evs fc cs st = v :: st) : hd32 (evs fc cs []) = v := by rw [h]; rfl
end RTXT
