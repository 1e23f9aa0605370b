/-! A BILL IS OFFERED: both sides -/
section OFF2
variable {K D : Int} {A0 B0 A B A' B' : hI} (F : Nat)
/-- what an offer leaves -/
def offG (A A' : hI) (p : Nat) (r : Int) : Prop := (A' 31 = A 31 ∧ A' 19 = A 19 ∧ A' 46 = A 46 ∧ A' 53 = A 53 ∧ A' 45 = A 45 ∧ A' 23 = A 23) ∧ (∀ j : Nat, j ≠ 12 → A' 16 j = A 16 j) ∧ (A 16 12 ≤ A' 16 12 ∧ A' 16 12 ≤ A 16 12 + 1) ∧ (A' 27 = A 27 ∧ A' 32 = A 32 ∧ A' 36 = A 36 ∧ A' 37 = A 37 ∧ A' 40 = A 40) ∧ (∀ q, q ≠ p → A' 35 q = A 35 q ∧ A' 39 q = A 39 q) ∧ (r = 0 → A' 35 p = A 35 p ∧ A' 39 p = A 39 p) ∧ (r ≠ 0 → A' 35 p ≠ A 35 p)
theorem offG.no {A A' : hI} {p : Nat} (h : ∀ k : Nat, k ≠ 15 → k ≠ 54 → k ≠ 16 → A' k = A k) (h2 : ∀ j : Nat, j ≠ 12 → A' 16 j = A 16 j) (h3 : A 16 12 ≤ A' 16 12 ∧ A' 16 12 ≤ A 16 12 + 1) : offG A A' p 0 := ⟨⟨h 31 (by omega) (by omega) (by omega), h 19 (by omega) (by omega) (by omega), h 46 (by omega) (by omega) (by omega), h 53 (by omega) (by omega) (by omega), h 45 (by omega) (by omega) (by omega), h 23 (by omega) (by omega) (by omega)⟩, h2, h3, ⟨h 27 (by omega) (by omega) (by omega), h 32 (by omega) (by omega) (by omega), h 36 (by omega) (by omega) (by omega), h 37 (by omega) (by omega) (by omega), h 40 (by omega) (by omega) (by omega)⟩, fun q _ => by rw [h 35 (by omega) (by omega) (by omega), h 39 (by omega) (by omega) (by omega)]; exact ⟨rfl, rfl⟩, fun _ => by rw [h 35 (by omega) (by omega) (by omega), h 39 (by omega) (by omega) (by omega)]; exact ⟨rfl, rfl⟩, fun z => absurd rfl z⟩
theorem offG.so {A X : hI} {p : Nat} {b r : Int} (h : ∀ k : Nat, ¬ (2 ≤ k ∧ k ≤ 6) ∧ k ≠ 22 ∧ ¬ (55 ≤ k ∧ k ≤ 61) ∧ k ≠ 15 ∧ k ≠ 54 → X k = A k) (hb : b ≠ A 35 p) (hr : r ≠ 0) : offG A (soA X p b) p r := by
  refine ⟨⟨?_, ?_, ?_, ?_, ?_, ?_⟩, fun j _ => ?_, ?_, ⟨?_, ?_, ?_, ?_, ?_⟩, fun q hq => ?_, fun z => absurd z hr, fun _ => ?_⟩
  · rw [soA_o (by omega), h 31 (by omega)]
  · rw [soA_o (by omega), h 19 (by omega)]
  · rw [soA_o (by omega), h 46 (by omega)]
  · rw [soA_o (by omega), h 53 (by omega)]
  · rw [soA_o (by omega), h 45 (by omega)]
  · rw [soA_o (by omega), h 23 (by omega)]
  · rw [soA_o (by omega), h 16 (by omega)]
  · rw [soA_o (by omega), h 16 (by omega)]; omega
  · rw [soA_o (by omega), h 27 (by omega)]
  · rw [soA_o (by omega), h 32 (by omega)]
  · rw [soA_o (by omega), h 36 (by omega)]
  · rw [soA_o (by omega), h 37 (by omega)]
  · rw [soA_o (by omega), h 40 (by omega)]
  · rw [soA_q (by omega) hq, soA_q (by omega) hq, h 35 (by omega), h 39 (by omega)]; exact ⟨rfl, rfl⟩
  · have : soA X p b 35 p = b := by unfold soA; split <;> rw [uA_s, ud_s]
    rw [this]; exact hb
/-- the reference's last steps of a sale -/
theorem em_sell2 (R : RR K D A0 B0 A B) (Ax : hI) {p : Nat} (hp : p < 60) (h1 : A 32 p = 1) (hc : A 39 p < 6) (b v : Int) : (if (((6200 : Int32) + ((20 : Int32) * (iI p))) + (7 : Int32)) < 0 ∨ 9732 ≤ (((6200 : Int32) + ((20 : Int32) * (iI p))) + (7 : Int32)).toNatClampNeg then none else (if (((((6200 : Int32) + ((20 : Int32) * (iI p))) + (8 : Int32)) + ((mk Ax B).1 305 (((6200 : Int32) + ((20 : Int32) * (iI p))) + (7 : Int32)).toNatClampNeg)) - (1 : Int32)) < 0 ∨ 9732 ≤ (((((6200 : Int32) + ((20 : Int32) * (iI p))) + (8 : Int32)) + ((mk Ax B).1 305 (((6200 : Int32) + ((20 : Int32) * (iI p))) + (7 : Int32)).toNatClampNeg)) - (1 : Int32)).toNatClampNeg then none else (if ((mk Ax B).1 305 (((((6200 : Int32) + ((20 : Int32) * (iI p))) + (8 : Int32)) + ((mk Ax B).1 305 (((6200 : Int32) + ((20 : Int32) * (iI p))) + (7 : Int32)).toNatClampNeg)) - (1 : Int32)).toNatClampNeg) = iI (A 35 p) then f_m_offer_212 F (iI b) (iI v) ((6200 : Int32) + ((20 : Int32) * (iI p))) (mk Ax B) else (if ((((6200 : Int32) + ((20 : Int32) * (iI p))) + (8 : Int32)) + ((mk Ax B).1 305 (((6200 : Int32) + ((20 : Int32) * (iI p))) + (7 : Int32)).toNatClampNeg)) < 0 ∨ 9732 ≤ ((((6200 : Int32) + ((20 : Int32) * (iI p))) + (8 : Int32)) + ((mk Ax B).1 305 (((6200 : Int32) + ((20 : Int32) * (iI p))) + (7 : Int32)).toNatClampNeg)).toNatClampNeg then none else f_m_offer_198 F (iI b) (iI v) ((6200 : Int32) + ((20 : Int32) * (iI p))) ((m_up (mk Ax B).1 305 ((((6200 : Int32) + ((20 : Int32) * (iI p))) + (8 : Int32)) + ((mk Ax B).1 305 (((6200 : Int32) + ((20 : Int32) * (iI p))) + (7 : Int32)).toNatClampNeg)).toNatClampNeg (iI (A 35 p))), (mk Ax B).2))))) = some (iI v, mk Ax (soB A B p b)) := by
  have hn2 := R.gH.hn2
  have P := R.gP
  have hbn := P.pbn p hp h1
  have pnc := P.pnc p hp (by omega)
  have ph := P.ph p hp (by omega)
  have hbi := P.pbi p ((A 39 p).toNat - 1) hp h1 (by omega)
  rw [show 6 * p + ((A 39 p).toNat - 1) = 6 * p + (A 39 p).toNat - 1 by omega] at hbi
  obtain ⟨n, hn1⟩ : ∃ n : Nat, A 39 p = n := ⟨(A 39 p).toNat, by omega⟩
  unfold soB
  rw [hn1, Int.toNat_natCast] at hbi ⊢
  rw [hn1] at pnc hbn hc
  have c1 : (6200 : Int) + 20 * p + 8 + n - 1 = 6200 + 20 * p + 8 + ((n : Int) - 1) := by omega
  have c2 : 458 + ((n : Int) - 1).toNat = 458 + (n - 1) := by omega
  have m1 : uA B (458 + n) p (A 35 p) 399 = B 399 := uA_n (by omega)
  have m2 : uA (uA B (458 + n) p (A 35 p)) 457 p ((n : Int) + 1) 399 = B 399 := by rw [uA_n (by omega), uA_n (by omega)]
  have e457 : uA B (458 + n) p (A 35 p) 457 p = n := by rw [uA_n (by omega)]; exact pnc
  simp only [f_m_offer_212, f_m_offer_198]
  by_cases hs : A 38 (6 * p + n - 1) = A 35 p
  · rw [if_pos hs]
    have hs' := hbi.1.trans hs
    simp (disch := first | omega | (simp (disch := omega) only [uA_n]; done) | fail) only [iI_lit, iI_add, iI_sub, iI_mul, iI_neg, iI_lt, iI_le, iI_eq, zlt_t, zlt_f, zle_t, zle_f, zeq_t, zeq_f, nle_t, nle_f, iI_cl, rA, rS, rB, wA, wS, wB, mkp, mk2, uA_s, uA_n, ud_s, ud_n, bI_0, bI_1, nor_s, ↓reduceIte, or_false, false_or, or_true, true_or, or_self, not_true_eq_false, not_false_eq_true, and_true, true_and, and_false, false_and, bI_T, bI_F, Int.reduceToNat, Nat.reduceAdd, Nat.reduceMul, Int.reduceNeg, Option.bind_some, Int.toNat_natCast, zP, zP8, pnc, c1, c2, hs']
  · rw [if_neg hs]
    simp (disch := first | omega | (simp (disch := omega) only [uA_n]; done) | fail) only [iI_lit, iI_add, iI_sub, iI_mul, iI_neg, iI_lt, iI_le, iI_eq, zlt_t, zlt_f, zle_t, zle_f, zeq_t, zeq_f, nle_t, nle_f, iI_cl, rA, rS, rB, wA, wS, wB, mkp, mk2, uA_s, uA_n, ud_s, ud_n, bI_0, bI_1, nor_s, ↓reduceIte, or_false, false_or, or_true, true_or, or_self, not_true_eq_false, not_false_eq_true, and_true, true_and, and_false, false_and, bI_T, bI_F, Int.reduceToNat, Nat.reduceAdd, Nat.reduceMul, Int.reduceNeg, Option.bind_some, Int.toNat_natCast, zP, zP8, pnc, c1, c2, hbi.1, mk2 m1, mk2 m2, e457]
theorem RR.offer (R : RR K D A0 B0 A B) (hF : 1000 ≤ F) (hK : K ≤ 1000000000) (Ax Bx : hI) {p : Nat} (hp : p < 60) (h1 : A 32 p = 1) (hl : A 37 p = 0) (hi : A 40 p = 0) (hc : A 39 p < 6) (hh : 1 ≤ A 35 p) : ∃ (r : Int) (A' B' : hI), f_World_offer F (iI p) (mk A Bx) = some (iI r, mk A' Bx) ∧ f_m_offer F (iI p) (mk Ax B) = some (iI r, mk Ax B') ∧ RR K D A0 B0 A' B' ∧ 0 ≤ r ∧ r ≤ 11000 ∧ offG A A' p r := by
  have hn2 := R.gH.hn2
  have hd1 := R.gD.dd1
  have hd2 := R.gD.dd2
  have hr1 := R.gD.dr1
  have hr2 := R.gD.dr2
  have hr3 := R.gD.dr3
  have hD := R.gD.dD1
  have P := R.gP
  have hk : A 32 p ≠ -1 := by omega
  have ph := P.ph p hp hk
  have ps := P.ps p hp hk
  have li := P.pli p hp hk hl (by omega)
  have hb1 := R.gH.hb1 (A 35 p).toNat (by omega) (by omega)
  have hbb := R.gH.hb (A 35 p).toNat (by omega)
  have e4 := em_paper F (p : Int) 4 Ax B (by omega) (by omega) (by omega) (by omega)
  have e4 : f_m_paper F (iI p) (4 : Int32) (mk Ax B) = some (iI (A 35 p), mk Ax B) := e4.trans (by rw [Int.toNat_natCast]; show some (iI (B 454 p), _) = _; rw [ph.1])
  have e5 := em_hs F (A 35 p) 5 Ax B (by omega) (by omega) (by omega) (by omega)
  have e5 : f_m_hs F (iI (A 35 p)) (5 : Int32) (mk Ax B) = some (iI (A 24 (A 35 p).toNat), mk Ax B) := e5.trans (by show some (iI (B 415 (A 35 p).toNat), _) = _; rw [hbb])
  generalize hbk : A 24 (A 35 p).toNat = b at *
  by_cases hb0 : b = 0
  · -- THE BANK buys
    subst hb0
    have xp := ex_priceAt F R Bx hp hk hl (by omega) (r := A 16 10) hr1 (by omega)
    have yp := em_priceOf F R Ax hp hk hl (by omega) (r := A 16 10) hr1 (by omega)
    have pr := prc_rg (s := A 33 p) (r := A 16 10) (d := A 36 p - A 16 9) (by omega) (by omega) hr1 (by omega) (by omega) (by omega)
    obtain ⟨-, -, -, -, pr1, pr2⟩ := pr
    generalize prc (A 33 p) (A 16 10) (A 36 p - A 16 9) = v at *
    obtain ⟨A1, xl, fl1⟩ := ex_lawSays F R hF hK Bx (bill := (p : Int)) (key := 2) (Or.inr ⟨by omega, by omega, hk⟩) (by omega) (by omega)
    obtain ⟨B1, yl, fb1⟩ := em_ruled F Ax R hF hK (bill := (p : Int)) (key := 2) (d := 1) (Or.inr ⟨by omega, by omega, hk⟩) (by omega) (by omega) rfl
    have R1 : RR K D A0 B0 A1 B1 := (R.xA (fun k h1 _ h3 => fl1 k h1 h3)).x4 fb1
    have no : ∀ (A2 B2 : hI), RR K D A0 B0 A2 B2 → (∀ k : Nat, k ≠ 15 → k ≠ 54 → A2 k = A k) → f_World_offer F (iI p) (mk A Bx) = f_World_offer_60 F (mk A2 Bx) → f_m_offer F (iI p) (mk Ax B) = f_m_offer_114 F (iI 0) (mk Ax B2) → ∃ (r : Int) (A' B' : hI), f_World_offer F (iI p) (mk A Bx) = some (iI r, mk A' Bx) ∧ f_m_offer F (iI p) (mk Ax B) = some (iI r, mk Ax B') ∧ RR K D A0 B0 A' B' ∧ 0 ≤ r ∧ r ≤ 11000 ∧ offG A A' p r := by
      intro A2 B2 R2 f2 x2 y2
      have e16 : A2 16 = A 16 := f2 16 (by omega) (by omega)
      refine ⟨0, _, _, x2.trans ?_, y2.trans ?_, R2.refd, Int.le_refl _, by omega, ?_⟩
      · simp only [f_World_offer_60]
        simp (disch := first | omega | (simp (disch := omega) only [uA_n]; done) | fail) only [iI_lit, iI_add, iI_sub, iI_mul, iI_neg, iI_lt, iI_le, iI_eq, zlt_t, zlt_f, zle_t, zle_f, zeq_t, zeq_f, nle_t, nle_f, iI_cl, rA, rS, rB, wA, wS, wB, mkp, mk2, uA_s, uA_n, ud_s, ud_n, bI_0, bI_1, nor_s, ↓reduceIte, or_false, false_or, or_true, true_or, or_self, not_true_eq_false, not_false_eq_true, and_true, true_and, and_false, false_and, bI_T, bI_F, Int.reduceToNat, Nat.reduceAdd, Nat.reduceMul, Int.reduceNeg, Option.bind_some, Int.toNat_natCast]
      · simp only [f_m_offer_114, f_m_offer_129]
        have m1 : uA B2 400 8 (B2 400 8 + 1) 399 = B2 399 := uA_n (by omega)
        simp (disch := first | omega | (simp (disch := omega) only [uA_n]; done) | fail) only [iI_lit, iI_add, iI_sub, iI_mul, iI_neg, iI_lt, iI_le, iI_eq, zlt_t, zlt_f, zle_t, zle_f, zeq_t, zeq_f, nle_t, nle_f, iI_cl, rA, rS, rB, wA, wS, wB, mkp, mk2, uA_s, uA_n, ud_s, ud_n, bI_0, bI_1, nor_s, ↓reduceIte, or_false, false_or, or_true, true_or, or_self, not_true_eq_false, not_false_eq_true, and_true, true_and, and_false, false_and, bI_T, bI_F, Int.reduceToNat, Nat.reduceAdd, Nat.reduceMul, Int.reduceNeg, Option.bind_some, Int.toNat_natCast, dS, mk2 m1]
      · refine offG.no (fun k h1 h2 h3 => ?_) (fun j hj => ?_) ?_
        · rw [uA_n h3]; exact f2 k h1 h2
        · rw [uA_s, ud_n hj, e16]
        · rw [uA_s, ud_s, e16]; omega
    have wx : f_World_offer F (iI p) (mk A Bx) = (if say A B p 2 = 0 then f_World_offer_60 F (mk A1 Bx) else ((f_World_bankCan F (iI v) (mk A1 Bx)).bind fun q3 => (if q3.1 = 0 then f_World_offer_60 F q3.2 else ((f_World_transfer F (0 : Int32) (iI (A 35 p)) (iI v) q3.2).bind fun q4 => ((f_Papers_sellOn F (iI p) (0 : Int32) q4.2).bind fun q5 => some (iI v, q5.2)))))) := by
      unfold f_World_offer
      have v1 : (mk A Bx).1 35 (iI (p : Int)).toNatClampNeg = iI (A 35 p) := by simp (disch := first | omega | (simp (disch := omega) only [uA_n]; done) | fail) only [iI_lit, iI_add, iI_sub, iI_mul, iI_neg, iI_lt, iI_le, iI_eq, zlt_t, zlt_f, zle_t, zle_f, zeq_t, zeq_f, nle_t, nle_f, iI_cl, rA, rS, rB, wA, wS, wB, mkp, mk2, uA_s, uA_n, ud_s, ud_n, bI_0, bI_1, nor_s, ↓reduceIte, or_false, false_or, or_true, true_or, or_self, not_true_eq_false, not_false_eq_true, and_true, true_and, and_false, false_and, bI_T, bI_F, Int.reduceToNat, Nat.reduceAdd, Nat.reduceMul, Int.reduceNeg, Option.bind_some, Int.toNat_natCast]
      have v2 : (mk A Bx).1 24 (iI (A 35 p)).toNatClampNeg = iI 0 := by simp (disch := first | omega | (simp (disch := omega) only [uA_n]; done) | fail) only [iI_lit, iI_add, iI_sub, iI_mul, iI_neg, iI_lt, iI_le, iI_eq, zlt_t, zlt_f, zle_t, zle_f, zeq_t, zeq_f, nle_t, nle_f, iI_cl, rA, rS, rB, wA, wS, wB, mkp, mk2, uA_s, uA_n, ud_s, ud_n, bI_0, bI_1, nor_s, ↓reduceIte, or_false, false_or, or_true, true_or, or_self, not_true_eq_false, not_false_eq_true, and_true, true_and, and_false, false_and, bI_T, bI_F, Int.reduceToNat, Nat.reduceAdd, Nat.reduceMul, Int.reduceNeg, Option.bind_some, Int.toNat_natCast, hbk]
      have v3 : (mk A Bx).1 16 10 = iI (A 16 10) := by simp (disch := first | omega | (simp (disch := omega) only [uA_n]; done) | fail) only [iI_lit, iI_add, iI_sub, iI_mul, iI_neg, iI_lt, iI_le, iI_eq, zlt_t, zlt_f, zle_t, zle_f, zeq_t, zeq_f, nle_t, nle_f, iI_cl, rA, rS, rB, wA, wS, wB, mkp, mk2, uA_s, uA_n, ud_s, ud_n, bI_0, bI_1, nor_s, ↓reduceIte, or_false, false_or, or_true, true_or, or_self, not_true_eq_false, not_false_eq_true, and_true, true_and, and_false, false_and, bI_T, bI_F, Int.reduceToNat, Nat.reduceAdd, Nat.reduceMul, Int.reduceNeg, Option.bind_some, Int.toNat_natCast]
      have v4 : (mk A Bx).1 16 9 = iI (A 16 9) := by simp (disch := first | omega | (simp (disch := omega) only [uA_n]; done) | fail) only [iI_lit, iI_add, iI_sub, iI_mul, iI_neg, iI_lt, iI_le, iI_eq, zlt_t, zlt_f, zle_t, zle_f, zeq_t, zeq_f, nle_t, nle_f, iI_cl, rA, rS, rB, wA, wS, wB, mkp, mk2, uA_s, uA_n, ud_s, ud_n, bI_0, bI_1, nor_s, ↓reduceIte, or_false, false_or, or_true, true_or, or_self, not_true_eq_false, not_false_eq_true, and_true, true_and, and_false, false_and, bI_T, bI_F, Int.reduceToNat, Nat.reduceAdd, Nat.reduceMul, Int.reduceNeg, Option.bind_some, Int.toNat_natCast]
      rw [v1, v2, v3, v4]
      refine (if_neg (by simp (disch := first | omega | (simp (disch := omega) only [uA_n]; done) | fail) only [iI_lit, iI_add, iI_sub, iI_mul, iI_neg, iI_lt, iI_le, iI_eq, zlt_t, zlt_f, zle_t, zle_f, zeq_t, zeq_f, nle_t, nle_f, iI_cl, rA, rS, rB, wA, wS, wB, mkp, mk2, uA_s, uA_n, ud_s, ud_n, bI_0, bI_1, nor_s, ↓reduceIte, or_false, false_or, or_true, true_or, or_self, not_true_eq_false, not_false_eq_true, and_true, true_and, and_false, false_and, bI_T, bI_F, Int.reduceToNat, Nat.reduceAdd, Nat.reduceMul, Int.reduceNeg, Option.bind_some, Int.toNat_natCast])).trans ((if_neg (by simp (disch := first | omega | (simp (disch := omega) only [uA_n]; done) | fail) only [iI_lit, iI_add, iI_sub, iI_mul, iI_neg, iI_lt, iI_le, iI_eq, zlt_t, zlt_f, zle_t, zle_f, zeq_t, zeq_f, nle_t, nle_f, iI_cl, rA, rS, rB, wA, wS, wB, mkp, mk2, uA_s, uA_n, ud_s, ud_n, bI_0, bI_1, nor_s, ↓reduceIte, or_false, false_or, or_true, true_or, or_self, not_true_eq_false, not_false_eq_true, and_true, true_and, and_false, false_and, bI_T, bI_F, Int.reduceToNat, Nat.reduceAdd, Nat.reduceMul, Int.reduceNeg, Option.bind_some, Int.toNat_natCast])).trans ((if_pos rfl).trans ?_))
      refine obd (v := (iI v, mk A Bx)) xp ?_
      exact obd (v := (say A B p 2, mk A1 Bx)) xl rfl
    have wy : f_m_offer F (iI p) (mk Ax B) = (if say A B p 2 = 0 then f_m_offer_96 F (iI p) (iI (A 35 p)) (iI 0) (iI v) (0 : Int32) (mk Ax B1) else f_m_offer_96 F (iI p) (iI (A 35 p)) (iI 0) (iI v) (1 : Int32) (mk Ax B1)) := by
      unfold f_m_offer
      refine obd (v := (iI (A 35 p), mk Ax B)) e4 ?_
      refine obd (v := (iI 0, mk Ax B)) e5 ?_
      refine (if_pos rfl).trans ?_
      have v3 : (mk Ax B).1 305 (10 : Int32).toNatClampNeg = iI (A 16 10) := by simp (disch := first | omega | (simp (disch := omega) only [uA_n]; done) | fail) only [iI_lit, iI_add, iI_sub, iI_mul, iI_neg, iI_lt, iI_le, iI_eq, zlt_t, zlt_f, zle_t, zle_f, zeq_t, zeq_f, nle_t, nle_f, iI_cl, rA, rS, rB, wA, wS, wB, mkp, mk2, uA_s, uA_n, ud_s, ud_n, bI_0, bI_1, nor_s, ↓reduceIte, or_false, false_or, or_true, true_or, or_self, not_true_eq_false, not_false_eq_true, and_true, true_and, and_false, false_and, bI_T, bI_F, Int.reduceToNat, Nat.reduceAdd, Nat.reduceMul, Int.reduceNeg, Option.bind_some, Int.toNat_natCast, dS, hr3]
      show f_m_offer_39 F (iI p) (iI (A 35 p)) (iI 0) (iI p) ((mk Ax B).1 305 (10 : Int32).toNatClampNeg) (mk Ax B) = _
      rw [v3]
      unfold f_m_offer_39
      refine obd (v := (iI v, mk Ax B)) yp ?_
      refine (if_pos rfl).trans ?_
      exact obd (v := (say A B p 2, mk Ax B1)) yl rfl
    by_cases hs : say A B p 2 = 0
    · rw [if_pos hs] at wx wy
      refine no A1 B1 R1 fl1 wx (wy.trans ?_)
      unfold f_m_offer_96
      exact if_pos rfl
    · rw [if_neg hs] at wx wy
      obtain ⟨A2, xb, fa2⟩ := ex_bankCan F R1 hF hK Bx (s := v) (by omega) (by omega)
      obtain ⟨B2, yb, fb2⟩ := em_bankCan F R1 hF hK Ax (s := v) (by omega) (by omega)
      have R2 : RR K D A0 B0 A2 B2 := (R1.xA (fun k h1 _ h3 => fa2 k h1 h3)).x4 fb2
      have f2 : ∀ k : Nat, k ≠ 15 → k ≠ 54 → A2 k = A k := fun k h1 h2 => (fa2 k h1 h2).trans (fl1 k h1 h2)
      have ne0 : ¬ (iI 0 = iI (A 35 p)) := by rw [iI_eq (by omega) (by omega) (by omega) (by omega)]; omega
      have yc : ∀ u : Int, (u = 0 ∨ u = 1) → f_m_bankCan F (iI v) (mk Ax B1) = some (iI u, mk Ax B2) → f_m_can F (iI 0) (iI (A 35 p)) (iI v) (mk Ax B1) = some (iI u, mk Ax B2) := fun u hu hx => by
        unfold f_m_can
        refine (if_neg ne0).trans ((if_pos rfl).trans ?_)
        refine obd (v := (iI u, mk Ax B2)) hx ?_
        rcases hu with rfl | rfl
        · exact if_pos (Or.inl rfl)
        · exact if_pos (Or.inr rfl)
      by_cases hbc : bcan A1 B1 v
      · rw [bI_t hbc] at xb yb
        have hbc2 := hbc.2
        have N := R2.gN
        have c1 : v / 10 - A2 55 10 ≤ 300 - A2 55 8 ∧ v / 10 - A2 55 10 ≤ 400 - A2 55 7 := by
          have e55 : A2 55 = A1 55 := fa2 55 (by omega) (by omega)
          rw [e55]
          have o := R1.out
          have n1 := R1.gN.nf2
          have n2 := R1.gN.nc2
          rcases hbc2 with h | h
          · omega
          · exact ⟨h.1, h.2.1⟩
        obtain ⟨A3, B3, x3, y3, R3, f3⟩ := R2.bxfer F hF Ax Bx (to := A 35 p) (s := v) hh (by rw [f2 19 (by omega) (by omega)]; exact ph.2.2) (by omega) (by omega) hK (by rw [fa2 22 (by omega) (by omega)]; exact hbc.1) c1.1 c1.2
        have g3 : ∀ k : Nat, ¬ (2 ≤ k ∧ k ≤ 6) ∧ k ≠ 22 ∧ ¬ (55 ≤ k ∧ k ≤ 61) ∧ k ≠ 15 ∧ k ≠ 54 → A3 k = A k := fun k hk => (f3 k (by omega)).trans (f2 k (by omega) (by omega))
        have h13 : A3 32 p = 1 := by rw [g3 32 (by omega)]; exact h1
        have hc3 : A3 39 p < 6 := by rw [g3 39 (by omega)]; exact hc
        have e35 : A3 35 p = A 35 p := by rw [g3 35 (by omega)]
        have x4 := ex_sellOn F R3 Bx hp h13 hc3 0
        have y4 := em_sell2 F R3 Ax hp h13 hc3 0 v
        have R4 := R3.sold hp h13 (by rw [g3 37 (by omega)]; exact hl) (by rw [g3 40 (by omega)]; exact hi) hc3 (by omega) (b := 0) (by rw [g3 19 (by omega)]; omega)
        rw [e35] at y4
        refine ⟨v, _, _, wx.trans ?_, wy.trans ?_, R4, by omega, by omega, offG.so g3 (by omega) (by omega)⟩
        · refine obd (v := (iI 1, mk A2 Bx)) xb ?_
          refine (if_neg i1n0).trans ?_
          refine obd (v := ((), mk A3 Bx)) x3 ?_
          exact obd (v := ((), mk (soA A3 p 0) Bx)) x4 rfl
        · unfold f_m_offer_96
          refine (if_neg i1n0).trans ?_
          refine obd (v := (iI 1, mk Ax B2)) (yc 1 (Or.inr rfl) yb) ?_
          refine (if_neg i1n0).trans ?_
          exact obd (v := ((), mk Ax B3)) y3 y4
      · rw [bI_f hbc] at xb yb
        refine no A2 B2 R2 f2 (wx.trans ?_) (wy.trans ?_)
        · refine obd (v := (iI 0, mk A2 Bx)) xb ?_
          exact if_pos rfl
        · unfold f_m_offer_96
          refine (if_neg i1n0).trans ?_
          refine obd (v := (iI 0, mk Ax B2)) (yc 0 (Or.inl rfl) yb) ?_
          exact if_pos rfl
  · -- a banker buys
    have hbne : (b.toNat : Nat) ≠ (A 35 p).toNat := fun z => by
      have := hb1.2.2
      rw [z] at this
      omega
    have hb1' : 1 ≤ b := by omega
    have xp := ex_priceAt F R Bx hp hk hl (by omega) (r := A 16 10 + 1) (by omega) (by omega)
    have yp := em_priceOf F R Ax hp hk hl (by omega) (r := A 16 10 + 1) (by omega) (by omega)
    have pr := prc_rg (s := A 33 p) (r := A 16 10 + 1) (d := A 36 p - A 16 9) (by omega) (by omega) (by omega) (by omega) (by omega) (by omega)
    obtain ⟨-, -, -, -, pr1, pr2⟩ := pr
    generalize prc (A 33 p) (A 16 10 + 1) (A 36 p - A 16 9) = v at *
    have xu := ex_isUp F R Bx b (by omega) (by omega)
    have yu := em_isUp F R Ax b (by omega) (by omega)
    have xc := ex_coin F R hK Bx (h := b) hb1' (by omega)
    have yc := em_coin F R hF hK Ax (h := b) hb1' (by omega)
    have hm := R.gH.hm b.toNat (by omega)
    have hm1 := R.gH.hm1 b.toNat (by omega)
    have gl := R.gle (h := b.toNat) (by omega)
    have hld := R.held (h := b.toNat) (by omega) (by omega)
    have y4m := em_hs F b 4 Ax B (by omega) (by omega) (by omega) (by omega)
    have y4m : f_m_hs F (iI b) (4 : Int32) (mk Ax B) = some (iI (A 23 b.toNat), mk Ax B) := y4m.trans (by show some (iI (B 414 b.toNat), _) = _; rw [hm])
    have nb0 : ¬ (iI b = 0) := by rw [show (0 : Int32) = iI 0 from rfl, iI_eq (by omega) (by omega) (by omega) (by omega)]; exact hb0
    have wx : f_World_offer F (iI p) (mk A Bx) = (if iI (bI (A 27 b.toNat = -1)) = 0 then f_World_offer_154 F (mk A Bx) else (if iI (A 22 b.toNat + 10 * A 61 b.toNat) - iI v < iI (A 23 b.toNat) then f_World_offer_154 F (mk A Bx) else ((f_World_houseCan F (iI b) (iI (A 35 p)) (iI v) (mk A Bx)).bind fun q9 => (if q9.1 = 0 then f_World_offer_154 F q9.2 else ((f_World_transfer F (iI b) (iI (A 35 p)) (iI v) q9.2).bind fun q10 => ((f_Papers_sellOn F (iI p) (iI b) q10.2).bind fun q11 => some (iI v, q11.2))))))) := by
      unfold f_World_offer
      have v1 : (mk A Bx).1 35 (iI (p : Int)).toNatClampNeg = iI (A 35 p) := by simp (disch := first | omega | (simp (disch := omega) only [uA_n]; done) | fail) only [iI_lit, iI_add, iI_sub, iI_mul, iI_neg, iI_lt, iI_le, iI_eq, zlt_t, zlt_f, zle_t, zle_f, zeq_t, zeq_f, nle_t, nle_f, iI_cl, rA, rS, rB, wA, wS, wB, mkp, mk2, uA_s, uA_n, ud_s, ud_n, bI_0, bI_1, nor_s, ↓reduceIte, or_false, false_or, or_true, true_or, or_self, not_true_eq_false, not_false_eq_true, and_true, true_and, and_false, false_and, bI_T, bI_F, Int.reduceToNat, Nat.reduceAdd, Nat.reduceMul, Int.reduceNeg, Option.bind_some, Int.toNat_natCast]
      have v2 : (mk A Bx).1 24 (iI (A 35 p)).toNatClampNeg = iI b := by simp (disch := first | omega | (simp (disch := omega) only [uA_n]; done) | fail) only [iI_lit, iI_add, iI_sub, iI_mul, iI_neg, iI_lt, iI_le, iI_eq, zlt_t, zlt_f, zle_t, zle_f, zeq_t, zeq_f, nle_t, nle_f, iI_cl, rA, rS, rB, wA, wS, wB, mkp, mk2, uA_s, uA_n, ud_s, ud_n, bI_0, bI_1, nor_s, ↓reduceIte, or_false, false_or, or_true, true_or, or_self, not_true_eq_false, not_false_eq_true, and_true, true_and, and_false, false_and, bI_T, bI_F, Int.reduceToNat, Nat.reduceAdd, Nat.reduceMul, Int.reduceNeg, Option.bind_some, Int.toNat_natCast, hbk]
      have v3 : (mk A Bx).1 16 10 + (1 : Int32) = iI (A 16 10 + 1) := by simp (disch := first | omega | (simp (disch := omega) only [uA_n]; done) | fail) only [iI_lit, iI_add, iI_sub, iI_mul, iI_neg, iI_lt, iI_le, iI_eq, zlt_t, zlt_f, zle_t, zle_f, zeq_t, zeq_f, nle_t, nle_f, iI_cl, rA, rS, rB, wA, wS, wB, mkp, mk2, uA_s, uA_n, ud_s, ud_n, bI_0, bI_1, nor_s, ↓reduceIte, or_false, false_or, or_true, true_or, or_self, not_true_eq_false, not_false_eq_true, and_true, true_and, and_false, false_and, bI_T, bI_F, Int.reduceToNat, Nat.reduceAdd, Nat.reduceMul, Int.reduceNeg, Option.bind_some, Int.toNat_natCast]
      have v4 : (mk A Bx).1 16 9 = iI (A 16 9) := by simp (disch := first | omega | (simp (disch := omega) only [uA_n]; done) | fail) only [iI_lit, iI_add, iI_sub, iI_mul, iI_neg, iI_lt, iI_le, iI_eq, zlt_t, zlt_f, zle_t, zle_f, zeq_t, zeq_f, nle_t, nle_f, iI_cl, rA, rS, rB, wA, wS, wB, mkp, mk2, uA_s, uA_n, ud_s, ud_n, bI_0, bI_1, nor_s, ↓reduceIte, or_false, false_or, or_true, true_or, or_self, not_true_eq_false, not_false_eq_true, and_true, true_and, and_false, false_and, bI_T, bI_F, Int.reduceToNat, Nat.reduceAdd, Nat.reduceMul, Int.reduceNeg, Option.bind_some, Int.toNat_natCast]
      have v5 : (mk A Bx).1 23 (iI b).toNatClampNeg = iI (A 23 b.toNat) := by simp (disch := first | omega | (simp (disch := omega) only [uA_n]; done) | fail) only [iI_lit, iI_add, iI_sub, iI_mul, iI_neg, iI_lt, iI_le, iI_eq, zlt_t, zlt_f, zle_t, zle_f, zeq_t, zeq_f, nle_t, nle_f, iI_cl, rA, rS, rB, wA, wS, wB, mkp, mk2, uA_s, uA_n, ud_s, ud_n, bI_0, bI_1, nor_s, ↓reduceIte, or_false, false_or, or_true, true_or, or_self, not_true_eq_false, not_false_eq_true, and_true, true_and, and_false, false_and, bI_T, bI_F, Int.reduceToNat, Nat.reduceAdd, Nat.reduceMul, Int.reduceNeg, Option.bind_some, Int.toNat_natCast]
      rw [v1, v2, v3, v4]
      refine (if_neg (by simp (disch := first | omega | (simp (disch := omega) only [uA_n]; done) | fail) only [iI_lit, iI_add, iI_sub, iI_mul, iI_neg, iI_lt, iI_le, iI_eq, zlt_t, zlt_f, zle_t, zle_f, zeq_t, zeq_f, nle_t, nle_f, iI_cl, rA, rS, rB, wA, wS, wB, mkp, mk2, uA_s, uA_n, ud_s, ud_n, bI_0, bI_1, nor_s, ↓reduceIte, or_false, false_or, or_true, true_or, or_self, not_true_eq_false, not_false_eq_true, and_true, true_and, and_false, false_and, bI_T, bI_F, Int.reduceToNat, Nat.reduceAdd, Nat.reduceMul, Int.reduceNeg, Option.bind_some, Int.toNat_natCast])).trans ((if_neg (by simp (disch := first | omega | (simp (disch := omega) only [uA_n]; done) | fail) only [iI_lit, iI_add, iI_sub, iI_mul, iI_neg, iI_lt, iI_le, iI_eq, zlt_t, zlt_f, zle_t, zle_f, zeq_t, zeq_f, nle_t, nle_f, iI_cl, rA, rS, rB, wA, wS, wB, mkp, mk2, uA_s, uA_n, ud_s, ud_n, bI_0, bI_1, nor_s, ↓reduceIte, or_false, false_or, or_true, true_or, or_self, not_true_eq_false, not_false_eq_true, and_true, true_and, and_false, false_and, bI_T, bI_F, Int.reduceToNat, Nat.reduceAdd, Nat.reduceMul, Int.reduceNeg, Option.bind_some, Int.toNat_natCast])).trans ((if_neg nb0).trans ?_))
      refine obd (v := (iI v, mk A Bx)) xp ?_
      refine obd (v := (iI (bI (A 27 b.toNat = -1)), mk A Bx)) xu ?_
      by_cases hu : iI (bI (A 27 b.toNat = -1)) = 0
      · exact (if_pos hu).trans (if_pos hu).symm
      · refine Eq.trans ?_ (if_neg hu).symm
        refine (if_neg hu).trans ?_
        refine obd (v := (iI (A 22 b.toNat + 10 * A 61 b.toNat), mk A Bx)) xc ?_
        refine (if_neg (by simp (disch := first | omega | (simp (disch := omega) only [uA_n]; done) | fail) only [iI_lit, iI_add, iI_sub, iI_mul, iI_neg, iI_lt, iI_le, iI_eq, zlt_t, zlt_f, zle_t, zle_f, zeq_t, zeq_f, nle_t, nle_f, iI_cl, rA, rS, rB, wA, wS, wB, mkp, mk2, uA_s, uA_n, ud_s, ud_n, bI_0, bI_1, nor_s, ↓reduceIte, or_false, false_or, or_true, true_or, or_self, not_true_eq_false, not_false_eq_true, and_true, true_and, and_false, false_and, bI_T, bI_F, Int.reduceToNat, Nat.reduceAdd, Nat.reduceMul, Int.reduceNeg, Option.bind_some, Int.toNat_natCast])).trans ?_
        show (if iI (A 22 b.toNat + 10 * A 61 b.toNat) - iI v < (mk A Bx).1 23 (iI b).toNatClampNeg then f_World_offer_154 F (mk A Bx) else _) = _
        rw [v5]
    have wy : f_m_offer F (iI p) (mk Ax B) = (if iI (bI (A 27 b.toNat = -1)) = 0 then f_m_offer_95 F (iI p) (iI (A 35 p)) (iI b) (iI v) (mk Ax B) else (if iI (A 22 b.toNat + 10 * A 61 b.toNat) - iI v < iI (A 23 b.toNat) then f_m_offer_95 F (iI p) (iI (A 35 p)) (iI b) (iI v) (mk Ax B) else f_m_offer_96 F (iI p) (iI (A 35 p)) (iI b) (iI v) (1 : Int32) (mk Ax B))) := by
      unfold f_m_offer
      refine obd (v := (iI (A 35 p), mk Ax B)) e4 ?_
      refine obd (v := (iI b, mk Ax B)) e5 ?_
      refine (if_neg nb0).trans ?_
      have v3 : (mk Ax B).1 305 (10 : Int32).toNatClampNeg + (1 : Int32) = iI (A 16 10 + 1) := by simp (disch := first | omega | (simp (disch := omega) only [uA_n]; done) | fail) only [iI_lit, iI_add, iI_sub, iI_mul, iI_neg, iI_lt, iI_le, iI_eq, zlt_t, zlt_f, zle_t, zle_f, zeq_t, zeq_f, nle_t, nle_f, iI_cl, rA, rS, rB, wA, wS, wB, mkp, mk2, uA_s, uA_n, ud_s, ud_n, bI_0, bI_1, nor_s, ↓reduceIte, or_false, false_or, or_true, true_or, or_self, not_true_eq_false, not_false_eq_true, and_true, true_and, and_false, false_and, bI_T, bI_F, Int.reduceToNat, Nat.reduceAdd, Nat.reduceMul, Int.reduceNeg, Option.bind_some, Int.toNat_natCast, dS, hr3]
      show f_m_offer_39 F (iI p) (iI (A 35 p)) (iI b) (iI p) ((mk Ax B).1 305 (10 : Int32).toNatClampNeg + (1 : Int32)) (mk Ax B) = _
      rw [v3]
      unfold f_m_offer_39
      refine obd (v := (iI v, mk Ax B)) yp ?_
      refine (if_neg nb0).trans ?_
      refine obd (v := (iI (bI (A 27 b.toNat = -1)), mk Ax B)) yu ?_
      by_cases hu : iI (bI (A 27 b.toNat = -1)) = 0
      · exact (if_pos hu).trans (if_pos hu).symm
      · refine Eq.trans ?_ (if_neg hu).symm
        refine (if_neg hu).trans ?_
        refine obd (v := (iI (A 22 b.toNat + 10 * A 61 b.toNat), mk Ax B)) yc ?_
        exact obd (v := (iI (A 23 b.toNat), mk Ax B)) y4m rfl
    have no : ∀ B2 : hI, RR K D A0 B0 A B2 → f_World_offer F (iI p) (mk A Bx) = f_World_offer_154 F (mk A Bx) → f_m_offer F (iI p) (mk Ax B) = f_m_offer_114 F (iI b) (mk Ax B2) → ∃ (r : Int) (A' B' : hI), f_World_offer F (iI p) (mk A Bx) = some (iI r, mk A' Bx) ∧ f_m_offer F (iI p) (mk Ax B) = some (iI r, mk Ax B') ∧ RR K D A0 B0 A' B' ∧ 0 ≤ r ∧ r ≤ 11000 ∧ offG A A' p r := by
      intro B2 R2 x2 y2
      refine ⟨0, A, B2, x2.trans ?_, y2.trans ?_, R2, Int.le_refl _, by omega, offG.no (fun _ _ _ _ => rfl) (fun _ _ => rfl) (by omega)⟩
      · rfl
      · unfold f_m_offer_114
        exact (if_neg nb0).trans rfl
    have y95 : f_m_offer_95 F (iI p) (iI (A 35 p)) (iI b) (iI v) (mk Ax B) = f_m_offer_114 F (iI b) (mk Ax B) := by
      unfold f_m_offer_95 f_m_offer_96
      exact if_pos rfl
    by_cases hup : A 27 b.toNat = -1
    · rw [bI_t hup] at wx wy
      rw [if_neg i1n0] at wx wy
      by_cases hlow : iI (A 22 b.toNat + 10 * A 61 b.toNat) - iI v < iI (A 23 b.toNat)
      · rw [if_pos hlow] at wx wy
        exact no B R wx (wy.trans y95)
      · rw [if_neg hlow] at wx wy
        have xh := ex_houseCan R F hF Bx b (A 35 p) v hb1' (by omega) (by omega) (by omega) (by omega) (by omega) hK
        obtain ⟨B2, yh, sc⟩ := em_can R F hF Ax b (A 35 p) v hb1' (by omega) (by omega) (by omega) (by omega) (by omega) hK
        have R2 := R.x3 sc
        by_cases hcan : hCan A b (A 35 p) v
        · rw [bI_t hcan] at xh yh
          have eb : ((b.toNat : Nat) : Int) = b := by omega
          obtain ⟨A3, B3, x3, y3, R3, f3⟩ := R2.xfer F hF Ax Bx (a := b.toNat) (to := A 35 p) (s := v) (by omega) (by omega) (by omega) (by omega) (by omega) (by omega) hK (by rw [eb]; exact hcan)
          rw [eb] at x3 y3
          have g3 : ∀ k : Nat, ¬ (2 ≤ k ∧ k ≤ 6) ∧ k ≠ 22 ∧ ¬ (55 ≤ k ∧ k ≤ 61) ∧ k ≠ 15 ∧ k ≠ 54 → A3 k = A k := fun k hk => f3 k (by omega)
          have h13 : A3 32 p = 1 := by rw [g3 32 (by omega)]; exact h1
          have hc3 : A3 39 p < 6 := by rw [g3 39 (by omega)]; exact hc
          have e35 : A3 35 p = A 35 p := by rw [g3 35 (by omega)]
          have x4 := ex_sellOn F R3 Bx hp h13 hc3 b
          have y4 := em_sell2 F R3 Ax hp h13 hc3 b v
          have R4 := R3.sold hp h13 (by rw [g3 37 (by omega)]; exact hl) (by rw [g3 40 (by omega)]; exact hi) hc3 (by omega) (b := b) (by rw [g3 19 (by omega)]; omega)
          rw [e35] at y4
          refine ⟨v, _, _, wx.trans ?_, wy.trans ?_, R4, by omega, by omega, offG.so g3 (by omega) (by omega)⟩
          · refine obd (v := (iI 1, mk A Bx)) xh ?_
            refine (if_neg i1n0).trans ?_
            refine obd (v := ((), mk A3 Bx)) x3 ?_
            exact obd (v := ((), mk (soA A3 p b) Bx)) x4 rfl
          · unfold f_m_offer_96
            refine (if_neg i1n0).trans ?_
            refine obd (v := (iI 1, mk Ax B2)) yh ?_
            refine (if_neg i1n0).trans ?_
            exact obd (v := ((), mk Ax B3)) y3 y4
        · rw [bI_f hcan] at xh yh
          refine no B2 R2 (wx.trans ?_) (wy.trans ?_)
          · refine obd (v := (iI 0, mk A Bx)) xh ?_
            exact if_pos rfl
          · unfold f_m_offer_96
            refine (if_neg i1n0).trans ?_
            refine obd (v := (iI 0, mk Ax B2)) yh ?_
            exact if_pos rfl
    · rw [bI_f hup] at wx wy
      rw [if_pos (show iI 0 = 0 from rfl)] at wx wy
      exact no B R wx (wy.trans y95)
end OFF2
