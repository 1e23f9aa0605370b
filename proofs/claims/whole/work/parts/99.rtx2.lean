/-! the reference reads a text, whole -/
theorem obd {α β : Type} {x : Option α} {v : α} {f : α → Option β} {r : Option β} (h : x = some v) (g : f v = r) : x.bind f = r := by rw [h]; exact g
section RTX2
variable {K D : Int} {A0 B0 A B B' Bq : hI} {b : Nat → Int} {L : Nat} (F : Nat) (Ax : hI)
theorem em_readText (R : RR K D A0 B0 A B) (hF : 1000 ≤ F) (hK : K ≤ 1000000000) {bill : Int} (hbill : bill = -1 ∨ (0 ≤ bill ∧ bill < 60 ∧ A 32 bill.toNat ≠ -1)) (hL : L ≤ 120) (hb : ∀ i, i < L → 0 ≤ b i ∧ b i ≤ 255) (h11 : B 304 11 = L) (h312 : ∀ i, i < L → B 312 i = b i) : ∃ B' : hI, f_m_readText F (iI bill) (mk Ax B) = some ((), mk Ax B') ∧ tRel B' b L (pT b L) 0 ∧ fr4 B B' ∧ B' 312 = B 312 ∧ B' 304 11 = B 304 11 ∧ ((p0 b L).1 = 3 → B' 304 20 = (p0 b L).2.1) ∧ ((pT b L).2.2.2.2.1 = -1 → iI (B' 304 21) = tv1 (fct A bill) b L ∧ (thd (fct A bill) b L → B' 304 22 = 1) ∧ (¬ thd (fct A bill) b L → B' 304 22 = 0)) := by
  have hbr : -1 ≤ bill ∧ bill < 60 := by omega
  -- the long's worth, in its range
  generalize hBn : uA B 399 304 (Int64.ofInt (B 399 304)).toInt = Bn
  have en : mk Ax B = mk Ax Bn := by rw [← hBn]; exact (mk_n Ax B).symm
  have f0 : fr4 B Bn := by rw [← hBn]; exact ⟨fun k h1 h2 _ => uA_n h2, fun j _ => by rw [uA_n (by omega)]⟩
  have o312 : Bn 312 = B 312 := by rw [← hBn, uA_n (by omega)]
  have o304 : Bn 304 = B 304 := by rw [← hBn, uA_n (by omega)]
  have o399 : -9223372036854775808 ≤ Bn 399 304 ∧ Bn 399 304 < 9223372036854775808 := by rw [← hBn, uA_s, ud_s]; exact ⟨Int64.le_toInt _, Int64.toInt_lt _⟩
  generalize hB1 : uA (uA (uA (uA Bn 304 19 bill) 304 15 0) 304 16 0) 304 17 0 = B1
  have f1 : fr4 B B1 := by rw [← hB1]; exact ((((f0.u (by omega) _).u (by omega) _).u (by omega) _).u (by omega) _)
  have e1 : ∀ k : Nat, k ≠ 304 → B1 k = Bn k := fun k hk => by rw [← hB1, uA_n hk, uA_n hk, uA_n hk, uA_n hk]
  have e19 : B1 304 19 = bill := by rw [← hB1]; simp (disch := first | omega | (simp (disch := omega) only [uA_n]; done) | fail) only [iI_lit, iI_add, iI_sub, iI_mul, iI_neg, iI_lt, iI_le, iI_eq, zlt_t, zlt_f, zle_t, zle_f, zeq_t, zeq_f, nle_t, nle_f, iI_cl, rA, rS, rB, wA, wS, wB, mkp, mk2, uA_s, uA_n, ud_s, ud_n, bI_0, bI_1, nor_s, ↓reduceIte, or_false, false_or, or_true, true_or, or_self, not_true_eq_false, not_false_eq_true, and_true, true_and, and_false, false_and, bI_T, bI_F, Int.reduceToNat, Nat.reduceAdd, Nat.reduceMul, Int.reduceNeg, Option.bind_some, Int.toNat_natCast]
  have e17 : B1 304 17 = 0 := by rw [← hB1]; simp (disch := first | omega | (simp (disch := omega) only [uA_n]; done) | fail) only [iI_lit, iI_add, iI_sub, iI_mul, iI_neg, iI_lt, iI_le, iI_eq, zlt_t, zlt_f, zle_t, zle_f, zeq_t, zeq_f, nle_t, nle_f, iI_cl, rA, rS, rB, wA, wS, wB, mkp, mk2, uA_s, uA_n, ud_s, ud_n, bI_0, bI_1, nor_s, ↓reduceIte, or_false, false_or, or_true, true_or, or_self, not_true_eq_false, not_false_eq_true, and_true, true_and, and_false, false_and, bI_T, bI_F, Int.reduceToNat, Nat.reduceAdd, Nat.reduceMul, Int.reduceNeg, Option.bind_some, Int.toNat_natCast]
  have e16 : B1 304 16 = 0 := by rw [← hB1]; simp (disch := first | omega | (simp (disch := omega) only [uA_n]; done) | fail) only [iI_lit, iI_add, iI_sub, iI_mul, iI_neg, iI_lt, iI_le, iI_eq, zlt_t, zlt_f, zle_t, zle_f, zeq_t, zeq_f, nle_t, nle_f, iI_cl, rA, rS, rB, wA, wS, wB, mkp, mk2, uA_s, uA_n, ud_s, ud_n, bI_0, bI_1, nor_s, ↓reduceIte, or_false, false_or, or_true, true_or, or_self, not_true_eq_false, not_false_eq_true, and_true, true_and, and_false, false_and, bI_T, bI_F, Int.reduceToNat, Nat.reduceAdd, Nat.reduceMul, Int.reduceNeg, Option.bind_some, Int.toNat_natCast]
  have e15 : B1 304 15 = 0 := by rw [← hB1]; simp (disch := first | omega | (simp (disch := omega) only [uA_n]; done) | fail) only [iI_lit, iI_add, iI_sub, iI_mul, iI_neg, iI_lt, iI_le, iI_eq, zlt_t, zlt_f, zle_t, zle_f, zeq_t, zeq_f, nle_t, nle_f, iI_cl, rA, rS, rB, wA, wS, wB, mkp, mk2, uA_s, uA_n, ud_s, ud_n, bI_0, bI_1, nor_s, ↓reduceIte, or_false, false_or, or_true, true_or, or_self, not_true_eq_false, not_false_eq_true, and_true, true_and, and_false, false_and, bI_T, bI_F, Int.reduceToNat, Nat.reduceAdd, Nat.reduceMul, Int.reduceNeg, Option.bind_some, Int.toNat_natCast]
  have e11 : B1 304 11 = L := by rw [← hB1]; simp (disch := first | omega | (simp (disch := omega) only [uA_n]; done) | fail) only [iI_lit, iI_add, iI_sub, iI_mul, iI_neg, iI_lt, iI_le, iI_eq, zlt_t, zlt_f, zle_t, zle_f, zeq_t, zeq_f, nle_t, nle_f, iI_cl, rA, rS, rB, wA, wS, wB, mkp, mk2, uA_s, uA_n, ud_s, ud_n, bI_0, bI_1, nor_s, ↓reduceIte, or_false, false_or, or_true, true_or, or_self, not_true_eq_false, not_false_eq_true, and_true, true_and, and_false, false_and, bI_T, bI_F, Int.reduceToNat, Nat.reduceAdd, Nat.reduceMul, Int.reduceNeg, Option.bind_some, Int.toNat_natCast, o304, h11]
  have hp0 := p0_PI b L
  obtain ⟨B2, x1, x2, x3⟩ := em_nx F Ax hF hL hb (B := B1) (s := s00) (o := 0) e11 (fun i hi => by rw [e1 312 (by omega), o312]; exact h312 i hi) e16 e17 (by rw [e15]; rfl) (by rw [e1 399 (by omega)]; exact o399) (Nat.zero_le _) rfl
  have x2 : tRel B2 b L (p0 b L) 0 := x2
  have kh := em_keyHere F Ax x2 hp0.1 hp0.2.1
  have m312 : ∀ {P Q : hI}, frM P Q → Q 312 = P 312 := fun h => h.1 312 (by omega) (by omega)
  rw [en]
  by_cases h3 : (p0 b L).1 = 3
  · rw [if_pos h3] at kh
    have hkr : 0 ≤ (p0 b L).2.1 ∧ (p0 b L).2.1 < 7 := by
      have tk := hp0.1.2.2.2.2.2.1
      simp only [tkR] at tk
      omega
    generalize hB3 : uA B2 304 20 (p0 b L).2.1 = B3
    have y2 : tRel B3 b L (p0 b L) 0 := by rw [← hB3]; exact x2.u (by omega) _
    have f3 : fr4 B B3 := by rw [← hB3]; exact (f1.tr x3.f4).u (by omega) _
    have e20 : B3 304 20 = (p0 b L).2.1 := by rw [← hB3]; simp (disch := first | omega | (simp (disch := omega) only [uA_n]; done) | fail) only [iI_lit, iI_add, iI_sub, iI_mul, iI_neg, iI_lt, iI_le, iI_eq, zlt_t, zlt_f, zle_t, zle_f, zeq_t, zeq_f, nle_t, nle_f, iI_cl, rA, rS, rB, wA, wS, wB, mkp, mk2, uA_s, uA_n, ud_s, ud_n, bI_0, bI_1, nor_s, ↓reduceIte, or_false, false_or, or_true, true_or, or_self, not_true_eq_false, not_false_eq_true, and_true, true_and, and_false, false_and, bI_T, bI_F, Int.reduceToNat, Nat.reduceAdd, Nat.reduceMul, Int.reduceNeg, Option.bind_some, Int.toNat_natCast]
    have e19' : B3 304 19 = bill := by rw [← hB3]; simp (disch := first | omega | (simp (disch := omega) only [uA_n]; done) | fail) only [iI_lit, iI_add, iI_sub, iI_mul, iI_neg, iI_lt, iI_le, iI_eq, zlt_t, zlt_f, zle_t, zle_f, zeq_t, zeq_f, nle_t, nle_f, iI_cl, rA, rS, rB, wA, wS, wB, mkp, mk2, uA_s, uA_n, ud_s, ud_n, bI_0, bI_1, nor_s, ↓reduceIte, or_false, false_or, or_true, true_or, or_self, not_true_eq_false, not_false_eq_true, and_true, true_and, and_false, false_and, bI_T, bI_F, Int.reduceToNat, Nat.reduceAdd, Nat.reduceMul, Int.reduceNeg, Option.bind_some, Int.toNat_natCast, x3.2 19 (by omega), e19]
    have g3 : B3 312 = B 312 := by rw [← hB3, uA_n (by omega), m312 x3, e1 312 (by omega), o312]
    obtain ⟨B4, y1, y3, y4⟩ := em_next F Ax hF hL hb y2 hp0.1.2.1 hp0.2.1 (by omega)
    have hPn := (pnx_PI (b := b) hp0.1 hp0.2.1).1
    have e4 : B4 304 17 = 0 := (y3.2.2.2.1 hp0.2.1).1
    obtain ⟨v1, B5, z1, z2, z3, z4⟩ := ml_all F Ax (R.x4 f3) hK e19' hbill hF hL hb _ B4 y3 y4 hPn
    have z2 : tRel B5 b L (pE1 b L) 0 := z2
    have q1 := pE1_PI b L
    have z4 : (pE1 b L).2.2.2.2.1 = -1 → v1 = tv1 (fct A bill) b L := fun h => by
      obtain ⟨nw, a1, a2⟩ := z4 h
      have a1 : (pE1 b L).2.2.2.2.2 = (p0 b L).2.2.2.2.2 ++ nw := a1
      rw [hp0.2.2, List.nil_append] at a1
      unfold tv1
      rw [a1, hd_of a2]
    obtain ⟨u1, rfl⟩ : ∃ u, v1 = iI u := ⟨v1.toInt, iI_of v1⟩
    try simp only at z1
    generalize hB6 : uA (uA B5 304 21 u1) 304 22 1 = B6
    have a2 : tRel B6 b L (pE1 b L) 0 := by rw [← hB6]; exact (z2.u (by omega) _).u (by omega) _
    have f6 : fr4 B B6 := by rw [← hB6]; exact ((f3.tr z3.f4).u (by omega) _).u (by omega) _
    have g6 : B6 312 = B 312 := by rw [← hB6, uA_n (by omega), uA_n (by omega), m312 z3, g3]
    have c20 : B6 304 20 = (p0 b L).2.1 := by rw [← hB6]; simp (disch := first | omega | (simp (disch := omega) only [uA_n]; done) | fail) only [iI_lit, iI_add, iI_sub, iI_mul, iI_neg, iI_lt, iI_le, iI_eq, zlt_t, zlt_f, zle_t, zle_f, zeq_t, zeq_f, nle_t, nle_f, iI_cl, rA, rS, rB, wA, wS, wB, mkp, mk2, uA_s, uA_n, ud_s, ud_n, bI_0, bI_1, nor_s, ↓reduceIte, or_false, false_or, or_true, true_or, or_self, not_true_eq_false, not_false_eq_true, and_true, true_and, and_false, false_and, bI_T, bI_F, Int.reduceToNat, Nat.reduceAdd, Nat.reduceMul, Int.reduceNeg, Option.bind_some, Int.toNat_natCast, z3.2 20 (by omega), e20]
    have c21 : B6 304 21 = u1 := by rw [← hB6]; simp (disch := first | omega | (simp (disch := omega) only [uA_n]; done) | fail) only [iI_lit, iI_add, iI_sub, iI_mul, iI_neg, iI_lt, iI_le, iI_eq, zlt_t, zlt_f, zle_t, zle_f, zeq_t, zeq_f, nle_t, nle_f, iI_cl, rA, rS, rB, wA, wS, wB, mkp, mk2, uA_s, uA_n, ud_s, ud_n, bI_0, bI_1, nor_s, ↓reduceIte, or_false, false_or, or_true, true_or, or_self, not_true_eq_false, not_false_eq_true, and_true, true_and, and_false, false_and, bI_T, bI_F, Int.reduceToNat, Nat.reduceAdd, Nat.reduceMul, Int.reduceNeg, Option.bind_some, Int.toNat_natCast]
    have c22 : B6 304 22 = 1 := by rw [← hB6]; simp (disch := first | omega | (simp (disch := omega) only [uA_n]; done) | fail) only [iI_lit, iI_add, iI_sub, iI_mul, iI_neg, iI_lt, iI_le, iI_eq, zlt_t, zlt_f, zle_t, zle_f, zeq_t, zeq_f, nle_t, nle_f, iI_cl, rA, rS, rB, wA, wS, wB, mkp, mk2, uA_s, uA_n, ud_s, ud_n, bI_0, bI_1, nor_s, ↓reduceIte, or_false, false_or, or_true, true_or, or_self, not_true_eq_false, not_false_eq_true, and_true, true_and, and_false, false_and, bI_T, bI_F, Int.reduceToNat, Nat.reduceAdd, Nat.reduceMul, Int.reduceNeg, Option.bind_some, Int.toNat_natCast]
    have c19 : B6 304 19 = bill := by rw [← hB6]; simp (disch := first | omega | (simp (disch := omega) only [uA_n]; done) | fail) only [iI_lit, iI_add, iI_sub, iI_mul, iI_neg, iI_lt, iI_le, iI_eq, zlt_t, zlt_f, zle_t, zle_f, zeq_t, zeq_f, nle_t, nle_f, iI_cl, rA, rS, rB, wA, wS, wB, mkp, mk2, uA_s, uA_n, ud_s, ud_n, bI_0, bI_1, nor_s, ↓reduceIte, or_false, false_or, or_true, true_or, or_self, not_true_eq_false, not_false_eq_true, and_true, true_and, and_false, false_and, bI_T, bI_F, Int.reduceToNat, Nat.reduceAdd, Nat.reduceMul, Int.reduceNeg, Option.bind_some, Int.toNat_natCast, z3.2 19 (by omega), e19']
    have w := em_isWord F Ax a2 249 17 (by decide) (by omega) (by omega)
    by_cases h5 : (pE1 b L).1 = 5
    · have hf1 : (pE1 b L).2.2.2.2.1 = -1 := by have := q1.2.2.1; omega
      rw [bI_t ⟨hf1, (tkw_if q1.2.2.2.2.2.1).2 h5⟩] at w
      obtain ⟨B7, t1, t2, t3⟩ := em_next F Ax hF hL hb a2 q1.2.1 hf1 (by omega)
      obtain ⟨v2, B8, s1, s2, s3, s4⟩ := ml_all F Ax (R.x4 f6) hK c19 hbill hF hL hb _ B7 t2 t3 (pnx_PI (b := b) q1 hf1).1
      have eE : (pLv (pnx b L) 6).2.2 (pnx b L (pE1 b L)) = pE2 b L := (if_pos h5).symm
      rw [eE] at s2 s4
      have s4 : (pE2 b L).2.2.2.2.1 = -1 → v2 = tv2 (fct A bill) b L := fun h => by
        obtain ⟨nw, a1, a2⟩ := s4 h
        have a1 : (pE2 b L).2.2.2.2.2 = (pE1 b L).2.2.2.2.2 ++ nw := a1
        unfold tv2
        rw [a1, List.drop_left, hd_of a2]
      try simp only at s1
      generalize hh : bI (v2 ≠ 0) = hv
      have hvr : 0 ≤ hv ∧ hv ≤ 1 := by rw [← hh]; exact bI_nn _
      have r9 : tRel (uA B8 304 22 hv) b L (pE2 b L) 0 := s2.u (by omega) _
      obtain ⟨B9, d1, d2, d3⟩ := em_rt105 F Ax r9 (pE2_PI b L)
      have eT : (if (pE2 b L).1 = 0 then pE2 b L else pst (pE2 b L)) = pT b L := (if_pos h3).symm
      rw [eT] at d2
      have fr : fr4 B B9 := ((f6.tr s3.f4).u (by omega) _).tr d3.f4
      refine ⟨B9, ?_, d2, fr, ?_, ?_, fun _ => ?_, fun hT => ?_⟩
      · unfold f_m_readText
        refine obd (v := ((), mk Ax B2)) (by simp (disch := first | omega | (simp (disch := omega) only [uA_n]; done) | fail) only [iI_lit, iI_add, iI_sub, iI_mul, iI_neg, iI_lt, iI_le, iI_eq, zlt_t, zlt_f, zle_t, zle_f, zeq_t, zeq_f, nle_t, nle_f, iI_cl, rA, rS, rB, wA, wS, wB, mkp, mk2, uA_s, uA_n, ud_s, ud_n, bI_0, bI_1, nor_s, ↓reduceIte, or_false, false_or, or_true, true_or, or_self, not_true_eq_false, not_false_eq_true, and_true, true_and, and_false, false_and, bI_T, bI_F, Int.reduceToNat, Nat.reduceAdd, Nat.reduceMul, Int.reduceNeg, Option.bind_some, Int.toNat_natCast, hB1, mk2 (e1 399 (by omega))]; exact x1) ?_
        refine obd (v := (iI (p0 b L).2.1, mk Ax B2)) kh ?_
        refine (if_neg (by simp (disch := first | omega | (simp (disch := omega) only [uA_n]; done) | fail) only [iI_lit, iI_add, iI_sub, iI_mul, iI_neg, iI_lt, iI_le, iI_eq, zlt_t, zlt_f, zle_t, zle_f, zeq_t, zeq_f, nle_t, nle_f, iI_cl, rA, rS, rB, wA, wS, wB, mkp, mk2, uA_s, uA_n, ud_s, ud_n, bI_0, bI_1, nor_s, ↓reduceIte, or_false, false_or, or_true, true_or, or_self, not_true_eq_false, not_false_eq_true, and_true, true_and, and_false, false_and, bI_T, bI_F, Int.reduceToNat, Nat.reduceAdd, Nat.reduceMul, Int.reduceNeg, Option.bind_some, Int.toNat_natCast])).trans ?_
        refine obd (v := ((), mk Ax B4)) (by simp (disch := first | omega | (simp (disch := omega) only [uA_n]; done) | fail) only [iI_lit, iI_add, iI_sub, iI_mul, iI_neg, iI_lt, iI_le, iI_eq, zlt_t, zlt_f, zle_t, zle_f, zeq_t, zeq_f, nle_t, nle_f, iI_cl, rA, rS, rB, wA, wS, wB, mkp, mk2, uA_s, uA_n, ud_s, ud_n, bI_0, bI_1, nor_s, ↓reduceIte, or_false, false_or, or_true, true_or, or_self, not_true_eq_false, not_false_eq_true, and_true, true_and, and_false, false_and, bI_T, bI_F, Int.reduceToNat, Nat.reduceAdd, Nat.reduceMul, Int.reduceNeg, Option.bind_some, Int.toNat_natCast, hB3, mk2 (show B3 399 = B2 399 by rw [← hB3, uA_n (by omega)])]; exact y1) ?_
        unfold f_m_readText_51
        refine (if_pos (by simp (disch := first | omega | (simp (disch := omega) only [uA_n]; done) | fail) only [iI_lit, iI_add, iI_sub, iI_mul, iI_neg, iI_lt, iI_le, iI_eq, zlt_t, zlt_f, zle_t, zle_f, zeq_t, zeq_f, nle_t, nle_f, iI_cl, rA, rS, rB, wA, wS, wB, mkp, mk2, uA_s, uA_n, ud_s, ud_n, bI_0, bI_1, nor_s, ↓reduceIte, or_false, false_or, or_true, true_or, or_self, not_true_eq_false, not_false_eq_true, and_true, true_and, and_false, false_and, bI_T, bI_F, Int.reduceToNat, Nat.reduceAdd, Nat.reduceMul, Int.reduceNeg, Option.bind_some, Int.toNat_natCast, e4])).trans ?_
        refine obd (v := (iI u1, mk Ax B5)) z1 ?_
        unfold f_m_readText_67
        refine obd (v := (iI 1, mk Ax B6)) (by simp (disch := first | omega | (simp (disch := omega) only [uA_n]; done) | fail) only [iI_lit, iI_add, iI_sub, iI_mul, iI_neg, iI_lt, iI_le, iI_eq, zlt_t, zlt_f, zle_t, zle_f, zeq_t, zeq_f, nle_t, nle_f, iI_cl, rA, rS, rB, wA, wS, wB, mkp, mk2, uA_s, uA_n, ud_s, ud_n, bI_0, bI_1, nor_s, ↓reduceIte, or_false, false_or, or_true, true_or, or_self, not_true_eq_false, not_false_eq_true, and_true, true_and, and_false, false_and, bI_T, bI_F, Int.reduceToNat, Nat.reduceAdd, Nat.reduceMul, Int.reduceNeg, Option.bind_some, Int.toNat_natCast, hB6, mk2 (show B6 399 = B5 399 by rw [← hB6, uA_n (by omega), uA_n (by omega)])]; exact w) ?_
        refine (if_neg (by simp (disch := first | omega | (simp (disch := omega) only [uA_n]; done) | fail) only [iI_lit, iI_add, iI_sub, iI_mul, iI_neg, iI_lt, iI_le, iI_eq, zlt_t, zlt_f, zle_t, zle_f, zeq_t, zeq_f, nle_t, nle_f, iI_cl, rA, rS, rB, wA, wS, wB, mkp, mk2, uA_s, uA_n, ud_s, ud_n, bI_0, bI_1, nor_s, ↓reduceIte, or_false, false_or, or_true, true_or, or_self, not_true_eq_false, not_false_eq_true, and_true, true_and, and_false, false_and, bI_T, bI_F, Int.reduceToNat, Nat.reduceAdd, Nat.reduceMul, Int.reduceNeg, Option.bind_some, Int.toNat_natCast])).trans ?_
        refine obd (v := ((), mk Ax B7)) t1 ?_
        refine obd (v := (v2, mk Ax B8)) s1 ?_
        by_cases hv2 : v2 = 0
        · obtain rfl : hv = 0 := by rw [← hh]; exact bI_f (fun z => z hv2)
          refine (if_pos hv2).trans ?_
          unfold f_m_readText_102
          refine (if_pos (Or.inl rfl)).trans ?_
          refine Eq.trans ?_ d1
          simp (disch := first | omega | (simp (disch := omega) only [uA_n]; done) | fail) only [iI_lit, iI_add, iI_sub, iI_mul, iI_neg, iI_lt, iI_le, iI_eq, zlt_t, zlt_f, zle_t, zle_f, zeq_t, zeq_f, nle_t, nle_f, iI_cl, rA, rS, rB, wA, wS, wB, mkp, mk2, uA_s, uA_n, ud_s, ud_n, bI_0, bI_1, nor_s, ↓reduceIte, or_false, false_or, or_true, true_or, or_self, not_true_eq_false, not_false_eq_true, and_true, true_and, and_false, false_and, bI_T, bI_F, Int.reduceToNat, Nat.reduceAdd, Nat.reduceMul, Int.reduceNeg, Option.bind_some, Int.toNat_natCast]
        · obtain rfl : hv = 1 := by rw [← hh]; exact bI_t hv2
          refine (if_neg hv2).trans ?_
          unfold f_m_readText_102
          refine (if_pos (Or.inr rfl)).trans ?_
          refine Eq.trans ?_ d1
          simp (disch := first | omega | (simp (disch := omega) only [uA_n]; done) | fail) only [iI_lit, iI_add, iI_sub, iI_mul, iI_neg, iI_lt, iI_le, iI_eq, zlt_t, zlt_f, zle_t, zle_f, zeq_t, zeq_f, nle_t, nle_f, iI_cl, rA, rS, rB, wA, wS, wB, mkp, mk2, uA_s, uA_n, ud_s, ud_n, bI_0, bI_1, nor_s, ↓reduceIte, or_false, false_or, or_true, true_or, or_self, not_true_eq_false, not_false_eq_true, and_true, true_and, and_false, false_and, bI_T, bI_F, Int.reduceToNat, Nat.reduceAdd, Nat.reduceMul, Int.reduceNeg, Option.bind_some, Int.toNat_natCast]
      · rw [m312 d3, uA_n (by omega), m312 s3, g6]
      · have h11' := d2.1
        rw [h11']; exact h11.symm
      · rw [d3.2 20 (by omega), uA_s, ud_n (by omega), s3.2 20 (by omega), c20]
      · obtain ⟨tx1, tx2, tx3, -⟩ := tx_ok h3 hT
        have k22 : B9 304 22 = hv := by rw [d3.2 22 (by omega), uA_s, ud_s]
        refine ⟨by rw [d3.2 21 (by omega), uA_s, ud_n (by omega), s3.2 21 (by omega), c21]; exact z4 tx2, fun hd => ?_, fun hd => ?_⟩
        · rw [k22, ← hh]
          rcases hd with hd | hd
          · exact absurd h5 hd
          · exact bI_t (by rw [s4 tx3]; exact hd)
        · rw [k22, ← hh]
          exact bI_f (fun z => hd (Or.inr (by rw [← s4 tx3]; exact z)))
    · rw [bI_f (fun z => h5 ((tkw_if q1.2.2.2.2.2.1).1 z.2))] at w
      have eE : pE2 b L = pE1 b L := if_neg h5
      obtain ⟨B9, d1, d2, d3⟩ := em_rt105 F Ax a2 q1
      have eT : (if (pE1 b L).1 = 0 then pE1 b L else pst (pE1 b L)) = pT b L := by rw [← eE]; exact (if_pos h3).symm
      rw [eT] at d2
      refine ⟨B9, ?_, d2, f6.tr d3.f4, ?_, ?_, fun _ => ?_, fun hT => ?_⟩
      · unfold f_m_readText
        refine obd (v := ((), mk Ax B2)) (by simp (disch := first | omega | (simp (disch := omega) only [uA_n]; done) | fail) only [iI_lit, iI_add, iI_sub, iI_mul, iI_neg, iI_lt, iI_le, iI_eq, zlt_t, zlt_f, zle_t, zle_f, zeq_t, zeq_f, nle_t, nle_f, iI_cl, rA, rS, rB, wA, wS, wB, mkp, mk2, uA_s, uA_n, ud_s, ud_n, bI_0, bI_1, nor_s, ↓reduceIte, or_false, false_or, or_true, true_or, or_self, not_true_eq_false, not_false_eq_true, and_true, true_and, and_false, false_and, bI_T, bI_F, Int.reduceToNat, Nat.reduceAdd, Nat.reduceMul, Int.reduceNeg, Option.bind_some, Int.toNat_natCast, hB1, mk2 (e1 399 (by omega))]; exact x1) ?_
        refine obd (v := (iI (p0 b L).2.1, mk Ax B2)) kh ?_
        refine (if_neg (by simp (disch := first | omega | (simp (disch := omega) only [uA_n]; done) | fail) only [iI_lit, iI_add, iI_sub, iI_mul, iI_neg, iI_lt, iI_le, iI_eq, zlt_t, zlt_f, zle_t, zle_f, zeq_t, zeq_f, nle_t, nle_f, iI_cl, rA, rS, rB, wA, wS, wB, mkp, mk2, uA_s, uA_n, ud_s, ud_n, bI_0, bI_1, nor_s, ↓reduceIte, or_false, false_or, or_true, true_or, or_self, not_true_eq_false, not_false_eq_true, and_true, true_and, and_false, false_and, bI_T, bI_F, Int.reduceToNat, Nat.reduceAdd, Nat.reduceMul, Int.reduceNeg, Option.bind_some, Int.toNat_natCast])).trans ?_
        refine obd (v := ((), mk Ax B4)) (by simp (disch := first | omega | (simp (disch := omega) only [uA_n]; done) | fail) only [iI_lit, iI_add, iI_sub, iI_mul, iI_neg, iI_lt, iI_le, iI_eq, zlt_t, zlt_f, zle_t, zle_f, zeq_t, zeq_f, nle_t, nle_f, iI_cl, rA, rS, rB, wA, wS, wB, mkp, mk2, uA_s, uA_n, ud_s, ud_n, bI_0, bI_1, nor_s, ↓reduceIte, or_false, false_or, or_true, true_or, or_self, not_true_eq_false, not_false_eq_true, and_true, true_and, and_false, false_and, bI_T, bI_F, Int.reduceToNat, Nat.reduceAdd, Nat.reduceMul, Int.reduceNeg, Option.bind_some, Int.toNat_natCast, hB3, mk2 (show B3 399 = B2 399 by rw [← hB3, uA_n (by omega)])]; exact y1) ?_
        unfold f_m_readText_51
        refine (if_pos (by simp (disch := first | omega | (simp (disch := omega) only [uA_n]; done) | fail) only [iI_lit, iI_add, iI_sub, iI_mul, iI_neg, iI_lt, iI_le, iI_eq, zlt_t, zlt_f, zle_t, zle_f, zeq_t, zeq_f, nle_t, nle_f, iI_cl, rA, rS, rB, wA, wS, wB, mkp, mk2, uA_s, uA_n, ud_s, ud_n, bI_0, bI_1, nor_s, ↓reduceIte, or_false, false_or, or_true, true_or, or_self, not_true_eq_false, not_false_eq_true, and_true, true_and, and_false, false_and, bI_T, bI_F, Int.reduceToNat, Nat.reduceAdd, Nat.reduceMul, Int.reduceNeg, Option.bind_some, Int.toNat_natCast, e4])).trans ?_
        refine obd (v := (iI u1, mk Ax B5)) z1 ?_
        unfold f_m_readText_67
        refine obd (v := (iI 0, mk Ax B6)) (by simp (disch := first | omega | (simp (disch := omega) only [uA_n]; done) | fail) only [iI_lit, iI_add, iI_sub, iI_mul, iI_neg, iI_lt, iI_le, iI_eq, zlt_t, zlt_f, zle_t, zle_f, zeq_t, zeq_f, nle_t, nle_f, iI_cl, rA, rS, rB, wA, wS, wB, mkp, mk2, uA_s, uA_n, ud_s, ud_n, bI_0, bI_1, nor_s, ↓reduceIte, or_false, false_or, or_true, true_or, or_self, not_true_eq_false, not_false_eq_true, and_true, true_and, and_false, false_and, bI_T, bI_F, Int.reduceToNat, Nat.reduceAdd, Nat.reduceMul, Int.reduceNeg, Option.bind_some, Int.toNat_natCast, hB6, mk2 (show B6 399 = B5 399 by rw [← hB6, uA_n (by omega), uA_n (by omega)])]; exact w) ?_
        exact (if_pos rfl).trans d1
      · rw [m312 d3, g6]
      · have h11' := d2.1
        rw [h11']; exact h11.symm
      · rw [d3.2 20 (by omega), c20]
      · obtain ⟨tx1, tx2, tx3, -⟩ := tx_ok h3 hT
        exact ⟨by rw [d3.2 21 (by omega), c21]; exact z4 tx2, fun _ => by rw [d3.2 22 (by omega), c22], fun hd => absurd (Or.inl h5) hd⟩
  · rw [if_neg h3] at kh
    generalize hB3 : uA B2 304 20 (-1) = B3
    have y2 : tRel B3 b L (p0 b L) 0 := by rw [← hB3]; exact x2.u (by omega) _
    have f3 : fr4 B B3 := by rw [← hB3]; exact (f1.tr x3.f4).u (by omega) _
    have g3 : B3 312 = B 312 := by rw [← hB3, uA_n (by omega), m312 x3, e1 312 (by omega), o312]
    obtain ⟨B4, y1, y3, y4⟩ := em_fail F Ax y2 hp0.1
    have bad := (pst_PI hp0.1).2.2
    have e4 : B4 304 17 = 1 := (y3.2.2.2.2 bad).1
    generalize hB6 : uA (uA B4 304 21 0) 304 22 1 = B6
    have a2 : tRel B6 b L (pst (p0 b L)) 0 := by rw [← hB6]; exact (y3.u (by omega) _).u (by omega) _
    have f6 : fr4 B B6 := by rw [← hB6]; exact ((f3.tr y4.f4).u (by omega) _).u (by omega) _
    have g6 : B6 312 = B 312 := by rw [← hB6, uA_n (by omega), uA_n (by omega), m312 y4, g3]
    have w := em_isWord F Ax a2 249 17 (by decide) (by omega) (by omega)
    rw [bI_f (fun z => bad z.1)] at w
    have e6 : B6 304 17 = 1 := (a2.2.2.2.2 bad).1
    have eT : pT b L = pst (p0 b L) := if_neg h3
    rw [eT]
    refine ⟨B6, ?_, a2, f6, g6, a2.1.trans h11.symm, fun z => absurd z h3, fun z => absurd z bad⟩
    unfold f_m_readText
    refine obd (v := ((), mk Ax B2)) (by simp (disch := first | omega | (simp (disch := omega) only [uA_n]; done) | fail) only [iI_lit, iI_add, iI_sub, iI_mul, iI_neg, iI_lt, iI_le, iI_eq, zlt_t, zlt_f, zle_t, zle_f, zeq_t, zeq_f, nle_t, nle_f, iI_cl, rA, rS, rB, wA, wS, wB, mkp, mk2, uA_s, uA_n, ud_s, ud_n, bI_0, bI_1, nor_s, ↓reduceIte, or_false, false_or, or_true, true_or, or_self, not_true_eq_false, not_false_eq_true, and_true, true_and, and_false, false_and, bI_T, bI_F, Int.reduceToNat, Nat.reduceAdd, Nat.reduceMul, Int.reduceNeg, Option.bind_some, Int.toNat_natCast, hB1, mk2 (e1 399 (by omega))]; exact x1) ?_
    refine obd (v := (iI (-1), mk Ax B2)) kh ?_
    refine (if_pos (by simp (disch := first | omega | (simp (disch := omega) only [uA_n]; done) | fail) only [iI_lit, iI_add, iI_sub, iI_mul, iI_neg, iI_lt, iI_le, iI_eq, zlt_t, zlt_f, zle_t, zle_f, zeq_t, zeq_f, nle_t, nle_f, iI_cl, rA, rS, rB, wA, wS, wB, mkp, mk2, uA_s, uA_n, ud_s, ud_n, bI_0, bI_1, nor_s, ↓reduceIte, or_false, false_or, or_true, true_or, or_self, not_true_eq_false, not_false_eq_true, and_true, true_and, and_false, false_and, bI_T, bI_F, Int.reduceToNat, Nat.reduceAdd, Nat.reduceMul, Int.reduceNeg, Option.bind_some, Int.toNat_natCast])).trans ?_
    refine obd (v := ((), mk Ax B4)) (by simp (disch := first | omega | (simp (disch := omega) only [uA_n]; done) | fail) only [iI_lit, iI_add, iI_sub, iI_mul, iI_neg, iI_lt, iI_le, iI_eq, zlt_t, zlt_f, zle_t, zle_f, zeq_t, zeq_f, nle_t, nle_f, iI_cl, rA, rS, rB, wA, wS, wB, mkp, mk2, uA_s, uA_n, ud_s, ud_n, bI_0, bI_1, nor_s, ↓reduceIte, or_false, false_or, or_true, true_or, or_self, not_true_eq_false, not_false_eq_true, and_true, true_and, and_false, false_and, bI_T, bI_F, Int.reduceToNat, Nat.reduceAdd, Nat.reduceMul, Int.reduceNeg, Option.bind_some, Int.toNat_natCast, hB3, mk2 (show B3 399 = B2 399 by rw [← hB3, uA_n (by omega)])]; exact y1) ?_
    unfold f_m_readText_51
    refine (if_neg (by simp (disch := first | omega | (simp (disch := omega) only [uA_n]; done) | fail) only [iI_lit, iI_add, iI_sub, iI_mul, iI_neg, iI_lt, iI_le, iI_eq, zlt_t, zlt_f, zle_t, zle_f, zeq_t, zeq_f, nle_t, nle_f, iI_cl, rA, rS, rB, wA, wS, wB, mkp, mk2, uA_s, uA_n, ud_s, ud_n, bI_0, bI_1, nor_s, ↓reduceIte, or_false, false_or, or_true, true_or, or_self, not_true_eq_false, not_false_eq_true, and_true, true_and, and_false, false_and, bI_T, bI_F, Int.reduceToNat, Nat.reduceAdd, Nat.reduceMul, Int.reduceNeg, Option.bind_some, Int.toNat_natCast, e4])).trans ?_
    unfold f_m_readText_67
    refine obd (v := (iI 0, mk Ax B6)) (by simp (disch := first | omega | (simp (disch := omega) only [uA_n]; done) | fail) only [iI_lit, iI_add, iI_sub, iI_mul, iI_neg, iI_lt, iI_le, iI_eq, zlt_t, zlt_f, zle_t, zle_f, zeq_t, zeq_f, nle_t, nle_f, iI_cl, rA, rS, rB, wA, wS, wB, mkp, mk2, uA_s, uA_n, ud_s, ud_n, bI_0, bI_1, nor_s, ↓reduceIte, or_false, false_or, or_true, true_or, or_self, not_true_eq_false, not_false_eq_true, and_true, true_and, and_false, false_and, bI_T, bI_F, Int.reduceToNat, Nat.reduceAdd, Nat.reduceMul, Int.reduceNeg, Option.bind_some, Int.toNat_natCast, hB6, mk2 (show B6 399 = B4 399 by rw [← hB6, uA_n (by omega), uA_n (by omega)])]; exact w) ?_
    refine (if_pos rfl).trans ?_
    unfold f_m_readText_105 f_m_readText_123
    simp (disch := first | omega | (simp (disch := omega) only [uA_n]; done) | fail) only [iI_lit, iI_add, iI_sub, iI_mul, iI_neg, iI_lt, iI_le, iI_eq, zlt_t, zlt_f, zle_t, zle_f, zeq_t, zeq_f, nle_t, nle_f, iI_cl, rA, rS, rB, wA, wS, wB, mkp, mk2, uA_s, uA_n, ud_s, ud_n, bI_0, bI_1, nor_s, ↓reduceIte, or_false, false_or, or_true, true_or, or_self, not_true_eq_false, not_false_eq_true, and_true, true_and, and_false, false_and, bI_T, bI_F, Int.reduceToNat, Nat.reduceAdd, Nat.reduceMul, Int.reduceNeg, Option.bind_some, Int.toNat_natCast, e6]
end RTX2
