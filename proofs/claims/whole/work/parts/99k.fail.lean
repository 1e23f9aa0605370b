/-! A HOUSE FALLS: both sides' ways -/
section FAIL
variable {K D : Int} {A0 B0 A B : hI} (F : Nat)
theorem ex_kill (R : RR K D A0 B0 A B) (Bx : hI) {h : Nat} (hh : (h : Int) < A 19 11) (d p t w : Int) : ∀ (r i q : Nat), r = (A 31 15).toNat - i → i ≤ (A 31 15).toNat → r < q → f_Papers_killThoseOf_2 F q (iI h) (iI i) (mk (fl (kAB h i A B).1 h d p t w) Bx) = some ((), mk (fl (kAB h (A 31 15).toNat A B).1 h d p t w) Bx) := by
  have hn := R.gH.hn2
  have h1 := R.gP.pe1
  have h2 := R.gP.pe2
  intro r
  induction r with
  | zero =>
    intro i q hr hi hq
    obtain ⟨q, rfl⟩ : ∃ s, q = s + 1 := ⟨q - 1, by omega⟩
    obtain rfl : i = (A 31 15).toNat := by omega
    have o := (kAB_o h A B (A 31 15).toNat).1 31 (by omega)
    have e31 : fl (kAB h (A 31 15).toNat A B).1 h d p t w 31 = A 31 := (fl_o _ h d p t w (by omega)).trans o
    rw [f_Papers_killThoseOf_2]
    have e : ((A 31 15).toNat : Int) = A 31 15 := by omega
    simp (disch := first | omega | (simp (disch := omega) only [uA_n]; done) | fail) only [iI_lit, iI_add, iI_sub, iI_mul, iI_neg, iI_lt, iI_le, iI_eq, zlt_t, zlt_f, zle_t, zle_f, zeq_t, zeq_f, nle_t, nle_f, iI_cl, rA, rS, rB, wA, wS, wB, mkp, mk2, uA_s, uA_n, ud_s, ud_n, bI_0, bI_1, nor_s, ↓reduceIte, or_false, false_or, or_true, true_or, or_self, not_true_eq_false, not_false_eq_true, and_true, true_and, and_false, false_and, bI_T, bI_F, Int.reduceToNat, Nat.reduceAdd, Nat.reduceMul, Int.reduceNeg, Option.bind_some, Int.toNat_natCast, e31, e]
  | succ r ih =>
    intro i q hr hi hq
    obtain ⟨q, rfl⟩ : ∃ s, q = s + 1 := ⟨q - 1, by omega⟩
    have nx := ih (i + 1) q (by omega) (by omega) (by omega)
    have Ri := R.kn h i (by omega)
    have o := (kAB_o h A B i).1
    have os := fun k hk => fl_o (kAB h i A B).1 h d p t w (k := k) hk
    have kr := Ri.kr (p := i) (by omega)
    have e31 : fl (kAB h i A B).1 h d p t w 31 = A 31 := (os 31 (by omega)).trans (o 31 (by omega))
    have e37 := os 37 (by omega)
    have e34 := os 34 (by omega)
    have e32 := os 32 (by omega)
    have e41 := os 41 (by omega)
    have o19 : (kAB h i A B).1 19 11 = A 19 11 := by rw [o 19 (by omega)]
    rw [show kAB h (i + 1) A B = (kA h i (kAB h i A B).1, kB h i (kAB h i A B).1 (kAB h i A B).2) from rfl] at nx
    simp only at nx
    generalize kAB h i A B = T at *
    generalize kAB h (A 31 15).toNat A B = Z at *
    generalize T.1 = X at *
    generalize T.2 = Y at *
    refine Eq.trans ?_ nx
    rw [f_Papers_killThoseOf_2]
    simp only [f_Papers_killThoseOf_67]
    by_cases k : kC h i X
    · rw [kA_t k]
      obtain ⟨k1, k2, k3⟩ := k
      have pd := Ri.gP.pd i (by omega) (by omega)
      by_cases k4 : X 32 i = 3
      · rw [if_pos k4]
        obtain ⟨g1, g2, g3, -⟩ := Ri.gP.ppg i (by omega) k4 k1
        rw [← fl_u _ h d p t w (by omega), ← fl_u _ h d p t w (by omega), ← fl_u _ h d p t w (by omega)]
        simp only [f_Papers_giveBack, f_Papers_giveBack_24]
        have n37 : uA (fl X h d p t w) 37 i 2 399 = fl X h d p t w 399 := uA_n (by omega)
        simp (disch := first | omega | (simp (disch := omega) only [uA_n]; done) | fail) only [iI_lit, iI_add, iI_sub, iI_mul, iI_neg, iI_lt, iI_le, iI_eq, zlt_t, zlt_f, zle_t, zle_f, zeq_t, zeq_f, nle_t, nle_f, iI_cl, rA, rS, rB, wA, wS, wB, mkp, mk2, uA_s, uA_n, ud_s, ud_n, bI_0, bI_1, nor_s, ↓reduceIte, or_false, false_or, or_true, true_or, or_self, not_true_eq_false, not_false_eq_true, and_true, true_and, and_false, false_and, bI_T, bI_F, Int.reduceToNat, Nat.reduceAdd, Nat.reduceMul, Int.reduceNeg, Option.bind_some, Int.toNat_natCast, e31, e37, e34, e32, e41, k1, k2]
        rfl
      · rw [if_neg k4]
        rw [← fl_u _ h d p t w (by omega)]
        simp (disch := first | omega | (simp (disch := omega) only [uA_n]; done) | fail) only [iI_lit, iI_add, iI_sub, iI_mul, iI_neg, iI_lt, iI_le, iI_eq, zlt_t, zlt_f, zle_t, zle_f, zeq_t, zeq_f, nle_t, nle_f, iI_cl, rA, rS, rB, wA, wS, wB, mkp, mk2, uA_s, uA_n, ud_s, ud_n, bI_0, bI_1, nor_s, ↓reduceIte, or_false, false_or, or_true, true_or, or_self, not_true_eq_false, not_false_eq_true, and_true, true_and, and_false, false_and, bI_T, bI_F, Int.reduceToNat, Nat.reduceAdd, Nat.reduceMul, Int.reduceNeg, Option.bind_some, Int.toNat_natCast, e31, e37, e34, e32, e41, k1, k2]
        rfl
    · rw [kA_f k]
      by_cases k1 : X 37 i = 0
      · have pd := Ri.gP.pd i (by omega) (by omega)
        by_cases k2 : X 34 i = h
        · have k3 : X 32 i = 1 := by
            by_cases k3 : X 32 i = 1
            · exact k3
            · exact absurd ⟨k1, k2, k3⟩ k
          simp (disch := first | omega | (simp (disch := omega) only [uA_n]; done) | fail) only [iI_lit, iI_add, iI_sub, iI_mul, iI_neg, iI_lt, iI_le, iI_eq, zlt_t, zlt_f, zle_t, zle_f, zeq_t, zeq_f, nle_t, nle_f, iI_cl, rA, rS, rB, wA, wS, wB, mkp, mk2, uA_s, uA_n, ud_s, ud_n, bI_0, bI_1, nor_s, ↓reduceIte, or_false, false_or, or_true, true_or, or_self, not_true_eq_false, not_false_eq_true, and_true, true_and, and_false, false_and, bI_T, bI_F, Int.reduceToNat, Nat.reduceAdd, Nat.reduceMul, Int.reduceNeg, Option.bind_some, Int.toNat_natCast, e31, e37, e34, e32, e41, k1, k2, k3]
          rfl
        · simp (disch := first | omega | (simp (disch := omega) only [uA_n]; done) | fail) only [iI_lit, iI_add, iI_sub, iI_mul, iI_neg, iI_lt, iI_le, iI_eq, zlt_t, zlt_f, zle_t, zle_f, zeq_t, zeq_f, nle_t, nle_f, iI_cl, rA, rS, rB, wA, wS, wB, mkp, mk2, uA_s, uA_n, ud_s, ud_n, bI_0, bI_1, nor_s, ↓reduceIte, or_false, false_or, or_true, true_or, or_self, not_true_eq_false, not_false_eq_true, and_true, true_and, and_false, false_and, bI_T, bI_F, Int.reduceToNat, Nat.reduceAdd, Nat.reduceMul, Int.reduceNeg, Option.bind_some, Int.toNat_natCast, e31, e37, e34, e32, e41, k1]
          rfl
      · simp (disch := first | omega | (simp (disch := omega) only [uA_n]; done) | fail) only [iI_lit, iI_add, iI_sub, iI_mul, iI_neg, iI_lt, iI_le, iI_eq, zlt_t, zlt_f, zle_t, zle_f, zeq_t, zeq_f, nle_t, nle_f, iI_cl, rA, rS, rB, wA, wS, wB, mkp, mk2, uA_s, uA_n, ud_s, ud_n, bI_0, bI_1, nor_s, ↓reduceIte, or_false, false_or, or_true, true_or, or_self, not_true_eq_false, not_false_eq_true, and_true, true_and, and_false, false_and, bI_T, bI_F, Int.reduceToNat, Nat.reduceAdd, Nat.reduceMul, Int.reduceNeg, Option.bind_some, Int.toNat_natCast, e31, e37, e34, e32, e41]
        rfl
theorem ex_fail (R : RR K D A0 B0 A B) (hF : 1000 ≤ F) (Bx : hI) {h p : Nat} (hp : p < 60) (hh : (h : Int) < A 19 11) (w : Int) : f_World_fail F (iI p) (iI h) (iI w) (mk A Bx) = some ((), mk (fl (kAB h 60 A B).1 h (A 16 9) p (A 35 p) w) Bx) := by
  have hn := R.gH.hn2
  have h1 := R.gP.pe1
  have h2 := R.gP.pe2
  have x := ex_kill F R Bx hh (A 16 9) p (A 35 p) w ((A 31 15).toNat) 0 F (by omega) (by omega) (by omega)
  rw [← R.kend h 60 (by omega) (by omega)] at x
  have x : f_Papers_killThoseOf_2 F F (iI h) (iI 0) (mk (fl A h (A 16 9) p (A 35 p) w) Bx) = _ := x
  have e : fl A h (A 16 9) p (A 35 p) w = uA (uA (uA (uA (uA A 27 h (A 16 9)) 28 h p) 29 h (A 35 p)) 30 h w) 19 12 (A 19 12 + 1) := rfl
  simp only [f_World_fail, f_Houses_fall, f_Houses_fall_40, f_Papers_killThoseOf]
  rw [e] at x
  simp (disch := first | omega | (simp (disch := omega) only [uA_n]; done) | fail) only [iI_lit, iI_add, iI_sub, iI_mul, iI_neg, iI_lt, iI_le, iI_eq, zlt_t, zlt_f, zle_t, zle_f, zeq_t, zeq_f, nle_t, nle_f, iI_cl, rA, rS, rB, wA, wS, wB, mkp, mk2, uA_s, uA_n, ud_s, ud_n, bI_0, bI_1, nor_s, ↓reduceIte, or_false, false_or, or_true, true_or, or_self, not_true_eq_false, not_false_eq_true, and_true, true_and, and_false, false_and, bI_T, bI_F, Int.reduceToNat, Nat.reduceAdd, Nat.reduceMul, Int.reduceNeg, Option.bind_some, Int.toNat_natCast]
  exact obd (v := ((), mk (fl (kAB h 60 A B).1 h (A 16 9) p (A 35 p) w) Bx)) x rfl
theorem em_kill (R : RR K D A0 B0 A B) (Ax : hI) {h : Nat} (hh : (h : Int) < A 19 11) (d p t w : Int) : ∀ (r i q : Nat), r = 60 - i → i ≤ 60 → r < q → f_m_falls_73 F q (iI h) (iI i) (mk Ax (flS (kAB h i A B).2 h d p t w)) = some ((), mk Ax (flS (kAB h 60 A B).2 h d p t w)) := by
  have hn := R.gH.hn2
  intro r
  induction r with
  | zero =>
    intro i q hr hi hq
    obtain ⟨q, rfl⟩ : ∃ s, q = s + 1 := ⟨q - 1, by omega⟩
    obtain rfl : i = 60 := by omega
    rw [f_m_falls_73]
    simp (disch := first | omega | (simp (disch := omega) only [uA_n]; done) | fail) only [iI_lit, iI_add, iI_sub, iI_mul, iI_neg, iI_lt, iI_le, iI_eq, zlt_t, zlt_f, zle_t, zle_f, zeq_t, zeq_f, nle_t, nle_f, iI_cl, rA, rS, rB, wA, wS, wB, mkp, mk2, uA_s, uA_n, ud_s, ud_n, bI_0, bI_1, nor_s, ↓reduceIte, or_false, false_or, or_true, true_or, or_self, not_true_eq_false, not_false_eq_true, and_true, true_and, and_false, false_and, bI_T, bI_F, Int.reduceToNat, Nat.reduceAdd, Nat.reduceMul, Int.reduceNeg, Option.bind_some, Int.toNat_natCast]
  | succ r ih =>
    intro i q hr hi hq
    obtain ⟨q, rfl⟩ : ∃ s, q = s + 1 := ⟨q - 1, by omega⟩
    have nx := ih (i + 1) q (by omega) (by omega) (by omega)
    have Ri := R.kn h i (by omega)
    have os := fun k hk => flS_o (kAB h i A B).2 h d p t w (k := k) hk
    have kr := Ri.kr (p := i) (by omega)
    have e450 := os 450 (by omega)
    have e451 := os 451 (by omega)
    have e453 := os 453 (by omega)
    have e456 := os 456 (by omega)
    have e465 := os 465 (by omega)
    have o19 : (kAB h i A B).1 19 11 = A 19 11 := by rw [(kAB_o h A B i).1 19 (by omega)]
    rw [show kAB h (i + 1) A B = (kA h i (kAB h i A B).1, kB h i (kAB h i A B).1 (kAB h i A B).2) from rfl] at nx
    simp only at nx
    generalize kAB h i A B = T at *
    generalize kAB h 60 A B = Z at *
    generalize T.1 = X at *
    generalize T.2 = Y at *
    refine Eq.trans ?_ nx
    rw [f_m_falls_73]
    simp only [f_m_falls_179]
    by_cases hf : X 32 i = -1
    · have b0 : Y 450 i = 0 := by omega
      have k : ¬ kC h i X := fun z => by have := z.1; omega
      rw [kB_f k]
      simp (disch := first | omega | (simp (disch := omega) only [uA_n]; done) | fail) only [iI_lit, iI_add, iI_sub, iI_mul, iI_neg, iI_lt, iI_le, iI_eq, zlt_t, zlt_f, zle_t, zle_f, zeq_t, zeq_f, nle_t, nle_f, iI_cl, rA, rS, rB, wA, wS, wB, mkp, mk2, uA_s, uA_n, ud_s, ud_n, bI_0, bI_1, nor_s, ↓reduceIte, or_false, false_or, or_true, true_or, or_self, not_true_eq_false, not_false_eq_true, and_true, true_and, and_false, false_and, bI_T, bI_F, Int.reduceToNat, Nat.reduceAdd, Nat.reduceMul, Int.reduceNeg, Option.bind_some, Int.toNat_natCast, em_paper, e450, b0]
      rfl
    · have b0 : Y 450 i = 1 := by omega
      have b1 := Ri.gP.pk i (by omega) hf
      have b3 := Ri.gP.pd i (by omega) hf
      have b6 := Ri.gP.pst i (by omega) hf
      have b15 := Ri.gP.ppl i (by omega) hf
      by_cases k : kC h i X
      · rw [kB_t k]
        obtain ⟨k1, k2, k3⟩ := k
        by_cases k4 : X 32 i = 3
        · rw [if_pos k4]
          obtain ⟨g1, g2, g3, -⟩ := Ri.gP.ppg i (by omega) k4 k1
          rw [← flS_u _ h d p t w (by omega), ← flS_u _ h d p t w (by omega)]
          have m1 : uA (flS Y h d p t w) 456 i 2 399 = flS Y h d p t w 399 := uA_n (by omega)
          simp (disch := first | omega | (simp (disch := omega) only [uA_n]; done) | fail) only [iI_lit, iI_add, iI_sub, iI_mul, iI_neg, iI_lt, iI_le, iI_eq, zlt_t, zlt_f, zle_t, zle_f, zeq_t, zeq_f, nle_t, nle_f, iI_cl, rA, rS, rB, wA, wS, wB, mkp, mk2, uA_s, uA_n, ud_s, ud_n, bI_0, bI_1, nor_s, ↓reduceIte, or_false, false_or, or_true, true_or, or_self, not_true_eq_false, not_false_eq_true, and_true, true_and, and_false, false_and, bI_T, bI_F, Int.reduceToNat, Nat.reduceAdd, Nat.reduceMul, Int.reduceNeg, Option.bind_some, Int.toNat_natCast, em_paper, e450, e451, e453, e456, e465, b0, b1, b3.1, b6.1, b15, k1, k2, k4, zP, mk2 m1]
          rfl
        · rw [if_neg k4]
          rw [← flS_u _ h d p t w (by omega)]
          have m1 : uA (flS Y h d p t w) 456 i 2 399 = flS Y h d p t w 399 := uA_n (by omega)
          simp (disch := first | omega | (simp (disch := omega) only [uA_n]; done) | fail) only [iI_lit, iI_add, iI_sub, iI_mul, iI_neg, iI_lt, iI_le, iI_eq, zlt_t, zlt_f, zle_t, zle_f, zeq_t, zeq_f, nle_t, nle_f, iI_cl, rA, rS, rB, wA, wS, wB, mkp, mk2, uA_s, uA_n, ud_s, ud_n, bI_0, bI_1, nor_s, ↓reduceIte, or_false, false_or, or_true, true_or, or_self, not_true_eq_false, not_false_eq_true, and_true, true_and, and_false, false_and, bI_T, bI_F, Int.reduceToNat, Nat.reduceAdd, Nat.reduceMul, Int.reduceNeg, Option.bind_some, Int.toNat_natCast, em_paper, e450, e451, e453, e456, e465, b0, b1, b3.1, b6.1, b15, k1, k2, zP, mk2 m1]
          rfl
      · rw [kB_f k]
        by_cases k2 : X 34 i = h
        · by_cases k3 : X 32 i = 1
          · simp (disch := first | omega | (simp (disch := omega) only [uA_n]; done) | fail) only [iI_lit, iI_add, iI_sub, iI_mul, iI_neg, iI_lt, iI_le, iI_eq, zlt_t, zlt_f, zle_t, zle_f, zeq_t, zeq_f, nle_t, nle_f, iI_cl, rA, rS, rB, wA, wS, wB, mkp, mk2, uA_s, uA_n, ud_s, ud_n, bI_0, bI_1, nor_s, ↓reduceIte, or_false, false_or, or_true, true_or, or_self, not_true_eq_false, not_false_eq_true, and_true, true_and, and_false, false_and, bI_T, bI_F, Int.reduceToNat, Nat.reduceAdd, Nat.reduceMul, Int.reduceNeg, Option.bind_some, Int.toNat_natCast, em_paper, e450, e451, e453, e456, e465, b0, b1, b3.1, b6.1, b15, k2, k3]
            rfl
          · have k1 : X 37 i ≠ 0 := fun z => k ⟨z, k2, k3⟩
            simp (disch := first | omega | (simp (disch := omega) only [uA_n]; done) | fail) only [iI_lit, iI_add, iI_sub, iI_mul, iI_neg, iI_lt, iI_le, iI_eq, zlt_t, zlt_f, zle_t, zle_f, zeq_t, zeq_f, nle_t, nle_f, iI_cl, rA, rS, rB, wA, wS, wB, mkp, mk2, uA_s, uA_n, ud_s, ud_n, bI_0, bI_1, nor_s, ↓reduceIte, or_false, false_or, or_true, true_or, or_self, not_true_eq_false, not_false_eq_true, and_true, true_and, and_false, false_and, bI_T, bI_F, Int.reduceToNat, Nat.reduceAdd, Nat.reduceMul, Int.reduceNeg, Option.bind_some, Int.toNat_natCast, em_paper, e450, e451, e453, e456, e465, b0, b1, b3.1, b6.1, b15, k2]
            rfl
        · simp (disch := first | omega | (simp (disch := omega) only [uA_n]; done) | fail) only [iI_lit, iI_add, iI_sub, iI_mul, iI_neg, iI_lt, iI_le, iI_eq, zlt_t, zlt_f, zle_t, zle_f, zeq_t, zeq_f, nle_t, nle_f, iI_cl, rA, rS, rB, wA, wS, wB, mkp, mk2, uA_s, uA_n, ud_s, ud_n, bI_0, bI_1, nor_s, ↓reduceIte, or_false, false_or, or_true, true_or, or_self, not_true_eq_false, not_false_eq_true, and_true, true_and, and_false, false_and, bI_T, bI_F, Int.reduceToNat, Nat.reduceAdd, Nat.reduceMul, Int.reduceNeg, Option.bind_some, Int.toNat_natCast, em_paper, e450, e451, e453, e456, e465, b0, b1, b3.1, b6.1, b15]
          rfl
theorem em_falls (R : RR K D A0 B0 A B) (hF : 1000 ≤ F) (Ax : hI) {h : Nat} (hh : (h : Int) < A 19 11) (p t w : Int) : f_m_falls F (iI h) (iI p) (iI t) (iI w) (mk Ax B) = some ((), mk Ax (flS (kAB h 60 A B).2 h (A 16 9) p t w)) := by
  have hn := R.gH.hn2
  have hd3 := R.gD.dd3
  have x := em_kill F R Ax hh (A 16 9) p t w 60 0 F (by omega) (by omega) (by omega)
  have x : f_m_falls_73 F F (iI h) (iI 0) (mk Ax (flS B h (A 16 9) p t w)) = _ := x
  have e : flS B h (A 16 9) p t w = uA (uA (uA (uA (uA B 413 h 0) 418 h (A 16 9)) 419 h p) 420 h t) 421 h w := rfl
  simp only [f_m_falls, f_m_falls_36]
  rw [e] at x
  simp (disch := first | omega | (simp (disch := omega) only [uA_n]; done) | fail) only [iI_lit, iI_add, iI_sub, iI_mul, iI_neg, iI_lt, iI_le, iI_eq, zlt_t, zlt_f, zle_t, zle_f, zeq_t, zeq_f, nle_t, nle_f, iI_cl, rA, rS, rB, wA, wS, wB, mkp, mk2, uA_s, uA_n, ud_s, ud_n, bI_0, bI_1, nor_s, ↓reduceIte, or_false, false_or, or_true, true_or, or_self, not_true_eq_false, not_false_eq_true, and_true, true_and, and_false, false_and, bI_T, bI_F, Int.reduceToNat, Nat.reduceAdd, Nat.reduceMul, Int.reduceNeg, Option.bind_some, Int.toNat_natCast, zH, dS, hd3]
  exact x
/-- the two falls -/
theorem RR.fails (R : RR K D A0 B0 A B) (hF : 1000 ≤ F) (Ax Bx : hI) {h p : Int} (hp0 : 0 ≤ p) (hp : p < 60) (h1 : 1 ≤ h) (hh : h < A 19 11) (hup : A 27 h.toNat = -1) (w : Int) : ∃ A' B' : hI, f_World_fail F (iI p) (iI h) (iI w) (mk A Bx) = some ((), mk A' Bx) ∧ f_m_falls F (iI h) (iI p) (iI (A 35 p.toNat)) (iI w) (mk Ax B) = some ((), mk Ax B') ∧ RR K D A0 B0 A' B' ∧ (∀ k : Nat, k ≠ 19 ∧ ¬ (27 ≤ k ∧ k ≤ 30) ∧ k ≠ 35 ∧ k ≠ 37 ∧ k ≠ 40 → A' k = A k) ∧ (∀ k : Nat, k ≠ 413 ∧ ¬ (418 ≤ k ∧ k ≤ 421) ∧ k ≠ 456 ∧ k ≠ 464 → B' k = B k) ∧ A' 19 11 = A 19 11 ∧ A' 27 = ud (A 27) h.toNat (A 16 9) ∧ (∀ q : Nat, q < 60 → A 32 q = 1 → A' 37 q = A 37 q) := by
  obtain ⟨hn, rfl⟩ : ∃ n : Nat, h = n := ⟨h.toNat, by omega⟩
  obtain ⟨pn, rfl⟩ : ∃ n : Nat, p = n := ⟨p.toNat, by omega⟩
  simp only [Int.toNat_natCast] at *
  have o := kAB_o hn A B 60
  have Rk := R.kn hn 60 (by omega)
  have R2 := Rk.fall (h := hn) (p := pn) (t := A 35 pn) (w := w) (by omega) (by rw [o.1 19 (by omega)]; exact hh) (by rw [o.1 27 (by omega)]; exact hup) (fun q hq => kAB_no hn A B 60 q hq)
  rw [o.1 16 (by omega)] at R2
  refine ⟨_, _, ex_fail F R hF Bx (by omega) hh w, em_falls F R hF Ax hh pn (A 35 pn) w, R2, fun k hk => ?_, fun k hk => ?_, ?_, ?_, fun q hq h1 => ?_⟩
  · rw [fl_o _ _ _ _ _ _ (by omega), o.1 k (by omega)]
  · rw [flS_o _ _ _ _ _ _ (by omega), o.2 k (by omega)]
  · unfold fl; rw [uA_s, ud_n (by omega)]; simp (disch := omega) only [uA_n]; rw [o.1 19 (by omega)]
  · unfold fl; simp (disch := omega) only [uA_n, uA_s]; rw [o.1 27 (by omega)]
  · rw [fl_o _ _ _ _ _ _ (by omega)]
    have st : ∀ n : Nat, n ≤ 60 → (kAB hn n A B).1 37 q = A 37 q := by
      intro n
      induction n with
      | zero => intro _; rfl
      | succ n ih =>
        intro hn'
        show kA hn n (kAB hn n A B).1 37 q = A 37 q
        by_cases e : q = n
        · subst e
          rw [kA_f (fun z => z.2.2 (by rw [(kAB_o hn A B q).1 32 (by omega)]; exact h1))]
          exact ih (by omega)
        · rw [(kA_37 (q := q)).1 e]; exact ih (by omega)
    exact st 60 (by omega)
end FAIL
