/-! THE WEEK'S SHEET, both sides -/
section SHE3
variable {K D : Int} {A0 B0 A B A' B' : hI} (F : Nat)
theorem i32rg (x : Int32) : -2147483648 ≤ x.toInt ∧ x.toInt < 2147483648 := by
  have h1 := x.le_toInt
  have h2 := x.toInt_lt
  omega
theorem RR.sheet (R : RR K D A0 B0 A B) (hF : 1000 ≤ F) (hK : K ≤ 1000000000) (Ax Bx : hI) {k : Nat} (hk : A 16 9 / 7 = k) (hd : A 16 9 < 700) : ∃ A' B' : hI, f_World_writeSheet F (mk A Bx) = some ((), mk A' Bx) ∧ f_m_sheets F (mk Ax B) = some ((), mk Ax B') ∧ RR K D A0 B0 A' B' ∧ (∀ i : Nat, i < 6 → A' 7 (6 * k + i) = if (iI (B' 486 k) >>> (iI i &&& 31)) &&& 1 = 1 then B' (480 + i) k else -1) ∧ (0 ≤ B' 485 k ∧ B' 485 k ≤ 999) ∧ ∀ c : Nat, c ≠ 7 → c ≠ 15 → c ≠ 54 → A' c = A c := by
  have hd1 := R.gD.dd1
  have hpe := R.gP.pe2
  have hpe1 := R.gP.pe1
  have hk1 : k < 100 := by omega
  have hw : A 16 9 < 7 * (k : Int) + 7 := by omega
  -- the laws
  obtain ⟨A1, x1, x2⟩ := ex_lawSays F R hF hK Bx (bill := -1) (key := 4) (Or.inl rfl) (by omega) (by omega)
  have R1 : RR K D A0 B0 A1 B := R.xA (fun j h15 _ h54 => x2 j h15 h54)
  obtain ⟨A2, x3, x4⟩ := ex_lawSays F R1 hF hK Bx (bill := -1) (key := 5) (Or.inl rfl) (by omega) (by omega)
  have hA2 : ∀ c : Nat, c ≠ 15 → c ≠ 54 → A2 c = A c := fun c h1 h2 => (x4 c h1 h2).trans (x2 c h1 h2)
  have R2 : RR K D A0 B0 A2 B := R1.xA (fun j h15 _ h54 => x4 j h15 h54)
  obtain ⟨B1, y1, y2⟩ := em_ruled F Ax R hF hK (bill := -1) (key := 4) (Or.inl rfl) (by omega) (by omega) (d := iI 0) rfl
  have R3 := R2.x4 y2
  have hS : say A1 B (-1) 5 = say A1 B (-1) 5 := rfl
  obtain ⟨z, hz1, hz2, hz⟩ : ∃ z : Int, -2147483648 ≤ z ∧ z < 2147483648 ∧ say A B (-1) 4 = iI z := ⟨_, (i32rg _).1, (i32rg _).2, iI_of _⟩
  rw [hz] at x1 y1
  have a16 : A2 16 = A 16 := hA2 16 (by omega) (by omega)
  have a31 : A2 31 = A 31 := hA2 31 (by omega) (by omega)
  have hk2 : A2 16 9 / 7 = k := by rw [a16]; exact hk
  have hw2 : A2 16 9 < 7 * (k : Int) + 7 := by rw [a16]; exact hw
  obtain ⟨q1, x5⟩ := ex_sheetL F R2 Bx (H := max 0 z) (by omega) (say A1 B (-1) 5) (A 31 15).toNat 0 F (by rw [a31]; omega) (by omega) (by omega)
  obtain ⟨q2, y5⟩ := em_sheetL F R3 Ax hz1 hz2 (iI (9032 + 7 * (k : Int))) 60 0 F (by omega) (by omega)
  rw [show sm 0 (bcq A2 (max 0 z)) = 0 from rfl, show sm 0 (lcq A2 (max 0 z)) = 0 from rfl] at x5 y5
  have hp1 := R2.gP.pe1
  have hp2 := R2.gP.pe2
  have n1 : (6 * (k : Int)).toNat = 6 * k := by omega
  have n2 : ∀ t : Nat, (6 * (k : Int) + t).toNat = 6 * k + t := fun t => by omega
  have nt1 : (6 * (k : Int) + 1).toNat = 6 * k + 1 := n2 1
  have nt2 : (6 * (k : Int) + 2).toNat = 6 * k + 2 := n2 2
  have nt3 : (6 * (k : Int) + 3).toNat = 6 * k + 3 := n2 3
  have nt4 : (6 * (k : Int) + 4).toNat = 6 * k + 4 := n2 4
  have nt5 : (6 * (k : Int) + 5).toNat = 6 * k + 5 := n2 5
  have nk6 : A2 16 9 / 7 * 6 = 6 * (k : Int) := by omega
  generalize hbc : sm 60 (bcq A2 (max 0 z)) = bc at *
  generalize hlc : sm 60 (lcq A2 (max 0 z)) = lc at *
  obtain ⟨Ab, hAb⟩ : ∃ Ab : hI, Ab = uA (uA (uA (uA (uA A2 7 (6 * k) (A2 22 0)) 7 (6 * k + 1) (10 * A2 55 9)) 7 (6 * k + 2) bc) 7 (6 * k + 3) lc) 7 (6 * k + 4) (A2 16 10) := ⟨_, rfl⟩
  have eb : ∀ c : Nat, c ≠ 7 → Ab c = A2 c := fun c hc => by rw [hAb]; simp (disch := omega) only [uA_n]
  have Rb : RR K D A0 B0 Ab B := R2.r7 hw2 eb (fun j hj => by rw [hAb]; simp (disch := omega) only [uA_s, ud_n])
  have x6 := ex_reserve F Rb hK Bx
  rw [eb 22 (by omega), eb 55 (by omega)] at x6
  have g := R2.gle (h := 0) (by have := R2.gH.hn1; omega)
  have ho := R2.out.1
  have hr := rsv_rg (g := A2 22 0) (o := 10 * A2 55 9) g.1 (by omega)
  have x7 := ex_mask F (uA Ab 7 (6 * k + 5) (rsv (A2 22 0) (10 * A2 55 9))) Bx (say A1 B (-1) 5) hk1 6 0 F (by omega) (by omega)
  rw [mkA_0] at x7
  have hg := R3.gH.hg 0 (by omega)
  have R4 := R3.s48 (c := 480) (by omega) (by omega) hw2 (A2 22 0)
  have y6 := em_out F R4 hF Ax
  have R5 := (((R4.s48 (c := 481) (by omega) (by omega) hw2 (10 * A2 55 9)).s48 (c := 482) (by omega) (by omega) hw2 bc).s48 (c := 483) (by omega) (by omega) hw2 lc).s48 (c := 484) (by omega) (by omega) hw2 (A2 16 10)
  have y7 := em_reserve F R5 hF hK Ax
  have R6 := R5.s48 (c := 485) (by omega) (by omega) hw2 (rsv (A2 22 0) (10 * A2 55 9))
  obtain ⟨B3, y8, y9⟩ := em_ruled F Ax R6 hF hK (bill := -1) (key := 5) (Or.inl rfl) (by omega) (by omega) (d := iI 63) rfl
  have eS : say A2 (uA (uA (uA (uA (uA (uA B1 480 k (A2 22 0)) 481 k (10 * A2 55 9)) 482 k bc) 483 k lc) 484 k (A2 16 10)) 485 k (rsv (A2 22 0) (10 * A2 55 9))) (-1) 5 = say A1 B (-1) 5 := say_c (fun j hj => x4 j (by omega) (by omega)) (fun j h1 h2 => by
    simp (disch := omega) only [uA_n]
    exact y2.1 j (by omega) (by omega) (by omega)) _ _
  rw [eS] at y8
  generalize hSS : say A1 B (-1) 5 = S at *
  have R7 := (R6.x4 y9).s48 (c := 486) (by omega) (by omega) hw2 S.toInt
  have R8 : RR K D A0 B0 (mkA (uA Ab 7 (6 * k + 5) (rsv (A2 22 0) (10 * A2 55 9))) k S 6) (uA B3 486 k S.toInt) := R7.r7 hw2 (fun c hc => by rw [mkA_n hc, uA_n hc, eb c hc]) (fun j hj => by
    unfold mkA
    rw [if_pos rfl]
    rw [if_neg (by omega), hAb]
    simp (disch := omega) only [uA_s, ud_n])
  refine ⟨_, _, ?_, ?_, R8, ?_, ?_, ?_⟩
  · simp only [f_World_writeSheet]
    refine obd (v := (iI z, mk A1 Bx)) (by simp (disch := first | omega | (simp (disch := omega) only [uA_n]; done) | fail) only [iI_lit, iI_add, iI_sub, iI_mul, iI_neg, iI_lt, iI_le, iI_eq, zlt_t, zlt_f, zle_t, zle_f, zeq_t, zeq_f, nle_t, nle_f, iI_cl, rA, rS, rB, wA, wS, wB, mkp, mk2, uA_s, uA_n, ud_s, ud_n, bI_0, bI_1, nor_s, ↓reduceIte, or_false, false_or, or_true, true_or, or_self, not_true_eq_false, not_false_eq_true, and_true, true_and, and_false, false_and, bI_T, bI_F, Int.reduceToNat, Nat.reduceAdd, Nat.reduceMul, Int.reduceNeg, Option.bind_some, Int.toNat_natCast, x1]) ?_
    refine obd (v := (iI (max 0 z), mk A1 Bx)) (ex_max F 0 z _ (by omega) (by omega) (by omega) (by omega)) ?_
    refine obd (v := (S, mk A2 Bx)) (by simp (disch := first | omega | (simp (disch := omega) only [uA_n]; done) | fail) only [iI_lit, iI_add, iI_sub, iI_mul, iI_neg, iI_lt, iI_le, iI_eq, zlt_t, zlt_f, zle_t, zle_f, zeq_t, zeq_f, nle_t, nle_f, iI_cl, rA, rS, rB, wA, wS, wB, mkp, mk2, uA_s, uA_n, ud_s, ud_n, bI_0, bI_1, nor_s, ↓reduceIte, or_false, false_or, or_true, true_or, or_self, not_true_eq_false, not_false_eq_true, and_true, true_and, and_false, false_and, bI_T, bI_F, Int.reduceToNat, Nat.reduceAdd, Nat.reduceMul, Int.reduceNeg, Option.bind_some, Int.toNat_natCast, x3]) ?_
    refine Eq.trans x5 ?_
    rw [f_World_writeSheet_26]
    refine (if_pos (by simp (disch := first | omega | (simp (disch := omega) only [uA_n]; done) | fail) only [iI_lit, iI_add, iI_sub, iI_mul, iI_neg, iI_lt, iI_le, iI_eq, zlt_t, zlt_f, zle_t, zle_f, zeq_t, zeq_f, nle_t, nle_f, iI_cl, rA, rS, rB, wA, wS, wB, mkp, mk2, uA_s, uA_n, ud_s, ud_n, bI_0, bI_1, nor_s, ↓reduceIte, or_false, false_or, or_true, true_or, or_self, not_true_eq_false, not_false_eq_true, and_true, true_and, and_false, false_and, bI_T, bI_F, Int.reduceToNat, Nat.reduceAdd, Nat.reduceMul, Int.reduceNeg, Option.bind_some, Int.toNat_natCast])).trans ?_
    refine (if_neg (by simp (disch := first | omega | (simp (disch := omega) only [uA_n]; done) | fail) only [iI_lit, iI_add, iI_sub, iI_mul, iI_neg, iI_lt, iI_le, iI_eq, zlt_t, zlt_f, zle_t, zle_f, zeq_t, zeq_f, nle_t, nle_f, iI_cl, rA, rS, rB, wA, wS, wB, mkp, mk2, uA_s, uA_n, ud_s, ud_n, bI_0, bI_1, nor_s, ↓reduceIte, or_false, false_or, or_true, true_or, or_self, not_true_eq_false, not_false_eq_true, and_true, true_and, and_false, false_and, bI_T, bI_F, Int.reduceToNat, Nat.reduceAdd, Nat.reduceMul, Int.reduceNeg, Option.bind_some, Int.toNat_natCast, iI_div, nk6])).trans ?_
    refine (if_neg (by simp (disch := first | omega | (simp (disch := omega) only [uA_n]; done) | fail) only [iI_lit, iI_add, iI_sub, iI_mul, iI_neg, iI_lt, iI_le, iI_eq, zlt_t, zlt_f, zle_t, zle_f, zeq_t, zeq_f, nle_t, nle_f, iI_cl, rA, rS, rB, wA, wS, wB, mkp, mk2, uA_s, uA_n, ud_s, ud_n, bI_0, bI_1, nor_s, ↓reduceIte, or_false, false_or, or_true, true_or, or_self, not_true_eq_false, not_false_eq_true, and_true, true_and, and_false, false_and, bI_T, bI_F, Int.reduceToNat, Nat.reduceAdd, Nat.reduceMul, Int.reduceNeg, Option.bind_some, Int.toNat_natCast, iI_div, nk6])).trans ?_
    refine Eq.trans (b := f_World_writeSheet_217 F S (iI bc) (iI lc) (iI (6 * (k : Int))) (mk (uA (uA A2 7 (6 * k) (A2 22 0)) 7 (6 * k + 1) (10 * A2 55 9)) Bx)) (by simp (disch := first | omega | (simp (disch := omega) only [uA_n]; done) | fail) only [iI_lit, iI_add, iI_sub, iI_mul, iI_neg, iI_lt, iI_le, iI_eq, zlt_t, zlt_f, zle_t, zle_f, zeq_t, zeq_f, nle_t, nle_f, iI_cl, rA, rS, rB, wA, wS, wB, mkp, mk2, uA_s, uA_n, ud_s, ud_n, bI_0, bI_1, nor_s, ↓reduceIte, or_false, false_or, or_true, true_or, or_self, not_true_eq_false, not_false_eq_true, and_true, true_and, and_false, false_and, bI_T, bI_F, Int.reduceToNat, Nat.reduceAdd, Nat.reduceMul, Int.reduceNeg, Option.bind_some, Int.toNat_natCast, iI_div, nk6, n1, nt1]) ?_
    unfold f_World_writeSheet_217
    refine (if_neg (by simp (disch := first | omega | (simp (disch := omega) only [uA_n]; done) | fail) only [iI_lit, iI_add, iI_sub, iI_mul, iI_neg, iI_lt, iI_le, iI_eq, zlt_t, zlt_f, zle_t, zle_f, zeq_t, zeq_f, nle_t, nle_f, iI_cl, rA, rS, rB, wA, wS, wB, mkp, mk2, uA_s, uA_n, ud_s, ud_n, bI_0, bI_1, nor_s, ↓reduceIte, or_false, false_or, or_true, true_or, or_self, not_true_eq_false, not_false_eq_true, and_true, true_and, and_false, false_and, bI_T, bI_F, Int.reduceToNat, Nat.reduceAdd, Nat.reduceMul, Int.reduceNeg, Option.bind_some, Int.toNat_natCast])).trans ?_
    refine (if_neg (by simp (disch := first | omega | (simp (disch := omega) only [uA_n]; done) | fail) only [iI_lit, iI_add, iI_sub, iI_mul, iI_neg, iI_lt, iI_le, iI_eq, zlt_t, zlt_f, zle_t, zle_f, zeq_t, zeq_f, nle_t, nle_f, iI_cl, rA, rS, rB, wA, wS, wB, mkp, mk2, uA_s, uA_n, ud_s, ud_n, bI_0, bI_1, nor_s, ↓reduceIte, or_false, false_or, or_true, true_or, or_self, not_true_eq_false, not_false_eq_true, and_true, true_and, and_false, false_and, bI_T, bI_F, Int.reduceToNat, Nat.reduceAdd, Nat.reduceMul, Int.reduceNeg, Option.bind_some, Int.toNat_natCast])).trans ?_
    refine (if_neg (by simp (disch := first | omega | (simp (disch := omega) only [uA_n]; done) | fail) only [iI_lit, iI_add, iI_sub, iI_mul, iI_neg, iI_lt, iI_le, iI_eq, zlt_t, zlt_f, zle_t, zle_f, zeq_t, zeq_f, nle_t, nle_f, iI_cl, rA, rS, rB, wA, wS, wB, mkp, mk2, uA_s, uA_n, ud_s, ud_n, bI_0, bI_1, nor_s, ↓reduceIte, or_false, false_or, or_true, true_or, or_self, not_true_eq_false, not_false_eq_true, and_true, true_and, and_false, false_and, bI_T, bI_F, Int.reduceToNat, Nat.reduceAdd, Nat.reduceMul, Int.reduceNeg, Option.bind_some, Int.toNat_natCast])).trans ?_
    refine Eq.trans (b := f_World_writeSheet_260 F S (iI (6 * (k : Int))) (mk Ab Bx)) (by rw [hAb]; simp (disch := first | omega | (simp (disch := omega) only [uA_n]; done) | fail) only [iI_lit, iI_add, iI_sub, iI_mul, iI_neg, iI_lt, iI_le, iI_eq, zlt_t, zlt_f, zle_t, zle_f, zeq_t, zeq_f, nle_t, nle_f, iI_cl, rA, rS, rB, wA, wS, wB, mkp, mk2, uA_s, uA_n, ud_s, ud_n, bI_0, bI_1, nor_s, ↓reduceIte, or_false, false_or, or_true, true_or, or_self, not_true_eq_false, not_false_eq_true, and_true, true_and, and_false, false_and, bI_T, bI_F, Int.reduceToNat, Nat.reduceAdd, Nat.reduceMul, Int.reduceNeg, Option.bind_some, Int.toNat_natCast, nt2, nt3, nt4]) ?_
    unfold f_World_writeSheet_260
    refine obd x6 ?_
    refine (if_neg (by simp (disch := first | omega | (simp (disch := omega) only [uA_n]; done) | fail) only [iI_lit, iI_add, iI_sub, iI_mul, iI_neg, iI_lt, iI_le, iI_eq, zlt_t, zlt_f, zle_t, zle_f, zeq_t, zeq_f, nle_t, nle_f, iI_cl, rA, rS, rB, wA, wS, wB, mkp, mk2, uA_s, uA_n, ud_s, ud_n, bI_0, bI_1, nor_s, ↓reduceIte, or_false, false_or, or_true, true_or, or_self, not_true_eq_false, not_false_eq_true, and_true, true_and, and_false, false_and, bI_T, bI_F, Int.reduceToNat, Nat.reduceAdd, Nat.reduceMul, Int.reduceNeg, Option.bind_some, Int.toNat_natCast])).trans ?_
    refine Eq.trans ?_ x7
    simp (disch := first | omega | (simp (disch := omega) only [uA_n]; done) | fail) only [iI_lit, iI_add, iI_sub, iI_mul, iI_neg, iI_lt, iI_le, iI_eq, zlt_t, zlt_f, zle_t, zle_f, zeq_t, zeq_f, nle_t, nle_f, iI_cl, rA, rS, rB, wA, wS, wB, mkp, mk2, uA_s, uA_n, ud_s, ud_n, bI_0, bI_1, nor_s, ↓reduceIte, or_false, false_or, or_true, true_or, or_self, not_true_eq_false, not_false_eq_true, and_true, true_and, and_false, false_and, bI_T, bI_F, Int.reduceToNat, Nat.reduceAdd, Nat.reduceMul, Int.reduceNeg, Option.bind_some, Int.toNat_natCast, nt5]
    rfl
  · simp only [f_m_sheets]
    refine obd (v := (iI z, mk Ax B1)) (by simp (disch := first | omega | (simp (disch := omega) only [uA_n]; done) | fail) only [iI_lit, iI_add, iI_sub, iI_mul, iI_neg, iI_lt, iI_le, iI_eq, zlt_t, zlt_f, zle_t, zle_f, zeq_t, zeq_f, nle_t, nle_f, iI_cl, rA, rS, rB, wA, wS, wB, mkp, mk2, uA_s, uA_n, ud_s, ud_n, bI_0, bI_1, nor_s, ↓reduceIte, or_false, false_or, or_true, true_or, or_self, not_true_eq_false, not_false_eq_true, and_true, true_and, and_false, false_and, bI_T, bI_F, Int.reduceToNat, Nat.reduceAdd, Nat.reduceMul, Int.reduceNeg, Option.bind_some, Int.toNat_natCast, y1]) ?_
    have hb0 : B 400 0 = A 16 9 := R.gD.dd3
    have hb10 : B1 400 10 = A2 16 10 := R3.gD.dr3
    refine Eq.trans (b := f_m_sheets_33 F F (iI (9032 + 7 * (k : Int))) (iI z) (iI 0) (iI 0) (iI 0) (mk Ax B1)) (by simp (disch := first | omega | (simp (disch := omega) only [uA_n]; done) | fail) only [iI_lit, iI_add, iI_sub, iI_mul, iI_neg, iI_lt, iI_le, iI_eq, zlt_t, zlt_f, zle_t, zle_f, zeq_t, zeq_f, nle_t, nle_f, iI_cl, rA, rS, rB, wA, wS, wB, mkp, mk2, uA_s, uA_n, ud_s, ud_n, bI_0, bI_1, nor_s, ↓reduceIte, or_false, false_or, or_true, true_or, or_self, not_true_eq_false, not_false_eq_true, and_true, true_and, and_false, false_and, bI_T, bI_F, Int.reduceToNat, Nat.reduceAdd, Nat.reduceMul, Int.reduceNeg, Option.bind_some, Int.toNat_natCast, iI_div, dS, hb0, hk]) ?_
    refine Eq.trans y5 ?_
    rw [f_m_sheets_33]
    refine (if_pos (Int32.le_refl _)).trans ?_
    refine obd (em_hs F 0 2 Ax B1 (by omega) (by omega) (by omega) (by omega)) ?_
    refine (if_neg (by simp (disch := first | omega | (simp (disch := omega) only [uA_n]; done) | fail) only [iI_lit, iI_add, iI_sub, iI_mul, iI_neg, iI_lt, iI_le, iI_eq, zlt_t, zlt_f, zle_t, zle_f, zeq_t, zeq_f, nle_t, nle_f, iI_cl, rA, rS, rB, wA, wS, wB, mkp, mk2, uA_s, uA_n, ud_s, ud_n, bI_0, bI_1, nor_s, ↓reduceIte, or_false, false_or, or_true, true_or, or_self, not_true_eq_false, not_false_eq_true, and_true, true_and, and_false, false_and, bI_T, bI_F, Int.reduceToNat, Nat.reduceAdd, Nat.reduceMul, Int.reduceNeg, Option.bind_some, Int.toNat_natCast])).trans ?_
    have m0 : uA B1 480 k (A2 22 0) 399 = B1 399 := uA_n (by omega)
    have zz : (k : Int).toNat = k := Int.toNat_natCast k
    refine obd (v := (iI (10 * A2 55 9), mk Ax (uA B1 480 k (A2 22 0)))) (by
      refine Eq.trans ?_ y6
      simp (disch := first | omega | (simp (disch := omega) only [uA_n]; done) | fail) only [iI_lit, iI_add, iI_sub, iI_mul, iI_neg, iI_lt, iI_le, iI_eq, zlt_t, zlt_f, zle_t, zle_f, zeq_t, zeq_f, nle_t, nle_f, iI_cl, rA, rS, rB, wA, wS, wB, mkp, mk2, uA_s, uA_n, ud_s, ud_n, bI_0, bI_1, nor_s, ↓reduceIte, or_false, false_or, or_true, true_or, or_self, not_true_eq_false, not_false_eq_true, and_true, true_and, and_false, false_and, bI_T, bI_F, Int.reduceToNat, Nat.reduceAdd, Nat.reduceMul, Int.reduceNeg, Option.bind_some, Int.toNat_natCast, zY0, hg, mk2 m0]) ?_
    refine (if_neg (by simp (disch := first | omega | (simp (disch := omega) only [uA_n]; done) | fail) only [iI_lit, iI_add, iI_sub, iI_mul, iI_neg, iI_lt, iI_le, iI_eq, zlt_t, zlt_f, zle_t, zle_f, zeq_t, zeq_f, nle_t, nle_f, iI_cl, rA, rS, rB, wA, wS, wB, mkp, mk2, uA_s, uA_n, ud_s, ud_n, bI_0, bI_1, nor_s, ↓reduceIte, or_false, false_or, or_true, true_or, or_self, not_true_eq_false, not_false_eq_true, and_true, true_and, and_false, false_and, bI_T, bI_F, Int.reduceToNat, Nat.reduceAdd, Nat.reduceMul, Int.reduceNeg, Option.bind_some, Int.toNat_natCast])).trans ?_
    refine (if_neg (by simp (disch := first | omega | (simp (disch := omega) only [uA_n]; done) | fail) only [iI_lit, iI_add, iI_sub, iI_mul, iI_neg, iI_lt, iI_le, iI_eq, zlt_t, zlt_f, zle_t, zle_f, zeq_t, zeq_f, nle_t, nle_f, iI_cl, rA, rS, rB, wA, wS, wB, mkp, mk2, uA_s, uA_n, ud_s, ud_n, bI_0, bI_1, nor_s, ↓reduceIte, or_false, false_or, or_true, true_or, or_self, not_true_eq_false, not_false_eq_true, and_true, true_and, and_false, false_and, bI_T, bI_F, Int.reduceToNat, Nat.reduceAdd, Nat.reduceMul, Int.reduceNeg, Option.bind_some, Int.toNat_natCast])).trans ?_
    refine (if_neg (by simp (disch := first | omega | (simp (disch := omega) only [uA_n]; done) | fail) only [iI_lit, iI_add, iI_sub, iI_mul, iI_neg, iI_lt, iI_le, iI_eq, zlt_t, zlt_f, zle_t, zle_f, zeq_t, zeq_f, nle_t, nle_f, iI_cl, rA, rS, rB, wA, wS, wB, mkp, mk2, uA_s, uA_n, ud_s, ud_n, bI_0, bI_1, nor_s, ↓reduceIte, or_false, false_or, or_true, true_or, or_self, not_true_eq_false, not_false_eq_true, and_true, true_and, and_false, false_and, bI_T, bI_F, Int.reduceToNat, Nat.reduceAdd, Nat.reduceMul, Int.reduceNeg, Option.bind_some, Int.toNat_natCast])).trans ?_
    refine (if_neg (by simp (disch := first | omega | (simp (disch := omega) only [uA_n]; done) | fail) only [iI_lit, iI_add, iI_sub, iI_mul, iI_neg, iI_lt, iI_le, iI_eq, zlt_t, zlt_f, zle_t, zle_f, zeq_t, zeq_f, nle_t, nle_f, iI_cl, rA, rS, rB, wA, wS, wB, mkp, mk2, uA_s, uA_n, ud_s, ud_n, bI_0, bI_1, nor_s, ↓reduceIte, or_false, false_or, or_true, true_or, or_self, not_true_eq_false, not_false_eq_true, and_true, true_and, and_false, false_and, bI_T, bI_F, Int.reduceToNat, Nat.reduceAdd, Nat.reduceMul, Int.reduceNeg, Option.bind_some, Int.toNat_natCast])).trans ?_
    refine Eq.trans (b := f_m_sheets_245 F (iI (9032 + 7 * (k : Int))) (mk Ax (uA (uA (uA (uA (uA B1 480 k (A2 22 0)) 481 k (10 * A2 55 9)) 482 k bc) 483 k lc) 484 k (A2 16 10)))) ?_ ?_
    · have mm : uA (uA (uA (uA (uA B1 480 k (A2 22 0)) 481 k (10 * A2 55 9)) 482 k bc) 483 k lc) 484 k (A2 16 10) 399 = uA B1 480 k (A2 22 0) 399 := by simp (disch := omega) only [uA_n]
      simp (disch := first | omega | (simp (disch := omega) only [uA_n]; done) | fail) only [iI_lit, iI_add, iI_sub, iI_mul, iI_neg, iI_lt, iI_le, iI_eq, zlt_t, zlt_f, zle_t, zle_f, zeq_t, zeq_f, nle_t, nle_f, iI_cl, rA, rS, rB, wA, wS, wB, mkp, mk2, uA_s, uA_n, ud_s, ud_n, bI_0, bI_1, nor_s, ↓reduceIte, or_false, false_or, or_true, true_or, or_self, not_true_eq_false, not_false_eq_true, and_true, true_and, and_false, false_and, bI_T, bI_F, Int.reduceToNat, Nat.reduceAdd, Nat.reduceMul, Int.reduceNeg, Option.bind_some, Int.toNat_natCast, zY, dS, hb10, mk2 mm]
    unfold f_m_sheets_245
    refine obd y7 ?_
    refine (if_neg (by simp (disch := first | omega | (simp (disch := omega) only [uA_n]; done) | fail) only [iI_lit, iI_add, iI_sub, iI_mul, iI_neg, iI_lt, iI_le, iI_eq, zlt_t, zlt_f, zle_t, zle_f, zeq_t, zeq_f, nle_t, nle_f, iI_cl, rA, rS, rB, wA, wS, wB, mkp, mk2, uA_s, uA_n, ud_s, ud_n, bI_0, bI_1, nor_s, ↓reduceIte, or_false, false_or, or_true, true_or, or_self, not_true_eq_false, not_false_eq_true, and_true, true_and, and_false, false_and, bI_T, bI_F, Int.reduceToNat, Nat.reduceAdd, Nat.reduceMul, Int.reduceNeg, Option.bind_some, Int.toNat_natCast])).trans ?_
    have m1 : uA (uA (uA (uA (uA (uA B1 480 k (A2 22 0)) 481 k (10 * A2 55 9)) 482 k bc) 483 k lc) 484 k (A2 16 10)) 485 k (rsv (A2 22 0) (10 * A2 55 9)) 399 = uA (uA (uA (uA (uA B1 480 k (A2 22 0)) 481 k (10 * A2 55 9)) 482 k bc) 483 k lc) 484 k (A2 16 10) 399 := uA_n (by omega)
    refine obd (v := (S, mk Ax B3)) (by
      refine Eq.trans ?_ y8
      simp (disch := first | omega | (simp (disch := omega) only [uA_n]; done) | fail) only [iI_lit, iI_add, iI_sub, iI_mul, iI_neg, iI_lt, iI_le, iI_eq, zlt_t, zlt_f, zle_t, zle_f, zeq_t, zeq_f, nle_t, nle_f, iI_cl, rA, rS, rB, wA, wS, wB, mkp, mk2, uA_s, uA_n, ud_s, ud_n, bI_0, bI_1, nor_s, ↓reduceIte, or_false, false_or, or_true, true_or, or_self, not_true_eq_false, not_false_eq_true, and_true, true_and, and_false, false_and, bI_T, bI_F, Int.reduceToNat, Nat.reduceAdd, Nat.reduceMul, Int.reduceNeg, Option.bind_some, Int.toNat_natCast, zY, mk2 m1]) ?_
    refine (if_neg (by simp (disch := first | omega | (simp (disch := omega) only [uA_n]; done) | fail) only [iI_lit, iI_add, iI_sub, iI_mul, iI_neg, iI_lt, iI_le, iI_eq, zlt_t, zlt_f, zle_t, zle_f, zeq_t, zeq_f, nle_t, nle_f, iI_cl, rA, rS, rB, wA, wS, wB, mkp, mk2, uA_s, uA_n, ud_s, ud_n, bI_0, bI_1, nor_s, ↓reduceIte, or_false, false_or, or_true, true_or, or_self, not_true_eq_false, not_false_eq_true, and_true, true_and, and_false, false_and, bI_T, bI_F, Int.reduceToNat, Nat.reduceAdd, Nat.reduceMul, Int.reduceNeg, Option.bind_some, Int.toNat_natCast])).trans ?_
    have m2 : uA B3 486 k S.toInt 399 = B3 399 := uA_n (by omega)
    obtain ⟨s, hs, hs2⟩ : ∃ s, S = iI s ∧ s = S.toInt := ⟨_, iI_of S, rfl⟩
    rw [← hs2] at m2 ⊢
    refine Eq.trans (b := some ((), (m_up (mk Ax B3).1 305 (iI (9032 + 7 * (k : Int)) + 6).toNatClampNeg (iI s), (mk Ax B3).2))) (by rw [← hs]) ?_
    simp (disch := first | omega | (simp (disch := omega) only [uA_n]; done) | fail) only [iI_lit, iI_add, iI_sub, iI_mul, iI_neg, iI_lt, iI_le, iI_eq, zlt_t, zlt_f, zle_t, zle_f, zeq_t, zeq_f, nle_t, nle_f, iI_cl, rA, rS, rB, wA, wS, wB, mkp, mk2, uA_s, uA_n, ud_s, ud_n, bI_0, bI_1, nor_s, ↓reduceIte, or_false, false_or, or_true, true_or, or_self, not_true_eq_false, not_false_eq_true, and_true, true_and, and_false, false_and, bI_T, bI_F, Int.reduceToNat, Nat.reduceAdd, Nat.reduceMul, Int.reduceNeg, Option.bind_some, Int.toNat_natCast, zY, mk2 m2]
  · intro i hi
    have b := and1 (S >>> (iI (i : Int) &&& 31))
    have e486 : iI (uA B3 486 k S.toInt 486 k) = S := by rw [uA_s, ud_s]; exact (iI_of S).symm
    have eb3 : uA B3 486 k S.toInt (480 + i) k = uA (uA (uA (uA (uA (uA B1 480 k (A2 22 0)) 481 k (10 * A2 55 9)) 482 k bc) 483 k lc) 484 k (A2 16 10)) 485 k (rsv (A2 22 0) (10 * A2 55 9)) (480 + i) k := by
      rw [uA_n (by omega), y9.1 (480 + i) (by omega) (by omega) (by omega)]
    rw [e486, eb3]
    unfold mkA
    rw [if_pos rfl]
    show (if 6 * k ≤ 6 * k + i ∧ 6 * k + i < 6 * k + 6 ∧ (S >>> (iI ((6 * k + i - 6 * k : Nat) : Int) &&& 31)) &&& 1 = 0 then -1 else uA Ab 7 (6 * k + 5) (rsv (A2 22 0) (10 * A2 55 9)) 7 (6 * k + i)) = _
    rw [show 6 * k + i - 6 * k = i by omega]
    rcases b with b | b
    · rw [if_pos ⟨by omega, by omega, b⟩, if_neg (by rw [b]; decide)]
    · rw [if_neg (fun z => by rw [b] at z; exact absurd z.2.2 (by decide)), if_pos b, hAb]
      rcases (show i = 0 ∨ i = 1 ∨ i = 2 ∨ i = 3 ∨ i = 4 ∨ i = 5 by omega) with rfl | rfl | rfl | rfl | rfl | rfl <;> simp (disch := omega) only [uA_s, uA_n, ud_s, ud_n, Nat.reduceAdd, Nat.add_zero]
  · rw [uA_n (by omega), y9.1 485 (by omega) (by omega) (by omega), uA_s, ud_s]
    exact hr
  · intro c h7 h15 h54
    rw [mkA_n h7, uA_n h7, eb c h7, hA2 c h15 h54]
end SHE3
