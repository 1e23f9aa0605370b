/-! A PAPER COMES DUE -/
section DUE
variable {K D : Int} {A0 B0 A B A' B' : hI} (F : Nat)
theorem kAB_37 (h : Int) (A B : hI) : ∀ n q : Nat, (kAB h n A B).1 37 q = 0 → A 37 q = 0 := by
  intro n
  induction n with
  | zero => intro q z; exact z
  | succ n ih =>
    intro q z
    have z : kA h n (kAB h n A B).1 37 q = 0 := z
    refine ih q ?_
    by_cases e : q = n
    · subst e
      by_cases k : kC h q (kAB h q A B).1
      · exact k.1
      · rw [kA_f k] at z; exact z
    · rw [(kA_37 (q := q)).1 e] at z; exact z
theorem RR.fails2 (R : RR K D A0 B0 A B) (hF : 1000 ≤ F) (Ax Bx : hI) {h p : Int} (hp0 : 0 ≤ p) (hp : p < 60) (h1 : 1 ≤ h) (hh : h < A 19 11) (hup : A 27 h.toNat = -1) (w : Int) : ∃ A' B' : hI, f_World_fail F (iI p) (iI h) (iI w) (mk A Bx) = some ((), mk A' Bx) ∧ f_m_falls F (iI h) (iI p) (iI (A 35 p.toNat)) (iI w) (mk Ax B) = some ((), mk Ax B') ∧ RR K D A0 B0 A' B' ∧ (∀ k : Nat, k ≠ 19 ∧ ¬ (27 ≤ k ∧ k ≤ 30) ∧ k ≠ 35 ∧ k ≠ 37 ∧ k ≠ 40 → A' k = A k) ∧ A' 19 11 = A 19 11 ∧ A' 27 = ud (A 27) h.toNat (A 16 9) ∧ (∀ q : Nat, q < 60 → A 32 q = 1 → A' 37 q = A 37 q) ∧ (∀ q : Nat, A' 37 q = 0 → A 37 q = 0) ∧ (∀ q : Nat, q < 60 → A 34 q = h → A 32 q ≠ 1 → A' 37 q ≠ 0) := by
  obtain ⟨hn, rfl⟩ : ∃ n : Nat, h = n := ⟨h.toNat, by omega⟩
  obtain ⟨pn, rfl⟩ : ∃ n : Nat, p = n := ⟨p.toNat, by omega⟩
  simp only [Int.toNat_natCast] at *
  have o := kAB_o hn A B 60
  have Rk := R.kn hn 60 (by omega)
  have R2 := Rk.fall (h := hn) (p := pn) (t := A 35 pn) (w := w) (by omega) (by rw [o.1 19 (by omega)]; exact hh) (by rw [o.1 27 (by omega)]; exact hup) (fun q hq => kAB_no hn A B 60 q hq)
  rw [o.1 16 (by omega)] at R2
  refine ⟨_, _, ex_fail F R hF Bx (by omega) hh w, em_falls F R hF Ax hh pn (A 35 pn) w, R2, fun k hk => ?_, ?_, ?_, fun q hq h1 => ?_, fun q z => ?_, fun q hq z1 z2 z3 => ?_⟩
  · rw [fl_o _ _ _ _ _ _ (by omega), o.1 k (by omega)]
  · unfold fl; rw [uA_s, ud_n (by omega)]; simp (disch := omega) only [uA_n]; rw [o.1 19 (by omega)]
  · unfold fl; simp (disch := omega) only [uA_n, uA_s]; rw [o.1 27 (by omega)]
  · rw [fl_o _ _ _ _ _ _ (by omega)]
    have st : ∀ n : Nat, n ≤ 60 → (kAB hn n A B).1 37 q = A 37 q := by
      intro n
      induction n with
      | zero => intro _; rfl
      | succ n ih =>
        intro hn'
        show kA hn n (kAB hn n A B).1 37 q = A 37 q
        by_cases e : q = n
        · subst e
          rw [kA_f (fun z => z.2.2 (by rw [(kAB_o hn A B q).1 32 (by omega)]; exact h1))]
          exact ih (by omega)
        · rw [(kA_37 (q := q)).1 e]; exact ih (by omega)
    exact st 60 (by omega)
  · rw [fl_o _ _ _ _ _ _ (by omega)] at z
    exact kAB_37 hn A B 60 q z
  · rw [fl_o _ _ _ _ _ _ (by omega)] at z3
    exact kAB_no hn A B 60 q hq ⟨z3, by rw [o.1 34 (by omega)]; exact z1, by rw [o.1 32 (by omega)]; exact z2⟩
/-- a house gets gold from the land -/
theorem RR.gain (R : RR K D A0 B0 A B) {a : Nat} {v : Int} (ha : (a : Int) < A 19 11) (hv : 0 ≤ v) : RR (K + v) D A0 B0 (uA A 22 a (A 22 a + v)) (uA B 412 a (B 412 a + v)) := by
  have hn := R.gH.hn2
  have hA : ∀ k : Nat, k ≠ 22 → uA A 22 a (A 22 a + v) k = A k := fun k hk => uA_n hk
  have hB : ∀ k : Nat, k ≠ 412 → uA B 412 a (B 412 a + v) k = B k := fun k hk => uA_n hk
  have h4 : ∀ j : Nat, j ≠ 99 → uA B 412 a (B 412 a + v) 400 j = B 400 j := fun j _ => by rw [hB 400 (by omega)]
  have G := R.gG
  have R := R.k (show K ≤ K + v by omega)
  refine ⟨⟨(by apply R.gL.c <;> first | rfl | exact hA _ (by omega) | exact congrFun (hA _ (by omega)) _ | exact hB _ (by omega) | exact h4 _ (by omega) | (intro k hk1 hk2; exact hB k (by omega)) | (simp (disch := omega) only [uA_s, uA_n, ud_n]; done)), ?_, (by apply R.gN.c <;> first | rfl | exact hA _ (by omega) | exact congrFun (hA _ (by omega)) _ | exact hB _ (by omega) | exact h4 _ (by omega) | (intro k hk1 hk2; exact hB k (by omega)) | (simp (disch := omega) only [uA_s, uA_n, ud_n]; done)), (by apply R.gP.c <;> first | rfl | exact hA _ (by omega) | exact congrFun (hA _ (by omega)) _ | exact hB _ (by omega) | exact h4 _ (by omega) | (intro k hk1 hk2; exact hB k (by omega)) | (simp (disch := omega) only [uA_s, uA_n, ud_n]; done)), (by apply R.gT.c <;> first | rfl | exact hA _ (by omega) | exact congrFun (hA _ (by omega)) _ | exact hB _ (by omega) | exact h4 _ (by omega) | (intro k hk1 hk2; exact hB k (by omega)) | (simp (disch := omega) only [uA_s, uA_n, ud_n]; done)), (by apply R.gS.c <;> first | rfl | exact hA _ (by omega) | exact congrFun (hA _ (by omega)) _ | exact hB _ (by omega) | exact h4 _ (by omega) | (intro k hk1 hk2; exact hB k (by omega)) | (simp (disch := omega) only [uA_s, uA_n, ud_n]; done)), (by apply R.gD.c <;> first | rfl | exact hA _ (by omega) | exact congrFun (hA _ (by omega)) _ | exact hB _ (by omega) | exact h4 _ (by omega) | (intro k hk1 hk2; exact hB k (by omega)) | (simp (disch := omega) only [uA_s, uA_n, ud_n]; done)), (by apply R.gW.c <;> first | rfl | exact hA _ (by omega) | exact congrFun (hA _ (by omega)) _ | exact hB _ (by omega) | exact h4 _ (by omega) | (intro k hk1 hk2; exact hB k (by omega)) | (simp (disch := omega) only [uA_s, uA_n, ud_n]; done)), (by apply R.gX.c <;> first | rfl | exact hA _ (by omega) | exact congrFun (hA _ (by omega)) _ | exact hB _ (by omega) | exact h4 _ (by omega) | (intro k hk1 hk2; exact hB k (by omega)) | (simp (disch := omega) only [uA_s, uA_n, ud_n]; done)), ?_, (by apply R.gI.c <;> first | rfl | exact hA _ (by omega) | exact congrFun (hA _ (by omega)) _ | exact hB _ (by omega) | exact h4 _ (by omega) | (intro k hk1 hk2; exact hB k (by omega)) | (simp (disch := omega) only [uA_s, uA_n, ud_n]; done))⟩, R.sx.tr ?_, R.sb.tr (SB.st (fun k hk => hB k (by omega)))⟩
  · obtain ⟨x1, x2, x3, x4, x5, x6, x7, x8, x9, x10, x11, x12, x13, x14, x15, x16, x17, x18, x19, x20, x21⟩ := R.gH
    unfold WH
    have e : uA A 22 a (A 22 a + v) 22 = ud (A 22) a (A 22 a + v) := uA_s ..
    have f : uA B 412 a (B 412 a + v) 412 = ud (B 412) a (B 412 a + v) := uA_s ..
    simp only [e, f, hA 19 (by omega), hA 20 (by omega), hA 21 (by omega), hA 23 (by omega), hA 24 (by omega), hA 25 (by omega), hA 26 (by omega), hA 27 (by omega), hA 28 (by omega), hA 29 (by omega), hA 30 (by omega), hA 17 (by omega), hA 16 (by omega), hB 400 (by omega), hB 410 (by omega), hB 411 (by omega), hB 413 (by omega), hB 414 (by omega), hB 415 (by omega), hB 416 (by omega), hB 417 (by omega), hB 418 (by omega), hB 419 (by omega), hB 420 (by omega), hB 421 (by omega)]
    refine ⟨x1, x2, x3, x4, x5, fun h hh => ?_, x7, x8, x9, x10, x11, x12, x13, x14, x15, x16, x17, x18, x19, x20, x21⟩
    by_cases q : h = a
    · subst q; rw [ud_s, ud_s, x6 h hh]
    · rw [ud_n q, ud_n q, x6 h hh]
  · have e : uA A 22 a (A 22 a + v) 22 = ud (A 22) a (A 22 a + v) := uA_s ..
    refine ⟨fun h hh => ?_, ?_⟩
    · rw [hA 19 (by omega)] at hh
      rw [e]
      have g1 := G.gn h hh
      by_cases q : h = a
      · subst q; rw [ud_s]; omega
      · rw [ud_n q]; exact g1
    · rw [e, hA 19 (by omega), sm_ud (by omega)]
      have := G.gs
      omega
  · exact SX.st (fun k hk => hA k (by omega)) (by rw [hA 16 (by omega)]) (by rw [hA 16 (by omega)]) (by rw [hA 55 (by omega)]) (by rw [hA 55 (by omega)]) (fun c _ => by rw [hA 59 (by omega)])
/-- it is paid: both sides -/
theorem RR.pay (R : RR K D A0 B0 A B) (hF : 1000 ≤ F) (hK : K ≤ 1000000000) (Ax Bx : hI) {p : Nat} (hp : p < 60) (hk : A 32 p ≠ -1) (hs : A 32 p = 3 → A 37 p = 0) (hn : ∀ q, q < 60 → A 32 q = 3 → A 37 q = 0 → A 41 q ≠ p) (hcan : hCan A (A 34 p) (A 35 p) (A 33 p)) : ∃ A' B' : hI, f_World_settle_113 F (iI p) (iI (A 34 p)) (iI (A 35 p)) (iI (A 33 p)) (mk A Bx) = some ((), mk A' Bx) ∧ f_m_comesDue_103 F (iI p) (iI (A 34 p)) (iI (A 35 p)) (iI (A 33 p)) (mk Ax B) = some ((), mk Ax B') ∧ RR K D A0 B0 A' B' ∧ (∀ k : Nat, ¬ (3 ≤ k ∧ k ≤ 6) ∧ k ≠ 22 ∧ ¬ (55 ≤ k ∧ k ≤ 61) ∧ k ≠ 31 ∧ k ≠ 32 ∧ k ≠ 35 ∧ k ≠ 37 ∧ k ≠ 40 → A' k = A k) ∧ A' 37 p = -1 ∧ A' 31 15 = A 31 15 ∧ ∀ q, q ≠ p → A' 37 q = A 37 q ∧ A' 32 q = A 32 q := by
  have hn2 := R.gH.hn2
  have pd := R.gP.pd p hp hk
  have ph := R.gP.ph p hp hk
  have ps := R.gP.ps p hp hk
  have ed : ((A 34 p).toNat : Int) = A 34 p := by omega
  obtain ⟨X, Y, x1, y1, R1, f1⟩ := R.xfer F hF Ax Bx (a := (A 34 p).toNat) (to := A 35 p) (s := A 33 p) (by omega) (by omega) (by omega) (by omega) (by omega) (by omega) hK (by rw [ed]; exact hcan)
  rw [ed] at x1 y1
  have e32 : X 32 = A 32 := f1 32 (by omega)
  have e34 : X 34 = A 34 := f1 34 (by omega)
  have e37 : X 37 = A 37 := f1 37 (by omega)
  have e41 : X 41 = A 41 := f1 41 (by omega)
  have hk1 : X 32 p ≠ -1 := by rw [e32]; exact hk
  have hs1 : X 32 p = 3 → X 37 p = 0 := by rw [e32, e37]; exact hs
  have hn1 : ∀ q, q < 60 → X 32 q = 3 → X 37 q = 0 → X 41 q ≠ p := by rw [e32, e37, e41]; exact hn
  have R2 := R1.py hp hk1 hs1 hn1
  have x2 := ex_payOff F R1 Bx hp hk1 hs1
  have kr := R1.kr hp
  have b1 := R1.gP.pk p hp hk1
  have b15 := R1.gP.ppl p hp hk1
  refine ⟨pyA X p, pyB X Y p, ?_, ?_, R2, fun k hk => ?_, ?_, ?_, fun q hq => ?_⟩
  · unfold f_World_settle_113
    refine obd (v := ((), mk X Bx)) x1 ?_
    exact obd (v := ((), mk (pyA X p) Bx)) x2 rfl
  · unfold f_m_comesDue_103
    refine obd (v := ((), mk Ax Y)) y1 ?_
    unfold pyB
    by_cases h3 : X 32 p = 3
    · rw [if_pos h3]
      obtain ⟨g1, g2, g3, -⟩ := R1.gP.ppg p hp h3 (hs1 h3)
      rw [h3] at b1
      have m1 : uA Y 464 (X 41 p).toNat 0 399 = Y 399 := uA_n (by omega)
      have m2 : uA (uA Y 464 (X 41 p).toNat 0) 454 (X 41 p).toNat (A 34 p) 399 = Y 399 := by rw [uA_n (by omega), uA_n (by omega)]
      rw [e34]
      simp only [f_m_comesDue_158]
      simp (disch := first | omega | (simp (disch := omega) only [uA_n]; done) | fail) only [iI_lit, iI_add, iI_sub, iI_mul, iI_neg, iI_lt, iI_le, iI_eq, zlt_t, zlt_f, zle_t, zle_f, zeq_t, zeq_f, nle_t, nle_f, iI_cl, rA, rS, rB, wA, wS, wB, mkp, mk2, uA_s, uA_n, ud_s, ud_n, bI_0, bI_1, nor_s, ↓reduceIte, or_false, false_or, or_true, true_or, or_self, not_true_eq_false, not_false_eq_true, and_true, true_and, and_false, false_and, bI_T, bI_F, Int.reduceToNat, Nat.reduceAdd, Nat.reduceMul, Int.reduceNeg, Option.bind_some, Int.toNat_natCast, em_paper, b1, b15, zP, zP0, mk2 m1, mk2 m2]
    · rw [if_neg h3]
      simp only [f_m_comesDue_158]
      simp (disch := first | omega | (simp (disch := omega) only [uA_n]; done) | fail) only [iI_lit, iI_add, iI_sub, iI_mul, iI_neg, iI_lt, iI_le, iI_eq, zlt_t, zlt_f, zle_t, zle_f, zeq_t, zeq_f, nle_t, nle_f, iI_cl, rA, rS, rB, wA, wS, wB, mkp, mk2, uA_s, uA_n, ud_s, ud_n, bI_0, bI_1, nor_s, ↓reduceIte, or_false, false_or, or_true, true_or, or_self, not_true_eq_false, not_false_eq_true, and_true, true_and, and_false, false_and, bI_T, bI_F, Int.reduceToNat, Nat.reduceAdd, Nat.reduceMul, Int.reduceNeg, Option.bind_some, Int.toNat_natCast, em_paper, b1, b15, zP, zP0]
  · rw [pyA_o (by omega), f1 k (by omega)]
  · unfold pyA
    split <;> simp (disch := omega) only [uA_n, uA_s, ud_s]
  · unfold pyA
    split <;> (simp (disch := omega) only [uA_n, uA_s, ud_n]; rw [f1 31 (by omega)])
  · unfold pyA
    split <;> (simp (disch := omega) only [uA_n, uA_s, ud_n]; rw [e37, e32]; exact ⟨rfl, rfl⟩)
end DUE
