/-! A BILL IS OFFERED -/
def prc (s r d : Int) : Int := s - s * r * d / 36000
theorem prc_rg {s r d : Int} (hs : 1 ≤ s) (hs2 : s ≤ 11000) (hr : 0 ≤ r) (hr2 : r ≤ 30) (hd : 0 ≤ d) (hd2 : d ≤ 60) : 0 ≤ s * r ∧ s * r ≤ 330000 ∧ 0 ≤ s * r * d ∧ s * r * d ≤ 19800000 ∧ 1 ≤ prc s r d ∧ prc s r d ≤ s := by
  have a1 : 0 ≤ s * r := Int.mul_nonneg (by omega) hr
  have a2 : s * r ≤ s * 30 := Int.mul_le_mul_of_nonneg_left hr2 (by omega)
  have a3 : 0 ≤ s * r * d := Int.mul_nonneg a1 hd
  have a4 : s * r * d ≤ s * r * 60 := Int.mul_le_mul_of_nonneg_left hd2 a1
  unfold prc
  generalize s * r * d = v at *
  generalize s * r = u at *
  omega
section OFFR
variable {K D : Int} {A0 B0 A B A' B' : hI} (F : Nat)
theorem em_notesOf (R : RR K D A0 B0 A B) (hF : 1000 ≤ F) (Ax : hI) {h : Nat} (h1 : 1 ≤ h) (h2 : h < 16) : f_m_notesOf F (iI h) (mk Ax B) = some (iI (A 61 h), mk Ax B) := by
  have N := R.gN
  have hc1 := N.nc1
  have hc2 := N.nc2
  have hc3 := N.nc3
  rw [N.nhe h h1 h2]
  unfold f_m_notesOf
  refine loopF (f := fun q (s : Int32 × Int32 × mM) => f_m_notesOf_4 F q (iI h) s.1 s.2.1 s.2.2) (s := (0, 0, mk Ax B)) (fun i s => s = (iI (sm i (fun e => bI (A 58 e = h))), iI (i : Int), mk Ax B)) (fun t => t = some (iI (sm (A 55 7).toNat (fun e => bI (A 58 e = h))), mk Ax B)) (A 55 7).toNat rfl ?_ (by omega)
  rintro q i s hi rfl
  show f_m_notesOf_4 F (q + 1) (iI h) (iI (sm i (fun e => bI (A 58 e = h)))) (iI (i : Int)) (mk Ax B) = _ ∨ _
  rw [f_m_notesOf_4]
  simp only [f_m_notesOf_44, f_m_notesOf_52]
  by_cases he : i = (A 55 7).toNat
  · subst he
    refine Or.inl ?_
    have e : (((A 55 7).toNat : Nat) : Int) = A 55 7 := by omega
    simp (disch := first | omega | (simp (disch := omega) only [uA_n]; done) | fail) only [iI_lit, iI_add, iI_sub, iI_mul, iI_neg, iI_lt, iI_le, iI_eq, zlt_t, zlt_f, zle_t, zle_f, zeq_t, zeq_f, nle_t, nle_f, iI_cl, rA, rS, rB, wA, wS, wB, mkp, mk2, uA_s, uA_n, ud_s, ud_n, bI_0, bI_1, nor_s, ↓reduceIte, or_false, false_or, or_true, true_or, or_self, not_true_eq_false, not_false_eq_true, and_true, true_and, and_false, false_and, bI_T, bI_F, Int.reduceToNat, Nat.reduceAdd, Nat.reduceMul, Int.reduceNeg, Option.bind_some, Int.toNat_natCast, dS, hc3, e]
  · have ho := N.nho i (by omega)
    have ht := R.gH.hn2
    refine Or.inr ⟨by omega, (iI (sm (i + 1) (fun e => bI (A 58 e = h))), iI ((i + 1 : Nat) : Int), mk Ax B), ?_, rfl⟩
    simp only [sm]
    by_cases h3 : A 58 i = h
    · rw [bI_t h3]
      simp (disch := first | omega | (simp (disch := omega) only [uA_n]; done) | fail) only [iI_lit, iI_add, iI_sub, iI_mul, iI_neg, iI_lt, iI_le, iI_eq, zlt_t, zlt_f, zle_t, zle_f, zeq_t, zeq_f, nle_t, nle_f, iI_cl, rA, rS, rB, wA, wS, wB, mkp, mk2, uA_s, uA_n, ud_s, ud_n, bI_0, bI_1, nor_s, ↓reduceIte, or_false, false_or, or_true, true_or, or_self, not_true_eq_false, not_false_eq_true, and_true, true_and, and_false, false_and, bI_T, bI_F, Int.reduceToNat, Nat.reduceAdd, Nat.reduceMul, Int.reduceNeg, Option.bind_some, Int.toNat_natCast, dS, hc3, zC, ho.1, h3]
      rfl
    · rw [bI_f h3]
      simp (disch := first | omega | (simp (disch := omega) only [uA_n]; done) | fail) only [iI_lit, iI_add, iI_sub, iI_mul, iI_neg, iI_lt, iI_le, iI_eq, zlt_t, zlt_f, zle_t, zle_f, zeq_t, zeq_f, nle_t, nle_f, iI_cl, rA, rS, rB, wA, wS, wB, mkp, mk2, uA_s, uA_n, ud_s, ud_n, bI_0, bI_1, nor_s, ↓reduceIte, or_false, false_or, or_true, true_or, or_self, not_true_eq_false, not_false_eq_true, and_true, true_and, and_false, false_and, bI_T, bI_F, Int.reduceToNat, Nat.reduceAdd, Nat.reduceMul, Int.reduceNeg, Option.bind_some, Int.toNat_natCast, dS, hc3, zC, ho.1]
      rfl
theorem RR.held (R : RR K D A0 B0 A B) {h : Nat} (h1 : 1 ≤ h) (h2 : h < 16) : 0 ≤ A 61 h ∧ A 61 h ≤ 400 := by
  have N := R.gN
  have hc1 := N.nc1
  have hc2 := N.nc2
  rw [N.nhe h h1 h2]
  have c := sm_cnt (A 55 7).toNat (fun e => A 58 e = h)
  omega
theorem ex_coin (R : RR K D A0 B0 A B) (hK : K ≤ 1000000000) (Bx : hI) {h : Int} (h1 : 1 ≤ h) (h2 : h < A 19 11) : f_World_coin F (iI h) (mk A Bx) = some (iI (A 22 h.toNat + 10 * A 61 h.toNat), mk A Bx) := by
  have hn := R.gH.hn2
  have g := R.gle (h := h.toNat) (by omega)
  have hd := R.held (h := h.toNat) (by omega) (by omega)
  simp only [f_World_coin]
  simp (disch := first | omega | (simp (disch := omega) only [uA_n]; done) | fail) only [iI_lit, iI_add, iI_sub, iI_mul, iI_neg, iI_lt, iI_le, iI_eq, zlt_t, zlt_f, zle_t, zle_f, zeq_t, zeq_f, nle_t, nle_f, iI_cl, rA, rS, rB, wA, wS, wB, mkp, mk2, uA_s, uA_n, ud_s, ud_n, bI_0, bI_1, nor_s, ↓reduceIte, or_false, false_or, or_true, true_or, or_self, not_true_eq_false, not_false_eq_true, and_true, true_and, and_false, false_and, bI_T, bI_F, Int.reduceToNat, Nat.reduceAdd, Nat.reduceMul, Int.reduceNeg, Option.bind_some, Int.toNat_natCast]
theorem em_coin (R : RR K D A0 B0 A B) (hF : 1000 ≤ F) (hK : K ≤ 1000000000) (Ax : hI) {h : Int} (h1 : 1 ≤ h) (h2 : h < A 19 11) : f_m_coinOf F (iI h) (mk Ax B) = some (iI (A 22 h.toNat + 10 * A 61 h.toNat), mk Ax B) := by
  have hn := R.gH.hn2
  have g := R.gle (h := h.toNat) (by omega)
  have hg := R.gH.hg h.toNat (by omega)
  have hd := R.held (h := h.toNat) (by omega) (by omega)
  have en := em_notesOf F R hF Ax (h := h.toNat) (by omega) (by omega)
  rw [show ((h.toNat : Nat) : Int) = h by omega] at en
  unfold f_m_coinOf
  simp (disch := first | omega | (simp (disch := omega) only [uA_n]; done) | fail) only [iI_lit, iI_add, iI_sub, iI_mul, iI_neg, iI_lt, iI_le, iI_eq, zlt_t, zlt_f, zle_t, zle_f, zeq_t, zeq_f, nle_t, nle_f, iI_cl, rA, rS, rB, wA, wS, wB, mkp, mk2, uA_s, uA_n, ud_s, ud_n, bI_0, bI_1, nor_s, ↓reduceIte, or_false, false_or, or_true, true_or, or_self, not_true_eq_false, not_false_eq_true, and_true, true_and, and_false, false_and, bI_T, bI_F, Int.reduceToNat, Nat.reduceAdd, Nat.reduceMul, Int.reduceNeg, Option.bind_some, Int.toNat_natCast, em_hs, hg, en]
theorem ex_priceAt (R : RR K D A0 B0 A B) (Bx : hI) {p : Nat} (hp : p < 60) (hk : A 32 p ≠ -1) (hl : A 37 p = 0) (h2 : A 32 p ≠ 2) {r : Int} (hr : 0 ≤ r) (hr2 : r ≤ 30) : f_Papers_priceAt F (iI p) (iI r) (iI (A 16 9)) (mk A Bx) = some (iI (prc (A 33 p) r (A 36 p - A 16 9)), mk A Bx) := by
  have hd1 := R.gD.dd1
  have hd2 := R.gD.dd2
  have hD := R.gD.dD1
  have ps := R.gP.ps p hp hk
  have li := R.gP.pli p hp hk hl h2
  have rg := prc_rg (s := A 33 p) (r := r) (d := A 36 p - A 16 9) (by omega) (by omega) hr hr2 (by omega) (by omega)
  unfold prc at rg ⊢
  obtain ⟨r1, r2, r3, r4, r5, r6⟩ := rg
  simp only [f_Papers_priceAt]
  simp (disch := first | omega | (simp (disch := omega) only [uA_n]; done) | fail) only [iI_lit, iI_add, iI_sub, iI_mul, iI_neg, iI_lt, iI_le, iI_eq, zlt_t, zlt_f, zle_t, zle_f, zeq_t, zeq_f, nle_t, nle_f, iI_cl, rA, rS, rB, wA, wS, wB, mkp, mk2, uA_s, uA_n, ud_s, ud_n, bI_0, bI_1, nor_s, ↓reduceIte, or_false, false_or, or_true, true_or, or_self, not_true_eq_false, not_false_eq_true, and_true, true_and, and_false, false_and, bI_T, bI_F, Int.reduceToNat, Nat.reduceAdd, Nat.reduceMul, Int.reduceNeg, Option.bind_some, Int.toNat_natCast, iI_div]
theorem em_priceOf (R : RR K D A0 B0 A B) (Ax : hI) {p : Nat} (hp : p < 60) (hk : A 32 p ≠ -1) (hl : A 37 p = 0) (h2 : A 32 p ≠ 2) {r : Int} (hr : 0 ≤ r) (hr2 : r ≤ 30) : f_m_priceOf F (iI p) (iI r) (mk Ax B) = some (iI (prc (A 33 p) r (A 36 p - A 16 9)), mk Ax B) := by
  have hd1 := R.gD.dd1
  have hd2 := R.gD.dd2
  have hd3 := R.gD.dd3
  have hD := R.gD.dD1
  have ps := R.gP.ps p hp hk
  have pdu := (R.gP.pdu p hp hk).1
  have li := R.gP.pli p hp hk hl h2
  have rg := prc_rg (s := A 33 p) (r := r) (d := A 36 p - A 16 9) (by omega) (by omega) hr hr2 (by omega) (by omega)
  unfold prc at rg ⊢
  obtain ⟨r1, r2, r3, r4, r5, r6⟩ := rg
  simp only [f_m_priceOf]
  simp (disch := first | omega | (simp (disch := omega) only [uA_n]; done) | fail) only [iI_lit, iI_add, iI_sub, iI_mul, iI_neg, iI_lt, iI_le, iI_eq, zlt_t, zlt_f, zle_t, zle_f, zeq_t, zeq_f, nle_t, nle_f, iI_cl, rA, rS, rB, wA, wS, wB, mkp, mk2, uA_s, uA_n, ud_s, ud_n, bI_0, bI_1, nor_s, ↓reduceIte, or_false, false_or, or_true, true_or, or_self, not_true_eq_false, not_false_eq_true, and_true, true_and, and_false, false_and, bI_T, bI_F, Int.reduceToNat, Nat.reduceAdd, Nat.reduceMul, Int.reduceNeg, Option.bind_some, Int.toNat_natCast, em_paper, ps.1, pdu, dS, hd3, iI_div]
/-- the seller signs, and another holds it -/
def soA (A : hI) (p : Nat) (b : Int) : hI := if A 38 (6 * p + (A 39 p).toNat - 1) = A 35 p then uA A 35 p b else uA (uA (uA A 38 (6 * p + (A 39 p).toNat) (A 35 p)) 39 p (A 39 p + 1)) 35 p b
def soB (A B : hI) (p : Nat) (b : Int) : hI := if A 38 (6 * p + (A 39 p).toNat - 1) = A 35 p then uA B 454 p b else uA (uA (uA B (458 + (A 39 p).toNat) p (A 35 p)) 457 p (A 39 p + 1)) 454 p b
theorem soA_o {A : hI} {p : Nat} {b : Int} {c : Nat} (h : c ≠ 35 ∧ c ≠ 38 ∧ c ≠ 39) : soA A p b c = A c := by
  unfold soA
  split <;> simp (disch := omega) only [uA_n]
theorem soA_q {A : hI} {p : Nat} {b : Int} {c q : Nat} (h : c ≠ 38) (hq : q ≠ p) : soA A p b c q = A c q := by
  unfold soA
  split
  · rw [pap_q hq]
  · rw [pap_q hq, pap_q hq, uA_n h]
theorem RR.sold (R : RR K D A0 B0 A B) {p : Nat} (hp : p < 60) (h1 : A 32 p = 1) (hl : A 37 p = 0) (hi : A 40 p = 0) (hc : A 39 p < 6) (hh : 1 ≤ A 35 p) {b : Int} (hb : 0 ≤ b ∧ b < A 19 11) : RR K D A0 B0 (soA A p b) (soB A B p b) := by
  have P := R.gP
  have hk : A 32 p ≠ -1 := by omega
  have hbn := P.pbn p hp h1
  have ph := P.ph p hp hk
  have hn : ∀ q, q < 60 → A 32 q = 3 → A 37 q = 0 → A 41 q ≠ p := fun q hq z1 z2 e => by
    have g := P.ppg q hq z1 z2
    rw [e, Int.toNat_natCast] at g
    omega
  obtain ⟨n, hn1⟩ : ∃ n : Nat, A 39 p = n := ⟨(A 39 p).toNat, by omega⟩
  have z := (P.pz hp).2.resolve_left (fun z => hk z.1)
  have z1 := (P.pz hp).1
  unfold soA soB
  rw [hn1, Int.toNat_natCast]
  by_cases hs : A 38 (6 * p + n - 1) = A 35 p
  · rw [if_pos hs, if_pos hs]
    refine R.pap (fun k hk => uA_n (by omega)) (fun k hk => uA_n (by omega)) ?_
    refine P.loc hp (fun c c1 c2 c3 q hq => pap_q hq) (fun q i hq hi => by rw [uA_n (by omega)]) (fun c _ _ q hq => pap_q hq) (fun q _ => by rw [uA_n (by omega)]) (uA_n (by omega)) (by rw [uA_n (by omega)]) (by rw [uA_n (by omega)]) (by rw [uA_n (by omega), uA_n (by omega)]; omega) (by rw [uA_n (by omega)]; exact Int.le_refl _) (by rw [uA_n (by omega)]; exact P.pe2) ⟨by rw [uA_n (by omega), uA_n (by omega)]; exact z1, Or.inr ⟨?_, ?_, ?_⟩⟩ (fun q hq hqp h3 h4 e => absurd e (hn q hq h3 h4)) (fun y => by rw [uA_n (by omega)] at y; omega)
    · obtain ⟨x1, x2, x3, x4, x5, x6, x7, x8, x9, x10, x11, x12, x13, x14, x15, x16, x17, x18, x19⟩ := z.1
      unfold PU
      simp (disch := omega) only [uA_s, uA_n, ud_s]
      exact ⟨x1, x2, x3, x4, x5, ⟨trivial, hb.1, hb.2⟩, x7, x8, x9, x10, x11, x12, x13, x14, x15, x16, fun y => by omega, fun y => by omega, x19⟩
    · intro _
      obtain ⟨u1, u2, u3⟩ := z.2.1 h1
      simp (disch := omega) only [uA_s, uA_n, ud_s]
      exact ⟨u1, fun i hi => u2 i hi, fun y => by omega⟩
    · intro y
      rw [uA_n (by omega)] at y
      omega
  · rw [if_neg hs, if_neg hs]
    refine R.pap (fun k hk => by simp (disch := omega) only [uA_n]) (fun k hk => by simp (disch := omega) only [uA_n]) ?_
    refine P.loc hp (fun c c1 c2 c3 q hq => by rw [pap_q hq, pap_q hq, uA_n c3]) (fun q i hq hi => by rw [uA_n (by omega), uA_n (by omega), uA_s, ud_n (by omega)]) (fun c _ _ q hq => by rw [pap_q hq, pap_q hq, pap_q hq]) (fun q _ => by rw [uA_n (by omega), uA_n (by omega), uA_n (by omega)]) (by simp (disch := omega) only [uA_n]) (by simp (disch := omega) only [uA_n]) (by simp (disch := omega) only [uA_n]) (by simp (disch := omega) only [uA_n]; omega) (by simp (disch := omega) only [uA_n]; exact Int.le_refl _) (by simp (disch := omega) only [uA_n]; exact P.pe2) ⟨by simp (disch := omega) only [uA_n]; exact z1, Or.inr ⟨?_, ?_, ?_⟩⟩ (fun q hq hqp h3 h4 e => absurd e (hn q hq h3 h4)) (fun y => by simp (disch := omega) only [uA_n] at y; omega)
    · obtain ⟨x1, x2, x3, x4, x5, x6, x7, x8, x9, x10, x11, x12, x13, x14, x15, x16, x17, x18, x19⟩ := z.1
      unfold PU
      simp (disch := omega) only [uA_s, uA_n, ud_s]
      exact ⟨x1, x2, x3, x4, x5, ⟨trivial, hb.1, hb.2⟩, x7, x8, trivial, x10, x11, x12, x13, fun y => absurd h1 y, x15, x16, fun y => by omega, fun y => by omega, x19⟩
    · intro _
      obtain ⟨u1, u2, u3⟩ := z.2.1 h1
      simp (disch := omega) only [uA_s, uA_n, ud_s]
      refine ⟨by omega, fun i hi => ?_, fun y => by omega⟩
      by_cases e : i = n
      · subst e
        rw [uA_s, ud_s, ud_s]
        exact ⟨rfl, hh, ph.2.2⟩
      · rw [uA_n (by omega), ud_n (by omega)]
        exact u2 i (by omega)
    · intro y
      simp (disch := omega) only [uA_n] at y
      omega
theorem ex_sellOn (R : RR K D A0 B0 A B) (Bx : hI) {p : Nat} (hp : p < 60) (h1 : A 32 p = 1) (hc : A 39 p < 6) (b : Int) : f_Papers_sellOn F (iI p) (iI b) (mk A Bx) = some ((), mk (soA A p b) Bx) := by
  have hn2 := R.gH.hn2
  have hbn := R.gP.pbn p hp h1
  have ph := R.gP.ph p hp (by omega)
  have hbi := R.gP.pbi p ((A 39 p).toNat - 1) hp h1 (by omega)
  rw [show 6 * p + ((A 39 p).toNat - 1) = 6 * p + (A 39 p).toNat - 1 by omega] at hbi
  have c1 : ((p : Int) * 6 + A 39 p - 1).toNat = 6 * p + (A 39 p).toNat - 1 := by omega
  have c2 : ((p : Int) * 6 + A 39 p).toNat = 6 * p + (A 39 p).toNat := by omega
  unfold soA
  simp only [f_Papers_sellOn, f_Papers_sellOn_65]
  by_cases hs : A 38 (6 * p + (A 39 p).toNat - 1) = A 35 p
  · rw [if_pos hs]
    simp (disch := first | omega | (simp (disch := omega) only [uA_n]; done) | fail) only [iI_lit, iI_add, iI_sub, iI_mul, iI_neg, iI_lt, iI_le, iI_eq, zlt_t, zlt_f, zle_t, zle_f, zeq_t, zeq_f, nle_t, nle_f, iI_cl, rA, rS, rB, wA, wS, wB, mkp, mk2, uA_s, uA_n, ud_s, ud_n, bI_0, bI_1, nor_s, ↓reduceIte, or_false, false_or, or_true, true_or, or_self, not_true_eq_false, not_false_eq_true, and_true, true_and, and_false, false_and, bI_T, bI_F, Int.reduceToNat, Nat.reduceAdd, Nat.reduceMul, Int.reduceNeg, Option.bind_some, Int.toNat_natCast, c1, hs]
  · rw [if_neg hs]
    simp (disch := first | omega | (simp (disch := omega) only [uA_n]; done) | fail) only [iI_lit, iI_add, iI_sub, iI_mul, iI_neg, iI_lt, iI_le, iI_eq, zlt_t, zlt_f, zle_t, zle_f, zeq_t, zeq_f, nle_t, nle_f, iI_cl, rA, rS, rB, wA, wS, wB, mkp, mk2, uA_s, uA_n, ud_s, ud_n, bI_0, bI_1, nor_s, ↓reduceIte, or_false, false_or, or_true, true_or, or_self, not_true_eq_false, not_false_eq_true, and_true, true_and, and_false, false_and, bI_T, bI_F, Int.reduceToNat, Nat.reduceAdd, Nat.reduceMul, Int.reduceNeg, Option.bind_some, Int.toNat_natCast, c1, c2]
theorem RR.refd (R : RR K D A0 B0 A B) : RR K D A0 B0 (uA A 16 12 (A 16 12 + 1)) (uA B 400 8 (B 400 8 + 1)) := by
  have hA : ∀ k : Nat, k ≠ 16 → uA A 16 12 (A 16 12 + 1) k = A k := fun k hk => uA_n hk
  have hB : ∀ k : Nat, k ≠ 400 → uA B 400 8 (B 400 8 + 1) k = B k := fun k hk => uA_n hk
  have h4 : ∀ j : Nat, j ≠ 8 → uA B 400 8 (B 400 8 + 1) 400 j = B 400 j := fun j hj => by rw [uA_s, ud_n hj]
  refine ⟨⟨(by apply R.gL.c <;> first | rfl | exact hA _ (by omega) | exact congrFun (hA _ (by omega)) _ | exact hB _ (by omega) | exact h4 _ (by omega) | (intro k hk1 hk2; exact hB k (by omega)) | (simp (disch := omega) only [uA_s, uA_n, ud_n]; done)), (by apply R.gH.c <;> first | rfl | exact hA _ (by omega) | exact congrFun (hA _ (by omega)) _ | exact hB _ (by omega) | exact h4 _ (by omega) | (intro k hk1 hk2; exact hB k (by omega)) | (simp (disch := omega) only [uA_s, uA_n, ud_n]; done)), (by apply R.gN.c <;> first | rfl | exact hA _ (by omega) | exact congrFun (hA _ (by omega)) _ | exact hB _ (by omega) | exact h4 _ (by omega) | (intro k hk1 hk2; exact hB k (by omega)) | (simp (disch := omega) only [uA_s, uA_n, ud_n]; done)), (by apply R.gP.c <;> first | rfl | exact hA _ (by omega) | exact congrFun (hA _ (by omega)) _ | exact hB _ (by omega) | exact h4 _ (by omega) | (intro k hk1 hk2; exact hB k (by omega)) | (simp (disch := omega) only [uA_s, uA_n, ud_n]; done)), (by apply R.gT.c <;> first | rfl | exact hA _ (by omega) | exact congrFun (hA _ (by omega)) _ | exact hB _ (by omega) | exact h4 _ (by omega) | (intro k hk1 hk2; exact hB k (by omega)) | (simp (disch := omega) only [uA_s, uA_n, ud_n]; done)), (by apply R.gS.c <;> first | rfl | exact hA _ (by omega) | exact congrFun (hA _ (by omega)) _ | exact hB _ (by omega) | exact h4 _ (by omega) | (intro k hk1 hk2; exact hB k (by omega)) | (simp (disch := omega) only [uA_s, uA_n, ud_n]; done)), ?_, (by apply R.gW.c <;> first | rfl | exact hA _ (by omega) | exact congrFun (hA _ (by omega)) _ | exact hB _ (by omega) | exact h4 _ (by omega) | (intro k hk1 hk2; exact hB k (by omega)) | (simp (disch := omega) only [uA_s, uA_n, ud_n]; done)), (by apply R.gX.c <;> first | rfl | exact hA _ (by omega) | exact congrFun (hA _ (by omega)) _ | exact hB _ (by omega) | exact h4 _ (by omega) | (intro k hk1 hk2; exact hB k (by omega)) | (simp (disch := omega) only [uA_s, uA_n, ud_n]; done)), (by apply R.gG.c <;> first | rfl | exact hA _ (by omega) | exact congrFun (hA _ (by omega)) _ | exact hB _ (by omega) | exact h4 _ (by omega) | (intro k hk1 hk2; exact hB k (by omega)) | (simp (disch := omega) only [uA_s, uA_n, ud_n]; done)), (by apply R.gI.c <;> first | rfl | exact hA _ (by omega) | exact congrFun (hA _ (by omega)) _ | exact hB _ (by omega) | exact h4 _ (by omega) | (intro k hk1 hk2; exact hB k (by omega)) | (simp (disch := omega) only [uA_s, uA_n, ud_n]; done))⟩, R.sx.tr ?_, R.sb.tr (SB.st (fun k hk => hB k (by omega)))⟩
  · obtain ⟨x1, x2, x3, x4, x5, x6, x7, x8, x9, x10, x11, x12, x13, x14, x15⟩ := R.gD
    unfold WD
    simp (disch := omega) only [uA_s, ud_n, ud_s]
    exact ⟨x1, x2, x3, x4, x5, x6, x7, x8, x9, x10, x11, by omega, x13, x14, x15⟩
  · exact SX.st (fun k hk => hA k (by omega)) (by rw [uA_s, ud_n (by omega)]) (by rw [uA_s, ud_n (by omega)]) (by rw [hA 55 (by omega)]) (by rw [hA 55 (by omega)]) (fun c _ => by rw [hA 59 (by omega)])
end OFFR
