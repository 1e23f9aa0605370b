/-! A TEXT, whole: what its reading gives, and what it works out -/
theorem evs_c {f g : Nat → Int} (h : ∀ i, i < 10 → f i = g i) (cs : List Int) (st : List Int32) : evs f cs st = evs g cs st := by
  induction cs generalizing st with
  | nil => rfl
  | cons c cs ih =>
    show evs f cs (ev1 f c st) = evs g cs (ev1 g c st)
    rw [ih]
    congr 1
    unfold ev1
    by_cases h1 : 0 ≤ c
    · rw [if_pos h1, if_pos h1]
    · rw [if_neg h1, if_neg h1]
      by_cases h2 : -11 < c
      · rw [if_pos h2, if_pos h2, h _ (by omega)]
      · rw [if_neg h2, if_neg h2]
def s00 : PS := (0, 0, 0, 0, -1, [])
theorem s00_PI (L : Nat) : PI L s00 := ⟨Nat.le_refl _, Nat.zero_le _, Or.inl rfl, Or.inl rfl, Nat.le_refl _, Or.inl rfl, fun c hc => by cases hc⟩
theorem p0_PI (b : Nat → Int) (L : Nat) : PI L (p0 b L) ∧ (p0 b L).2.2.2.2.1 = -1 ∧ (p0 b L).2.2.2.2.2 = [] := ⟨(pnx_PI (b := b) (s00_PI L) rfl).1, rfl, rfl⟩
theorem pE1_PI (b : Nat → Int) (L : Nat) : PI L (pE1 b L) := ((lv_RD b L 6).2.2 _ (pnx_PI (b := b) (p0_PI b L).1 (p0_PI b L).2.1).1).1
theorem pE2_PI (b : Nat → Int) (L : Nat) : PI L (pE2 b L) := by
  have h1 := pE1_PI b L
  unfold pE2
  by_cases h : (pE1 b L).1 = 5
  · rw [if_pos h]
    have hf : (pE1 b L).2.2.2.2.1 = -1 := by have := h1.2.2.1; omega
    exact ((lv_RD b L 6).2.2 _ (pnx_PI (b := b) h1 hf).1).1
  · rw [if_neg h]; exact h1
theorem tx_ok {b : Nat → Int} {L : Nat} (h0 : (p0 b L).1 = 3) (hT : (pT b L).2.2.2.2.1 = -1) : pT b L = pE2 b L ∧ (pE1 b L).2.2.2.2.1 = -1 ∧ (pE2 b L).2.2.2.2.1 = -1 ∧ (pE2 b L).1 = 0 ∧ dp (pE1 b L).2.2.2.2.2 0 = some 1 ∧ ((pE1 b L).1 = 5 → ∃ n2, (pE2 b L).2.2.2.2.2 = (pE1 b L).2.2.2.2.2 ++ n2 ∧ dp n2 0 = some 1 ∧ n2 ≠ []) ∧ ((pE1 b L).1 ≠ 5 → pE2 b L = pE1 b L) := by
  have q1 := pE1_PI b L
  have q2 := pE2_PI b L
  have e : pT b L = (if (pE2 b L).1 = 0 then pE2 b L else pst (pE2 b L)) := if_pos h0
  have hz : (pE2 b L).1 = 0 := by
    by_cases h : (pE2 b L).1 = 0
    · exact h
    · rw [e, if_neg h] at hT
      exact absurd hT (pst_PI q2).2.2
  rw [if_pos hz] at e
  rw [e] at hT
  have x1 : (pE1 b L).1 ≠ 5 → pE2 b L = pE1 b L := fun h => if_neg h
  have hp := p0_PI b L
  have hn := (pnx_PI (b := b) hp.1 hp.2.1).1
  have f1 : (pE1 b L).2.2.2.2.1 = -1 := by
    by_cases h : (pE1 b L).1 = 5
    · have := q1.2.2.1; omega
    · rw [← x1 h]; exact hT
  refine ⟨e, f1, hT, hz, ?_, fun h => ?_, x1⟩
  · obtain ⟨nw, u1, u2⟩ := (lv_cd b L 6).2.2 _ hn
    have e1 : (pE1 b L).2.2.2.2.2 = nw := by
      show ((pLv (pnx b L) 6).2.2 (pnx b L (p0 b L))).2.2.2.2.2 = _
      rw [u1]
      show (p0 b L).2.2.2.2.2 ++ nw = nw
      rw [hp.2.2, List.nil_append]
    rw [e1]
    exact u2 f1 0
  · obtain ⟨nw, u1, u2⟩ := (lv_cd b L 6).2.2 _ (pnx_PI (b := b) q1 f1).1
    have e2 : pE2 b L = (pLv (pnx b L) 6).2.2 (pnx b L (pE1 b L)) := if_pos h
    have d0 := u2 (by rw [← e2]; exact hT) 0
    refine ⟨nw, by rw [e2, u1]; rfl, d0, fun z => ?_⟩
    rw [z] at d0
    exact absurd (Option.some.inj d0) (by decide)
def hd32 (l : List Int32) : Int32 := l.headD 0
/-- what the meaning works out, what the condition does -/
def tv1 (fc : Nat → Int) (b : Nat → Int) (L : Nat) : Int32 := hd32 (evs fc (pE1 b L).2.2.2.2.2 [])
def tv2 (fc : Nat → Int) (b : Nat → Int) (L : Nat) : Int32 := hd32 (evs fc ((pE2 b L).2.2.2.2.2.drop (pE1 b L).2.2.2.2.2.length) [])
abbrev thd (fc : Nat → Int) (b : Nat → Int) (L : Nat) : Prop := (pE1 b L).1 ≠ 5 ∨ tv2 fc b L ≠ 0
theorem tv1_c {f g : Nat → Int} (h : ∀ i, i < 10 → f i = g i) (b : Nat → Int) (L : Nat) : tv1 f b L = tv1 g b L := by unfold tv1; rw [evs_c h]
theorem tv2_c {f g : Nat → Int} (h : ∀ i, i < 10 → f i = g i) (b : Nat → Int) (L : Nat) : tv2 f b L = tv2 g b L := by unfold tv2; rw [evs_c h]
section TEXT
variable {A : hI} (F : Nat) (Bx : hI) {b : Nat → Int} {L : Nat} {key ms sz : Int}
theorem ex_work1 (hF : 1000 ≤ F) (hL : L ≤ 120) {x : Nat} (hx : x < 12) (ok : pOK b L key (A 12 x) (A 13 x) (fun i => A 14 (120 * x + i))) : ∃ A' : hI, f_Texts_work_8_54 F (iI x) 0 (mk A Bx) = some (tv1 (fun j => A 54 j) b L, mk A' Bx) ∧ ∀ j : Nat, j ≠ 15 → A' j = A j := by
  obtain ⟨k1, k2, k3, k4, k5, k6⟩ := ok
  obtain ⟨t1, t2, t3, t4, t5, t6, t7⟩ := tx_ok k1 k2
  have q2 := pE2_PI b L
  rw [t1] at k5 k6
  have hlen : (pE1 b L).2.2.2.2.2.length ≤ (pE2 b L).2.2.2.2.2.length ∧ ∀ i, i < (pE1 b L).2.2.2.2.2.length → (pE2 b L).2.2.2.2.2.getD i 0 = (pE1 b L).2.2.2.2.2.getD i 0 := by
    by_cases h : (pE1 b L).1 = 5
    · obtain ⟨n2, u, -⟩ := t6 h
      rw [u, List.length_append]
      refine ⟨by omega, fun i hi => ?_⟩
      simp only [List.getD_eq_getElem?_getD, List.getElem?_append_left hi]
    · rw [t7 h]; exact ⟨Nat.le_refl _, fun _ _ => rfl⟩
  have h120 : (pE2 b L).2.2.2.2.2.length ≤ 120 := by have := q2.2.2.2.2.1; have := q2.1; have := q2.2.1; omega
  obtain ⟨A', x1, x2, x3⟩ := wk_loop F Bx (pE1 b L).2.2.2.2.2 A 0 (120 * x) F (120 * x + (pE1 b L).2.2.2.2.2.length) 1 t5 (pE1_PI b L).2.2.2.2.2.2 (fun i hi => by
    have := k6 i (by omega)
    simp only at this
    rw [this, hlen.2 i hi]
    simp only [List.getD_eq_getElem?_getD, List.getElem?_eq_getElem hi, Option.getD_some]) rfl (by omega) (by omega) (by omega)
  refine ⟨A', ?_, x3⟩
  have e : tv1 (fun j => A 54 j) b L = iI (A' 15 0) := by
    unfold tv1
    have : evs (fun j => A 54 j) (pE1 b L).2.2.2.2.2 [] = [iI (A' 15 0)] := x2.symm
    rw [this]; rfl
  rw [e]
  have c1 : (120 : Int) * (x : Int) = ((120 * x : Nat) : Int) := by omega
  have c2 : (x : Int) * 120 = ((120 * x : Nat) : Int) := by omega
  have c3 : ((120 * x : Nat) : Int) + ((pE1 b L).2.2.2.2.2.length : Int) = ((120 * x + (pE1 b L).2.2.2.2.2.length : Nat) : Int) := by omega
  have c4 : ((120 * x : Nat) : Int) + 0 = ((120 * x : Nat) : Int) := by omega
  simp only [f_Texts_work_8_54, f_Texts_work_8_54_18, f_Texts_work_8_54_44]
  simp (disch := first | omega | (simp (disch := omega) only [uA_n]; done) | fail) only [iI_lit, iI_add, iI_sub, iI_mul, iI_neg, iI_lt, iI_le, iI_eq, zlt_t, zlt_f, zle_t, zle_f, zeq_t, zeq_f, nle_t, nle_f, iI_cl, rA, rS, rB, wA, wS, wB, mkp, mk2, uA_s, uA_n, ud_s, ud_n, bI_0, bI_1, nor_s, ↓reduceIte, or_false, false_or, or_true, true_or, or_self, not_true_eq_false, not_false_eq_true, and_true, true_and, and_false, false_and, bI_T, bI_F, Int.reduceToNat, Nat.reduceAdd, Nat.reduceMul, Int.reduceNeg, Option.bind_some, Int.toNat_natCast, k4, c2, c3, c4]
  exact x1
theorem ex_work2 (hF : 1000 ≤ F) (hL : L ≤ 120) {x : Nat} (hx : x < 12) (ok : pOK b L key (A 12 x) (A 13 x) (fun i => A 14 (120 * x + i))) (h5 : (pE1 b L).1 = 5) : ∃ A' : hI, f_Texts_work_8_54 F (iI x) 1 (mk A Bx) = some (tv2 (fun j => A 54 j) b L, mk A' Bx) ∧ ∀ j : Nat, j ≠ 15 → A' j = A j := by
  obtain ⟨k1, k2, k3, k4, k5, k6⟩ := ok
  obtain ⟨t1, t2, t3, t4, t5, t6, t7⟩ := tx_ok k1 k2
  have q2 := pE2_PI b L
  rw [t1] at k5 k6
  obtain ⟨n2, u, d2, -⟩ := t6 h5
  have h120 : (pE2 b L).2.2.2.2.2.length ≤ 120 := by have := q2.2.2.2.2.1; have := q2.1; have := q2.2.1; omega
  have hr := q2.2.2.2.2.2.2
  rw [u] at k5 k6 h120 hr
  rw [List.length_append] at k5 k6 h120
  obtain ⟨A', x1, x2, x3⟩ := wk_loop F Bx n2 A 0 (120 * x + (pE1 b L).2.2.2.2.2.length) F (120 * x + (pE1 b L).2.2.2.2.2.length + n2.length) 1 d2 (fun c hc => hr c (List.mem_append_right _ hc)) (fun i hi => by
    have := k6 ((pE1 b L).2.2.2.2.2.length + i) (by omega)
    simp only at this
    rw [show 120 * x + (pE1 b L).2.2.2.2.2.length + i = 120 * x + ((pE1 b L).2.2.2.2.2.length + i) by omega, this]
    simp only [List.getD_eq_getElem?_getD]
    rw [List.getElem?_append_right (by omega), show (pE1 b L).2.2.2.2.2.length + i - (pE1 b L).2.2.2.2.2.length = i by omega, List.getElem?_eq_getElem hi, Option.getD_some]) rfl (by omega) (by omega) (by omega)
  refine ⟨A', ?_, x3⟩
  have e : tv2 (fun j => A 54 j) b L = iI (A' 15 0) := by
    unfold tv2
    rw [u, List.drop_left]
    have : evs (fun j => A 54 j) n2 [] = [iI (A' 15 0)] := x2.symm
    rw [this]; rfl
  rw [e]
  have c2 : (x : Int) * 120 = ((120 * x : Nat) : Int) := by omega
  have c3 : ((120 * x : Nat) : Int) + ((pE1 b L).2.2.2.2.2.length : Int) = ((120 * x + (pE1 b L).2.2.2.2.2.length : Nat) : Int) := by omega
  have c4 : ((120 * x : Nat) : Int) + (((pE1 b L).2.2.2.2.2.length + n2.length : Nat) : Int) = ((120 * x + (pE1 b L).2.2.2.2.2.length + n2.length : Nat) : Int) := by omega
  simp only [f_Texts_work_8_54, f_Texts_work_8_54_18, f_Texts_work_8_54_44]
  simp (disch := first | omega | (simp (disch := omega) only [uA_n]; done) | fail) only [iI_lit, iI_add, iI_sub, iI_mul, iI_neg, iI_lt, iI_le, iI_eq, zlt_t, zlt_f, zle_t, zle_f, zeq_t, zeq_f, nle_t, nle_f, iI_cl, rA, rS, rB, wA, wS, wB, mkp, mk2, uA_s, uA_n, ud_s, ud_n, bI_0, bI_1, nor_s, ↓reduceIte, or_false, false_or, or_true, true_or, or_self, not_true_eq_false, not_false_eq_true, and_true, true_and, and_false, false_and, bI_T, bI_F, Int.reduceToNat, Nat.reduceAdd, Nat.reduceMul, Int.reduceNeg, Option.bind_some, Int.toNat_natCast, k4, k5, c2, c3, c4]
  exact x1
end TEXT
