/-! THE REFERENCE COLLECTS -/
def sc3 (B B1 : hI) : Prop := (∀ k : Nat, k ≠ 304 ∧ k ≠ 307 ∧ k ≠ 308 → B1 k = B k) ∧ ∀ j : Nat, j ≠ 5 → B1 304 j = B 304 j
theorem sc3.rf (B : hI) : sc3 B B := ⟨fun _ _ => rfl, fun _ _ => rfl⟩
theorem sc3.tr {a b c : hI} (h : sc3 a b) (g : sc3 b c) : sc3 a c := ⟨fun k hk => (g.1 k hk).trans (h.1 k hk), fun j hj => (g.2 j hj).trans (h.2 j hj)⟩
abbrev keep (A : hI) (l : List Nat) (j : Nat) : Prop := A 56 (A 2 (l.getD j 0)).toNat = 1 ∧ (j = 0 ∨ A 2 (l.getD (j - 1) 0) ≠ A 2 (l.getD j 0))
def gdN (A : hI) (l : List Nat) : Int := sm l.length (fun j => bI (keep A l j))
section COLL
variable {K D : Int} {A0 B0 A B A' B' : hI}
theorem RR.x3 (R : RR K D A0 B0 A B) (s : sc3 B B') : RR K D A0 B0 A B' := R.xB (fun k _ _ _ _ _ _ _ => s.1 k ⟨by assumption, by assumption, by assumption⟩) (s.2 9 (by omega)) (s.2 24 (by omega)) (s.2 29 (by omega)) (s.2 30 (by omega))
theorem lx_dec (f : Nat → Int) (a b : Nat) : lx f a b ∨ ¬ lx f a b := by unfold lx; omega
theorem em_collect_in (R : RR K D A0 B0 A B) (F : Nat) (hF : 1000 ≤ F) (Ax B1 : hI) (s : sc3 B B1) (k7 : Int32 → Int32 → mM → Option (Int32 × mM)) (h : Int) (c n : Nat) (hc : (c : Int) < A 55 7) (hh : A 58 c = h) (hn : B1 304 5 = n) (H : cOK A h c (B1 307) n) : ∃ B2 : hI, f_m_collect_49 F k7 F (iI h) (iI c) (iI n) (mk Ax B1) = k7 (iI h) (iI ((c + 1 : Nat) : Int)) (mk Ax B2) ∧ sc3 B B2 ∧ B2 304 5 = ((n + 1 : Nat) : Int) ∧ cOK A h (c + 1) (B2 307) (n + 1) := by
  have hC := R.gN.nc2
  obtain ⟨h1, h2, h3, h4⟩ := H
  have hnc : n ≤ c := by have := (sm_cnt c (fun e => A 58 e = h)).2; omega
  have dlx : ∀ a b : Nat, Decidable (lx (A 2) a b) := fun a b => by unfold lx; infer_instance
  refine loopF (f := fun q (s : Int32 × mM) => f_m_collect_49 F k7 q (iI h) (iI c) s.1 s.2) (s := (iI n, mk Ax B1)) (fun t s => t ≤ n ∧ (∃ Bt : hI, s = (iI ((n - t : Nat) : Int), mk Ax Bt) ∧ sc3 B Bt ∧ Bt 304 5 = n ∧ ∀ j, Bt 307 j = if n - t < j ∧ j ≤ n then B1 307 (j - 1) else B1 307 j) ∧ ∀ a, n - t ≤ a → a < n → lx (A 2) c (B1 307 a).toNat) (fun r => ∃ B2 : hI, r = k7 (iI h) (iI ((c + 1 : Nat) : Int)) (mk Ax B2) ∧ sc3 B B2 ∧ B2 304 5 = ((n + 1 : Nat) : Int) ∧ cOK A h (c + 1) (B2 307) (n + 1)) n ⟨Nat.zero_le _, ⟨B1, rfl, s, hn, fun j => by rw [if_neg (by omega)]⟩, fun a ha1 ha2 => by omega⟩ ?_ (by omega)
  rintro q t s ht ⟨-, ⟨Bt, rfl, sB, n5, g7⟩, hbh⟩
  -- the end: c stands at place n - t
  have fin : (n - t = 0 ∨ ¬ lx (A 2) c (B1 307 (n - t - 1)).toNat) → ∃ B2 : hI, f_m_collect_89 F k7 (iI h) (iI c) (iI ((n - t : Nat) : Int)) (mk Ax Bt) = k7 (iI h) (iI ((c + 1 : Nat) : Int)) (mk Ax B2) ∧ sc3 B B2 ∧ B2 304 5 = ((n + 1 : Nat) : Int) ∧ cOK A h (c + 1) (B2 307) (n + 1) := by
    intro hend
    refine ⟨uA (uA Bt 307 (n - t) c) 304 5 (n + 1), ?_, ⟨fun k hk => ?_, fun j hj => ?_⟩, ?_, ?_⟩
    · simp only [f_m_collect_89, f_m_collect_106]
      simp (disch := first | omega | (simp (disch := omega) only [uA_n]; done) | fail) only [iI_lit, iI_add, iI_sub, iI_mul, iI_neg, iI_lt, iI_le, iI_eq, zlt_t, zlt_f, zle_t, zle_f, zeq_t, zeq_f, nle_t, nle_f, iI_cl, rA, rS, rB, wA, wS, wB, mkp, mk2, uA_s, uA_n, ud_s, ud_n, bI_0, bI_1, nor_s, reduceIte, or_false, false_or, or_true, true_or, or_self, not_true_eq_false, not_false_eq_true, and_true, true_and, and_false, false_and, bI_T, bI_F, Int.reduceToNat, Nat.reduceAdd, Nat.reduceMul, Int.reduceNeg, Option.bind_some, Int.toNat_natCast, n5]
      rfl
    · rw [uA_n hk.1, uA_n hk.2.1]; exact sB.1 k hk
    · rw [uA_s, ud_n hj, uA_n (by omega)]; exact sB.2 j hj
    · rw [uA_s, ud_s]; rfl
    · rw [uA_n (by omega), uA_s]
      have val : ∀ j, j ≤ n → ud (Bt 307) (n - t) c j = if j < n - t then B1 307 j else if j = n - t then (c : Int) else B1 307 (j - 1) := by
        intro j hj
        by_cases e : j = n - t
        · subst e; rw [ud_s, if_neg (by omega), if_pos rfl]
        · rw [ud_n e, g7 j]
          by_cases e2 : j < n - t
          · rw [if_neg (by omega), if_pos e2]
          · rw [if_pos (by omega), if_neg e2, if_neg e]
      have low : ∀ a, a < n - t → lx (A 2) (B1 307 a).toNat c := by
        intro a ha
        rcases hend with he | he
        · omega
        · have hne : (B1 307 (n - t - 1)).toNat ≠ c := by have := h2 (n - t - 1) (by omega); omega
          have hl : lx (A 2) (B1 307 (n - t - 1)).toNat c := by
            rcases lx_tot (A 2) hne with z | z
            · exact z
            · exact absurd z he
          by_cases e : a = n - t - 1
          · subst e; exact hl
          · exact lx_tr _ (h1 a (n - t - 1) (by omega) (by omega)) hl
      refine ⟨fun a b hab hb => ?_, fun a ha => ?_, fun e he hee => ?_, ?_⟩
      · rw [val a (by omega), val b (by omega)]
        by_cases b1 : b < n - t
        · rw [if_pos b1, if_pos (by omega)]; exact h1 a b hab (by omega)
        · rw [if_neg b1]
          by_cases b2 : b = n - t
          · rw [if_pos b2, if_pos (by omega)]; exact low a (by omega)
          · rw [if_neg b2]
            by_cases a1 : a < n - t
            · rw [if_pos a1]; exact h1 a (b - 1) (by omega) (by omega)
            · rw [if_neg a1]
              by_cases a2 : a = n - t
              · rw [if_pos a2]; exact hbh (b - 1) (by omega) (by omega)
              · rw [if_neg a2]; exact h1 (a - 1) (b - 1) (by omega) (by omega)
      · rw [val a (by omega)]
        by_cases a1 : a < n - t
        · rw [if_pos a1]; have := h2 a (by omega); exact ⟨this.1, by omega, this.2.2⟩
        · rw [if_neg a1]
          by_cases a2 : a = n - t
          · rw [if_pos a2]; exact ⟨by omega, by omega, hh⟩
          · rw [if_neg a2]; have := h2 (a - 1) (by omega); exact ⟨this.1, by omega, this.2.2⟩
      · by_cases e1 : e = c
        · exact ⟨n - t, by omega, by rw [val _ (by omega), if_neg (by omega), if_pos rfl, e1]⟩
        · obtain ⟨a, ha, hg⟩ := h3 e (by omega) hee
          by_cases a1 : a < n - t
          · exact ⟨a, by omega, by rw [val _ (by omega), if_pos a1, hg]⟩
          · exact ⟨a + 1, by omega, by rw [val _ (by omega), if_neg (by omega), if_neg (by omega), Nat.add_sub_cancel, hg]⟩
      · simp only [sm]; rw [bI_t hh, ← h4]; rfl
  show (∃ B2 : hI, f_m_collect_49 F k7 (q + 1) (iI h) (iI c) (iI ((n - t : Nat) : Int)) (mk Ax Bt) = _ ∧ _) ∨ _
  by_cases h0 : n - t = 0
  · refine Or.inl ?_
    obtain ⟨B2, e, r⟩ := fin (Or.inl h0)
    refine ⟨B2, ?_, r⟩
    rw [← e, f_m_collect_49]
    simp (disch := first | omega | (simp (disch := omega) only [uA_n]; done) | fail) only [iI_lit, iI_add, iI_sub, iI_mul, iI_neg, iI_lt, iI_le, iI_eq, zlt_t, zlt_f, zle_t, zle_f, zeq_t, zeq_f, nle_t, nle_f, iI_cl, rA, rS, rB, wA, wS, wB, mkp, mk2, uA_s, uA_n, ud_s, ud_n, bI_0, bI_1, nor_s, reduceIte, or_false, false_or, or_true, true_or, or_self, not_true_eq_false, not_false_eq_true, and_true, true_and, and_false, false_and, bI_T, bI_F, Int.reduceToNat, Nat.reduceAdd, Nat.reduceMul, Int.reduceNeg, Option.bind_some, Int.toNat_natCast]
  · have hb := h2 (n - t - 1) (by omega)
    have g1 : Bt 307 (((n - t : Nat) : Int) - 1).toNat = B1 307 (n - t - 1) := by rw [show (((n - t : Nat) : Int) - 1).toNat = n - t - 1 by omega, g7, if_neg (by omega)]
    have eb := em_isBehind R F Ax Bt sB.1 (B1 307 (n - t - 1)) c hb.1 (by omega) (by omega) hc
    rw [Int.toNat_natCast] at eb
    rcases lx_dec (A 2) c (B1 307 (n - t - 1)).toNat with hl | hl
    · refine Or.inr ⟨by omega, (iI ((n - (t + 1) : Nat) : Int), mk Ax (uA Bt 307 (n - t) (B1 307 (n - t - 1)))), ?_, by omega, ⟨_, rfl, ⟨fun k hk => ?_, fun j hj => ?_⟩, ?_, fun j => ?_⟩, fun a ha1 ha2 => ?_⟩
      · show f_m_collect_49 F k7 (q + 1) (iI h) (iI c) (iI ((n - t : Nat) : Int)) (mk Ax Bt) = f_m_collect_49 F k7 q (iI h) (iI c) _ _
        rw [f_m_collect_49]
        simp (disch := first | omega | (simp (disch := omega) only [uA_n]; done) | fail) only [iI_lit, iI_add, iI_sub, iI_mul, iI_neg, iI_lt, iI_le, iI_eq, zlt_t, zlt_f, zle_t, zle_f, zeq_t, zeq_f, nle_t, nle_f, iI_cl, rA, rS, rB, wA, wS, wB, mkp, mk2, uA_s, uA_n, ud_s, ud_n, bI_0, bI_1, nor_s, reduceIte, or_false, false_or, or_true, true_or, or_self, not_true_eq_false, not_false_eq_true, and_true, true_and, and_false, false_and, bI_T, bI_F, Int.reduceToNat, Nat.reduceAdd, Nat.reduceMul, Int.reduceNeg, Option.bind_some, Int.toNat_natCast, g1, eb, bI_t hl]
        rw [show ((n - t : Nat) : Int) + -1 = ((n - (t + 1) : Nat) : Int) by omega]
      · rw [uA_n hk.2.1]; exact sB.1 k hk
      · rw [uA_n (by omega)]; exact sB.2 j hj
      · rw [uA_n (by omega)]; exact n5
      · rw [uA_s]
        by_cases e : j = n - t
        · subst e; rw [ud_s, if_pos (by omega)]
        · rw [ud_n e, g7]
          by_cases e2 : n - t < j ∧ j ≤ n
          · rw [if_pos e2, if_pos (by omega)]
          · rw [if_neg e2, if_neg (by omega)]
      · by_cases e : a = n - t - 1
        · subst e; exact hl
        · exact hbh a (by omega) ha2
    · refine Or.inl ?_
      obtain ⟨B2, e, r⟩ := fin (Or.inr hl)
      refine ⟨B2, ?_, r⟩
      rw [← e, f_m_collect_49]
      simp (disch := first | omega | (simp (disch := omega) only [uA_n]; done) | fail) only [iI_lit, iI_add, iI_sub, iI_mul, iI_neg, iI_lt, iI_le, iI_eq, zlt_t, zlt_f, zle_t, zle_f, zeq_t, zeq_f, nle_t, nle_f, iI_cl, rA, rS, rB, wA, wS, wB, mkp, mk2, uA_s, uA_n, ud_s, ud_n, bI_0, bI_1, nor_s, reduceIte, or_false, false_or, or_true, true_or, or_self, not_true_eq_false, not_false_eq_true, and_true, true_and, and_false, false_and, bI_T, bI_F, Int.reduceToNat, Nat.reduceAdd, Nat.reduceMul, Int.reduceNeg, Option.bind_some, Int.toNat_natCast, g1, eb, bI_f hl]
theorem em_collect (R : RR K D A0 B0 A B) (F : Nat) (hF : 1000 ≤ F) (Ax : hI) (h : Int) (hh : 1 ≤ h) (hh2 : h < 16) : ∃ B2 : hI, f_m_collect F (iI h) (mk Ax B) = some (iI (gdN A (hL A h)), mk Ax B2) ∧ sc3 B B2 ∧ B2 304 5 = (hL A h).length ∧ (∀ j : Nat, j < (hL A h).length → B2 307 j = (hL A h).getD j 0 ∧ B2 308 j = bI (keep A (hL A h) j)) := by
  have N := R.gN
  have hC := N.nc2
  have hC0 := N.nc1
  unfold f_m_collect
  rw [show (0 : Int32) = iI 0 from rfl]
  simp (disch := first | omega | (simp (disch := omega) only [uA_n]; done) | fail) only [iI_lit, iI_add, iI_sub, iI_mul, iI_neg, iI_lt, iI_le, iI_eq, zlt_t, zlt_f, zle_t, zle_f, zeq_t, zeq_f, nle_t, nle_f, iI_cl, rA, rS, rB, wA, wS, wB, mkp, mk2, uA_s, uA_n, ud_s, ud_n, bI_0, bI_1, nor_s, reduceIte, or_false, false_or, or_true, true_or, or_self, not_true_eq_false, not_false_eq_true, and_true, true_and, and_false, false_and, bI_T, bI_F, Int.reduceToNat, Nat.reduceAdd, Nat.reduceMul, Int.reduceNeg, Option.bind_some, Int.toNat_natCast]
  -- the second loop
  have second : ∀ Bc : hI, sc3 B Bc → ∀ n : Nat, Bc 304 5 = n → cOK A h (A 55 7).toNat (Bc 307) n → ∃ B2 : hI, f_m_collect_112 F (mk Ax Bc) = some (iI (gdN A (hL A h)), mk Ax B2) ∧ sc3 B B2 ∧ B2 304 5 = (hL A h).length ∧ (∀ j : Nat, j < (hL A h).length → B2 307 j = (hL A h).getD j 0 ∧ B2 308 j = bI (keep A (hL A h) j)) := by
    intro Bc sB n hn H
    have eL := cOK_end N H
    have hlen : (hL A h).length = n := by rw [← eL, aL_len]
    have hn4 : n ≤ 400 := by have := (sm_cnt (A 55 7).toNat (fun e => A 58 e = h)).2; have := H.2.2.2; omega
    have hget : ∀ j, j < n → (hL A h).getD j 0 = (Bc 307 j).toNat := fun j hj => by rw [← eL, List.getD_eq_getElem?_getD, aL_get hj]; rfl
    have hel : ∀ j, j < n → 0 ≤ Bc 307 j ∧ Bc 307 j < A 55 7 := fun j hj => by have := H.2.1 j hj; omega
    unfold f_m_collect_112
    refine loopF (f := fun q (s : Int32 × Int32 × mM) => f_m_collect_116 F q s.1 s.2.1 s.2.2) (s := (0, 0, mk Ax Bc)) (fun i s => i ≤ n ∧ ∃ B3 : hI, s = (iI (sm i (fun j => bI (keep A (hL A h) j))), iI (i : Int), mk Ax B3) ∧ sc3 B B3 ∧ B3 304 5 = n ∧ B3 307 = Bc 307 ∧ ∀ j, j < i → B3 308 j = bI (keep A (hL A h) j)) (fun r => ∃ B2 : hI, r = some (iI (gdN A (hL A h)), mk Ax B2) ∧ sc3 B B2 ∧ B2 304 5 = (hL A h).length ∧ (∀ j : Nat, j < (hL A h).length → B2 307 j = (hL A h).getD j 0 ∧ B2 308 j = bI (keep A (hL A h) j))) n ⟨Nat.zero_le _, Bc, rfl, sB, hn, rfl, fun j hj => by omega⟩ ?_ (by omega)
    rintro q i s hi ⟨-, B3, rfl, s3, n5, e7, e8⟩
    show (∃ B2 : hI, f_m_collect_116 F (q + 1) (iI (sm i (fun j => bI (keep A (hL A h) j)))) (iI (i : Int)) (mk Ax B3) = _ ∧ _) ∨ _
    by_cases hin : i = n
    · refine Or.inl ⟨B3, ?_, s3, by rw [n5, hlen], fun j hj => ?_⟩
      · rw [f_m_collect_116]
        simp (disch := first | omega | (simp (disch := omega) only [uA_n]; done) | fail) only [iI_lit, iI_add, iI_sub, iI_mul, iI_neg, iI_lt, iI_le, iI_eq, zlt_t, zlt_f, zle_t, zle_f, zeq_t, zeq_f, nle_t, nle_f, iI_cl, rA, rS, rB, wA, wS, wB, mkp, mk2, uA_s, uA_n, ud_s, ud_n, bI_0, bI_1, nor_s, reduceIte, or_false, false_or, or_true, true_or, or_self, not_true_eq_false, not_false_eq_true, and_true, true_and, and_false, false_and, bI_T, bI_F, Int.reduceToNat, Nat.reduceAdd, Nat.reduceMul, Int.reduceNeg, Option.bind_some, Int.toNat_natCast, n5]
        unfold gdN
        rw [hlen, hin]
      · have := hel j (by omega)
        exact ⟨by rw [e7, hget j (by omega)]; omega, e8 j (by omega)⟩
    · have hi1 := hel i (by omega)
      have nu := N.nnu (Bc 307 i).toNat (by omega)
      have nf := N.nf2
      have st := N.nsr (A 2 (Bc 307 i).toNat).toNat (by omega)
      have st2 := N.nst (A 2 (Bc 307 i).toNat).toNat (by omega)
      have c0 := sm_cnt i (fun j => keep A (hL A h) j)
      have fin : ∀ p : Prop, ∀ [Decidable p], (p ↔ keep A (hL A h) i) → i < n ∧ ∃ s', f_m_collect_193 F (f_m_collect_116 F q) (iI (sm i (fun j => bI (keep A (hL A h) j)))) (iI (i : Int)) (iI (i : Int)) (iI (bI p)) (mk Ax B3) = f_m_collect_116 F q s'.1 s'.2.1 s'.2.2 ∧ (i + 1 ≤ n ∧ ∃ B4 : hI, s' = (iI (sm (i + 1) (fun j => bI (keep A (hL A h) j))), iI ((i + 1 : Nat) : Int), mk Ax B4) ∧ sc3 B B4 ∧ B4 304 5 = n ∧ B4 307 = Bc 307 ∧ ∀ j, j < i + 1 → B4 308 j = bI (keep A (hL A h) j)) := by
        intro p _ hp
        refine ⟨by omega, _, ?_, by omega, uA B3 308 i (bI p), rfl, ⟨fun k hk => ?_, fun j hj => ?_⟩, ?_, ?_, fun j hj => ?_⟩
        · have pb := bI_nn p
          simp only [f_m_collect_193, f_m_collect_209]
          by_cases hp0 : p
          · rw [bI_t hp0]
            simp (disch := first | omega | (simp (disch := omega) only [uA_n]; done) | fail) only [iI_lit, iI_add, iI_sub, iI_mul, iI_neg, iI_lt, iI_le, iI_eq, zlt_t, zlt_f, zle_t, zle_f, zeq_t, zeq_f, nle_t, nle_f, iI_cl, rA, rS, rB, wA, wS, wB, mkp, mk2, uA_s, uA_n, ud_s, ud_n, bI_0, bI_1, nor_s, reduceIte, or_false, false_or, or_true, true_or, or_self, not_true_eq_false, not_false_eq_true, and_true, true_and, and_false, false_and, bI_T, bI_F, Int.reduceToNat, Nat.reduceAdd, Nat.reduceMul, Int.reduceNeg, Option.bind_some, Int.toNat_natCast]
            simp only [sm]; rw [bI_t (hp.mp hp0)]; rfl
          · rw [bI_f hp0]
            simp (disch := first | omega | (simp (disch := omega) only [uA_n]; done) | fail) only [iI_lit, iI_add, iI_sub, iI_mul, iI_neg, iI_lt, iI_le, iI_eq, zlt_t, zlt_f, zle_t, zle_f, zeq_t, zeq_f, nle_t, nle_f, iI_cl, rA, rS, rB, wA, wS, wB, mkp, mk2, uA_s, uA_n, ud_s, ud_n, bI_0, bI_1, nor_s, reduceIte, or_false, false_or, or_true, true_or, or_self, not_true_eq_false, not_false_eq_true, and_true, true_and, and_false, false_and, bI_T, bI_F, Int.reduceToNat, Nat.reduceAdd, Nat.reduceMul, Int.reduceNeg, Option.bind_some, Int.toNat_natCast]
            simp only [sm]; rw [bI_f (fun z => hp0 (hp.mpr z))]; rfl
        · rw [uA_n hk.2.2]; exact s3.1 k hk
        · rw [uA_n (by omega)]; exact s3.2 j hj
        · rw [uA_n (by omega)]; exact n5
        · rw [uA_n (by omega)]; exact e7
        · rw [uA_s]
          by_cases e : j = i
          · subst e; rw [ud_s]; exact bI_c hp
          · rw [ud_n e]; exact e8 j (by omega)
      refine Or.inr ?_
      show i < n ∧ ∃ s', f_m_collect_116 F (q + 1) (iI (sm i (fun j => bI (keep A (hL A h) j)))) (iI (i : Int)) (mk Ax B3) = _ ∧ _
      rw [f_m_collect_116]
      by_cases h1 : A 56 (A 2 (Bc 307 i).toNat).toNat = 1
      · by_cases h0 : i = 0
        · have := fin True ⟨fun _ => ⟨by rw [hget i (by omega)]; exact h1, Or.inl h0⟩, fun _ => trivial⟩
          rw [bI_T] at this
          simp only [f_m_collect_188, f_m_collect_192]
          simp (disch := first | omega | (simp (disch := omega) only [uA_n]; done) | fail) only [iI_lit, iI_add, iI_sub, iI_mul, iI_neg, iI_lt, iI_le, iI_eq, zlt_t, zlt_f, zle_t, zle_f, zeq_t, zeq_f, nle_t, nle_f, iI_cl, rA, rS, rB, wA, wS, wB, mkp, mk2, uA_s, uA_n, ud_s, ud_n, bI_0, bI_1, nor_s, reduceIte, or_false, false_or, or_true, true_or, or_self, not_true_eq_false, not_false_eq_true, and_true, true_and, and_false, false_and, bI_T, bI_F, Int.reduceToNat, Nat.reduceAdd, Nat.reduceMul, Int.reduceNeg, Option.bind_some, Int.toNat_natCast, n5, e7, zC0, em_stateOf, s3.1, nu.2.2, st2]
          obtain ⟨w1, s1, w2, -, w3⟩ := this
          exact ⟨w1, s1, w2, w3⟩
        · have hi2 := hel (i - 1) (by omega)
          have nu2 := N.nnu (Bc 307 (i - 1)).toNat (by omega)
          have g1 : (((i : Nat) : Int) - 1).toNat = i - 1 := by omega
          have := fin (A 2 (Bc 307 (i - 1)).toNat ≠ A 2 (Bc 307 i).toNat) ⟨fun z => ⟨by rw [hget i (by omega)]; exact h1, Or.inr (by rw [hget i (by omega), hget (i - 1) (by omega)]; exact z)⟩, fun z => by have := z.2; rw [hget i (by omega), hget (i - 1) (by omega)] at this; rcases this with w | w; exact absurd w h0; exact w⟩
          simp only [f_m_collect_188, f_m_collect_192]
          by_cases h2 : A 2 (Bc 307 (i - 1)).toNat = A 2 (Bc 307 i).toNat
          · rw [bI_f (by omega)] at this
            simp (disch := first | omega | (simp (disch := omega) only [uA_n]; done) | fail) only [iI_lit, iI_add, iI_sub, iI_mul, iI_neg, iI_lt, iI_le, iI_eq, zlt_t, zlt_f, zle_t, zle_f, zeq_t, zeq_f, nle_t, nle_f, iI_cl, rA, rS, rB, wA, wS, wB, mkp, mk2, uA_s, uA_n, ud_s, ud_n, bI_0, bI_1, nor_s, reduceIte, or_false, false_or, or_true, true_or, or_self, not_true_eq_false, not_false_eq_true, and_true, true_and, and_false, false_and, bI_T, bI_F, Int.reduceToNat, Nat.reduceAdd, Nat.reduceMul, Int.reduceNeg, Option.bind_some, Int.toNat_natCast, n5, e7, zC0, em_stateOf, s3.1, nu.2.2, st2, g1, nu2.2.2]
            obtain ⟨w1, s1, w2, -, w3⟩ := this
            exact ⟨w1, s1, w2, w3⟩
          · rw [bI_t h2] at this
            simp (disch := first | omega | (simp (disch := omega) only [uA_n]; done) | fail) only [iI_lit, iI_add, iI_sub, iI_mul, iI_neg, iI_lt, iI_le, iI_eq, zlt_t, zlt_f, zle_t, zle_f, zeq_t, zeq_f, nle_t, nle_f, iI_cl, rA, rS, rB, wA, wS, wB, mkp, mk2, uA_s, uA_n, ud_s, ud_n, bI_0, bI_1, nor_s, reduceIte, or_false, false_or, or_true, true_or, or_self, not_true_eq_false, not_false_eq_true, and_true, true_and, and_false, false_and, bI_T, bI_F, Int.reduceToNat, Nat.reduceAdd, Nat.reduceMul, Int.reduceNeg, Option.bind_some, Int.toNat_natCast, n5, e7, zC0, em_stateOf, s3.1, nu.2.2, st2, g1, nu2.2.2]
            obtain ⟨w1, s1, w2, -, w3⟩ := this
            exact ⟨w1, s1, w2, w3⟩
      · have := fin False ⟨fun z => z.elim, fun z => h1 (by have := z.1; rw [hget i (by omega)] at this; exact this)⟩
        rw [bI_F] at this
        simp only [f_m_collect_188, f_m_collect_192]
        simp (disch := first | omega | (simp (disch := omega) only [uA_n]; done) | fail) only [iI_lit, iI_add, iI_sub, iI_mul, iI_neg, iI_lt, iI_le, iI_eq, zlt_t, zlt_f, zle_t, zle_f, zeq_t, zeq_f, nle_t, nle_f, iI_cl, rA, rS, rB, wA, wS, wB, mkp, mk2, uA_s, uA_n, ud_s, ud_n, bI_0, bI_1, nor_s, reduceIte, or_false, false_or, or_true, true_or, or_self, not_true_eq_false, not_false_eq_true, and_true, true_and, and_false, false_and, bI_T, bI_F, Int.reduceToNat, Nat.reduceAdd, Nat.reduceMul, Int.reduceNeg, Option.bind_some, Int.toNat_natCast, n5, e7, zC0, em_stateOf, s3.1, nu.2.2, st2]
        obtain ⟨w1, s1, w2, -, w3⟩ := this
        exact ⟨w1, s1, w2, w3⟩
  -- the first loop
  refine loopF (f := fun q (s : Int32 × mM) => f_m_collect_7 F q (iI h) s.1 s.2) (s := (iI 0, mk Ax (uA B 304 5 0))) (fun i s => (i : Int) ≤ A 55 7 ∧ ∃ (B3 : hI) (n : Nat), s = (iI (i : Int), mk Ax B3) ∧ sc3 B B3 ∧ B3 304 5 = n ∧ cOK A h i (B3 307) n) (fun r => ∃ B2 : hI, r = some (iI (gdN A (hL A h)), mk Ax B2) ∧ sc3 B B2 ∧ B2 304 5 = (hL A h).length ∧ (∀ j : Nat, j < (hL A h).length → B2 307 j = (hL A h).getD j 0 ∧ B2 308 j = bI (keep A (hL A h) j))) (A 55 7).toNat ⟨by omega, uA B 304 5 0, 0, rfl, ⟨fun k hk => uA_n hk.1, fun j hj => by rw [uA_s, ud_n hj]⟩, by rw [uA_s, ud_s]; rfl, ⟨fun a b _ hb => by omega, fun a ha => by omega, fun c hc => by omega, rfl⟩⟩ ?_ (by omega)
  rintro q i s hi ⟨-, B3, n, rfl, s3, n5, H⟩
  show (∃ B2 : hI, f_m_collect_7 F (q + 1) (iI h) (iI (i : Int)) (mk Ax B3) = _ ∧ _) ∨ _
  by_cases hin : (i : Int) = A 55 7
  · refine Or.inl ?_
    obtain ⟨B2, e, r⟩ := second B3 s3 n n5 (by rw [show (A 55 7).toNat = i by omega]; exact H)
    refine ⟨B2, ?_, r⟩
    rw [← e, f_m_collect_7]
    simp (disch := first | omega | (simp (disch := omega) only [uA_n]; done) | fail) only [iI_lit, iI_add, iI_sub, iI_mul, iI_neg, iI_lt, iI_le, iI_eq, zlt_t, zlt_f, zle_t, zle_f, zeq_t, zeq_f, nle_t, nle_f, iI_cl, rA, rS, rB, wA, wS, wB, mkp, mk2, uA_s, uA_n, ud_s, ud_n, bI_0, bI_1, nor_s, reduceIte, or_false, false_or, or_true, true_or, or_self, not_true_eq_false, not_false_eq_true, and_true, true_and, and_false, false_and, bI_T, bI_F, Int.reduceToNat, Nat.reduceAdd, Nat.reduceMul, Int.reduceNeg, Option.bind_some, Int.toNat_natCast, dS, s3.1, N.nc3]
  · refine Or.inr ⟨by omega, ?_⟩
    have hho := N.nho i (by omega)
    have := R.gH.hn2
    show ∃ s', f_m_collect_7 F (q + 1) (iI h) (iI (i : Int)) (mk Ax B3) = _ ∧ _
    rw [f_m_collect_7]
    by_cases hm : A 58 i = h
    · obtain ⟨B4, e, s4, n4, H4⟩ := em_collect_in R F hF Ax B3 s3 (f_m_collect_7 F q) h i n (by omega) hm n5 H
      refine ⟨(iI ((i + 1 : Nat) : Int), mk Ax B4), ?_, by omega, B4, n + 1, rfl, s4, n4, H4⟩
      simp (disch := first | omega | (simp (disch := omega) only [uA_n]; done) | fail) only [iI_lit, iI_add, iI_sub, iI_mul, iI_neg, iI_lt, iI_le, iI_eq, zlt_t, zlt_f, zle_t, zle_f, zeq_t, zeq_f, nle_t, nle_f, iI_cl, rA, rS, rB, wA, wS, wB, mkp, mk2, uA_s, uA_n, ud_s, ud_n, bI_0, bI_1, nor_s, reduceIte, or_false, false_or, or_true, true_or, or_self, not_true_eq_false, not_false_eq_true, and_true, true_and, and_false, false_and, bI_T, bI_F, Int.reduceToNat, Nat.reduceAdd, Nat.reduceMul, Int.reduceNeg, Option.bind_some, Int.toNat_natCast, dS, s3.1, N.nc3, zC, hho.1, n5, e]
    · refine ⟨(iI ((i + 1 : Nat) : Int), mk Ax B3), ?_, by omega, B3, n, rfl, s3, n5, ⟨H.1, fun a ha => ?_, fun c hc hce => ?_, ?_⟩⟩
      · simp only [f_m_collect_106]
        simp (disch := first | omega | (simp (disch := omega) only [uA_n]; done) | fail) only [iI_lit, iI_add, iI_sub, iI_mul, iI_neg, iI_lt, iI_le, iI_eq, zlt_t, zlt_f, zle_t, zle_f, zeq_t, zeq_f, nle_t, nle_f, iI_cl, rA, rS, rB, wA, wS, wB, mkp, mk2, uA_s, uA_n, ud_s, ud_n, bI_0, bI_1, nor_s, reduceIte, or_false, false_or, or_true, true_or, or_self, not_true_eq_false, not_false_eq_true, and_true, true_and, and_false, false_and, bI_T, bI_F, Int.reduceToNat, Nat.reduceAdd, Nat.reduceMul, Int.reduceNeg, Option.bind_some, Int.toNat_natCast, dS, s3.1, N.nc3, zC, hho.1, n5]
        rfl
      · have := H.2.1 a ha; exact ⟨this.1, by omega, this.2.2⟩
      · have hne : c ≠ i := fun z => by subst z; exact hm hce
        exact H.2.2.1 c (by omega) hce
      · simp only [sm]; rw [bI_f hm, ← H.2.2.2]; omega
end COLL
