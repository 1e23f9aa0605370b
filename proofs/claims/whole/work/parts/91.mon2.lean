/-! the reference's ONE -/
section MON2
variable {K D : Int} {A0 B0 A B B' Bq : hI} {b : Nat → Int} {L : Nat} (F : Nat) (Ax : hI) {o : Int}
theorem em_sg1 {s : PS} (hr : tRel B b L s o) (hfa : s.2.2.2.2.1 = -1) (c : Int) (h0 : 37 ≤ c) (h1 : c ≤ 62) (h : s.1 = c) : f_m_isSign F (iI c) (mk Ax B) = some (iI 1, mk Ax B) := by
  rw [em_sg F Ax hr hfa c h0 h1, bI_t h]
theorem ml_One (R : RR K D A0 B0 A Bq) (hK : K ≤ 1000000000) {bill : Int} (hq : Bq 304 19 = bill) (hbill : bill = -1 ∨ (0 ≤ bill ∧ bill < 60 ∧ A 32 bill.toNat ≠ -1)) (hF : 1000 ≤ F) (hL : L ≤ 120) (hb : ∀ i, i < L → 0 ≤ b i ∧ b i ≤ 255) {g : Nat → mM → Option (Int32 × mM)} (ho : 0 ≤ o) (ho2 : o ≤ 6) {dead : Bool} (hd : dead = true ↔ o = 6) {O X : PS → PS} (hO : dead = false → RD L O) (hX : dead = false → RD L X) (hg : dead = false → Pm Ax Bq b L (fct A bill) (o + 1) (fun m => g 241 m) O) (hg2 : dead = false → Pm Ax Bq b L (fct A bill) (o + 1) (fun m => g 235 m) X) : Pm Ax Bq b L (fct A bill) o (fun m => f_m_one F g m) (pOneF (pnx b L) dead O X) := by
  intro s B hr hm hp
  have tk := hp.2.2.2.2.2.1
  simp only [tkR] at tk
  simp only [f_m_one, f_m_one_161, f_m_one_71, f_m_one_157, f_m_one_123]
  unfold pOneF
  by_cases a1 : s.1 = 2
  · rw [if_pos a1]
    have hfa : s.2.2.2.2.1 = -1 := by have := hp.2.2.1; omega
    obtain ⟨t1, t2, t3⟩ := hr.2.2.2.1 hfa
    have e12 : B 304 12 = 2 := t3.2.2.2.2.1.1 a1
    have e39 : B 399 304 = s.2.1 := t3.2.2.2.2.2.1 a1
    obtain ⟨B1, x1, x2, x3⟩ := em_next F Ax hF hL hb hr hp.2.1 hfa (by omega)
    refine ⟨iI s.2.1, B1, ?_, x2, hm.tr x3, fun z => ⟨[s.2.1], rfl, fun st => ?_⟩⟩
    · simp (disch := first | omega | (simp (disch := omega) only [uA_n]; done) | fail) only [iI_lit, iI_add, iI_sub, iI_mul, iI_neg, iI_lt, iI_le, iI_eq, zlt_t, zlt_f, zle_t, zle_f, zeq_t, zeq_f, nle_t, nle_f, iI_cl, rA, rS, rB, wA, wS, wB, mkp, mk2, uA_s, uA_n, ud_s, ud_n, bI_0, bI_1, nor_s, ↓reduceIte, or_false, false_or, or_true, true_or, or_self, not_true_eq_false, not_false_eq_true, and_true, true_and, and_false, false_and, bI_T, bI_F, Int.reduceToNat, Nat.reduceAdd, Nat.reduceMul, Int.reduceNeg, Option.bind_some, Int.toNat_natCast, ↓bind_of (show f_m_isSign F (45 : Int32) (mk Ax B) = _ from em_sg0 F Ax hr 45 (by omega) (by omega) (by omega)), ↓bind_of (show f_m_isSign F (40 : Int32) (mk Ax B) = _ from em_sg0 F Ax hr 40 (by omega) (by omega) (by omega)), t1, e12, e39, rL, lI_int, ↓bind_of x1]
    · exact if_pos (by omega)
  · rw [if_neg a1]
    by_cases a2 : s.1 = 4
    · rw [if_pos a2]
      have hfa : s.2.2.2.2.1 = -1 := by have := hp.2.2.1; omega
      obtain ⟨t1, t2, t3⟩ := hr.2.2.2.1 hfa
      have e12 : B 304 12 = 1 := t3.2.2.2.2.2.2.2.2.2 (Or.inl (by unfold tkw; rw [if_neg (by omega), if_pos a2]; omega))
      have nm := (em_name F Ax R hF hK hq hbill hr hp hfa hm).1 a2
      obtain ⟨B1, x1, x2, x3⟩ := em_next F Ax hF hL hb hr hp.2.1 hfa (by omega)
      refine ⟨iI (fct A bill s.2.1.toNat), B1, ?_, x2, hm.tr x3, fun z => ⟨[-1 - s.2.1], rfl, fun st => ?_⟩⟩
      · simp (disch := first | omega | (simp (disch := omega) only [uA_n]; done) | fail) only [iI_lit, iI_add, iI_sub, iI_mul, iI_neg, iI_lt, iI_le, iI_eq, zlt_t, zlt_f, zle_t, zle_f, zeq_t, zeq_f, nle_t, nle_f, iI_cl, rA, rS, rB, wA, wS, wB, mkp, mk2, uA_s, uA_n, ud_s, ud_n, bI_0, bI_1, nor_s, ↓reduceIte, or_false, false_or, or_true, true_or, or_self, not_true_eq_false, not_false_eq_true, and_true, true_and, and_false, false_and, bI_T, bI_F, Int.reduceToNat, Nat.reduceAdd, Nat.reduceMul, Int.reduceNeg, Option.bind_some, Int.toNat_natCast, ↓bind_of (show f_m_isSign F (45 : Int32) (mk Ax B) = _ from em_sg0 F Ax hr 45 (by omega) (by omega) (by omega)), ↓bind_of (show f_m_isSign F (40 : Int32) (mk Ax B) = _ from em_sg0 F Ax hr 40 (by omega) (by omega) (by omega)), t1, e12, ↓bind_of nm, ↓bind_of x1]
      · show ev1 (fct A bill) (-1 - s.2.1) st = _
        unfold ev1
        rw [if_neg (by omega), if_pos (by omega), show -1 - (-1 - s.2.1) = s.2.1 by omega]
    · rw [if_neg a2]
      by_cases a3 : (dead || !(decide (s.1 = 45) || decide (s.1 = 40))) = true
      · rw [if_pos a3]
        obtain ⟨Bf, f1, f2, f3⟩ := em_fail F Ax hr hp
        have bad := (pst_PI hp).2.2
        by_cases a4 : s.1 = 45
        · have h6 : o = 6 := hd.mp (by rw [a4] at a3; simpa using a3)
          have hfa : s.2.2.2.2.1 = -1 := by have := hp.2.2.1; omega
          subst h6
          obtain ⟨B1, x1, x2, x3⟩ := em_opens6 F Ax hr hp
          exact ⟨0, B1, by simp (disch := first | omega | (simp (disch := omega) only [uA_n]; done) | fail) only [iI_lit, iI_add, iI_sub, iI_mul, iI_neg, iI_lt, iI_le, iI_eq, zlt_t, zlt_f, zle_t, zle_f, zeq_t, zeq_f, nle_t, nle_f, iI_cl, rA, rS, rB, wA, wS, wB, mkp, mk2, uA_s, uA_n, ud_s, ud_n, bI_0, bI_1, nor_s, ↓reduceIte, or_false, false_or, or_true, true_or, or_self, not_true_eq_false, not_false_eq_true, and_true, true_and, and_false, false_and, bI_T, bI_F, Int.reduceToNat, Nat.reduceAdd, Nat.reduceMul, Int.reduceNeg, Option.bind_some, Int.toNat_natCast, ↓bind_of (show f_m_isSign F (45 : Int32) (mk Ax B) = _ from em_sg1 F Ax hr hfa 45 (by omega) (by omega) a4), ↓bind_of x1], x2, hm.tr x3, fun z => absurd z bad⟩
        · by_cases a5 : s.1 = 40
          · have h6 : o = 6 := hd.mp (by rw [a5] at a3; simpa using a3)
            have hfa : s.2.2.2.2.1 = -1 := by have := hp.2.2.1; omega
            subst h6
            obtain ⟨B1, x1, x2, x3⟩ := em_opens6 F Ax hr hp
            exact ⟨0, B1, by simp (disch := first | omega | (simp (disch := omega) only [uA_n]; done) | fail) only [iI_lit, iI_add, iI_sub, iI_mul, iI_neg, iI_lt, iI_le, iI_eq, zlt_t, zlt_f, zle_t, zle_f, zeq_t, zeq_f, nle_t, nle_f, iI_cl, rA, rS, rB, wA, wS, wB, mkp, mk2, uA_s, uA_n, ud_s, ud_n, bI_0, bI_1, nor_s, ↓reduceIte, or_false, false_or, or_true, true_or, or_self, not_true_eq_false, not_false_eq_true, and_true, true_and, and_false, false_and, bI_T, bI_F, Int.reduceToNat, Nat.reduceAdd, Nat.reduceMul, Int.reduceNeg, Option.bind_some, Int.toNat_natCast, ↓bind_of (show f_m_isSign F (45 : Int32) (mk Ax B) = _ from em_sg0 F Ax hr 45 (by omega) (by omega) a4), ↓bind_of (show f_m_isSign F (40 : Int32) (mk Ax B) = _ from em_sg1 F Ax hr hfa 40 (by omega) (by omega) a5), ↓bind_of x1], x2, hm.tr x3, fun z => absurd z bad⟩
          · have y1 := em_sg0 F Ax hr 45 (by omega) (by omega) a4
            have y2 := em_sg0 F Ax hr 40 (by omega) (by omega) a5
            by_cases hfa : s.2.2.2.2.1 = -1
            · obtain ⟨t1, t2, t3⟩ := hr.2.2.2.1 hfa
              have r12 := t3.2.1
              have n12 : B 304 12 ≠ 2 := fun z => a1 (t3.2.2.2.2.1.2 z)
              by_cases e12 : B 304 12 = 1
              · obtain ⟨B1, x1, x2, x3⟩ := (em_name F Ax R hF hK hq hbill hr hp hfa hm).2 a2
                obtain ⟨u1, -⟩ := x2.2.2.2.2 bad
                exact ⟨iI 0, B1, by simp (disch := first | omega | (simp (disch := omega) only [uA_n]; done) | fail) only [iI_lit, iI_add, iI_sub, iI_mul, iI_neg, iI_lt, iI_le, iI_eq, zlt_t, zlt_f, zle_t, zle_f, zeq_t, zeq_f, nle_t, nle_f, iI_cl, rA, rS, rB, wA, wS, wB, mkp, mk2, uA_s, uA_n, ud_s, ud_n, bI_0, bI_1, nor_s, ↓reduceIte, or_false, false_or, or_true, true_or, or_self, not_true_eq_false, not_false_eq_true, and_true, true_and, and_false, false_and, bI_T, bI_F, Int.reduceToNat, Nat.reduceAdd, Nat.reduceMul, Int.reduceNeg, Option.bind_some, Int.toNat_natCast, ↓bind_of (show f_m_isSign F (45 : Int32) (mk Ax B) = _ from y1), ↓bind_of (show f_m_isSign F (40 : Int32) (mk Ax B) = _ from y2), t1, e12, ↓bind_of x1, u1], x2, hm.tr x3, fun z => absurd z bad⟩
              · exact ⟨0, Bf, by simp (disch := first | omega | (simp (disch := omega) only [uA_n]; done) | fail) only [iI_lit, iI_add, iI_sub, iI_mul, iI_neg, iI_lt, iI_le, iI_eq, zlt_t, zlt_f, zle_t, zle_f, zeq_t, zeq_f, nle_t, nle_f, iI_cl, rA, rS, rB, wA, wS, wB, mkp, mk2, uA_s, uA_n, ud_s, ud_n, bI_0, bI_1, nor_s, ↓reduceIte, or_false, false_or, or_true, true_or, or_self, not_true_eq_false, not_false_eq_true, and_true, true_and, and_false, false_and, bI_T, bI_F, Int.reduceToNat, Nat.reduceAdd, Nat.reduceMul, Int.reduceNeg, Option.bind_some, Int.toNat_natCast, ↓bind_of (show f_m_isSign F (45 : Int32) (mk Ax B) = _ from y1), ↓bind_of (show f_m_isSign F (40 : Int32) (mk Ax B) = _ from y2), t1, ↓bind_of f1], f2, hm.tr f3, fun z => absurd z bad⟩
            · obtain ⟨t1, -⟩ := hr.2.2.2.2 hfa
              exact ⟨0, Bf, by simp (disch := first | omega | (simp (disch := omega) only [uA_n]; done) | fail) only [iI_lit, iI_add, iI_sub, iI_mul, iI_neg, iI_lt, iI_le, iI_eq, zlt_t, zlt_f, zle_t, zle_f, zeq_t, zeq_f, nle_t, nle_f, iI_cl, rA, rS, rB, wA, wS, wB, mkp, mk2, uA_s, uA_n, ud_s, ud_n, bI_0, bI_1, nor_s, ↓reduceIte, or_false, false_or, or_true, true_or, or_self, not_true_eq_false, not_false_eq_true, and_true, true_and, and_false, false_and, bI_T, bI_F, Int.reduceToNat, Nat.reduceAdd, Nat.reduceMul, Int.reduceNeg, Option.bind_some, Int.toNat_natCast, ↓bind_of (show f_m_isSign F (45 : Int32) (mk Ax B) = _ from y1), ↓bind_of (show f_m_isSign F (40 : Int32) (mk Ax B) = _ from y2), t1, ↓bind_of f1], f2, hm.tr f3, fun z => absurd z bad⟩
      · rw [if_neg a3]
        simp only [Bool.or_eq_true, Bool.not_eq_true', Bool.or_eq_false_iff, decide_eq_false_iff_not, not_or, not_and, Bool.not_eq_true] at a3
        have hdf : dead = false := a3.1
        have h6 : o ≠ 6 := fun z => by have := hd.mpr z; rw [hdf] at this; cases this
        have eo : o + 1 - 1 = o := by omega
        by_cases a4 : s.1 = 45
        · rw [if_pos a4]
          have hfa : s.2.2.2.2.1 = -1 := by have := hp.2.2.1; omega
          obtain ⟨B1, x1, x2, x3⟩ := em_opens F Ax hF hL hb hr hp hfa (by omega) (by omega)
          obtain ⟨w, B2, y1, y2, y3, y4⟩ := hg hdf _ B1 x2 (hm.tr x3) (pnx_PI (b := b) hp hfa).1
          have e16 := y2.2.2.1
          try simp only at y1
          refine ⟨-w, uA B2 304 16 o, ?_, y2.op o, y3.op o, fun z => ?_⟩
          · simp (disch := first | omega | (simp (disch := omega) only [uA_n]; done) | fail) only [iI_lit, iI_add, iI_sub, iI_mul, iI_neg, iI_lt, iI_le, iI_eq, zlt_t, zlt_f, zle_t, zle_f, zeq_t, zeq_f, nle_t, nle_f, iI_cl, rA, rS, rB, wA, wS, wB, mkp, mk2, uA_s, uA_n, ud_s, ud_n, bI_0, bI_1, nor_s, ↓reduceIte, or_false, false_or, or_true, true_or, or_self, not_true_eq_false, not_false_eq_true, and_true, true_and, and_false, false_and, bI_T, bI_F, Int.reduceToNat, Nat.reduceAdd, Nat.reduceMul, Int.reduceNeg, Option.bind_some, Int.toNat_natCast, ↓bind_of (show f_m_isSign F (45 : Int32) (mk Ax B) = _ from em_sg1 F Ax hr hfa 45 (by omega) (by omega) a4), ↓bind_of x1, ↓bind_of y1, e16, eo]
          · obtain ⟨nw, z1, z2⟩ := y4 z
            refine ⟨nw ++ [-12], ?_, fun st => ?_⟩
            · show (O (pnx b L s)).2.2.2.2.2 ++ [-12] = _
              rw [z1, List.append_assoc]; rfl
            · rw [evs_app, z2]; rfl
        · rw [if_neg a4]
          have a5 : s.1 = 40 := by by_cases e : s.1 = 40; exact e; exact absurd (a3.2 a4) (fun z => z e)
          have hfa : s.2.2.2.2.1 = -1 := by have := hp.2.2.1; omega
          obtain ⟨B1, x1, x2, x3⟩ := em_opens F Ax hF hL hb hr hp hfa (by omega) (by omega)
          obtain ⟨w, B2, y1, y2, y3, y4⟩ := hg2 hdf _ B1 x2 (hm.tr x3) (pnx_PI (b := b) hp hfa).1
          have q1 := (hX hdf _ (pnx_PI (b := b) hp hfa).1).1
          have tk2 := q1.2.2.2.2.2.1
          simp only [tkR] at tk2
          have e16 := y2.2.2.1
          try simp only at y1
          have s1 := em_sg0 F Ax hr 45 (by omega) (by omega) a4
          have s2 := em_sg1 F Ax hr hfa 40 (by omega) (by omega) a5
          by_cases a6 : (X (pnx b L s)).1 = 41
          · rw [if_pos a6]
            have hf2 : (X (pnx b L s)).2.2.2.2.1 = -1 := by have := q1.2.2.1; omega
            have u1 := (y2.2.2.2.1 hf2).1
            obtain ⟨B4, v1, v2, v3⟩ := em_next F Ax hF hL hb (y2.op o) q1.2.1 hf2 (by omega)
            refine ⟨w, B4, ?_, v2, (y3.op o).tr v3, fun z => ?_⟩
            · simp (disch := first | omega | (simp (disch := omega) only [uA_n]; done) | fail) only [iI_lit, iI_add, iI_sub, iI_mul, iI_neg, iI_lt, iI_le, iI_eq, zlt_t, zlt_f, zle_t, zle_f, zeq_t, zeq_f, nle_t, nle_f, iI_cl, rA, rS, rB, wA, wS, wB, mkp, mk2, uA_s, uA_n, ud_s, ud_n, bI_0, bI_1, nor_s, ↓reduceIte, or_false, false_or, or_true, true_or, or_self, not_true_eq_false, not_false_eq_true, and_true, true_and, and_false, false_and, bI_T, bI_F, Int.reduceToNat, Nat.reduceAdd, Nat.reduceMul, Int.reduceNeg, Option.bind_some, Int.toNat_natCast, ↓bind_of (show f_m_isSign F (45 : Int32) (mk Ax B) = _ from s1), ↓bind_of (show f_m_isSign F (40 : Int32) (mk Ax B) = _ from s2), ↓bind_of x1, ↓bind_of y1, ↓bind_of (show f_m_isSign F (41 : Int32) (mk Ax B2) = _ from em_sg1 F Ax y2 hf2 41 (by omega) (by omega) a6), e16, eo, u1, ↓bind_of v1]
            · obtain ⟨nw, z1, z2⟩ := y4 hf2
              exact ⟨nw, z1, z2⟩
          · rw [if_neg a6]
            have s3 := em_sg0 F Ax y2 41 (by omega) (by omega) a6
            obtain ⟨B4, v1, v2, v3⟩ := em_fail F Ax y2 q1
            have e16' := v2.2.2.1
            obtain ⟨u1, -⟩ := v2.2.2.2.2 (pst_PI q1).2.2
            refine ⟨w, uA B4 304 16 o, ?_, v2.op o, (y3.tr v3).op o, fun z => absurd z (pst_PI q1).2.2⟩
            simp (disch := first | omega | (simp (disch := omega) only [uA_n]; done) | fail) only [iI_lit, iI_add, iI_sub, iI_mul, iI_neg, iI_lt, iI_le, iI_eq, zlt_t, zlt_f, zle_t, zle_f, zeq_t, zeq_f, nle_t, nle_f, iI_cl, rA, rS, rB, wA, wS, wB, mkp, mk2, uA_s, uA_n, ud_s, ud_n, bI_0, bI_1, nor_s, ↓reduceIte, or_false, false_or, or_true, true_or, or_self, not_true_eq_false, not_false_eq_true, and_true, true_and, and_false, false_and, bI_T, bI_F, Int.reduceToNat, Nat.reduceAdd, Nat.reduceMul, Int.reduceNeg, Option.bind_some, Int.toNat_natCast, ↓bind_of (show f_m_isSign F (45 : Int32) (mk Ax B) = _ from s1), ↓bind_of (show f_m_isSign F (40 : Int32) (mk Ax B) = _ from s2), ↓bind_of x1, ↓bind_of y1, ↓bind_of (show f_m_isSign F (41 : Int32) (mk Ax B2) = _ from s3), e16', eo, u1, ↓bind_of v1]
end MON2
