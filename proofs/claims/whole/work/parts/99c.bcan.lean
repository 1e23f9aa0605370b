/-! WHAT THE BANK CAN -/
theorem sm_from (n : Nat) (c : Int) (h0 : 0 ≤ c) (hn : c ≤ n) : sm n (fun k => bI (c ≤ (k : Int))) = n - c := by
  induction n with
  | zero => show (0 : Int) = _; omega
  | succ n ih =>
    simp only [sm]
    by_cases h : c ≤ (n : Int)
    · rw [ih h, bI_t h]; omega
    · have hc : c = (n : Int) + 1 := by omega
      rw [bI_f h, sm_0 (fun i hi => bI_f (by omega))]; omega
abbrev bcan (A B : hI) (s : Int) : Prop := s - 10 * (s / 10) ≤ A 22 0 ∧ (s / 10 = 0 ∨ (s / 10 - A 55 10 ≤ 300 - A 55 8 ∧ s / 10 - A 55 10 ≤ 400 - A 55 7 ∧ (say A B (-1) 6 ≠ 0 ∨ ¬ (say A B (-1) 0 < iI (10 * (A 55 9 + s / 10))))))
section BCAN
variable {K D : Int} {A0 B0 A B : hI} (F : Nat)
theorem ex_bankCan (R : RR K D A0 B0 A B) (hF : 1000 ≤ F) (hK : K ≤ 1000000000) (Bx : hI) {s : Int} (hs : 0 ≤ s) (hs2 : s ≤ 100000) : ∃ A' : hI, f_World_bankCan F (iI s) (mk A Bx) = some (iI (bI (bcan A B s)), mk A' Bx) ∧ ∀ k : Nat, k ≠ 15 → k ≠ 54 → A' k = A k := by
  have gl := R.gle (h := 0) (by have := R.gH.hn1; omega)
  have N := R.gN
  have hf1 := N.nf1
  have hf2 := N.nf2
  have hc1 := N.nc1
  have hc2 := N.nc2
  have ho := R.out
  simp only [f_World_bankCan, f_World_bankCan_73, f_World_bankCan_77, f_World_bankCan_78, f_Notes_canIssue, f_Notes_canIssue_39, f_Notes_canIssue_40]
  by_cases c1 : s - 10 * (s / 10) ≤ A 22 0
  · by_cases c2 : s / 10 = 0
    · rw [bI_t (show bcan A B s from ⟨c1, Or.inl c2⟩)]
      exact ⟨A, by simp (disch := first | omega | (simp (disch := omega) only [uA_n]; done) | fail) only [iI_lit, iI_add, iI_sub, iI_mul, iI_neg, iI_lt, iI_le, iI_eq, zlt_t, zlt_f, zle_t, zle_f, zeq_t, zeq_f, nle_t, nle_f, iI_cl, rA, rS, rB, wA, wS, wB, mkp, mk2, uA_s, uA_n, ud_s, ud_n, bI_0, bI_1, nor_s, ↓reduceIte, or_false, false_or, or_true, true_or, or_self, not_true_eq_false, not_false_eq_true, and_true, true_and, and_false, false_and, bI_T, bI_F, Int.reduceToNat, Nat.reduceAdd, Nat.reduceMul, Int.reduceNeg, Option.bind_some, Int.toNat_natCast, iI_div], fun _ _ _ => rfl⟩
    · have em : ∀ m : mM, f_Math_max F (iI 0) (iI (s / 10 - A 55 10)) m = some (iI (max 0 (s / 10 - A 55 10)), m) := fun m => ex_max F 0 (s / 10 - A 55 10) m (by omega) (by omega) (by omega) (by omega)
      by_cases c3 : s / 10 - A 55 10 ≤ 300 - A 55 8
      · by_cases c4 : s / 10 - A 55 10 ≤ 400 - A 55 7
        · have m1 : ¬ (300 - A 55 8 < max 0 (s / 10 - A 55 10)) := by omega
          have m2 : ¬ (400 - A 55 7 < max 0 (s / 10 - A 55 10)) := by omega
          obtain ⟨A1, x1, x2⟩ := ex_lawSays F R hF hK Bx (bill := -1) (key := 6) (Or.inl rfl) (by omega) (by omega)
          have R1 : RR K D A0 B0 A1 B := R.xA (fun k h1 _ h3 => x2 k h1 h3)
          obtain ⟨A2, y1, y2⟩ := ex_lawSays F R1 hF hK Bx (bill := -1) (key := 0) (Or.inl rfl) (by omega) (by omega)
          rw [say_c (A := A) (B := B) (fun k hk => x2 k (by omega) (by omega)) (fun _ _ _ => rfl)] at y1
          have b55 : A1 55 = A 55 := x2 55 (by omega) (by omega)
          by_cases c5 : say A B (-1) 6 = 0
          · by_cases c6 : say A B (-1) 0 < iI (10 * (A 55 9 + s / 10))
            · rw [bI_f (show ¬ bcan A B s from fun z => by
                rcases z.2 with h | h
                · exact c2 h
                · rcases h.2.2 with h | h
                  · exact h c5
                  · exact h c6)]
              refine ⟨A2, ?_, fun k h1 h2 => (y2 k h1 h2).trans (x2 k h1 h2)⟩
              simp (disch := first | omega | (simp (disch := omega) only [uA_n]; done) | fail) only [iI_lit, iI_add, iI_sub, iI_mul, iI_neg, iI_lt, iI_le, iI_eq, zlt_t, zlt_f, zle_t, zle_f, zeq_t, zeq_f, nle_t, nle_f, iI_cl, rA, rS, rB, wA, wS, wB, mkp, mk2, uA_s, uA_n, ud_s, ud_n, bI_0, bI_1, nor_s, ↓reduceIte, or_false, false_or, or_true, true_or, or_self, not_true_eq_false, not_false_eq_true, and_true, true_and, and_false, false_and, bI_T, bI_F, Int.reduceToNat, Nat.reduceAdd, Nat.reduceMul, Int.reduceNeg, Option.bind_some, Int.toNat_natCast, iI_div, em]
              refine obd (v := (say A B (-1) 6, mk A1 Bx)) x1 ?_
              refine (if_pos (show say A B (-1) 6 = iI 0 from c5)).trans ?_
              refine obd (v := (say A B (-1) 0, mk A2 Bx)) y1 ?_
              exact if_pos (by show say A B (-1) 0 < iI 10 * ((mk A1 Bx).1 55 9 + iI (s / 10)); rw [rA (by omega), b55, iI_add, iI_mul]; exact c6)
            · rw [bI_t (show bcan A B s from ⟨c1, Or.inr ⟨c3, c4, Or.inr c6⟩⟩)]
              refine ⟨A2, ?_, fun k h1 h2 => (y2 k h1 h2).trans (x2 k h1 h2)⟩
              simp (disch := first | omega | (simp (disch := omega) only [uA_n]; done) | fail) only [iI_lit, iI_add, iI_sub, iI_mul, iI_neg, iI_lt, iI_le, iI_eq, zlt_t, zlt_f, zle_t, zle_f, zeq_t, zeq_f, nle_t, nle_f, iI_cl, rA, rS, rB, wA, wS, wB, mkp, mk2, uA_s, uA_n, ud_s, ud_n, bI_0, bI_1, nor_s, ↓reduceIte, or_false, false_or, or_true, true_or, or_self, not_true_eq_false, not_false_eq_true, and_true, true_and, and_false, false_and, bI_T, bI_F, Int.reduceToNat, Nat.reduceAdd, Nat.reduceMul, Int.reduceNeg, Option.bind_some, Int.toNat_natCast, iI_div, em]
              refine obd (v := (say A B (-1) 6, mk A1 Bx)) x1 ?_
              refine (if_pos (show say A B (-1) 6 = iI 0 from c5)).trans ?_
              refine obd (v := (say A B (-1) 0, mk A2 Bx)) y1 ?_
              exact if_neg (by show ¬ say A B (-1) 0 < iI 10 * ((mk A1 Bx).1 55 9 + iI (s / 10)); rw [rA (by omega), b55, iI_add, iI_mul]; exact c6)
          · rw [bI_t (show bcan A B s from ⟨c1, Or.inr ⟨c3, c4, Or.inl c5⟩⟩)]
            refine ⟨A1, ?_, x2⟩
            simp (disch := first | omega | (simp (disch := omega) only [uA_n]; done) | fail) only [iI_lit, iI_add, iI_sub, iI_mul, iI_neg, iI_lt, iI_le, iI_eq, zlt_t, zlt_f, zle_t, zle_f, zeq_t, zeq_f, nle_t, nle_f, iI_cl, rA, rS, rB, wA, wS, wB, mkp, mk2, uA_s, uA_n, ud_s, ud_n, bI_0, bI_1, nor_s, ↓reduceIte, or_false, false_or, or_true, true_or, or_self, not_true_eq_false, not_false_eq_true, and_true, true_and, and_false, false_and, bI_T, bI_F, Int.reduceToNat, Nat.reduceAdd, Nat.reduceMul, Int.reduceNeg, Option.bind_some, Int.toNat_natCast, iI_div, em]
            refine obd (v := (say A B (-1) 6, mk A1 Bx)) x1 ?_
            exact if_neg (show ¬ say A B (-1) 6 = iI 0 from c5)
        · rw [bI_f (show ¬ bcan A B s from fun z => by
            rcases z.2 with h | h
            · exact c2 h
            · exact c4 h.2.1)]
          have m2 : 400 - A 55 7 < max 0 (s / 10 - A 55 10) := by omega
          exact ⟨A, by simp (disch := first | omega | (simp (disch := omega) only [uA_n]; done) | fail) only [iI_lit, iI_add, iI_sub, iI_mul, iI_neg, iI_lt, iI_le, iI_eq, zlt_t, zlt_f, zle_t, zle_f, zeq_t, zeq_f, nle_t, nle_f, iI_cl, rA, rS, rB, wA, wS, wB, mkp, mk2, uA_s, uA_n, ud_s, ud_n, bI_0, bI_1, nor_s, ↓reduceIte, or_false, false_or, or_true, true_or, or_self, not_true_eq_false, not_false_eq_true, and_true, true_and, and_false, false_and, bI_T, bI_F, Int.reduceToNat, Nat.reduceAdd, Nat.reduceMul, Int.reduceNeg, Option.bind_some, Int.toNat_natCast, iI_div, em], fun _ _ _ => rfl⟩
      · rw [bI_f (show ¬ bcan A B s from fun z => by
          rcases z.2 with h | h
          · exact c2 h
          · exact c3 h.1)]
        have m2 : 300 - A 55 8 < max 0 (s / 10 - A 55 10) := by omega
        exact ⟨A, by simp (disch := first | omega | (simp (disch := omega) only [uA_n]; done) | fail) only [iI_lit, iI_add, iI_sub, iI_mul, iI_neg, iI_lt, iI_le, iI_eq, zlt_t, zlt_f, zle_t, zle_f, zeq_t, zeq_f, nle_t, nle_f, iI_cl, rA, rS, rB, wA, wS, wB, mkp, mk2, uA_s, uA_n, ud_s, ud_n, bI_0, bI_1, nor_s, ↓reduceIte, or_false, false_or, or_true, true_or, or_self, not_true_eq_false, not_false_eq_true, and_true, true_and, and_false, false_and, bI_T, bI_F, Int.reduceToNat, Nat.reduceAdd, Nat.reduceMul, Int.reduceNeg, Option.bind_some, Int.toNat_natCast, iI_div, em], fun _ _ _ => rfl⟩
  · rw [bI_f (show ¬ bcan A B s from fun z => c1 z.1)]
    exact ⟨A, by simp (disch := first | omega | (simp (disch := omega) only [uA_n]; done) | fail) only [iI_lit, iI_add, iI_sub, iI_mul, iI_neg, iI_lt, iI_le, iI_eq, zlt_t, zlt_f, zle_t, zle_f, zeq_t, zeq_f, nle_t, nle_f, iI_cl, rA, rS, rB, wA, wS, wB, mkp, mk2, uA_s, uA_n, ud_s, ud_n, bI_0, bI_1, nor_s, ↓reduceIte, or_false, false_or, or_true, true_or, or_self, not_true_eq_false, not_false_eq_true, and_true, true_and, and_false, false_and, bI_T, bI_F, Int.reduceToNat, Nat.reduceAdd, Nat.reduceMul, Int.reduceNeg, Option.bind_some, Int.toNat_natCast, iI_div], fun _ _ _ => rfl⟩
theorem ex_lifted (R : RR K D A0 B0 A B) (hF : 1000 ≤ F) (hK : K ≤ 1000000000) (Ax : hI) : ∃ B' : hI, f_m_isLifted F (mk Ax B) = some (iI (bI (say A B (-1) 6 ≠ 0)), mk Ax B') ∧ fr4 B B' := by
  obtain ⟨B1, x1, x2⟩ := em_ruled F Ax R hF hK (bill := -1) (key := 6) (d := 0) (Or.inl rfl) (by omega) (by omega) rfl
  refine ⟨B1, ?_, x2⟩
  unfold f_m_isLifted
  refine obd (v := (say A B (-1) 6, mk Ax B1)) x1 ?_
  by_cases h : say A B (-1) 6 = 0
  · rw [bI_f (fun z => z h)]
    refine (if_pos h).trans ?_
    unfold f_m_isLifted_16
    exact if_pos (Or.inl rfl)
  · rw [bI_t h]
    refine (if_neg h).trans ?_
    unfold f_m_isLifted_16
    exact if_pos (Or.inr rfl)
theorem em_bankCan (R : RR K D A0 B0 A B) (hF : 1000 ≤ F) (hK : K ≤ 1000000000) (Ax : hI) {s : Int} (hs : 0 ≤ s) (hs2 : s ≤ 100000) : ∃ B' : hI, f_m_bankCan F (iI s) (mk Ax B) = some (iI (bI (bcan A B s)), mk Ax B') ∧ fr4 B B' := by
  have gl := R.gle (h := 0) (by have := R.gH.hn1; omega)
  have hg := R.gH.hg 0 (by omega)
  have N := R.gN
  have hf1 := N.nf1
  have hf2 := N.nf2
  have hc1 := N.nc1
  have hc2 := N.nc2
  have hc3 := N.nc3
  have ho := R.out
  have e2 := em_many F R hF Ax 2 (by omega) (by omega)
  have e0 := em_many F R hF Ax 0 (by omega) (by omega)
  rw [← N.nin] at e2
  have e00 : sm 300 (fun k => bI (A 56 k = 0)) = 300 - A 55 8 := by
    rw [sm_c (g := fun k => bI (A 55 8 ≤ (k : Int))) (fun i hi => bI_c (N.nsn i hi)), sm_from 300 _ hf1 hf2]
    rfl
  rw [e00] at e0
  unfold f_m_bankCan
  by_cases c1 : s - 10 * (s / 10) ≤ A 22 0
  · by_cases c2 : s / 10 = 0
    · rw [bI_t (show bcan A B s from ⟨c1, Or.inl c2⟩)]
      exact ⟨B, by simp (disch := first | omega | (simp (disch := omega) only [uA_n]; done) | fail) only [iI_lit, iI_add, iI_sub, iI_mul, iI_neg, iI_lt, iI_le, iI_eq, zlt_t, zlt_f, zle_t, zle_f, zeq_t, zeq_f, nle_t, nle_f, iI_cl, rA, rS, rB, wA, wS, wB, mkp, mk2, uA_s, uA_n, ud_s, ud_n, bI_0, bI_1, nor_s, ↓reduceIte, or_false, false_or, or_true, true_or, or_self, not_true_eq_false, not_false_eq_true, and_true, true_and, and_false, false_and, bI_T, bI_F, Int.reduceToNat, Nat.reduceAdd, Nat.reduceMul, Int.reduceNeg, Option.bind_some, Int.toNat_natCast, em_hs, hg, iI_div, show s - s / 10 * 10 = s - 10 * (s / 10) by omega], fr4.rf B⟩
    · have key : ∃ B' : hI, f_m_bankCan_64 F (iI (s / 10)) (mk Ax B) = some (iI (bI (say A B (-1) 6 ≠ 0 ∨ ¬ (say A B (-1) 0 < iI (10 * (A 55 9 + s / 10))))), mk Ax B') ∧ fr4 B B' := by
        obtain ⟨B1, x1, x2⟩ := ex_lifted F R hF hK Ax
        unfold f_m_bankCan_64
        by_cases c5 : say A B (-1) 6 = 0
        · rw [bI_f (fun z => z c5)] at x1
          have R1 := R.x4 x2
          have eo := em_out F R1 hF Ax
          have hg1 := R1.gH.hg 0 (by omega)
          obtain ⟨B2, y1, y2⟩ := em_ruled F Ax R1 hF hK (bill := -1) (key := 0) (d := iI (A 22 0)) (Or.inl rfl) (by omega) (by omega) rfl
          rw [say_c (A := A) (B := B) (fun _ _ => rfl) (fun k h1 h2 => x2.1 k (by omega) (by omega) (by omega))] at y1
          refine ⟨B2, ?_, x2.tr y2⟩
          refine obd (v := (iI 0, mk Ax B1)) x1 ?_
          refine (if_pos rfl).trans ?_
          refine obd (v := (iI (10 * A 55 9), mk Ax B1)) eo ?_
          refine obd (v := (iI (A 22 0), mk Ax B1)) (by simp (disch := first | omega | (simp (disch := omega) only [uA_n]; done) | fail) only [iI_lit, iI_add, iI_sub, iI_mul, iI_neg, iI_lt, iI_le, iI_eq, zlt_t, zlt_f, zle_t, zle_f, zeq_t, zeq_f, nle_t, nle_f, iI_cl, rA, rS, rB, wA, wS, wB, mkp, mk2, uA_s, uA_n, ud_s, ud_n, bI_0, bI_1, nor_s, ↓reduceIte, or_false, false_or, or_true, true_or, or_self, not_true_eq_false, not_false_eq_true, and_true, true_and, and_false, false_and, bI_T, bI_F, Int.reduceToNat, Nat.reduceAdd, Nat.reduceMul, Int.reduceNeg, Option.bind_some, Int.toNat_natCast, em_hs, hg1]) ?_
          refine obd (v := (say A B (-1) 0, mk Ax B2)) y1 ?_
          have e8 : iI (10 * A 55 9) + 10 * iI (s / 10) = iI (10 * (A 55 9 + s / 10)) := by rw [show (10 : Int32) = iI 10 from rfl, iI_mul, iI_add, Int.mul_add]
          by_cases c6 : say A B (-1) 0 < iI (10 * (A 55 9 + s / 10))
          · rw [bI_f (fun z => z.elim (fun h => h c5) (fun h => h c6))]
            refine (if_pos (show say A B (-1) 0 < iI (10 * A 55 9) + 10 * iI (s / 10) by rw [e8]; exact c6)).trans ?_
            rfl
          · rw [bI_t (Or.inr c6)]
            refine (if_neg (show ¬ say A B (-1) 0 < iI (10 * A 55 9) + 10 * iI (s / 10) by rw [e8]; exact c6)).trans ?_
            rfl
        · rw [bI_t c5] at x1
          rw [bI_t (Or.inl c5)]
          refine ⟨B1, ?_, x2⟩
          refine obd (v := (iI 1, mk Ax B1)) x1 ?_
          rfl
      have e5 : s - s / 10 * 10 = s - 10 * (s / 10) := by omega
      by_cases c3 : s / 10 - A 55 10 ≤ 300 - A 55 8
      · by_cases c4 : s / 10 - A 55 10 ≤ 400 - A 55 7
        · rw [bI_c (show bcan A B s ↔ (say A B (-1) 6 ≠ 0 ∨ ¬ (say A B (-1) 0 < iI (10 * (A 55 9 + s / 10)))) from ⟨fun z => (z.2.resolve_left c2).2.2, fun z => ⟨c1, Or.inr ⟨c3, c4, z⟩⟩⟩)]
          obtain ⟨B2, y1, y2⟩ := key
          refine ⟨B2, ?_, y2⟩
          by_cases c7 : s / 10 - A 55 10 ≤ 0
          · simp (disch := first | omega | (simp (disch := omega) only [uA_n]; done) | fail) only [iI_lit, iI_add, iI_sub, iI_mul, iI_neg, iI_lt, iI_le, iI_eq, zlt_t, zlt_f, zle_t, zle_f, zeq_t, zeq_f, nle_t, nle_f, iI_cl, rA, rS, rB, wA, wS, wB, mkp, mk2, uA_s, uA_n, ud_s, ud_n, bI_0, bI_1, nor_s, ↓reduceIte, or_false, false_or, or_true, true_or, or_self, not_true_eq_false, not_false_eq_true, and_true, true_and, and_false, false_and, bI_T, bI_F, Int.reduceToNat, Nat.reduceAdd, Nat.reduceMul, Int.reduceNeg, Option.bind_some, Int.toNat_natCast, em_hs, hg, iI_div, e5, e2, e0, y1]
          · have c8 : A 55 7 + (s / 10 - A 55 10) ≤ 400 := by omega
            simp (disch := first | omega | (simp (disch := omega) only [uA_n]; done) | fail) only [iI_lit, iI_add, iI_sub, iI_mul, iI_neg, iI_lt, iI_le, iI_eq, zlt_t, zlt_f, zle_t, zle_f, zeq_t, zeq_f, nle_t, nle_f, iI_cl, rA, rS, rB, wA, wS, wB, mkp, mk2, uA_s, uA_n, ud_s, ud_n, bI_0, bI_1, nor_s, ↓reduceIte, or_false, false_or, or_true, true_or, or_self, not_true_eq_false, not_false_eq_true, and_true, true_and, and_false, false_and, bI_T, bI_F, Int.reduceToNat, Nat.reduceAdd, Nat.reduceMul, Int.reduceNeg, Option.bind_some, Int.toNat_natCast, em_hs, hg, iI_div, e5, e2, e0, dS, hc3, y1]
        · rw [bI_f (show ¬ bcan A B s from fun z => by
            rcases z.2 with h | h
            · exact c2 h
            · exact c4 h.2.1)]
          have c7 : ¬ s / 10 - A 55 10 ≤ 0 := by omega
          have c8 : ¬ A 55 7 + (s / 10 - A 55 10) ≤ 400 := by omega
          exact ⟨B, by simp (disch := first | omega | (simp (disch := omega) only [uA_n]; done) | fail) only [iI_lit, iI_add, iI_sub, iI_mul, iI_neg, iI_lt, iI_le, iI_eq, zlt_t, zlt_f, zle_t, zle_f, zeq_t, zeq_f, nle_t, nle_f, iI_cl, rA, rS, rB, wA, wS, wB, mkp, mk2, uA_s, uA_n, ud_s, ud_n, bI_0, bI_1, nor_s, ↓reduceIte, or_false, false_or, or_true, true_or, or_self, not_true_eq_false, not_false_eq_true, and_true, true_and, and_false, false_and, bI_T, bI_F, Int.reduceToNat, Nat.reduceAdd, Nat.reduceMul, Int.reduceNeg, Option.bind_some, Int.toNat_natCast, em_hs, hg, iI_div, e5, e2, e0, dS, hc3, f_m_bankCan_62], fr4.rf B⟩
      · rw [bI_f (show ¬ bcan A B s from fun z => by
          rcases z.2 with h | h
          · exact c2 h
          · exact c3 h.1)]
        exact ⟨B, by simp (disch := first | omega | (simp (disch := omega) only [uA_n]; done) | fail) only [iI_lit, iI_add, iI_sub, iI_mul, iI_neg, iI_lt, iI_le, iI_eq, zlt_t, zlt_f, zle_t, zle_f, zeq_t, zeq_f, nle_t, nle_f, iI_cl, rA, rS, rB, wA, wS, wB, mkp, mk2, uA_s, uA_n, ud_s, ud_n, bI_0, bI_1, nor_s, ↓reduceIte, or_false, false_or, or_true, true_or, or_self, not_true_eq_false, not_false_eq_true, and_true, true_and, and_false, false_and, bI_T, bI_F, Int.reduceToNat, Nat.reduceAdd, Nat.reduceMul, Int.reduceNeg, Option.bind_some, Int.toNat_natCast, em_hs, hg, iI_div, e5, e2, e0, f_m_bankCan_62], fr4.rf B⟩
  · rw [bI_f (show ¬ bcan A B s from fun z => c1 z.1)]
    exact ⟨B, by simp (disch := first | omega | (simp (disch := omega) only [uA_n]; done) | fail) only [iI_lit, iI_add, iI_sub, iI_mul, iI_neg, iI_lt, iI_le, iI_eq, zlt_t, zlt_f, zle_t, zle_f, zeq_t, zeq_f, nle_t, nle_f, iI_cl, rA, rS, rB, wA, wS, wB, mkp, mk2, uA_s, uA_n, ud_s, ud_n, bI_0, bI_1, nor_s, ↓reduceIte, or_false, false_or, or_true, true_or, or_self, not_true_eq_false, not_false_eq_true, and_true, true_and, and_false, false_and, bI_T, bI_F, Int.reduceToNat, Nat.reduceAdd, Nat.reduceMul, Int.reduceNeg, Option.bind_some, Int.toNat_natCast, em_hs, hg, iI_div, show s - s / 10 * 10 = s - 10 * (s / 10) by omega], fr4.rf B⟩
end BCAN
