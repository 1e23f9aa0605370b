/-! WHAT IS FOUND, on both sides -/
def bd (A : hI) : Int → List Nat → List Nat
  | _, [] => []
  | last, c :: l => if A 56 (A 2 c).toNat = 1 ∧ A 2 c ≠ last then bd A (A 2 c) l else c :: bd A (A 2 c) l
theorem bd_g {A : hI} {last : Int} {c : Nat} {l : List Nat} (h : A 56 (A 2 c).toNat = 1 ∧ A 2 c ≠ last) : bd A last (c :: l) = bd A (A 2 c) l := if_pos h
theorem bd_b {A : hI} {last : Int} {c : Nat} {l : List Nat} (h : ¬ (A 56 (A 2 c).toNat = 1 ∧ A 2 c ≠ last)) : bd A last (c :: l) = c :: bd A (A 2 c) l := if_neg h
theorem bd_sub (A : hI) : ∀ (l : List Nat) (last : Int), List.Sublist (bd A last l) l := by
  intro l
  induction l with
  | nil => intro last; exact List.Sublist.refl _
  | cons c l ih =>
    intro last
    unfold bd
    split
    · exact (ih _).cons _
    · exact (ih _).cons_cons _
def xFdL (A : hI) (h : Nat) (d : Int) (l : List Nat) : hI := l.foldl (fun A c => xFd A c h d) A
def mFdL (B : hI) (h : Nat) (l : List Nat) : hI := l.foldl (fun B c => mFd B c h) B
theorem xFd_58 (A : hI) (c h : Nat) (d : Int) : xFd A c h d 58 = ud (A 58) c (-1) := by unfold xFd; by_cases a1 : 60 ≤ A 55 12 <;> simp (disch := first | omega | (simp (disch := omega) only [uA_n]; done) | fail) only [iI_lit, iI_add, iI_sub, iI_mul, iI_neg, iI_lt, iI_le, iI_eq, zlt_t, zlt_f, zle_t, zle_f, zeq_t, zeq_f, nle_t, nle_f, iI_cl, rA, rS, rB, wA, wS, wB, mkp, mk2, uA_s, uA_n, ud_s, ud_n, bI_0, bI_1, nor_s, reduceIte, or_false, false_or, or_true, true_or, or_self, not_true_eq_false, not_false_eq_true, and_true, true_and, and_false, false_and, bI_T, bI_F, Int.reduceToNat, Nat.reduceAdd, Nat.reduceMul, Int.reduceNeg, Option.bind_some, Int.toNat_natCast]
theorem xFd_o (A : hI) (c h : Nat) (d : Int) {k : Nat} (hk : k ≠ 4 ∧ k ≠ 5 ∧ k ≠ 6 ∧ k ≠ 55 ∧ k ≠ 58 ∧ k ≠ 61) : xFd A c h d k = A k := by unfold xFd; by_cases a1 : 60 ≤ A 55 12 <;> simp (disch := first | omega | (simp (disch := omega) only [uA_n]; done) | fail) only [iI_lit, iI_add, iI_sub, iI_mul, iI_neg, iI_lt, iI_le, iI_eq, zlt_t, zlt_f, zle_t, zle_f, zeq_t, zeq_f, nle_t, nle_f, iI_cl, rA, rS, rB, wA, wS, wB, mkp, mk2, uA_s, uA_n, ud_s, ud_n, bI_0, bI_1, nor_s, reduceIte, or_false, false_or, or_true, true_or, or_self, not_true_eq_false, not_false_eq_true, and_true, true_and, and_false, false_and, bI_T, bI_F, Int.reduceToNat, Nat.reduceAdd, Nat.reduceMul, Int.reduceNeg, Option.bind_some, Int.toNat_natCast]
theorem xFd_55 (A : hI) (c h : Nat) (d : Int) {j : Nat} (hj : j ≠ 12) : xFd A c h d 55 j = A 55 j := by unfold xFd; by_cases a1 : 60 ≤ A 55 12 <;> simp (disch := first | omega | (simp (disch := omega) only [uA_n]; done) | fail) only [iI_lit, iI_add, iI_sub, iI_mul, iI_neg, iI_lt, iI_le, iI_eq, zlt_t, zlt_f, zle_t, zle_f, zeq_t, zeq_f, nle_t, nle_f, iI_cl, rA, rS, rB, wA, wS, wB, mkp, mk2, uA_s, uA_n, ud_s, ud_n, bI_0, bI_1, nor_s, reduceIte, or_false, false_or, or_true, true_or, or_self, not_true_eq_false, not_false_eq_true, and_true, true_and, and_false, false_and, bI_T, bI_F, Int.reduceToNat, Nat.reduceAdd, Nat.reduceMul, Int.reduceNeg, Option.bind_some, Int.toNat_natCast]
theorem mFd_o (B : hI) (c : Nat) (h : Int) {k : Nat} (hk : k ≠ 400 ∧ k ≠ 432 ∧ k ≠ 442 ∧ k ≠ 443 ∧ k ≠ 444) : mFd B c h k = B k := by unfold mFd; by_cases a1 : B 400 7 < 60 <;> simp (disch := first | omega | (simp (disch := omega) only [uA_n]; done) | fail) only [iI_lit, iI_add, iI_sub, iI_mul, iI_neg, iI_lt, iI_le, iI_eq, zlt_t, zlt_f, zle_t, zle_f, zeq_t, zeq_f, nle_t, nle_f, iI_cl, rA, rS, rB, wA, wS, wB, mkp, mk2, uA_s, uA_n, ud_s, ud_n, bI_0, bI_1, nor_s, reduceIte, or_false, false_or, or_true, true_or, or_self, not_true_eq_false, not_false_eq_true, and_true, true_and, and_false, false_and, bI_T, bI_F, Int.reduceToNat, Nat.reduceAdd, Nat.reduceMul, Int.reduceNeg, Option.bind_some, Int.toNat_natCast]
/-- what a walk along the order leaves as it is -/
def ag (A A1 : hI) : Prop := A1 55 7 = A 55 7 ∧ A1 2 = A 2 ∧ A1 56 = A 56 ∧ A1 60 = A 60 ∧ A1 16 = A 16 ∧ A1 19 = A 19
theorem ag.rf (A : hI) : ag A A := ⟨rfl, rfl, rfl, rfl, rfl, rfl⟩
theorem ag.fd {A A1 : hI} (g : ag A A1) (c h : Nat) (d : Int) : ag A (xFd A1 c h d) := by
  obtain ⟨g1, g2, g3, g4, g5, g6⟩ := g
  exact ⟨by rw [xFd_55 _ _ _ _ (by omega), g1], by rw [xFd_o _ _ _ _ (by omega), g2], by rw [xFd_o _ _ _ _ (by omega), g3], by rw [xFd_o _ _ _ _ (by omega), g4], by rw [xFd_o _ _ _ _ (by omega), g5], by rw [xFd_o _ _ _ _ (by omega), g6]⟩
section FIND
variable {K D : Int} {A0 B0 A B A' B' : hI}
theorem RR.fdL {h : Nat} (hh : 1 ≤ h) : ∀ (l : List Nat) {A1 B1 : hI}, RR K D A0 B0 A1 B1 → ag A A1 → l.Nodup → (∀ c ∈ l, (c : Int) < A 55 7 ∧ A1 58 c = h) → RR K D A0 B0 (xFdL A1 h (A 16 9) l) (mFdL B1 h l) ∧ ag A (xFdL A1 h (A 16 9) l) ∧ (∀ e, xFdL A1 h (A 16 9) l 58 e = if e ∈ l then -1 else A1 58 e) ∧ (∀ k : Nat, k ≠ 4 ∧ k ≠ 5 ∧ k ≠ 6 ∧ k ≠ 55 ∧ k ≠ 58 ∧ k ≠ 61 → xFdL A1 h (A 16 9) l k = A1 k) ∧ (∀ k : Nat, k ≠ 400 ∧ k ≠ 432 ∧ k ≠ 442 ∧ k ≠ 443 ∧ k ≠ 444 → mFdL B1 h l k = B1 k) ∧ (∀ j : Nat, j ≠ 12 → xFdL A1 h (A 16 9) l 55 j = A1 55 j) := by
  intro l
  induction l with
  | nil => intro A1 B1 R g _ _; exact ⟨R, g, fun e => (if_neg List.not_mem_nil).symm, fun _ _ => rfl, fun _ _ => rfl, fun _ _ => rfl⟩
  | cons c l ih =>
    intro A1 B1 R g hnd hl
    obtain ⟨hc1, hc2⟩ := hl c List.mem_cons_self
    obtain ⟨hni, hnd2⟩ := List.nodup_cons.mp hnd
    have R1 := R.fd (c := c) (h := h) (by rw [g.1]; exact hc1) hc2 hh
    rw [show A1 16 9 = A 16 9 by rw [g.2.2.2.2.1]] at R1
    obtain ⟨r1, r2, r3, r4, r5, r6⟩ := ih R1 (g.fd c h _) hnd2 (fun e he => ⟨(hl e (List.mem_cons_of_mem _ he)).1, by rw [xFd_58, ud_n (show e ≠ c from fun z => hni (z ▸ he))]; exact (hl e (List.mem_cons_of_mem _ he)).2⟩)
    refine ⟨r1, r2, fun e => ?_, fun k hk => (r4 k hk).trans (xFd_o _ _ _ _ hk), fun k hk => (r5 k hk).trans (mFd_o _ _ _ hk), fun j hj => (r6 j hj).trans (xFd_55 _ _ _ _ hj)⟩
    refine (r3 e).trans ?_
    rw [xFd_58]
    by_cases e1 : e = c
    · subst e1; rw [if_neg hni, ud_s, if_pos List.mem_cons_self]
    · rw [ud_n e1]
      by_cases e2 : e ∈ l
      · rw [if_pos e2, if_pos (List.mem_cons_of_mem _ e2)]
      · rw [if_neg e2, if_neg (fun z => (List.mem_cons.mp z).elim e1 e2)]
theorem ex_findF (N : WN A A B) (F : Nat) (Bx : hI) {h : Nat} (hh : 1 ≤ h) (hh2 : h < 16) : ∀ (q i : Nat) (last : Int) (A1 B1 : hI), (A 55 7).toNat - i < q → i ≤ (A 55 7).toNat → -1 ≤ last → last < 300 → RR K D A0 B0 A1 B1 → ag A A1 → (∀ c ∈ (oL A).drop i, A1 58 c = A 58 c) → f_Notes_findForged_5 F q (iI h) (iI (A 16 9)) (iI last) (iI i) (mk A1 Bx) = some ((), mk (xFdL A1 h (A 16 9) (bd A last (hLs A h i))) Bx) := by
  intro q
  induction q with
  | zero => intro i last A1 B1 hq; omega
  | succ q ih =>
    intro i last A1 B1 hq hi hl1 hl2 R g h58
    have hC := N.nc2
    have hC0 := N.nc1
    rw [f_Notes_findForged_5]
    by_cases hin : i = (A 55 7).toNat
    · rw [hLs_end A h (by omega)]
      simp only [f_Notes_findForged_89, bd, xFdL, List.foldl_nil]
      simp (disch := first | omega | (simp (disch := omega) only [uA_n]; done) | fail) only [iI_lit, iI_add, iI_sub, iI_mul, iI_neg, iI_lt, iI_le, iI_eq, zlt_t, zlt_f, zle_t, zle_f, zeq_t, zeq_f, nle_t, nle_f, iI_cl, rA, rS, rB, wA, wS, wB, mkp, mk2, uA_s, uA_n, ud_s, ud_n, bI_0, bI_1, nor_s, reduceIte, or_false, false_or, or_true, true_or, or_self, not_true_eq_false, not_false_eq_true, and_true, true_and, and_false, false_and, bI_T, bI_F, Int.reduceToNat, Nat.reduceAdd, Nat.reduceMul, Int.reduceNeg, Option.bind_some, Int.toNat_natCast, g.1]
    · have hd := hL_held R.gN hh hh2
      have hrg : A1 61 h ≤ 400 := by rw [hd, hL_len R.gN]; have := (sm_cnt (A1 55 7).toNat (fun e => A1 58 e = h)).2; have := R.gN.nc2; omega
      by_cases h61 : A1 61 h ≤ 0
      · have hem : hLs A h i = [] := by
          refine List.eq_nil_iff_forall_not_mem.mpr fun c hc => ?_
          unfold hLs at hc
          obtain ⟨c1, c2⟩ := List.mem_filter.mp hc
          have c3 : A1 58 c = h := by rw [h58 c c1]; exact of_decide_eq_true c2
          have c4 := (oL_mem N c).mp (List.drop_subset _ _ c1)
          have := List.length_pos_of_mem ((hL_mem R.gN h c).mpr ⟨by rw [g.1]; exact c4, c3⟩)
          omega
        rw [hem]
        simp only [f_Notes_findForged_89, bd, xFdL, List.foldl_nil]
        simp (disch := first | omega | (simp (disch := omega) only [uA_n]; done) | fail) only [iI_lit, iI_add, iI_sub, iI_mul, iI_neg, iI_lt, iI_le, iI_eq, zlt_t, zlt_f, zle_t, zle_f, zeq_t, zeq_f, nle_t, nle_f, iI_cl, rA, rS, rB, wA, wS, wB, mkp, mk2, uA_s, uA_n, ud_s, ud_n, bI_0, bI_1, nor_s, reduceIte, or_false, false_or, or_true, true_or, or_self, not_true_eq_false, not_false_eq_true, and_true, true_and, and_false, false_and, bI_T, bI_F, Int.reduceToNat, Nat.reduceAdd, Nat.reduceMul, Int.reduceNeg, Option.bind_some, Int.toNat_natCast, g.1]
      · have no := N.nor i (by omega)
        have nu := N.nnu (A 60 i).toNat (by omega)
        have nf := N.nf2
        have st := N.nsr (A 2 (A 60 i).toNat).toNat (by omega)
        have nho := N.nho (A 60 i).toNat (by omega)
        have hn := R.gH.hn2
        have hmem : (A 60 i).toNat ∈ (oL A).drop i := by rw [oL_drop (by omega)]; exact List.mem_cons_self
        have e58 := h58 _ hmem
        have hsub : ∀ c ∈ (oL A).drop (i + 1), c ∈ (oL A).drop i := fun c hc => by rw [oL_drop (by omega)]; exact List.mem_cons_of_mem _ hc
        have hne : ∀ c ∈ (oL A).drop (i + 1), c ≠ (A 60 i).toNat := fun c hc e => by
          have := (pw_nd (oL_pw N)).sublist (List.drop_sublist i _)
          rw [oL_drop (by omega)] at this
          exact (List.nodup_cons.mp this).1 (e ▸ hc)
        have e19 : A1 19 11 = A 19 11 := by rw [g.2.2.2.2.2]
        have nho1 : -1 ≤ A1 58 (A 60 i).toNat ∧ A1 58 (A 60 i).toNat < 16 := by rw [e58]; omega
        rw [hLs_st (by omega)]
        by_cases hm : A 58 (A 60 i).toNat = h
        · rw [if_pos hm]
          have em : A1 58 (A 60 i).toNat = h := e58.trans hm
          have hf1 := R.gN.nfc
          have hf2 := sm_cnt (A1 55 7).toNat (fun e => A1 58 e = -1)
          have g1 := g.1
          have bad : f_Notes_findForged_72 F (f_Notes_findForged_5 F q) (iI h) (iI (A 16 9)) (iI i) (iI (A 60 i)) (iI (A 2 (A 60 i).toNat)) (mk A1 Bx) = some ((), mk (xFdL A1 h (A 16 9) ((A 60 i).toNat :: bd A (A 2 (A 60 i).toNat) (hLs A h (i + 1)))) Bx) := by
            have R1 := R.fd (c := (A 60 i).toNat) (h := h) (by omega) em hh
            rw [show A1 16 9 = A 16 9 by rw [g.2.2.2.2.1]] at R1
            have e1 := ex_noteFound (A := A1) F Bx (A 60 i) h (A 16 9) no.1 (by omega) (by omega) (by omega) (by omega) (by omega)
            rw [Int.toNat_natCast] at e1
            simp only [f_Notes_findForged_72, f_Notes_findForged_80, f_Notes_findForged_83]
            simp (disch := first | omega | (simp (disch := omega) only [uA_n]; done) | fail) only [iI_lit, iI_add, iI_sub, iI_mul, iI_neg, iI_lt, iI_le, iI_eq, zlt_t, zlt_f, zle_t, zle_f, zeq_t, zeq_f, nle_t, nle_f, iI_cl, rA, rS, rB, wA, wS, wB, mkp, mk2, uA_s, uA_n, ud_s, ud_n, bI_0, bI_1, nor_s, reduceIte, or_false, false_or, or_true, true_or, or_self, not_true_eq_false, not_false_eq_true, and_true, true_and, and_false, false_and, bI_T, bI_F, Int.reduceToNat, Nat.reduceAdd, Nat.reduceMul, Int.reduceNeg, Option.bind_some, Int.toNat_natCast, e1]
            refine ih (i + 1) _ _ _ (by omega) (by omega) (by omega) (by omega) R1 (g.fd _ _ _) fun c hc => ?_
            rw [xFd_58, ud_n (hne c hc)]
            exact h58 c (hsub c hc)
          have good : f_Notes_findForged_80 F (f_Notes_findForged_5 F q) (iI h) (iI (A 16 9)) (iI i) (iI (A 2 (A 60 i).toNat)) (mk A1 Bx) = some ((), mk (xFdL A1 h (A 16 9) (bd A (A 2 (A 60 i).toNat) (hLs A h (i + 1)))) Bx) := by
            simp only [f_Notes_findForged_80, f_Notes_findForged_83]
            simp (disch := first | omega | (simp (disch := omega) only [uA_n]; done) | fail) only [iI_lit, iI_add, iI_sub, iI_mul, iI_neg, iI_lt, iI_le, iI_eq, zlt_t, zlt_f, zle_t, zle_f, zeq_t, zeq_f, nle_t, nle_f, iI_cl, rA, rS, rB, wA, wS, wB, mkp, mk2, uA_s, uA_n, ud_s, ud_n, bI_0, bI_1, nor_s, reduceIte, or_false, false_or, or_true, true_or, or_self, not_true_eq_false, not_false_eq_true, and_true, true_and, and_false, false_and, bI_T, bI_F, Int.reduceToNat, Nat.reduceAdd, Nat.reduceMul, Int.reduceNeg, Option.bind_some, Int.toNat_natCast]
            exact ih (i + 1) _ _ _ (by omega) (by omega) (by omega) (by omega) R g fun c hc => h58 c (hsub c hc)
          by_cases k1 : A 56 (A 2 (A 60 i).toNat).toNat = 1
          · by_cases k2 : A 2 (A 60 i).toNat = last
            · rw [bd_b (fun z => z.2 k2)]
              simp (disch := first | omega | (simp (disch := omega) only [uA_n]; done) | fail) only [iI_lit, iI_add, iI_sub, iI_mul, iI_neg, iI_lt, iI_le, iI_eq, zlt_t, zlt_f, zle_t, zle_f, zeq_t, zeq_f, nle_t, nle_f, iI_cl, rA, rS, rB, wA, wS, wB, mkp, mk2, uA_s, uA_n, ud_s, ud_n, bI_0, bI_1, nor_s, reduceIte, or_false, false_or, or_true, true_or, or_self, not_true_eq_false, not_false_eq_true, and_true, true_and, and_false, false_and, bI_T, bI_F, Int.reduceToNat, Nat.reduceAdd, Nat.reduceMul, Int.reduceNeg, Option.bind_some, Int.toNat_natCast, g.1, g.2.1, g.2.2.1, g.2.2.2.1, em]
              exact bad
            · rw [bd_g ⟨k1, k2⟩]
              simp (disch := first | omega | (simp (disch := omega) only [uA_n]; done) | fail) only [iI_lit, iI_add, iI_sub, iI_mul, iI_neg, iI_lt, iI_le, iI_eq, zlt_t, zlt_f, zle_t, zle_f, zeq_t, zeq_f, nle_t, nle_f, iI_cl, rA, rS, rB, wA, wS, wB, mkp, mk2, uA_s, uA_n, ud_s, ud_n, bI_0, bI_1, nor_s, reduceIte, or_false, false_or, or_true, true_or, or_self, not_true_eq_false, not_false_eq_true, and_true, true_and, and_false, false_and, bI_T, bI_F, Int.reduceToNat, Nat.reduceAdd, Nat.reduceMul, Int.reduceNeg, Option.bind_some, Int.toNat_natCast, g.1, g.2.1, g.2.2.1, g.2.2.2.1, em]
              exact good
          · rw [bd_b (fun z => k1 z.1)]
            simp (disch := first | omega | (simp (disch := omega) only [uA_n]; done) | fail) only [iI_lit, iI_add, iI_sub, iI_mul, iI_neg, iI_lt, iI_le, iI_eq, zlt_t, zlt_f, zle_t, zle_f, zeq_t, zeq_f, nle_t, nle_f, iI_cl, rA, rS, rB, wA, wS, wB, mkp, mk2, uA_s, uA_n, ud_s, ud_n, bI_0, bI_1, nor_s, reduceIte, or_false, false_or, or_true, true_or, or_self, not_true_eq_false, not_false_eq_true, and_true, true_and, and_false, false_and, bI_T, bI_F, Int.reduceToNat, Nat.reduceAdd, Nat.reduceMul, Int.reduceNeg, Option.bind_some, Int.toNat_natCast, g.1, g.2.1, g.2.2.1, g.2.2.2.1, em]
            exact bad
        · rw [if_neg hm]
          simp only [f_Notes_findForged_83]
          simp (disch := first | omega | (simp (disch := omega) only [uA_n]; done) | fail) only [iI_lit, iI_add, iI_sub, iI_mul, iI_neg, iI_lt, iI_le, iI_eq, zlt_t, zlt_f, zle_t, zle_f, zeq_t, zeq_f, nle_t, nle_f, iI_cl, rA, rS, rB, wA, wS, wB, mkp, mk2, uA_s, uA_n, ud_s, ud_n, bI_0, bI_1, nor_s, reduceIte, or_false, false_or, or_true, true_or, or_self, not_true_eq_false, not_false_eq_true, and_true, true_and, and_false, false_and, bI_T, bI_F, Int.reduceToNat, Nat.reduceAdd, Nat.reduceMul, Int.reduceNeg, Option.bind_some, Int.toNat_natCast, g.1, g.2.1, g.2.2.1, g.2.2.2.1]
          exact ih (i + 1) _ _ _ (by omega) (by omega) (by omega) (by omega) R g fun c hc => h58 c (hsub c hc)
theorem em_findF (N : WN A A B) (F : Nat) (Ax : hI) {h : Nat} (hh : 1 ≤ h) (hh2 : h < 16) (L : List Nat) (hL4 : L.length ≤ 400) (hLm : ∀ c ∈ L, (c : Int) < A 55 7) (hLn : L.Nodup) : ∀ (q k : Nat) (A1 B1 : hI), L.length - k < q → k ≤ L.length → RR K D A0 B0 A1 B1 → ag A A1 → (∀ c ∈ L.drop k, A1 58 c = h) → B1 304 5 = L.length → (∀ j : Nat, j < L.length → B1 307 j = L.getD j 0 ∧ B1 308 j = bI (keep A L j)) → f_m_finds_8 F q (iI h) (iI k) (mk Ax B1) = some ((), mk Ax (mFdL B1 h (bd A (if k = 0 then -1 else A 2 (L.getD (k - 1) 0)) (L.drop k)))) := by
  intro q
  induction q with
  | zero => intro k A1 B1 hq; omega
  | succ q ih =>
    intro k A1 B1 hq hk R g hh58 h5 h7
    rw [f_m_finds_8]
    by_cases hin : k = L.length
    · rw [List.drop_of_length_le (by omega)]
      simp only [bd, mFdL, List.foldl_nil]
      simp (disch := first | omega | (simp (disch := omega) only [uA_n]; done) | fail) only [iI_lit, iI_add, iI_sub, iI_mul, iI_neg, iI_lt, iI_le, iI_eq, zlt_t, zlt_f, zle_t, zle_f, zeq_t, zeq_f, nle_t, nle_f, iI_cl, rA, rS, rB, wA, wS, wB, mkp, mk2, uA_s, uA_n, ud_s, ud_n, bI_0, bI_1, nor_s, reduceIte, or_false, false_or, or_true, true_or, or_self, not_true_eq_false, not_false_eq_true, and_true, true_and, and_false, false_and, bI_T, bI_F, Int.reduceToNat, Nat.reduceAdd, Nat.reduceMul, Int.reduceNeg, Option.bind_some, Int.toNat_natCast, h5]
    · have hkl : k < L.length := by omega
      obtain ⟨e7, e8⟩ := h7 k hkl
      have hdc : L.drop k = L.getD k 0 :: L.drop (k + 1) := by rw [List.drop_eq_getElem_cons hkl, List.getD_eq_getElem?_getD, List.getElem?_eq_getElem hkl]; rfl
      have hcm : L.getD k 0 ∈ L := by rw [List.getD_eq_getElem?_getD, List.getElem?_eq_getElem hkl]; exact List.getElem_mem hkl
      have hc := hLm _ hcm
      have hcn : (L.getD k 0 : Int) < 400 := by have := N.nc2; omega
      have nu := N.nnu (L.getD k 0) hc
      have nf := N.nf2
      have nl : 0 < k → A 2 (L.getD (k - 1) 0) ≠ -1 := fun h0 => by
        have hkl2 : k - 1 < L.length := by omega
        have := hLm (L.getD (k - 1) 0) (by rw [List.getD_eq_getElem?_getD, List.getElem?_eq_getElem hkl2]; exact List.getElem_mem hkl2)
        have := N.nnu _ this
        omega
      have kiff : keep A L k ↔ (A 56 (A 2 (L.getD k 0)).toNat = 1 ∧ A 2 (L.getD k 0) ≠ (if k = 0 then -1 else A 2 (L.getD (k - 1) 0))) := by
        by_cases h0 : k = 0
        · rw [if_pos h0]
          exact ⟨fun z => ⟨z.1, by omega⟩, fun z => ⟨z.1, Or.inl h0⟩⟩
        · rw [if_neg h0]
          exact ⟨fun z => ⟨z.1, fun w => z.2.elim h0 (fun y => y w.symm)⟩, fun z => ⟨z.1, Or.inr (fun w => z.2 w.symm)⟩⟩
      have hdn : (L.getD k 0 :: L.drop (k + 1)).Nodup := hdc ▸ hLn.sublist (List.drop_sublist k L)
      have hnext : (if k + 1 = 0 then (-1 : Int) else A 2 (L.getD (k + 1 - 1) 0)) = A 2 (L.getD k 0) := by rw [if_neg (by omega), Nat.add_sub_cancel]
      rw [hdc]
      unfold bd
      by_cases hkp : keep A L k
      · rw [if_pos (kiff.mp hkp)]
        have := ih (k + 1) A1 B1 (by omega) (by omega) R g (fun c hc => hh58 c (hdc ▸ List.mem_cons_of_mem _ hc)) h5 h7
        rw [hnext] at this
        simp only [f_m_finds_137]
        simp (disch := first | omega | (simp (disch := omega) only [uA_n]; done) | fail) only [iI_lit, iI_add, iI_sub, iI_mul, iI_neg, iI_lt, iI_le, iI_eq, zlt_t, zlt_f, zle_t, zle_f, zeq_t, zeq_f, nle_t, nle_f, iI_cl, rA, rS, rB, wA, wS, wB, mkp, mk2, uA_s, uA_n, ud_s, ud_n, bI_0, bI_1, nor_s, reduceIte, or_false, false_or, or_true, true_or, or_self, not_true_eq_false, not_false_eq_true, and_true, true_and, and_false, false_and, bI_T, bI_F, Int.reduceToNat, Nat.reduceAdd, Nat.reduceMul, Int.reduceNeg, Option.bind_some, Int.toNat_natCast, h5, e7, e8, bI_t hkp]
        exact this
      · rw [if_neg (fun z => hkp (kiff.mpr z))]
        have h58c := hh58 (L.getD k 0) (hdc ▸ List.mem_cons_self)
        have R1 := R.fd (c := L.getD k 0) (h := h) (by rw [g.1]; exact hc) h58c hh
        rw [show A1 16 9 = A 16 9 by rw [g.2.2.2.2.1]] at R1
        have := ih (k + 1) _ _ (by omega) (by omega) R1 (g.fd _ _ _) (fun c hc => by rw [xFd_58, ud_n (show c ≠ L.getD k 0 from fun z => (List.nodup_cons.mp hdn).1 (z ▸ hc))]; exact hh58 c (hdc ▸ List.mem_cons_of_mem _ hc)) (by rw [mFd_o _ _ _ (by omega)]; exact h5) (fun j hj => by rw [mFd_o _ _ _ (by omega), mFd_o _ _ _ (by omega)]; exact h7 j hj)
        rw [hnext] at this
        have hf0 := R.gN.nfo
        have hf1 := R.gN.nfc
        have hf2 := sm_cnt (A1 55 7).toNat (fun e => A1 58 e = -1)
        have g1 := g.1
        have hC := N.nc2
        rw [show mFdL B1 h (L.getD k 0 :: bd A (A 2 (L.getD k 0)) (L.drop (k + 1))) = mFdL (mFd B1 (L.getD k 0) h) h (bd A (A 2 (L.getD k 0)) (L.drop (k + 1))) from rfl, ← this]
        simp only [f_m_finds_137, f_m_finds_126, f_m_finds_76, mFd]
        by_cases a1 : B1 400 7 < 60 <;> simp (disch := first | omega | (simp (disch := omega) only [uA_n]; done) | fail) only [iI_lit, iI_add, iI_sub, iI_mul, iI_neg, iI_lt, iI_le, iI_eq, zlt_t, zlt_f, zle_t, zle_f, zeq_t, zeq_f, nle_t, nle_f, iI_cl, rA, rS, rB, wA, wS, wB, mkp, mk2, uA_s, uA_n, ud_s, ud_n, bI_0, bI_1, nor_s, reduceIte, or_false, false_or, or_true, true_or, or_self, not_true_eq_false, not_false_eq_true, and_true, true_and, and_false, false_and, bI_T, bI_F, Int.reduceToNat, Nat.reduceAdd, Nat.reduceMul, Int.reduceNeg, Option.bind_some, Int.toNat_natCast, h5, e7, e8, bI_f hkp, zC, zC0, dS, zFD, zFD0] <;> rfl
end FIND
