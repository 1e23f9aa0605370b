/-! COPIES PRESENTED, on both sides -/
def gA (A : hI) (h : Nat) : hI := uA (uA A 22 0 (A 22 0 - 10)) 22 h (uA A 22 0 (A 22 0 - 10) 22 h + 10)
def gB (B : hI) (h : Nat) : hI := uA (uA B 412 0 (B 412 0 - 10)) 412 h (uA B 412 0 (B 412 0 - 10) 412 h + 10)
def prA (h : Nat) : List Nat → Nat → hI → hI × Int
  | [], _, A => (A, 0)
  | _ :: _, 0, A => (A, 0)
  | c :: l, n + 1, A => if A 16 13 = -1 then (if A 22 0 < 10 then (uA A 16 13 (A 16 9), 0) else ((prA h l n (xPs 0 (gA A h) c)).1, (prA h l n (xPs 0 (gA A h) c)).2 + 1)) else (A, 0)
def prB (h : Nat) : List Nat → Nat → hI → hI × Int
  | [], _, B => (B, 0)
  | _ :: _, 0, B => (B, 0)
  | c :: l, n + 1, B => if B 400 9 = -1 then (if B 412 0 < 10 then (uA B 400 9 (B 400 0), 0) else ((prB h l n (mPs 0 (gB B h) c)).1, (prB h l n (mPs 0 (gB B h) c)).2 + 1)) else (B, 0)
theorem prA_0 (h : Nat) (l : List Nat) (A : hI) : prA h l 0 A = (A, 0) := by cases l <;> rfl
theorem prA_n (h n : Nat) (A : hI) : prA h [] n A = (A, 0) := by cases n <;> rfl
theorem prB_0 (h : Nat) (l : List Nat) (A : hI) : prB h l 0 A = (A, 0) := by cases l <;> rfl
theorem prB_n (h n : Nat) (A : hI) : prB h [] n A = (A, 0) := by cases n <;> rfl
theorem gA_o (A : hI) (h : Nat) {k : Nat} (hk : k ≠ 22) : gA A h k = A k := by unfold gA; rw [uA_n hk, uA_n hk]
theorem gB_o (B : hI) (h : Nat) {k : Nat} (hk : k ≠ 412) : gB B h k = B k := by unfold gB; rw [uA_n hk, uA_n hk]
/-- what stays as it is along a presenting -/
def agq (A A1 : hI) : Prop := A1 55 7 = A 55 7 ∧ A1 2 = A 2 ∧ A1 60 = A 60 ∧ A1 19 = A 19 ∧ A1 16 9 = A 16 9
section PRES
variable {K D : Int} {A0 B0 A B A' B' : hI}
theorem RR.g10 (R : RR K D A0 B0 A B) {h : Nat} (hh : 1 ≤ h) (hh2 : (h : Int) < A 19 11) (hg : 10 ≤ A 22 0) : RR K D A0 B0 (gA A h) (gB B h) := by
  have hn := R.gH.hn1
  refine R.gold (a := 0) (b := h) (v := 10) (by omega) hh2 (by omega) (by omega) hg ?_ ?_ (fun k hk => gA_o A h hk) (fun k hk => gB_o B h hk)
  · unfold gA gM; rw [uA_s, uA_s]
  · unfold gB gM; rw [uA_s, uA_s]
theorem agq.st {A1 : hI} (g : agq A A1) (h c : Nat) : agq A (xPs 0 (gA A1 h) c) := by
  obtain ⟨g1, g2, g3, g4, g5⟩ := g
  exact ⟨by rw [(xPs_7 0 _ c).1, gA_o _ _ (by omega), g1], by rw [xPs_o _ _ _ (by omega), gA_o _ _ (by omega), g2], by rw [xPs_o _ _ _ (by omega), gA_o _ _ (by omega), g3], by rw [xPs_o _ _ _ (by omega), gA_o _ _ (by omega), g4], by rw [xPs_o _ _ _ (by omega), gA_o _ _ (by omega), g5]⟩
theorem psOK.st2 {h : Nat} {A1 : hI} {c : Nat} {l : List Nat} (N : WN A A B) (g : agq A A1) (H : psOK 0 h A A1 (c :: l)) (hnd : (c :: l).Nodup) : psOK 0 h A (xPs 0 (gA A1 h) c) l := by
  obtain ⟨n1, n2⟩ := List.nodup_cons.mp hnd
  refine ⟨fun e he => ⟨(H.1 e (List.mem_cons_of_mem _ he)).1, by rw [xPs_58, gA_o _ _ (by omega), ud_n (show e ≠ c from fun z => n1 (z ▸ he))]; exact (H.1 e (List.mem_cons_of_mem _ he)).2⟩, fun h0 => ⟨fun e he => ?_, fun e d he hd => (H.2 h0).2 e d (List.mem_cons_of_mem _ he) (List.mem_cons_of_mem _ hd)⟩⟩
  have h1 := N.nnu e (H.1 e (List.mem_cons_of_mem _ he)).1
  have h2 := N.nnu c (H.1 c List.mem_cons_self).1
  rw [xPs_56, if_pos rfl, gA_o _ _ (by omega), gA_o _ _ (by omega), g.2.1, ud_n]
  · exact (H.2 h0).1 e (List.mem_cons_of_mem _ he)
  · intro z
    exact n1 (((H.2 h0).2 e c (List.mem_cons_of_mem _ he) List.mem_cons_self (by omega)) ▸ he)
theorem RR.pr1 (R : RR K D A0 B0 A' B') (N : WN A A B) (g : agq A A') {h c : Nat} {l : List Nat} (hh : 1 ≤ h) (hh2 : (h : Int) < A 19 11) (hg : 10 ≤ A' 22 0) (H : psOK 0 h A A' (c :: l)) : RR K D A0 B0 (xPs 0 (gA A' h) c) (mPs 0 (gB B' h) c) := by
  obtain ⟨hc1, hc2⟩ := H.1 c List.mem_cons_self
  have R1 := R.g10 (h := h) hh (by rw [g.2.2.2.1]; exact hh2) hg
  refine R1.ps (by rw [gA_o _ _ (by omega), g.1]; exact hc1) (by rw [gA_o _ _ (by omega), hc2]; omega) (Int.le_refl _) (by rw [gA_o _ _ (by omega)]; have := R.gH.hn1; omega) (fun _ => ?_)
  rw [gA_o _ _ (by omega), gA_o _ _ (by omega), g.2.1]
  exact (H.2 rfl).1 c List.mem_cons_self
theorem RR.prL (N : WN A A B) {h : Nat} (hh : 1 ≤ h) (hh2 : (h : Int) < A 19 11) : ∀ (l : List Nat) (n : Nat) (A1 B1 : hI), RR K D A0 B0 A1 B1 → agq A A1 → l.Nodup → psOK 0 h A A1 l → RR K D A0 B0 (prA h l n A1).1 (prB h l n B1).1 ∧ (prA h l n A1).2 = (prB h l n B1).2 ∧ 0 ≤ (prA h l n A1).2 ∧ (prA h l n A1).2 ≤ l.length ∧ (∀ k : Nat, ¬ (3 ≤ k ∧ k ≤ 6) ∧ k ≠ 16 ∧ k ≠ 22 ∧ ¬ (55 ≤ k ∧ k ≤ 61) → (prA h l n A1).1 k = A1 k) ∧ (∀ j : Nat, j ≠ 13 → (prA h l n A1).1 16 j = A1 16 j) := by
  intro l
  induction l with
  | nil => intro n A1 B1 R _ _ _; rw [prA_n, prB_n]; exact ⟨R, rfl, Int.le_refl _, by simp, fun _ _ => rfl, fun _ _ => rfl⟩
  | cons c l ih =>
    intro n A1 B1 R g hnd H
    cases n with
    | zero => rw [prA_0, prB_0]; exact ⟨R, rfl, Int.le_refl _, by simp only []; omega, fun _ _ => rfl, fun _ _ => rfl⟩
    | succ n =>
      have e9 := R.gD.ds3
      have eg := R.gH.hg 0 (by omega)
      unfold prA prB
      rw [e9, eg]
      by_cases h1 : A1 16 13 = -1
      · rw [if_pos h1, if_pos h1]
        by_cases h2 : A1 22 0 < 10
        · rw [if_pos h2, if_pos h2]
          exact ⟨R.stop, rfl, Int.le_refl _, by simp only []; omega, fun k hk => uA_n (by omega), fun j hj => by simp only []; rw [uA_s, ud_n hj]⟩
        · rw [if_neg h2, if_neg h2]
          have R1 := R.pr1 N g hh hh2 (by omega) H
          obtain ⟨r1, r2, r3, r4, r5, r6⟩ := ih n _ _ R1 (g.st h c) (List.nodup_cons.mp hnd).2 (H.st2 N g hnd)
          refine ⟨r1, by simp only []; rw [r2], by simp only []; omega, by simp only [List.length_cons]; omega, fun k hk => (r5 k hk).trans ?_, fun j hj => (r6 j hj).trans ?_⟩
          · rw [xPs_o _ _ _ (by omega), gA_o _ _ (by omega)]
          · rw [xPs_o _ _ _ (by omega), gA_o _ _ (by omega)]
      · rw [if_neg h1, if_neg h1]
        exact ⟨R, rfl, Int.le_refl _, by simp only []; omega, fun _ _ => rfl, fun _ _ => rfl⟩
theorem ex_pres (N : WN A A B) (F : Nat) (Bx : hI) {h n : Nat} (hh : 1 ≤ h) (hh2 : (h : Int) < A 19 11) (hn : A 19 11 ≤ 16) (hn4 : n ≤ 400) (hK : K ≤ 1000000000) : ∀ (q i came : Nat) (A1 B1 : hI), (A 55 7).toNat - i < q → i ≤ (A 55 7).toNat → came ≤ n → RR K D A0 B0 A1 B1 → agq A A1 → (∀ c ∈ (oL A).drop i, A1 58 c = A 58 c) → psOK 0 h A A1 (hLs A h i) → f_World_presentCopies_17 F q (iI h) (iI n) (iI came) (iI i) (mk A1 Bx) = some (iI (came + (prA h (hLs A h i) (n - came) A1).2), mk (prA h (hLs A h i) (n - came) A1).1 Bx) := by
  intro q
  induction q with
  | zero => intro i came A1 B1 hq; omega
  | succ q ih =>
    intro i came A1 B1 hq hi hcn R g h58 H
    have hC := N.nc2
    have hC0 := N.nc1
    have g1 := g.1
    rw [f_World_presentCopies_17]
    simp only [f_World_presentCopies_164, f_World_presentCopies_158, f_World_presentCopies_136]
    by_cases hin : i = (A 55 7).toNat
    · rw [hLs_end A h (by omega), prA_n]
      simp (disch := first | omega | (simp (disch := omega) only [uA_n]; done) | fail) only [iI_lit, iI_add, iI_sub, iI_mul, iI_neg, iI_lt, iI_le, iI_eq, zlt_t, zlt_f, zle_t, zle_f, zeq_t, zeq_f, nle_t, nle_f, iI_cl, rA, rS, rB, wA, wS, wB, mkp, mk2, uA_s, uA_n, ud_s, ud_n, bI_0, bI_1, nor_s, reduceIte, or_false, false_or, or_true, true_or, or_self, not_true_eq_false, not_false_eq_true, and_true, true_and, and_false, false_and, bI_T, bI_F, Int.reduceToNat, Nat.reduceAdd, Nat.reduceMul, Int.reduceNeg, Option.bind_some, Int.toNat_natCast, g.1, show (came : Int) + 0 = came by omega]
    · have hd := hL_held R.gN hh (by omega)
      have hrg : A1 61 h ≤ 400 := by rw [hd, hL_len R.gN]; have := (sm_cnt (A1 55 7).toNat (fun e => A1 58 e = h)).2; omega
      by_cases h61 : A1 61 h ≤ 0
      · have hem : hLs A h i = [] := by
          refine List.eq_nil_iff_forall_not_mem.mpr fun c hc => ?_
          obtain ⟨c4, c3⟩ := H.1 c hc
          have := List.length_pos_of_mem ((hL_mem R.gN h c).mpr ⟨by rw [g.1]; exact c4, c3⟩)
          omega
        rw [hem, prA_n]
        simp (disch := first | omega | (simp (disch := omega) only [uA_n]; done) | fail) only [iI_lit, iI_add, iI_sub, iI_mul, iI_neg, iI_lt, iI_le, iI_eq, zlt_t, zlt_f, zle_t, zle_f, zeq_t, zeq_f, nle_t, nle_f, iI_cl, rA, rS, rB, wA, wS, wB, mkp, mk2, uA_s, uA_n, ud_s, ud_n, bI_0, bI_1, nor_s, reduceIte, or_false, false_or, or_true, true_or, or_self, not_true_eq_false, not_false_eq_true, and_true, true_and, and_false, false_and, bI_T, bI_F, Int.reduceToNat, Nat.reduceAdd, Nat.reduceMul, Int.reduceNeg, Option.bind_some, Int.toNat_natCast, g.1, show (came : Int) + 0 = came by omega]
      · by_cases hcm : came = n
        · rw [show n - came = 0 by omega, prA_0]
          simp (disch := first | omega | (simp (disch := omega) only [uA_n]; done) | fail) only [iI_lit, iI_add, iI_sub, iI_mul, iI_neg, iI_lt, iI_le, iI_eq, zlt_t, zlt_f, zle_t, zle_f, zeq_t, zeq_f, nle_t, nle_f, iI_cl, rA, rS, rB, wA, wS, wB, mkp, mk2, uA_s, uA_n, ud_s, ud_n, bI_0, bI_1, nor_s, reduceIte, or_false, false_or, or_true, true_or, or_self, not_true_eq_false, not_false_eq_true, and_true, true_and, and_false, false_and, bI_T, bI_F, Int.reduceToNat, Nat.reduceAdd, Nat.reduceMul, Int.reduceNeg, Option.bind_some, Int.toNat_natCast, g.1, show (came : Int) + 0 = came by omega]
        · have ds1 := R.gD.ds1
          have ds2 := R.gD.ds2
          by_cases hst : A1 16 13 = -1
          · have no := N.nor i (by omega)
            have nho := N.nho (A 60 i).toNat (by omega)
            have nu := N.nnu (A 60 i).toNat (by omega)
            have nf := N.nf2
            have hmem : (A 60 i).toNat ∈ (oL A).drop i := by rw [oL_drop (by omega)]; exact List.mem_cons_self
            have e58 := h58 _ hmem
            have hsub : ∀ c ∈ (oL A).drop (i + 1), c ∈ (oL A).drop i := fun c hc => by rw [oL_drop (by omega)]; exact List.mem_cons_of_mem _ hc
            have hne : ∀ c ∈ (oL A).drop (i + 1), c ≠ (A 60 i).toNat := fun c hc e => by
              have := (pw_nd (oL_pw N)).sublist (List.drop_sublist i _)
              rw [oL_drop (by omega)] at this
              exact (List.nodup_cons.mp this).1 (e ▸ hc)
            have hnd := (pw_nd (hL_pw N h)).sublist (hLs_sub A h i)
            have gl := R.gle (h := 0) (by have := R.gH.hn1; omega)
            rw [hLs_st (by omega)] at H hnd ⊢
            by_cases hm : A 58 (A 60 i).toNat = h
            · rw [if_pos hm] at H hnd ⊢
              have em : A1 58 (A 60 i).toNat = h := e58.trans hm
              rw [show n - came = (n - (came + 1)) + 1 by omega]
              unfold prA
              rw [if_pos hst]
              by_cases h2 : A1 22 0 < 10
              · rw [if_pos h2]
                have ha : agq A (uA A1 16 13 (A1 16 9)) := ⟨by rw [uA_n (by omega)]; exact g.1, by rw [uA_n (by omega)]; exact g.2.1, by rw [uA_n (by omega)]; exact g.2.2.1, by rw [uA_n (by omega)]; exact g.2.2.2.1, by rw [uA_s, ud_n (by omega)]; exact g.2.2.2.2⟩
                have nx := ih (i + 1) came _ _ (by omega) (by omega) hcn R.stop ha (fun c hc => by rw [uA_n (by omega)]; exact h58 c (hsub c hc)) ⟨fun c hc => by rw [uA_n (by omega)]; exact H.1 c (List.mem_cons_of_mem _ hc), fun h0 => ⟨fun c hc => by rw [uA_n (by omega)]; exact (H.2 h0).1 c (List.mem_cons_of_mem _ hc), fun c d hc hd => (H.2 h0).2 c d (List.mem_cons_of_mem _ hc) (List.mem_cons_of_mem _ hd)⟩⟩
                have e0 : ∀ l : List Nat, prA h l (n - came) (uA A1 16 13 (A1 16 9)) = (uA A1 16 13 (A1 16 9), 0) := fun l => by
                  have hd0 := R.gD.dd1
                  cases l with
                  | nil => exact prA_n _ _ _
                  | cons c l =>
                    rw [show n - came = (n - (came + 1)) + 1 by omega]
                    unfold prA
                    rw [if_neg (by rw [uA_s, ud_s]; omega)]
                rw [e0] at nx
                refine Eq.trans ?_ nx
                simp (disch := first | omega | (simp (disch := omega) only [uA_n]; done) | fail) only [iI_lit, iI_add, iI_sub, iI_mul, iI_neg, iI_lt, iI_le, iI_eq, zlt_t, zlt_f, zle_t, zle_f, zeq_t, zeq_f, nle_t, nle_f, iI_cl, rA, rS, rB, wA, wS, wB, mkp, mk2, uA_s, uA_n, ud_s, ud_n, bI_0, bI_1, nor_s, reduceIte, or_false, false_or, or_true, true_or, or_self, not_true_eq_false, not_false_eq_true, and_true, true_and, and_false, false_and, bI_T, bI_F, Int.reduceToNat, Nat.reduceAdd, Nat.reduceMul, Int.reduceNeg, Option.bind_some, Int.toNat_natCast, g.1, g.2.2.1, em]
                rfl
              · rw [if_neg h2]
                have R1 := R.pr1 N g hh hh2 (by omega) H
                have nx := ih (i + 1) (came + 1) _ _ (by omega) (by omega) (by omega) R1 (g.st h _) (fun c hc => by rw [xPs_58, ud_n (hne c hc), gA_o _ _ (by omega)]; exact h58 c (hsub c hc)) (H.st2 N g hnd)
                have tl := R.gN.ntl (A 60 i).toNat (by rw [g.1]; omega)
                have e1 := ex_markIn (A := gA A1 h) F Bx (A 60 i) no.1 (by omega) (by rw [gA_o _ _ (by omega), g.2.1]; omega)
                have e2 := ex_moveTo (A := xMk (gA A1 h) (A 60 i).toNat) F Bx (A 60 i) 0 no.1 (by omega) (by rw [xMk_o _ _ (by omega), gA_o _ _ (by omega)]; omega) (by rw [xMk_o _ _ (by omega), gA_o _ _ (by omega)]; exact tl.2) (by omega)
                have e3 : xPs 0 (gA A1 h) (A 60 i).toNat = xMv (xMk (gA A1 h) (A 60 i).toNat) (A 60 i).toNat 0 := if_pos rfl
                have e4 : uA (uA A1 22 0 (A1 22 0 - 10)) 22 h (ud (A1 22) 0 (A1 22 0 - 10) h + 10) = gA A1 h := by unfold gA; rw [uA_s]
                have e5 : uA (uA A1 22 0 (A1 22 0 - 10)) 22 h (A1 22 h + 10) = gA A1 h := by unfold gA; rw [uA_s, ud_n (by omega)]
                rw [e3] at nx ⊢
                show _ = some (iI ((came : Int) + ((prA h (hLs A (h : Int) (i + 1)) (n - (came + 1)) (xMv (xMk (gA A1 h) (A 60 i).toNat) (A 60 i).toNat 0)).2 + 1)), mk (prA h (hLs A (h : Int) (i + 1)) (n - (came + 1)) (xMv (xMk (gA A1 h) (A 60 i).toNat) (A 60 i).toNat 0)).1 Bx)
                rw [show (came : Int) + ((prA h (hLs A (h : Int) (i + 1)) (n - (came + 1)) (xMv (xMk (gA A1 h) (A 60 i).toNat) (A 60 i).toNat 0)).2 + 1) = ((came + 1 : Nat) : Int) + (prA h (hLs A (h : Int) (i + 1)) (n - (came + 1)) (xMv (xMk (gA A1 h) (A 60 i).toNat) (A 60 i).toNat 0)).2 by omega]
                refine Eq.trans ?_ nx
                simp (disch := first | omega | (simp (disch := omega) only [uA_n]; done) | fail) only [iI_lit, iI_add, iI_sub, iI_mul, iI_neg, iI_lt, iI_le, iI_eq, zlt_t, zlt_f, zle_t, zle_f, zeq_t, zeq_f, nle_t, nle_f, iI_cl, rA, rS, rB, wA, wS, wB, mkp, mk2, uA_s, uA_n, ud_s, ud_n, bI_0, bI_1, nor_s, reduceIte, or_false, false_or, or_true, true_or, or_self, not_true_eq_false, not_false_eq_true, and_true, true_and, and_false, false_and, bI_T, bI_F, Int.reduceToNat, Nat.reduceAdd, Nat.reduceMul, Int.reduceNeg, Option.bind_some, Int.toNat_natCast, g.1, g.2.2.1, em, e4, e5, e1, e2]
                rfl
            · rw [if_neg hm] at H hnd ⊢
              refine Eq.trans ?_ (ih (i + 1) came A1 B1 (by omega) (by omega) hcn R g (fun c hc => h58 c (hsub c hc)) H)
              have e19 : A1 19 11 = A 19 11 := by rw [g.2.2.2.1]
              simp (disch := first | omega | (simp (disch := omega) only [uA_n]; done) | fail) only [iI_lit, iI_add, iI_sub, iI_mul, iI_neg, iI_lt, iI_le, iI_eq, zlt_t, zlt_f, zle_t, zle_f, zeq_t, zeq_f, nle_t, nle_f, iI_cl, rA, rS, rB, wA, wS, wB, mkp, mk2, uA_s, uA_n, ud_s, ud_n, bI_0, bI_1, nor_s, reduceIte, or_false, false_or, or_true, true_or, or_self, not_true_eq_false, not_false_eq_true, and_true, true_and, and_false, false_and, bI_T, bI_F, Int.reduceToNat, Nat.reduceAdd, Nat.reduceMul, Int.reduceNeg, Option.bind_some, Int.toNat_natCast, g.1, g.2.2.1, e58]
              rfl
          · have e0 : ∀ l : List Nat, prA h l (n - came) A1 = (A1, 0) := fun l => by
              cases l with
              | nil => exact prA_n _ _ _
              | cons c l =>
                rw [show n - came = (n - (came + 1)) + 1 by omega]
                unfold prA
                rw [if_neg hst]
            rw [e0]
            simp (disch := first | omega | (simp (disch := omega) only [uA_n]; done) | fail) only [iI_lit, iI_add, iI_sub, iI_mul, iI_neg, iI_lt, iI_le, iI_eq, zlt_t, zlt_f, zle_t, zle_f, zeq_t, zeq_f, nle_t, nle_f, iI_cl, rA, rS, rB, wA, wS, wB, mkp, mk2, uA_s, uA_n, ud_s, ud_n, bI_0, bI_1, nor_s, reduceIte, or_false, false_or, or_true, true_or, or_self, not_true_eq_false, not_false_eq_true, and_true, true_and, and_false, false_and, bI_T, bI_F, Int.reduceToNat, Nat.reduceAdd, Nat.reduceMul, Int.reduceNeg, Option.bind_some, Int.toNat_natCast, g.1, show (came : Int) + 0 = came by omega]
theorem em_pres (N : WN A A B) (F : Nat) (Ax : hI) {h n : Nat} (hh : 1 ≤ h) (hh2 : (h : Int) < A 19 11) (hn : A 19 11 ≤ 16) (hn4 : n ≤ 400) (hK : K ≤ 1000000000) (L : List Nat) (hL4 : L.length ≤ 400) (hLn : L.Nodup) : ∀ (q k came : Nat) (A1 B1 : hI), L.length - k < q → k ≤ L.length → RR K D A0 B0 A1 B1 → agq A A1 → psOK 0 h A A1 (L.drop k) → B1 304 5 = L.length → (∀ j : Nat, j < L.length → B1 307 j = L.getD j 0) → f_m_presents_17 F q (iI h) (iI n) (iI came) (iI k) (mk Ax B1) = some (iI (came + (prB h (L.drop k) (n - k) B1).2), mk Ax (prB h (L.drop k) (n - k) B1).1) := by
  intro q
  induction q with
  | zero => intro k came A1 B1 hq; omega
  | succ q ih =>
    intro k came A1 B1 hq hk R g H h5 h7
    have e9 := R.gD.ds3
    have ed := R.gD.dd3
    have eg := R.gH.hg 0 (by omega)
    have ds1 := R.gD.ds1
    have ds2 := R.gD.ds2
    have hd0 := R.gD.dd1
    have gl := R.gle (h := 0) (by have := R.gH.hn1; omega)
    rw [f_m_presents_17]
    simp only [f_m_presents_124, f_m_presents_118, f_m_presents_103]
    by_cases hin : k = L.length
    · rw [List.drop_of_length_le (by omega), prB_n]
      simp (disch := first | omega | (simp (disch := omega) only [uA_n]; done) | fail) only [iI_lit, iI_add, iI_sub, iI_mul, iI_neg, iI_lt, iI_le, iI_eq, zlt_t, zlt_f, zle_t, zle_f, zeq_t, zeq_f, nle_t, nle_f, iI_cl, rA, rS, rB, wA, wS, wB, mkp, mk2, uA_s, uA_n, ud_s, ud_n, bI_0, bI_1, nor_s, reduceIte, or_false, false_or, or_true, true_or, or_self, not_true_eq_false, not_false_eq_true, and_true, true_and, and_false, false_and, bI_T, bI_F, Int.reduceToNat, Nat.reduceAdd, Nat.reduceMul, Int.reduceNeg, Option.bind_some, Int.toNat_natCast, h5, show (came : Int) + 0 = came by omega]
    · by_cases hkn : n ≤ k
      · rw [show n - k = 0 by omega, prB_0]
        simp (disch := first | omega | (simp (disch := omega) only [uA_n]; done) | fail) only [iI_lit, iI_add, iI_sub, iI_mul, iI_neg, iI_lt, iI_le, iI_eq, zlt_t, zlt_f, zle_t, zle_f, zeq_t, zeq_f, nle_t, nle_f, iI_cl, rA, rS, rB, wA, wS, wB, mkp, mk2, uA_s, uA_n, ud_s, ud_n, bI_0, bI_1, nor_s, reduceIte, or_false, false_or, or_true, true_or, or_self, not_true_eq_false, not_false_eq_true, and_true, true_and, and_false, false_and, bI_T, bI_F, Int.reduceToNat, Nat.reduceAdd, Nat.reduceMul, Int.reduceNeg, Option.bind_some, Int.toNat_natCast, h5, show (came : Int) + 0 = came by omega]
      · have hkl : k < L.length := by omega
        have e7 := h7 k hkl
        have hdc : L.drop k = L.getD k 0 :: L.drop (k + 1) := by rw [List.drop_eq_getElem_cons hkl, List.getD_eq_getElem?_getD, List.getElem?_eq_getElem hkl]; rfl
        rw [hdc] at H ⊢
        rw [show n - k = (n - (k + 1)) + 1 by omega]
        unfold prB
        rw [e9, eg]
        by_cases hst : A1 16 13 = -1
        · rw [if_pos hst]
          obtain ⟨hc1, hc2⟩ := H.1 _ List.mem_cons_self
          have hcn : (L.getD k 0 : Int) < 400 := by have := N.nc2; omega
          have hdn : (L.getD k 0 :: L.drop (k + 1)).Nodup := hdc ▸ hLn.sublist (List.drop_sublist k L)
          by_cases h2 : A1 22 0 < 10
          · rw [if_pos h2]
            have ha : agq A (uA A1 16 13 (A1 16 9)) := ⟨by rw [uA_n (by omega)]; exact g.1, by rw [uA_n (by omega)]; exact g.2.1, by rw [uA_n (by omega)]; exact g.2.2.1, by rw [uA_n (by omega)]; exact g.2.2.2.1, by rw [uA_s, ud_n (by omega)]; exact g.2.2.2.2⟩
            have nx := ih (k + 1) came _ _ (by omega) (by omega) R.stop ha ⟨fun c hc => by rw [uA_n (by omega)]; exact H.1 c (List.mem_cons_of_mem _ hc), fun h0 => ⟨fun c hc => by rw [uA_n (by omega)]; exact (H.2 h0).1 c (List.mem_cons_of_mem _ hc), fun c d hc hd => (H.2 h0).2 c d (List.mem_cons_of_mem _ hc) (List.mem_cons_of_mem _ hd)⟩⟩ (by rw [uA_n (by omega)]; exact h5) (fun j hj => by rw [uA_n (by omega)]; exact h7 j hj)
            have e0 : ∀ l : List Nat, prB h l (n - (k + 1)) (uA B1 400 9 (B1 400 0)) = (uA B1 400 9 (B1 400 0), 0) := fun l => by
              cases l with
              | nil => exact prB_n _ _ _
              | cons c l =>
                cases n - (k + 1) with
                | zero => exact prB_0 _ _ _
                | succ m =>
                  unfold prB
                  rw [if_neg (by rw [uA_s, ud_s, ed]; omega)]
            rw [e0] at nx
            refine Eq.trans ?_ nx
            simp (disch := first | omega | (simp (disch := omega) only [uA_n]; done) | fail) only [iI_lit, iI_add, iI_sub, iI_mul, iI_neg, iI_lt, iI_le, iI_eq, zlt_t, zlt_f, zle_t, zle_f, zeq_t, zeq_f, nle_t, nle_f, iI_cl, rA, rS, rB, wA, wS, wB, mkp, mk2, uA_s, uA_n, ud_s, ud_n, bI_0, bI_1, nor_s, reduceIte, or_false, false_or, or_true, true_or, or_self, not_true_eq_false, not_false_eq_true, and_true, true_and, and_false, false_and, bI_T, bI_F, Int.reduceToNat, Nat.reduceAdd, Nat.reduceMul, Int.reduceNeg, Option.bind_some, Int.toNat_natCast, h5, dS, e9, ed, em_hs, eg]
            rfl
          · rw [if_neg h2]
            have R1 := R.pr1 N g hh hh2 (by omega) H
            have tl := R.gN.ntl (L.getD k 0) (by rw [g.1]; exact hc1)
            have nu := R.gN.nnu (L.getD k 0) (by rw [g.1]; exact hc1)
            have nf := R.gN.nf2
            have hb : 0 ≤ gB B1 h 433 (L.getD k 0) ∧ gB B1 h 433 (L.getD k 0) ≤ 8 := by rw [gB_o _ _ (by omega)]; omega
            have nx := ih (k + 1) (came + 1) _ _ (by omega) (by omega) R1 (g.st h _) (H.st2 N g hdn) (by rw [mPs_o _ _ _ hb (by omega), gB_o _ _ (by omega)]; exact h5) (fun j hj => by rw [mPs_o _ _ _ hb (by omega), gB_o _ _ (by omega)]; exact h7 j hj)
            have e1 := em_moves0 (B := gB B1 h) F Ax (L.getD k 0) (by omega) hcn (by rw [Int.toNat_natCast]; exact hb) (by rw [Int.toNat_natCast, gB_o _ _ (by omega)]; omega)
            rw [Int.toNat_natCast] at e1
            have e3 : mPs 0 (gB B1 h) (L.getD k 0) = mIn (mTr (uA (gB B1 h) 432 (L.getD k 0) 0) (L.getD k 0) 0) (L.getD k 0) := if_pos rfl
            have e5 : uA (uA B1 412 0 (A1 22 0 - 10)) 412 h (B1 412 h + 10) = gB B1 h := by unfold gB; rw [uA_s, ud_n (by omega), eg]
            rw [e3] at nx ⊢
            show _ = some (iI ((came : Int) + ((prB h (L.drop (k + 1)) (n - (k + 1)) (mIn (mTr (uA (gB B1 h) 432 (L.getD k 0) 0) (L.getD k 0) 0) (L.getD k 0))).2 + 1)), mk Ax (prB h (L.drop (k + 1)) (n - (k + 1)) (mIn (mTr (uA (gB B1 h) 432 (L.getD k 0) 0) (L.getD k 0) 0) (L.getD k 0))).1)
            rw [show (came : Int) + ((prB h (L.drop (k + 1)) (n - (k + 1)) (mIn (mTr (uA (gB B1 h) 432 (L.getD k 0) 0) (L.getD k 0) 0) (L.getD k 0))).2 + 1) = ((came + 1 : Nat) : Int) + (prB h (L.drop (k + 1)) (n - (k + 1)) (mIn (mTr (uA (gB B1 h) 432 (L.getD k 0) 0) (L.getD k 0) 0) (L.getD k 0))).2 by omega]
            refine Eq.trans ?_ nx
            have d130 : dec 130 = (412, 0) := by decide +kernel
            have e57 : gB B1 h 307 k = L.getD k 0 := by rw [gB_o _ _ (by omega)]; exact e7
            simp (disch := first | omega | (simp (disch := omega) only [uA_n]; done) | fail) only [iI_lit, iI_add, iI_sub, iI_mul, iI_neg, iI_lt, iI_le, iI_eq, zlt_t, zlt_f, zle_t, zle_f, zeq_t, zeq_f, nle_t, nle_f, iI_cl, rA, rS, rB, wA, wS, wB, mkp, mk2, uA_s, uA_n, ud_s, ud_n, bI_0, bI_1, nor_s, reduceIte, or_false, false_or, or_true, true_or, or_self, not_true_eq_false, not_false_eq_true, and_true, true_and, and_false, false_and, bI_T, bI_F, Int.reduceToNat, Nat.reduceAdd, Nat.reduceMul, Int.reduceNeg, Option.bind_some, Int.toNat_natCast, h5, dS, e9, em_hs, eg, d130, zH, e5, e57, e1, mk2 (show gB B1 h 399 = B1 399 from gB_o _ _ (by omega))]
            rfl
        · rw [if_neg hst]
          simp (disch := first | omega | (simp (disch := omega) only [uA_n]; done) | fail) only [iI_lit, iI_add, iI_sub, iI_mul, iI_neg, iI_lt, iI_le, iI_eq, zlt_t, zlt_f, zle_t, zle_f, zeq_t, zeq_f, nle_t, nle_f, iI_cl, rA, rS, rB, wA, wS, wB, mkp, mk2, uA_s, uA_n, ud_s, ud_n, bI_0, bI_1, nor_s, reduceIte, or_false, false_or, or_true, true_or, or_self, not_true_eq_false, not_false_eq_true, and_true, true_and, and_false, false_and, bI_T, bI_F, Int.reduceToNat, Nat.reduceAdd, Nat.reduceMul, Int.reduceNeg, Option.bind_some, Int.toNat_natCast, h5, dS, e9, show (came : Int) + 0 = came by omega]
theorem RR.pres (R : RR K D A0 B0 A B) (F : Nat) (hF : 1000 ≤ F) (Ax Bx : hI) {h n : Nat} (hh : 1 ≤ h) (hh2 : (h : Int) < A 19 11) (hn4 : n ≤ 400) (hK : K ≤ 1000000000) : ∃ (r : Int) (A' B' : hI), f_World_presentCopies F (iI h) (iI n) (mk A Bx) = some (iI r, mk A' Bx) ∧ f_m_presents F (iI h) (iI n) (mk Ax B) = some (iI r, mk Ax B') ∧ RR K D A0 B0 A' B' ∧ 0 ≤ r ∧ r ≤ 400 ∧ (∀ k : Nat, ¬ (3 ≤ k ∧ k ≤ 6) ∧ k ≠ 16 ∧ k ≠ 22 ∧ ¬ (55 ≤ k ∧ k ≤ 61) → A' k = A k) ∧ (∀ j : Nat, j ≠ 13 → A' 16 j = A 16 j) := by
  have hn := R.gH.hn2
  obtain ⟨A1, B1, f1, f2, R1, g, k1, k2, gd, hl⟩ := R.finds F hF Ax Bx hh hh2
  obtain ⟨B2, c1, c2, c3, c4⟩ := em_collect R1 F hF Ax h (by omega) (by omega)
  have R2 := R1.x3 c2
  have N := R1.gN
  have hC := N.nc2
  have e19 : A1 19 11 = A 19 11 := by rw [g.2.2.2.2.2]
  have hh3 : (h : Int) < A1 19 11 := by omega
  have hnd := pw_nd (hL_pw N h)
  have hl4 : (hL A1 h).length ≤ 400 := by have := hL_len N h; have := (sm_cnt (A1 55 7).toNat (fun e => A1 58 e = h)).2; omega
  have ok : psOK 0 h A1 A1 (hL A1 h) := ⟨fun c hc => (hL_mem N h c).mp hc, fun _ => gd⟩
  have x := ex_pres N F Bx (n := n) hh hh3 (by omega) hn4 hK F 0 0 A1 B2 (by omega) (by omega) (by omega) R2 ⟨rfl, rfl, rfl, rfl, rfl⟩ (fun _ _ => rfl) (by rw [hLs_0]; exact ok)
  have y := em_pres N F Ax (n := n) hh hh3 (by omega) hn4 hK (hL A1 h) hl4 hnd F 0 0 A1 B2 (by omega) (by omega) R2 ⟨rfl, rfl, rfl, rfl, rfl⟩ (by rw [List.drop_zero]; exact ok) c3 (fun j hj => (c4 j hj).1)
  obtain ⟨r1, r2, r3, r4, r5, r6⟩ := RR.prL N hh hh3 (hL A1 h) n A1 B2 R2 ⟨rfl, rfl, rfl, rfl, rfl⟩ hnd ok
  rw [hLs_0] at x
  rw [List.drop_zero] at y
  refine ⟨(prA h (hL A1 h) n A1).2, _, _, ?_, ?_, r1, r3, by omega, fun k hk => (r5 k hk).trans (k1 k (by omega)), fun j hj => (r6 j hj).trans (by rw [k1 16 (by omega)])⟩
  · unfold f_World_presentCopies
    have x' : f_World_presentCopies_17 F F (iI h) (iI n) (iI 0) (iI 0) (mk A1 Bx) = some (iI ((prA h (hL A1 h) n A1).2), mk (prA h (hL A1 h) n A1).1 Bx) := by
      refine Eq.trans x ?_
      rw [show (((0 : Nat) : Int) + (prA h (hL A1 (h : Int)) (n - 0) A1).2) = (prA h (hL A1 (h : Int)) n A1).2 by rw [Nat.sub_zero]; omega, Nat.sub_zero]
    simp (disch := first | omega | (simp (disch := omega) only [uA_n]; done) | fail) only [iI_lit, iI_add, iI_sub, iI_mul, iI_neg, iI_lt, iI_le, iI_eq, zlt_t, zlt_f, zle_t, zle_f, zeq_t, zeq_f, nle_t, nle_f, iI_cl, rA, rS, rB, wA, wS, wB, mkp, mk2, uA_s, uA_n, ud_s, ud_n, bI_0, bI_1, nor_s, reduceIte, or_false, false_or, or_true, true_or, or_self, not_true_eq_false, not_false_eq_true, and_true, true_and, and_false, false_and, bI_T, bI_F, Int.reduceToNat, Nat.reduceAdd, Nat.reduceMul, Int.reduceNeg, Option.bind_some, Int.toNat_natCast, f1, x']
  · unfold f_m_presents
    have y' : f_m_presents_17 F F (iI h) (iI n) (iI 0) (iI 0) (mk Ax B2) = some (iI ((prA h (hL A1 h) n A1).2), mk Ax (prB h (hL A1 h) n B2).1) := by
      refine Eq.trans y ?_
      rw [r2, show (((0 : Nat) : Int) + (prB h (hL A1 (h : Int)) (n - 0) B2).2) = (prB h (hL A1 (h : Int)) n B2).2 by rw [Nat.sub_zero]; omega, Nat.sub_zero]
    simp (disch := first | omega | (simp (disch := omega) only [uA_n]; done) | fail) only [iI_lit, iI_add, iI_sub, iI_mul, iI_neg, iI_lt, iI_le, iI_eq, zlt_t, zlt_f, zle_t, zle_f, zeq_t, zeq_f, nle_t, nle_f, iI_cl, rA, rS, rB, wA, wS, wB, mkp, mk2, uA_s, uA_n, ud_s, ud_n, bI_0, bI_1, nor_s, reduceIte, or_false, false_or, or_true, true_or, or_self, not_true_eq_false, not_false_eq_true, and_true, true_and, and_false, false_and, bI_T, bI_F, Int.reduceToNat, Nat.reduceAdd, Nat.reduceMul, Int.reduceNeg, Option.bind_some, Int.toNat_natCast, f2, c1, y']
end PRES
