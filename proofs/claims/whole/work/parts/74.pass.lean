/-! COPIES GO ALONG THE ORDER, on both sides -/
def gdL (A : hI) : Int → List Nat → List Nat
  | _, [] => []
  | last, c :: l => if A 56 (A 2 c).toNat = 1 ∧ A 2 c ≠ last then c :: gdL A (A 2 c) l else gdL A (A 2 c) l
theorem gdL_mem (A : hI) : ∀ (l : List Nat) (last : Int) (c : Nat), c ∈ l → c ∉ bd A last l → c ∈ gdL A last l := by
  intro l
  induction l with
  | nil => intro last c h; exact absurd h List.not_mem_nil
  | cons a l ih =>
    intro last c h hn
    by_cases g : A 56 (A 2 a).toNat = 1 ∧ A 2 a ≠ last
    · rw [bd_g g] at hn
      unfold gdL
      rw [if_pos g]
      rcases List.mem_cons.mp h with e | e
      · subst e; exact List.mem_cons_self
      · exact List.mem_cons_of_mem _ (ih _ _ e hn)
    · rw [bd_b g] at hn
      unfold gdL
      rw [if_neg g]
      rcases List.mem_cons.mp h with e | e
      · subst e; exact absurd List.mem_cons_self hn
      · exact ih _ _ e (fun z => hn (List.mem_cons_of_mem _ z))
theorem gdL_pw (A : hI) : ∀ (l : List Nat) (last : Int), l.Pairwise (lx (A 2)) → (∀ c ∈ l, last ≤ A 2 c) → (∀ c ∈ gdL A last l, A 56 (A 2 c).toNat = 1 ∧ last < A 2 c) ∧ ∀ c d, c ∈ gdL A last l → d ∈ gdL A last l → A 2 c = A 2 d → c = d := by
  intro l
  induction l with
  | nil => intro last _ _; exact ⟨fun c h => absurd h List.not_mem_nil, fun c d h => absurd h List.not_mem_nil⟩
  | cons a l ih =>
    intro last hp hl
    obtain ⟨h1, h2⟩ := List.pairwise_cons.mp hp
    have ha := hl a List.mem_cons_self
    obtain ⟨i1, i2⟩ := ih (A 2 a) h2 (fun c hc => by have := h1 c hc; unfold lx at this; omega)
    by_cases g : A 56 (A 2 a).toNat = 1 ∧ A 2 a ≠ last
    · unfold gdL
      rw [if_pos g]
      refine ⟨fun c hc => ?_, fun c d hc hd e => ?_⟩
      · rcases List.mem_cons.mp hc with z | z
        · subst z; exact ⟨g.1, by omega⟩
        · have := i1 c z; exact ⟨this.1, by omega⟩
      · rcases List.mem_cons.mp hc with z | z <;> rcases List.mem_cons.mp hd with y | y
        · rw [z, y]
        · have := i1 d y; rw [z] at e; omega
        · have := i1 c z; rw [y] at e; omega
        · exact i2 c d z y e
    · unfold gdL
      rw [if_neg g]
      exact ⟨fun c hc => by have := i1 c hc; exact ⟨this.1, by omega⟩, i2⟩
/-- a house's copies are good: their numbers are OUT, each but once -/
def gud (A : hI) (h : Int) : Prop := (∀ c ∈ hL A h, A 56 (A 2 c).toNat = 1) ∧ ∀ c d, c ∈ hL A h → d ∈ hL A h → A 2 c = A 2 d → c = d
section PASS
variable {K D : Int} {A0 B0 A B A' B' : hI}
theorem RR.finds (R : RR K D A0 B0 A B) (F : Nat) (hF : 1000 ≤ F) (Ax Bx : hI) {h : Nat} (hh : 1 ≤ h) (hh2 : (h : Int) < A 19 11) : ∃ A' B' : hI, f_Notes_findForged F (iI h) (iI (A 16 9)) (mk A Bx) = some ((), mk A' Bx) ∧ f_m_finds F (iI h) (mk Ax B) = some ((), mk Ax B') ∧ RR K D A0 B0 A' B' ∧ ag A A' ∧ (∀ k : Nat, k ≠ 4 ∧ k ≠ 5 ∧ k ≠ 6 ∧ k ≠ 55 ∧ k ≠ 58 ∧ k ≠ 61 → A' k = A k) ∧ (∀ j : Nat, j ≠ 12 → A' 55 j = A 55 j) ∧ gud A' h ∧ hL A' h = gdL A (-1) (hL A h) := by
  have N := R.gN
  have hn := R.gH.hn2
  have hC := N.nc2
  obtain ⟨B2, c1, c2, c3, c4⟩ := em_collect R F hF Ax h (by omega) (by omega)
  have R2 := R.x3 c2
  have hlm : ∀ c ∈ hL A h, (c : Int) < A 55 7 ∧ A 58 c = h := fun c hc => (hL_mem N h c).mp hc
  have hnd := pw_nd (hL_pw N h)
  have hbs := bd_sub A (hL A h) (-1)
  obtain ⟨r1, r2, r3, r4, r5, r6⟩ := RR.fdL (A := A) hh (bd A (-1) (hL A h)) R2 (ag.rf A) (hnd.sublist hbs) (fun c hc => hlm c (hbs.subset hc))
  have x := ex_findF N F Bx hh (by omega) F 0 (-1) A B2 (by omega) (by omega) (by omega) (by omega) R2 (ag.rf A) (fun _ _ => rfl)
  rw [hLs_0] at x
  have hl4 : (hL A h).length ≤ 400 := by have := hL_len N h; have := (sm_cnt (A 55 7).toNat (fun e => A 58 e = h)).2; omega
  have y := em_findF (A0 := A0) (B0 := B0) (K := K) (D := D) N F Ax hh (by omega) (hL A h) hl4 (fun c hc => (hlm c hc).1) hnd F 0 A B2 (by omega) (by omega) R2 (ag.rf A) (fun c hc => (hlm c (List.drop_subset _ _ hc)).2) c3 c4
  rw [if_pos rfl, List.drop_zero] at y
  have memA : ∀ c, c ∈ hL (xFdL A h (A 16 9) (bd A (-1) (hL A h))) h → c ∈ gdL A (-1) (hL A h) := by
    intro c hc
    obtain ⟨m1, m2⟩ := (hL_mem r1.gN h c).mp hc
    rw [r2.1] at m1
    rw [r3] at m2
    by_cases e : c ∈ bd A (-1) (hL A h)
    · rw [if_pos e] at m2; omega
    · rw [if_neg e] at m2
      exact gdL_mem A _ _ _ ((hL_mem N h c).mpr ⟨m1, m2⟩) e
  have gp := gdL_pw A (hL A h) (-1) (hL_pw N h) (fun c hc => by have := N.nnu c (hlm c hc).1; omega)
  refine ⟨_, _, x, ?_, r1, r2, r4, r6, ⟨fun c hc => ?_, fun c d hc hd e => ?_⟩, ?_⟩
  · unfold f_m_finds
    rw [c1]
    exact y
  · rw [r2.2.2.1, r2.2.1]; exact (gp.1 c (memA c hc)).1
  · rw [r2.2.1] at e; exact gp.2 c d (memA c hc) (memA d hd) e
  · have sub : ∀ (l : List Nat) (last : Int), List.Sublist (gdL A last l) l := by
      intro l
      induction l with
      | nil => intro last; exact List.Sublist.refl _
      | cons c l ih =>
        intro last
        unfold gdL
        split
        · exact (ih _).cons_cons _
        · exact (ih _).cons _
    have dis : ∀ (l : List Nat) (last : Int) (c : Nat), l.Nodup → c ∈ gdL A last l → c ∉ bd A last l := by
      intro l
      induction l with
      | nil => intro last c _ h; exact absurd h List.not_mem_nil
      | cons a l ih =>
        intro last c hnd h
        obtain ⟨n1, n2⟩ := List.nodup_cons.mp hnd
        by_cases g : A 56 (A 2 a).toNat = 1 ∧ A 2 a ≠ last
        · rw [bd_g g]
          unfold gdL at h
          rw [if_pos g] at h
          rcases List.mem_cons.mp h with z | z
          · subst z; exact fun w => n1 ((bd_sub A l _).subset w)
          · exact ih _ _ n2 z
        · rw [bd_b g]
          unfold gdL at h
          rw [if_neg g] at h
          intro w
          rcases List.mem_cons.mp w with z | z
          · subst z; exact n1 ((sub l _).subset h)
          · exact ih _ _ n2 h z
    refine pw_ext (lx_irr (A 2)) (lx_asy (A 2)) ?_ ((hL_pw N h).sublist (sub _ _)) fun c => ⟨memA c, fun hc => ?_⟩
    · have := hL_pw r1.gN h
      rw [r2.2.1] at this
      exact this
    · have hc1 := (sub _ _).subset hc
      refine (hL_mem r1.gN h c).mpr ⟨by rw [r2.1]; exact (hlm c hc1).1, ?_⟩
      rw [r3, if_neg (dis _ _ _ hnd hc)]
      exact (hlm c hc1).2
def xPs (to : Int) (A : hI) (c : Nat) : hI := if to = 0 then xMv (xMk A c) c 0 else xMv A c to
def mPs (to : Int) (B : hI) (c : Nat) : hI := if to = 0 then mIn (mTr (uA B 432 c 0) c 0) c else mTr (uA B 432 c to) c to
def agp (A A1 : hI) : Prop := A1 55 7 = A 55 7 ∧ A1 2 = A 2 ∧ A1 60 = A 60 ∧ A1 16 = A 16 ∧ A1 19 = A 19 ∧ A1 22 = A 22
theorem xMk_o (A : hI) (c : Nat) {k : Nat} (h : k ≠ 55 ∧ k ≠ 56 ∧ k ≠ 57) : xMk A c k = A k := by unfold xMk; rw [uA_n (by omega), uA_n (by omega), uA_n (by omega), uA_n (by omega)]
theorem xPs_58 (to : Int) (A : hI) (c : Nat) : xPs to A c 58 = ud (A 58) c to := by
  unfold xPs
  by_cases h : to = 0
  · rw [if_pos h, xMv_58, xMk_o _ _ (by omega), h]
  · rw [if_neg h, xMv_58]
theorem xPs_o (to : Int) (A : hI) (c : Nat) {k : Nat} (h : k ≠ 3 ∧ k ≠ 55 ∧ k ≠ 56 ∧ k ≠ 57 ∧ k ≠ 58 ∧ k ≠ 59 ∧ k ≠ 61) : xPs to A c k = A k := by
  unfold xPs
  by_cases h0 : to = 0
  · rw [if_pos h0, xMv_o _ _ _ (by omega), xMk_o _ _ (by omega)]
  · rw [if_neg h0, xMv_o _ _ _ (by omega)]
theorem xPs_7 (to : Int) (A : hI) (c : Nat) : xPs to A c 55 7 = A 55 7 ∧ xPs to A c 55 8 = A 55 8 := by
  unfold xPs
  by_cases h0 : to = 0
  · rw [if_pos h0, xMv_o _ _ _ (by omega)]; unfold xMk; constructor <;> simp (disch := first | omega | (simp (disch := omega) only [uA_n]; done) | fail) only [iI_lit, iI_add, iI_sub, iI_mul, iI_neg, iI_lt, iI_le, iI_eq, zlt_t, zlt_f, zle_t, zle_f, zeq_t, zeq_f, nle_t, nle_f, iI_cl, rA, rS, rB, wA, wS, wB, mkp, mk2, uA_s, uA_n, ud_s, ud_n, bI_0, bI_1, nor_s, reduceIte, or_false, false_or, or_true, true_or, or_self, not_true_eq_false, not_false_eq_true, and_true, true_and, and_false, false_and, bI_T, bI_F, Int.reduceToNat, Nat.reduceAdd, Nat.reduceMul, Int.reduceNeg, Option.bind_some, Int.toNat_natCast]
  · rw [if_neg h0, xMv_o _ _ _ (by omega)]; exact ⟨rfl, rfl⟩
theorem xPs_56 (to : Int) (A : hI) (c : Nat) : xPs to A c 56 = if to = 0 then ud (A 56) (A 2 c).toNat 2 else A 56 := by
  unfold xPs
  by_cases h0 : to = 0
  · rw [if_pos h0, if_pos h0, xMv_o _ _ _ (by omega)]; unfold xMk; simp (disch := first | omega | (simp (disch := omega) only [uA_n]; done) | fail) only [iI_lit, iI_add, iI_sub, iI_mul, iI_neg, iI_lt, iI_le, iI_eq, zlt_t, zlt_f, zle_t, zle_f, zeq_t, zeq_f, nle_t, nle_f, iI_cl, rA, rS, rB, wA, wS, wB, mkp, mk2, uA_s, uA_n, ud_s, ud_n, bI_0, bI_1, nor_s, reduceIte, or_false, false_or, or_true, true_or, or_self, not_true_eq_false, not_false_eq_true, and_true, true_and, and_false, false_and, bI_T, bI_F, Int.reduceToNat, Nat.reduceAdd, Nat.reduceMul, Int.reduceNeg, Option.bind_some, Int.toNat_natCast]
  · rw [if_neg h0, if_neg h0, xMv_o _ _ _ (by omega)]
theorem mPs_o (to : Int) (B : hI) (c : Nat) {k : Nat} (hb : 0 ≤ B 433 c ∧ B 433 c ≤ 8) (h : k ≠ 422 ∧ k ≠ 423 ∧ ¬ (432 ≤ k ∧ k ≤ 441)) : mPs to B c k = B k := by
  have hb1 : ∀ t : Int, 0 ≤ uA B 432 c t 433 c ∧ uA B 432 c t 433 c ≤ 8 := fun t => by rw [uA_n (by omega)]; exact hb
  unfold mPs
  by_cases h0 : to = 0
  · rw [if_pos h0]; unfold mIn; rw [uA_n (by omega), uA_n (by omega), mTr_o _ _ _ (hb1 0) (by omega), uA_n (by omega)]
  · rw [if_neg h0, mTr_o _ _ _ (hb1 to) (by omega), uA_n (by omega)]
theorem agp.ps {A1 : hI} (g : agp A A1) (to : Int) (c : Nat) : agp A (xPs to A1 c) := by
  obtain ⟨g1, g2, g3, g4, g5, g6⟩ := g
  exact ⟨(xPs_7 to A1 c).1.trans g1, (xPs_o _ _ _ (by omega)).trans g2, (xPs_o _ _ _ (by omega)).trans g3, (xPs_o _ _ _ (by omega)).trans g4, (xPs_o _ _ _ (by omega)).trans g5, (xPs_o _ _ _ (by omega)).trans g6⟩
theorem RR.ps (R : RR K D A0 B0 A B) {to : Int} {c : Nat} (hc : (c : Int) < A 55 7) (hg : 1 ≤ A 58 c) (ht0 : 0 ≤ to) (ht : to < A 19 11) (hs : to = 0 → A 56 (A 2 c).toNat = 1) : RR K D A0 B0 (xPs to A c) (mPs to B c) := by
  unfold xPs mPs
  by_cases h0 : to = 0
  · rw [if_pos h0, if_pos h0]; exact R.mvIn hc hg (hs h0)
  · rw [if_neg h0, if_neg h0]; exact R.mv hc hg (by omega) ht
def xPsL (to : Int) (A : hI) (l : List Nat) : hI := l.foldl (xPs to) A
def mPsL (to : Int) (B : hI) (l : List Nat) : hI := l.foldl (mPs to) B
/-- what the walk asks of the copies that are still to go -/
def psOK (to h : Int) (A A1 : hI) (l : List Nat) : Prop := (∀ c ∈ l, (c : Int) < A 55 7 ∧ A1 58 c = h) ∧ (to = 0 → (∀ c ∈ l, A1 56 (A 2 c).toNat = 1) ∧ ∀ c d, c ∈ l → d ∈ l → A 2 c = A 2 d → c = d)
theorem psOK.st {to h : Int} {A1 : hI} {c : Nat} {l : List Nat} (N : WN A A B) (g : agp A A1) (H : psOK to h A A1 (c :: l)) (hnd : (c :: l).Nodup) : psOK to h A (xPs to A1 c) l := by
  obtain ⟨n1, n2⟩ := List.nodup_cons.mp hnd
  refine ⟨fun e he => ⟨(H.1 e (List.mem_cons_of_mem _ he)).1, by rw [xPs_58, ud_n (show e ≠ c from fun z => n1 (z ▸ he))]; exact (H.1 e (List.mem_cons_of_mem _ he)).2⟩, fun h0 => ⟨fun e he => ?_, fun e d he hd => (H.2 h0).2 e d (List.mem_cons_of_mem _ he) (List.mem_cons_of_mem _ hd)⟩⟩
  have h1 := N.nnu e (H.1 e (List.mem_cons_of_mem _ he)).1
  have h2 := N.nnu c (H.1 c List.mem_cons_self).1
  rw [xPs_56, if_pos h0, g.2.1, ud_n]
  · exact (H.2 h0).1 e (List.mem_cons_of_mem _ he)
  · intro z
    exact n1 (((H.2 h0).2 e c (List.mem_cons_of_mem _ he) List.mem_cons_self (by omega)) ▸ he)
theorem RR.psL {to : Int} {h : Nat} (hh : 1 ≤ h) (ht0 : 0 ≤ to) (N : WN A A B) : ∀ (l : List Nat) {A1 B1 : hI}, RR K D A0 B0 A1 B1 → agp A A1 → to < A 19 11 → l.Nodup → psOK to h A A1 l → RR K D A0 B0 (xPsL to A1 l) (mPsL to B1 l) ∧ agp A (xPsL to A1 l) ∧ (∀ k : Nat, k ≠ 3 ∧ k ≠ 55 ∧ k ≠ 56 ∧ k ≠ 57 ∧ k ≠ 58 ∧ k ≠ 59 ∧ k ≠ 61 → xPsL to A1 l k = A1 k) := by
  intro l
  induction l with
  | nil => intro A1 B1 R g _ _ _; exact ⟨R, g, fun _ _ => rfl⟩
  | cons c l ih =>
    intro A1 B1 R g ht hnd H
    obtain ⟨hc1, hc2⟩ := H.1 c List.mem_cons_self
    have R1 := R.ps (to := to) (c := c) (by rw [g.1]; exact hc1) (by omega) ht0 (by rw [g.2.2.2.2.1]; exact ht) (fun h0 => by rw [g.2.1]; exact (H.2 h0).1 c List.mem_cons_self)
    obtain ⟨r1, r2, r3⟩ := ih R1 (g.ps to c) ht (List.nodup_cons.mp hnd).2 (H.st N g hnd)
    exact ⟨r1, r2, fun k hk => (r3 k hk).trans (xPs_o _ _ _ hk)⟩
theorem ex_pass (N : WN A A B) (F : Nat) (Bx : hI) {h : Nat} {to : Int} (hh : 1 ≤ h) (hh2 : h < 16) (ht0 : 0 ≤ to) (ht : to < A 19 11) (hn : A 19 11 ≤ 16) : ∀ (q i left : Nat) (A1 B1 : hI), (A 55 7).toNat - i < q → i ≤ (A 55 7).toNat → left ≤ 100000 → RR K D A0 B0 A1 B1 → agp A A1 → (∀ c ∈ (oL A).drop i, A1 58 c = A 58 c) → psOK to h A A1 (hLs A h i) → f_Notes_pass_6 F q (iI h) (iI to) (iI left) (iI i) (mk A1 Bx) = some ((), mk (xPsL to A1 ((hLs A h i).take left)) Bx) := by
  intro q
  induction q with
  | zero => intro i left A1 B1 hq; omega
  | succ q ih =>
    intro i left A1 B1 hq hi hl R g h58 H
    have hC := N.nc2
    have hC0 := N.nc1
    rw [f_Notes_pass_6]
    by_cases hin : i = (A 55 7).toNat
    · rw [hLs_end A h (by omega)]
      simp only [f_Notes_pass_66, List.take_nil, xPsL, List.foldl_nil]
      simp (disch := first | omega | (simp (disch := omega) only [uA_n]; done) | fail) only [iI_lit, iI_add, iI_sub, iI_mul, iI_neg, iI_lt, iI_le, iI_eq, zlt_t, zlt_f, zle_t, zle_f, zeq_t, zeq_f, nle_t, nle_f, iI_cl, rA, rS, rB, wA, wS, wB, mkp, mk2, uA_s, uA_n, ud_s, ud_n, bI_0, bI_1, nor_s, reduceIte, or_false, false_or, or_true, true_or, or_self, not_true_eq_false, not_false_eq_true, and_true, true_and, and_false, false_and, bI_T, bI_F, Int.reduceToNat, Nat.reduceAdd, Nat.reduceMul, Int.reduceNeg, Option.bind_some, Int.toNat_natCast, g.1]
    · by_cases hl0 : left = 0
      · subst hl0
        simp only [f_Notes_pass_66, List.take_zero, xPsL, List.foldl_nil]
        simp (disch := first | omega | (simp (disch := omega) only [uA_n]; done) | fail) only [iI_lit, iI_add, iI_sub, iI_mul, iI_neg, iI_lt, iI_le, iI_eq, zlt_t, zlt_f, zle_t, zle_f, zeq_t, zeq_f, nle_t, nle_f, iI_cl, rA, rS, rB, wA, wS, wB, mkp, mk2, uA_s, uA_n, ud_s, ud_n, bI_0, bI_1, nor_s, reduceIte, or_false, false_or, or_true, true_or, or_self, not_true_eq_false, not_false_eq_true, and_true, true_and, and_false, false_and, bI_T, bI_F, Int.reduceToNat, Nat.reduceAdd, Nat.reduceMul, Int.reduceNeg, Option.bind_some, Int.toNat_natCast, g.1]
      · have no := N.nor i (by omega)
        have nu := N.nnu (A 60 i).toNat (by omega)
        have nf := N.nf2
        have nho := N.nho (A 60 i).toNat (by omega)
        have hmem : (A 60 i).toNat ∈ (oL A).drop i := by rw [oL_drop (by omega)]; exact List.mem_cons_self
        have e58 := h58 _ hmem
        have hsub : ∀ c ∈ (oL A).drop (i + 1), c ∈ (oL A).drop i := fun c hc => by rw [oL_drop (by omega)]; exact List.mem_cons_of_mem _ hc
        have hne : ∀ c ∈ (oL A).drop (i + 1), c ≠ (A 60 i).toNat := fun c hc e => by
          have := (pw_nd (oL_pw N)).sublist (List.drop_sublist i _)
          rw [oL_drop (by omega)] at this
          exact (List.nodup_cons.mp this).1 (e ▸ hc)
        have hnd := (pw_nd (hL_pw N h)).sublist (hLs_sub A h i)
        rw [hLs_st (by omega)] at H hnd ⊢
        by_cases hm : A 58 (A 60 i).toNat = h
        · rw [if_pos hm] at H hnd ⊢
          have em : A1 58 (A 60 i).toNat = h := e58.trans hm
          have g1 := g.1
          have tl := R.gN.ntl (A 60 i).toNat (by omega)
          have R1 := R.ps (to := to) (c := (A 60 i).toNat) (by omega) (by omega) ht0 (by rw [g.2.2.2.2.1]; exact ht) (fun h0 => by rw [g.2.1]; exact (H.2 h0).1 _ List.mem_cons_self)
          have nx := ih (i + 1) (left - 1) (xPs to A1 (A 60 i).toNat) _ (by omega) (by omega) (by omega) R1 (g.ps to _) (fun c hc => by rw [xPs_58, ud_n (hne c hc)]; exact h58 c (hsub c hc)) (H.st N g hnd)
          rw [show left = (left - 1) + 1 by omega, List.take_succ_cons]
          refine Eq.trans ?_ nx
          unfold xPs
          simp only [f_Notes_pass_60, f_Notes_pass_50]
          by_cases h0 : to = 0
          · subst h0
            have e1 := ex_markIn (A := A1) F Bx (A 60 i) no.1 (by omega) (by rw [g.2.1]; omega)
            have e2 := ex_moveTo (A := xMk A1 (A 60 i).toNat) F Bx (A 60 i) 0 no.1 (by omega) (by rw [xMk_o _ _ (by omega)]; omega) (by rw [xMk_o _ _ (by omega)]; exact tl.2) (by omega)
            rw [if_pos rfl]
            simp (disch := first | omega | (simp (disch := omega) only [uA_n]; done) | fail) only [iI_lit, iI_add, iI_sub, iI_mul, iI_neg, iI_lt, iI_le, iI_eq, zlt_t, zlt_f, zle_t, zle_f, zeq_t, zeq_f, nle_t, nle_f, iI_cl, rA, rS, rB, wA, wS, wB, mkp, mk2, uA_s, uA_n, ud_s, ud_n, bI_0, bI_1, nor_s, reduceIte, or_false, false_or, or_true, true_or, or_self, not_true_eq_false, not_false_eq_true, and_true, true_and, and_false, false_and, bI_T, bI_F, Int.reduceToNat, Nat.reduceAdd, Nat.reduceMul, Int.reduceNeg, Option.bind_some, Int.toNat_natCast, g.1, g.2.2.1, em, e1, e2]
            rw [show ((left - 1 + 1 : Nat) : Int) + -1 = ((left - 1 : Nat) : Int) by omega]
            rfl
          · have e2 := ex_moveTo (A := A1) F Bx (A 60 i) to no.1 (by omega) (by omega) tl.2 (by omega)
            rw [if_neg h0]
            simp (disch := first | omega | (simp (disch := omega) only [uA_n]; done) | fail) only [iI_lit, iI_add, iI_sub, iI_mul, iI_neg, iI_lt, iI_le, iI_eq, zlt_t, zlt_f, zle_t, zle_f, zeq_t, zeq_f, nle_t, nle_f, iI_cl, rA, rS, rB, wA, wS, wB, mkp, mk2, uA_s, uA_n, ud_s, ud_n, bI_0, bI_1, nor_s, reduceIte, or_false, false_or, or_true, true_or, or_self, not_true_eq_false, not_false_eq_true, and_true, true_and, and_false, false_and, bI_T, bI_F, Int.reduceToNat, Nat.reduceAdd, Nat.reduceMul, Int.reduceNeg, Option.bind_some, Int.toNat_natCast, g.1, g.2.2.1, em, e2]
            rw [show ((left - 1 + 1 : Nat) : Int) + -1 = ((left - 1 : Nat) : Int) by omega]
            rfl
        · rw [if_neg hm] at H hnd ⊢
          refine Eq.trans ?_ (ih (i + 1) left A1 B1 (by omega) (by omega) hl R g (fun c hc => h58 c (hsub c hc)) H)
          simp only [f_Notes_pass_60]
          have e19 : A1 19 11 = A 19 11 := by rw [g.2.2.2.2.1]
          simp (disch := first | omega | (simp (disch := omega) only [uA_n]; done) | fail) only [iI_lit, iI_add, iI_sub, iI_mul, iI_neg, iI_lt, iI_le, iI_eq, zlt_t, zlt_f, zle_t, zle_f, zeq_t, zeq_f, nle_t, nle_f, iI_cl, rA, rS, rB, wA, wS, wB, mkp, mk2, uA_s, uA_n, ud_s, ud_n, bI_0, bI_1, nor_s, reduceIte, or_false, false_or, or_true, true_or, or_self, not_true_eq_false, not_false_eq_true, and_true, true_and, and_false, false_and, bI_T, bI_F, Int.reduceToNat, Nat.reduceAdd, Nat.reduceMul, Int.reduceNeg, Option.bind_some, Int.toNat_natCast, g.1, g.2.2.1, e58]
          rfl
theorem em_pass (N : WN A A B) (F : Nat) (Ax : hI) {h : Nat} {to : Int} (hh : 1 ≤ h) (hh2 : h < 16) (ht0 : 0 ≤ to) (ht : to < A 19 11) (hn : A 19 11 ≤ 16) (L : List Nat) (hL4 : L.length ≤ 400) (hLn : L.Nodup) : ∀ (q k : Nat) (s : Int) (A1 B1 : hI), L.length - k < q → k ≤ L.length → 0 ≤ s → s ≤ 1000000 → RR K D A0 B0 A1 B1 → agp A A1 → psOK to h A A1 (L.drop k) → B1 304 5 = L.length → (∀ j : Nat, j < L.length → B1 307 j = L.getD j 0) → f_m_gives_50 F q (iI h) (iI to) (iI s) (iI k) (mk Ax B1) = f_m_gives_87 F (iI h) (iI to) (iI (s - 10 * (min (s / 10) ((L.length : Int) - k)))) (mk Ax (mPsL to B1 ((L.drop k).take (s / 10).toNat))) := by
  intro q
  induction q with
  | zero => intro k s A1 B1 hq; omega
  | succ q ih =>
    intro k s A1 B1 hq hk hs hs2 R g H h5 h7
    rw [f_m_gives_50]
    by_cases hin : k = L.length
    · rw [List.drop_of_length_le (by omega)]
      simp only [List.take_nil, mPsL, List.foldl_nil]
      simp (disch := first | omega | (simp (disch := omega) only [uA_n]; done) | fail) only [iI_lit, iI_add, iI_sub, iI_mul, iI_neg, iI_lt, iI_le, iI_eq, zlt_t, zlt_f, zle_t, zle_f, zeq_t, zeq_f, nle_t, nle_f, iI_cl, rA, rS, rB, wA, wS, wB, mkp, mk2, uA_s, uA_n, ud_s, ud_n, bI_0, bI_1, nor_s, reduceIte, or_false, false_or, or_true, true_or, or_self, not_true_eq_false, not_false_eq_true, and_true, true_and, and_false, false_and, bI_T, bI_F, Int.reduceToNat, Nat.reduceAdd, Nat.reduceMul, Int.reduceNeg, Option.bind_some, Int.toNat_natCast, h5]
      rw [show s - 10 * min (s / 10) ((L.length : Int) - k) = s by omega]
    · by_cases hs0 : s < 10
      · rw [show (s / 10).toNat = 0 by omega]
        simp only [List.take_zero, mPsL, List.foldl_nil]
        simp (disch := first | omega | (simp (disch := omega) only [uA_n]; done) | fail) only [iI_lit, iI_add, iI_sub, iI_mul, iI_neg, iI_lt, iI_le, iI_eq, zlt_t, zlt_f, zle_t, zle_f, zeq_t, zeq_f, nle_t, nle_f, iI_cl, rA, rS, rB, wA, wS, wB, mkp, mk2, uA_s, uA_n, ud_s, ud_n, bI_0, bI_1, nor_s, reduceIte, or_false, false_or, or_true, true_or, or_self, not_true_eq_false, not_false_eq_true, and_true, true_and, and_false, false_and, bI_T, bI_F, Int.reduceToNat, Nat.reduceAdd, Nat.reduceMul, Int.reduceNeg, Option.bind_some, Int.toNat_natCast, h5]
        rw [show s - 10 * min (s / 10) ((L.length : Int) - k) = s by omega]
      · have hkl : k < L.length := by omega
        have e7 := h7 k hkl
        have hdc : L.drop k = L.getD k 0 :: L.drop (k + 1) := by rw [List.drop_eq_getElem_cons hkl, List.getD_eq_getElem?_getD, List.getElem?_eq_getElem hkl]; rfl
        rw [hdc] at H ⊢
        obtain ⟨hc1, hc2⟩ := H.1 _ List.mem_cons_self
        have hcn : (L.getD k 0 : Int) < 400 := by have := N.nc2; omega
        have hdn : (L.getD k 0 :: L.drop (k + 1)).Nodup := hdc ▸ hLn.sublist (List.drop_sublist k L)
        have tl := R.gN.ntl (L.getD k 0) (by rw [g.1]; exact hc1)
        have nu := R.gN.nnu (L.getD k 0) (by rw [g.1]; exact hc1)
        have nf := R.gN.nf2
        have R1 := R.ps (to := to) (c := L.getD k 0) (by rw [g.1]; exact hc1) (by omega) ht0 (by rw [g.2.2.2.2.1]; exact ht) (fun h0 => by rw [g.2.1]; exact (H.2 h0).1 _ List.mem_cons_self)
        have hb : 0 ≤ B1 433 (L.getD k 0) ∧ B1 433 (L.getD k 0) ≤ 8 := by omega
        have nx := ih (k + 1) (s - 10) (xPs to A1 (L.getD k 0)) (mPs to B1 (L.getD k 0)) (by omega) (by omega) (by omega) (by omega) R1 (g.ps to _) (H.st N g hdn) (by rw [mPs_o _ _ _ hb (by omega)]; exact h5) (fun j hj => by rw [mPs_o _ _ _ hb (by omega)]; exact h7 j hj)
        rw [show (s / 10).toNat = ((s - 10) / 10).toNat + 1 by omega, List.take_succ_cons]
        rw [show s - 10 * min (s / 10) ((L.length : Int) - k) = s - 10 - 10 * min ((s - 10) / 10) ((L.length : Int) - ((k + 1 : Nat) : Int)) by omega]
        refine Eq.trans ?_ nx
        unfold mPs
        by_cases h0 : to = 0
        · subst h0
          have e1 := em_moves0 (B := B1) F Ax (L.getD k 0) (by omega) hcn (by rw [Int.toNat_natCast]; exact hb) (by rw [Int.toNat_natCast]; omega)
          rw [Int.toNat_natCast] at e1
          rw [if_pos rfl]
          simp (disch := first | omega | (simp (disch := omega) only [uA_n]; done) | fail) only [iI_lit, iI_add, iI_sub, iI_mul, iI_neg, iI_lt, iI_le, iI_eq, zlt_t, zlt_f, zle_t, zle_f, zeq_t, zeq_f, nle_t, nle_f, iI_cl, rA, rS, rB, wA, wS, wB, mkp, mk2, uA_s, uA_n, ud_s, ud_n, bI_0, bI_1, nor_s, reduceIte, or_false, false_or, or_true, true_or, or_self, not_true_eq_false, not_false_eq_true, and_true, true_and, and_false, false_and, bI_T, bI_F, Int.reduceToNat, Nat.reduceAdd, Nat.reduceMul, Int.reduceNeg, Option.bind_some, Int.toNat_natCast, h5, e7, e1]
          rw [show s + -10 = s - 10 by omega]
          rfl
        · have e1 := em_moves (B := B1) F Ax (L.getD k 0) to (by omega) hcn (by rw [Int.toNat_natCast]; exact hb) (by omega) (by omega)
          rw [Int.toNat_natCast] at e1
          rw [if_neg h0]
          simp (disch := first | omega | (simp (disch := omega) only [uA_n]; done) | fail) only [iI_lit, iI_add, iI_sub, iI_mul, iI_neg, iI_lt, iI_le, iI_eq, zlt_t, zlt_f, zle_t, zle_f, zeq_t, zeq_f, nle_t, nle_f, iI_cl, rA, rS, rB, wA, wS, wB, mkp, mk2, uA_s, uA_n, ud_s, ud_n, bI_0, bI_1, nor_s, reduceIte, or_false, false_or, or_true, true_or, or_self, not_true_eq_false, not_false_eq_true, and_true, true_and, and_false, false_and, bI_T, bI_F, Int.reduceToNat, Nat.reduceAdd, Nat.reduceMul, Int.reduceNeg, Option.bind_some, Int.toNat_natCast, h5, e7, e1]
          rw [show s + -10 = s - 10 by omega]
          rfl
end PASS
