/-! THE WEEK'S SHEET -/
theorem and1 (x : Int32) : x &&& 1 = 0 ∨ x &&& 1 = 1 := by
  have h : (x &&& 1).toBitVec = x.toBitVec &&& 1#32 := rfl
  have t : (x.toBitVec &&& 1#32).toNat = x.toBitVec.toNat % 2 := by
    rw [BitVec.toNat_and]
    show x.toBitVec.toNat &&& 1 = _
    exact Nat.and_one_is_mod _
  rcases Nat.mod_two_eq_zero_or_one x.toBitVec.toNat with e | e
  · left
    apply Int32.toBitVec_inj.mp
    apply BitVec.eq_of_toNat_eq
    rw [h, t, e]; rfl
  · right
    apply Int32.toBitVec_inj.mp
    apply BitVec.eq_of_toNat_eq
    rw [h, t, e]; rfl
def bcq (A : hI) (H : Int) (q : Nat) : Int := if A 37 q = 0 ∧ A 35 q = 0 ∧ ((A 32 q = 3 ∧ ¬ H < A 16 9 - A 44 q) ∨ (A 32 q = 1 ∧ A 40 q = 0)) then A 33 q else 0
def lcq (A : hI) (H : Int) (q : Nat) : Int := if A 37 q = 0 ∧ A 35 q = 0 ∧ A 32 q = 3 ∧ H < A 16 9 - A 44 q then A 33 q else 0
def mkA (A : hI) (k : Nat) (S : Int32) (n : Nat) : hI := fun c => if c = 7 then (fun j => if 6 * k ≤ j ∧ j < 6 * k + n ∧ (S >>> (iI ((j - 6 * k : Nat) : Int) &&& 31)) &&& 1 = 0 then -1 else A 7 j) else A c
theorem mkA_n {A : hI} {k : Nat} {S : Int32} {n c : Nat} (h : c ≠ 7) : mkA A k S n c = A c := if_neg h
theorem mkA_0 (A : hI) (k : Nat) (S : Int32) : mkA A k S 0 = A := by
  funext c
  by_cases h : c = 7
  · subst h; unfold mkA; rw [if_pos rfl]; funext j; rw [if_neg (by omega)]
  · rw [mkA_n h]
theorem mkA_y {A : hI} {k : Nat} {S : Int32} {n : Nat} (h : (S >>> (iI (n : Int) &&& 31)) &&& 1 = 0) : uA (mkA A k S n) 7 (6 * k + n) (-1) = mkA A k S (n + 1) := by
  funext c
  by_cases hc : c = 7
  · subst hc
    rw [uA_s]
    unfold mkA
    rw [if_pos rfl, if_pos rfl]
    funext j
    by_cases hj : j = 6 * k + n
    · subst hj
      rw [ud_s, if_pos ⟨by omega, by omega, by rw [show 6 * k + n - 6 * k = n by omega]; exact h⟩]
    · rw [ud_n hj]
      by_cases z : 6 * k ≤ j ∧ j < 6 * k + n ∧ (S >>> (iI ((j - 6 * k : Nat) : Int) &&& 31)) &&& 1 = 0
      · rw [if_pos z, if_pos ⟨z.1, by omega, z.2.2⟩]
      · rw [if_neg z, if_neg (fun y => z ⟨y.1, by omega, y.2.2⟩)]
  · rw [uA_n hc, mkA_n hc, mkA_n hc]
theorem mkA_z {A : hI} {k : Nat} {S : Int32} {n : Nat} (h : ¬ ((S >>> (iI (n : Int) &&& 31)) &&& 1 = 0)) : mkA A k S n = mkA A k S (n + 1) := by
  funext c
  by_cases hc : c = 7
  · subst hc
    unfold mkA
    rw [if_pos rfl, if_pos rfl]
    funext j
    by_cases z : 6 * k ≤ j ∧ j < 6 * k + n ∧ (S >>> (iI ((j - 6 * k : Nat) : Int) &&& 31)) &&& 1 = 0
    · rw [if_pos z, if_pos ⟨z.1, by omega, z.2.2⟩]
    · rw [if_neg z, if_neg (fun y => by
        by_cases hj : j = 6 * k + n
        · subst hj
          rw [show 6 * k + n - 6 * k = n by omega] at y
          exact h y.2.2
        · exact z ⟨y.1, by omega, y.2.2⟩)]
  · rw [mkA_n hc, mkA_n hc]
section SHEE
variable {K D : Int} {A0 B0 A B A' B' : hI} (F : Nat)
/-- rows that no sheet stands in yet -/
theorem RR.s48 (R : RR K D A0 B0 A B) {c w : Nat} (hc1 : 480 ≤ c) (hc2 : c ≤ 486) (hw : A 16 9 < 7 * (w : Int) + 7) (v : Int) : RR K D A0 B0 A (uA B c w v) := by
  have hA : ∀ k : Nat, k ≠ 9999 → A k = A k := fun _ _ => rfl
  have hB : ∀ j : Nat, (j < 480 ∨ 486 < j) → uA B c w v j = B j := fun j hj => uA_n (by omega)
  have h4 : ∀ j : Nat, j ≠ 99999 → uA B c w v 400 j = B 400 j := fun j _ => by rw [hB 400 (by omega)]
  refine ⟨⟨(by apply R.gL.c <;> first | rfl | exact hA _ (by omega) | exact congrFun (hA _ (by omega)) _ | exact hB _ (by omega) | exact h4 _ (by omega) | (intro k hk1 hk2; exact hB k (by omega)) | (simp (disch := omega) only [uA_s, uA_n, ud_n]; done)), (by apply R.gH.c <;> first | rfl | exact hA _ (by omega) | exact congrFun (hA _ (by omega)) _ | exact hB _ (by omega) | exact h4 _ (by omega) | (intro k hk1 hk2; exact hB k (by omega)) | (simp (disch := omega) only [uA_s, uA_n, ud_n]; done)), (by apply R.gN.c <;> first | rfl | exact hA _ (by omega) | exact congrFun (hA _ (by omega)) _ | exact hB _ (by omega) | exact h4 _ (by omega) | (intro k hk1 hk2; exact hB k (by omega)) | (simp (disch := omega) only [uA_s, uA_n, ud_n]; done)), (by apply R.gP.c <;> first | rfl | exact hA _ (by omega) | exact congrFun (hA _ (by omega)) _ | exact hB _ (by omega) | exact h4 _ (by omega) | (intro k hk1 hk2; exact hB k (by omega)) | (simp (disch := omega) only [uA_s, uA_n, ud_n]; done)), (by apply R.gT.c <;> first | rfl | exact hA _ (by omega) | exact congrFun (hA _ (by omega)) _ | exact hB _ (by omega) | exact h4 _ (by omega) | (intro k hk1 hk2; exact hB k (by omega)) | (simp (disch := omega) only [uA_s, uA_n, ud_n]; done)), (by apply R.gS.c <;> first | rfl | exact hA _ (by omega) | exact congrFun (hA _ (by omega)) _ | exact hB _ (by omega) | exact h4 _ (by omega) | (intro k hk1 hk2; exact hB k (by omega)) | (simp (disch := omega) only [uA_s, uA_n, ud_n]; done)), (by apply R.gD.c <;> first | rfl | exact hA _ (by omega) | exact congrFun (hA _ (by omega)) _ | exact hB _ (by omega) | exact h4 _ (by omega) | (intro k hk1 hk2; exact hB k (by omega)) | (simp (disch := omega) only [uA_s, uA_n, ud_n]; done)), ?_, (by apply R.gX.c <;> first | rfl | exact hA _ (by omega) | exact congrFun (hA _ (by omega)) _ | exact hB _ (by omega) | exact h4 _ (by omega) | (intro k hk1 hk2; exact hB k (by omega)) | (simp (disch := omega) only [uA_s, uA_n, ud_n]; done)), (by apply R.gG.c <;> first | rfl | exact hA _ (by omega) | exact congrFun (hA _ (by omega)) _ | exact hB _ (by omega) | exact h4 _ (by omega) | (intro k hk1 hk2; exact hB k (by omega)) | (simp (disch := omega) only [uA_s, uA_n, ud_n]; done)), (by apply R.gI.c <;> first | rfl | exact hA _ (by omega) | exact congrFun (hA _ (by omega)) _ | exact hB _ (by omega) | exact h4 _ (by omega) | (intro k hk1 hk2; exact hB k (by omega)) | (simp (disch := omega) only [uA_s, uA_n, ud_n]; done))⟩, R.sx.tr ?_, R.sb.tr (SB.st (fun k hk => hB k (by omega)))⟩
  · obtain ⟨w1, w2⟩ := R.gW
    have e : ∀ d k' : Nat, 7 * (k' : Int) + 7 ≤ A 16 9 → uA B c w v d k' = B d k' := fun d k' h => by
      by_cases z : d = c
      · subst z; rw [uA_s, ud_n (by omega)]
      · rw [uA_n z]
    refine ⟨fun k' i h1 h2 => ?_, fun k' h1 => ?_⟩
    · rw [e 486 k' h1, e (480 + i) k' h1]; exact w1 k' i h1 h2
    · rw [e 485 k' h1]; exact w2 k' h1
  · exact SX.rf A
theorem RR.r7 (R : RR K D A0 B0 A B) {k : Nat} (hk : A 16 9 < 7 * (k : Int) + 7) (e : ∀ c : Nat, c ≠ 7 → A' c = A c) (e7 : ∀ j, (j < 6 * k ∨ 6 * k + 6 ≤ j) → A' 7 j = A 7 j) : RR K D A0 B0 A' B := by
  have hA : ∀ c : Nat, c ≠ 7 → A' c = A c := e
  have hB : ∀ j : Nat, j = j → B j = B j := fun _ _ => rfl
  have h4 : ∀ j : Nat, j ≠ 99999 → B 400 j = B 400 j := fun _ _ => rfl
  refine ⟨⟨(by apply R.gL.c <;> first | rfl | exact hA _ (by omega) | exact congrFun (hA _ (by omega)) _ | exact hB _ (by omega) | exact h4 _ (by omega) | (intro k hk1 hk2; exact hB k (by omega)) | (simp (disch := omega) only [uA_s, uA_n, ud_n]; done)), (by apply R.gH.c <;> first | rfl | exact hA _ (by omega) | exact congrFun (hA _ (by omega)) _ | exact hB _ (by omega) | exact h4 _ (by omega) | (intro k hk1 hk2; exact hB k (by omega)) | (simp (disch := omega) only [uA_s, uA_n, ud_n]; done)), (by apply R.gN.c <;> first | rfl | exact hA _ (by omega) | exact congrFun (hA _ (by omega)) _ | exact hB _ (by omega) | exact h4 _ (by omega) | (intro k hk1 hk2; exact hB k (by omega)) | (simp (disch := omega) only [uA_s, uA_n, ud_n]; done)), (by apply R.gP.c <;> first | rfl | exact hA _ (by omega) | exact congrFun (hA _ (by omega)) _ | exact hB _ (by omega) | exact h4 _ (by omega) | (intro k hk1 hk2; exact hB k (by omega)) | (simp (disch := omega) only [uA_s, uA_n, ud_n]; done)), (by apply R.gT.c <;> first | rfl | exact hA _ (by omega) | exact congrFun (hA _ (by omega)) _ | exact hB _ (by omega) | exact h4 _ (by omega) | (intro k hk1 hk2; exact hB k (by omega)) | (simp (disch := omega) only [uA_s, uA_n, ud_n]; done)), (by apply R.gS.c <;> first | rfl | exact hA _ (by omega) | exact congrFun (hA _ (by omega)) _ | exact hB _ (by omega) | exact h4 _ (by omega) | (intro k hk1 hk2; exact hB k (by omega)) | (simp (disch := omega) only [uA_s, uA_n, ud_n]; done)), (by apply R.gD.c <;> first | rfl | exact hA _ (by omega) | exact congrFun (hA _ (by omega)) _ | exact hB _ (by omega) | exact h4 _ (by omega) | (intro k hk1 hk2; exact hB k (by omega)) | (simp (disch := omega) only [uA_s, uA_n, ud_n]; done)), ?_, (by apply R.gX.c <;> first | rfl | exact hA _ (by omega) | exact congrFun (hA _ (by omega)) _ | exact hB _ (by omega) | exact h4 _ (by omega) | (intro k hk1 hk2; exact hB k (by omega)) | (simp (disch := omega) only [uA_s, uA_n, ud_n]; done)), (by apply R.gG.c <;> first | rfl | exact hA _ (by omega) | exact congrFun (hA _ (by omega)) _ | exact hB _ (by omega) | exact h4 _ (by omega) | (intro k hk1 hk2; exact hB k (by omega)) | (simp (disch := omega) only [uA_s, uA_n, ud_n]; done)), (by apply R.gI.c <;> first | rfl | exact hA _ (by omega) | exact congrFun (hA _ (by omega)) _ | exact hB _ (by omega) | exact h4 _ (by omega) | (intro k hk1 hk2; exact hB k (by omega)) | (simp (disch := omega) only [uA_s, uA_n, ud_n]; done))⟩, R.sx.tr ?_, R.sb.tr (SB.st (fun k hk => hB k (by omega)))⟩
  · obtain ⟨w1, w2⟩ := R.gW
    refine ⟨fun k' i h1 h2 => ?_, fun k' h1 => ?_⟩
    · rw [hA 16 (by omega)] at h1
      rw [e7 _ (by omega)]; exact w1 k' i h1 h2
    · rw [hA 16 (by omega)] at h1
      exact w2 k' h1
  · refine ⟨fun c hc => hA c (by omega), by rw [hA 16 (by omega)], ⟨by rw [hA 55 (by omega)]; exact Int.le_refl _, fun c _ => by rw [hA 59 (by omega)]; exact Int.le_refl _, by rw [hA 55 (by omega)]; exact Int.le_refl _, by rw [hA 16 (by omega)]; exact Int.le_refl _, by rw [hA 16 (by omega)]; exact Int.le_refl _⟩, ?_⟩
    unfold AGR
    rw [hA 2 (by omega), hA 3 (by omega), hA 4 (by omega), hA 5 (by omega), hA 6 (by omega), hA 9 (by omega), hA 10 (by omega), hA 11 (by omega), hA 12 (by omega), hA 13 (by omega), hA 14 (by omega)]
    refine ⟨fun _ _ => ⟨rfl, fun _ _ => rfl⟩, fun _ _ _ => ⟨rfl, rfl, rfl⟩, fun k' i h1 h2 => e7 _ (by omega), fun _ _ => ⟨rfl, rfl, rfl, rfl, rfl, fun _ _ => rfl⟩⟩
theorem ex_sheetL (R : RR K D A0 B0 A B) (Bx : hI) {H : Int} (hH : 0 ≤ H ∧ H < 2147483648) (S : Int32) : ∀ (r i q : Nat), (r : Int) = A 31 15 - i → i ≤ 60 → r < q → ∃ q', f_World_writeSheet_26 F q (iI H) S (iI (sm i (bcq A H))) (iI (sm i (lcq A H))) (iI i) (mk A Bx) = f_World_writeSheet_26 F (q' + 1) (iI H) S (iI (sm 60 (bcq A H))) (iI (sm 60 (lcq A H))) (iI (A 31 15)) (mk A Bx) := by
  have hpe := R.gP.pe2
  have hd1 := R.gD.dd1
  have hd2 := R.gD.dd2
  intro r
  induction r with
  | zero =>
    intro i q hr hi hq
    obtain ⟨q, rfl⟩ : ∃ s, q = s + 1 := ⟨q - 1, by omega⟩
    have z : ∀ n : Nat, n ≤ 60 → i ≤ n → sm n (bcq A H) = sm i (bcq A H) ∧ sm n (lcq A H) = sm i (lcq A H) := by
      intro n
      induction n with
      | zero => intro _ h; rw [show i = 0 by omega]; exact ⟨rfl, rfl⟩
      | succ n ih =>
        intro hn h
        by_cases e : i = n + 1
        · rw [e]; exact ⟨rfl, rfl⟩
        · obtain ⟨i1, i2⟩ := ih (by omega) (by omega)
          have f := R.endf (p := n) (by omega) (by omega)
          simp only [sm]
          rw [i1, i2, show bcq A H n = 0 from if_neg (fun z => by have := z.1; omega), show lcq A H n = 0 from if_neg (fun z => by have := z.1; omega)]
          omega
    obtain ⟨z1, z2⟩ := z 60 (Nat.le_refl _) hi
    exact ⟨q, by rw [z1, z2, show A 31 15 = (i : Int) by omega]⟩
  | succ r ih =>
    intro i q hr hi hq
    obtain ⟨q, rfl⟩ : ∃ s, q = s + 1 := ⟨q - 1, by omega⟩
    obtain ⟨q', nx⟩ := ih (i + 1) q (by omega) (by omega) (by omega)
    refine ⟨q', Eq.trans ?_ nx⟩
    have hi60 : i < 60 := by omega
    have kr := R.kr hi60
    have sb : ∀ v, bcq A H i = v → sm (i + 1) (bcq A H) = sm i (bcq A H) + v := fun v h => by rw [← h]; rfl
    have sl : ∀ v, lcq A H i = v → sm (i + 1) (lcq A H) = sm i (lcq A H) + v := fun v h => by rw [← h]; rfl
    have e0 : ∀ x : Int, x + 0 = x := fun x => by omega
    have en : iI ((i + 1 : Nat) : Int) = iI ((i : Int) + 1) := rfl
    rw [f_World_writeSheet_26]
    simp only [f_World_writeSheet_83, f_World_writeSheet_127, f_World_writeSheet_145, f_World_writeSheet_158]
    by_cases c1 : A 37 i = 0
    · have hk : A 32 i ≠ -1 := by omega
      have ph := R.gP.ph i hi60 hk
      have hn2 := R.gH.hn2
      have pip := R.gP.pip i hi60 hk
      by_cases c2 : A 35 i = 0
      · by_cases c3 : A 32 i = 3
        · have pma := R.gP.pma i hi60 c3
          by_cases c4 : H < A 16 9 - A 44 i
          · rw [sb 0 (if_neg (fun z => z.2.2.elim (fun y => y.2 c4) (fun y => by omega))), sl _ (if_pos ⟨c1, c2, c3, c4⟩), e0, en]
            simp (disch := first | omega | (simp (disch := omega) only [uA_n]; done) | fail) only [iI_lit, iI_add, iI_sub, iI_mul, iI_neg, iI_lt, iI_le, iI_eq, zlt_t, zlt_f, zle_t, zle_f, zeq_t, zeq_f, nle_t, nle_f, iI_cl, rA, rS, rB, wA, wS, wB, mkp, mk2, uA_s, uA_n, ud_s, ud_n, bI_0, bI_1, nor_s, ↓reduceIte, or_false, false_or, or_true, true_or, or_self, not_true_eq_false, not_false_eq_true, and_true, true_and, and_false, false_and, bI_T, bI_F, Int.reduceToNat, Nat.reduceAdd, Nat.reduceMul, Int.reduceNeg, Option.bind_some, Int.toNat_natCast, c1, c2, c3, c4]
          · rw [sb _ (if_pos ⟨c1, c2, Or.inl ⟨c3, c4⟩⟩), sl 0 (if_neg (fun z => c4 z.2.2.2)), e0, en]
            simp (disch := first | omega | (simp (disch := omega) only [uA_n]; done) | fail) only [iI_lit, iI_add, iI_sub, iI_mul, iI_neg, iI_lt, iI_le, iI_eq, zlt_t, zlt_f, zle_t, zle_f, zeq_t, zeq_f, nle_t, nle_f, iI_cl, rA, rS, rB, wA, wS, wB, mkp, mk2, uA_s, uA_n, ud_s, ud_n, bI_0, bI_1, nor_s, ↓reduceIte, or_false, false_or, or_true, true_or, or_self, not_true_eq_false, not_false_eq_true, and_true, true_and, and_false, false_and, bI_T, bI_F, Int.reduceToNat, Nat.reduceAdd, Nat.reduceMul, Int.reduceNeg, Option.bind_some, Int.toNat_natCast, c1, c2, c3, c4]
        · have h1 : A 32 i = 1 := by
            have := R.gP.ph1 i hi60
            omega
          rw [sl 0 (if_neg (fun z => c3 z.2.2.1)), e0, en]
          by_cases c5 : A 40 i = 0
          · rw [sb _ (if_pos ⟨c1, c2, Or.inr ⟨h1, c5⟩⟩)]
            simp (disch := first | omega | (simp (disch := omega) only [uA_n]; done) | fail) only [iI_lit, iI_add, iI_sub, iI_mul, iI_neg, iI_lt, iI_le, iI_eq, zlt_t, zlt_f, zle_t, zle_f, zeq_t, zeq_f, nle_t, nle_f, iI_cl, rA, rS, rB, wA, wS, wB, mkp, mk2, uA_s, uA_n, ud_s, ud_n, bI_0, bI_1, nor_s, ↓reduceIte, or_false, false_or, or_true, true_or, or_self, not_true_eq_false, not_false_eq_true, and_true, true_and, and_false, false_and, bI_T, bI_F, Int.reduceToNat, Nat.reduceAdd, Nat.reduceMul, Int.reduceNeg, Option.bind_some, Int.toNat_natCast, c1, c2, c3, c5, h1]
          · rw [sb 0 (if_neg (fun z => z.2.2.elim (fun y => c3 y.1) (fun y => c5 y.2))), e0]
            simp (disch := first | omega | (simp (disch := omega) only [uA_n]; done) | fail) only [iI_lit, iI_add, iI_sub, iI_mul, iI_neg, iI_lt, iI_le, iI_eq, zlt_t, zlt_f, zle_t, zle_f, zeq_t, zeq_f, nle_t, nle_f, iI_cl, rA, rS, rB, wA, wS, wB, mkp, mk2, uA_s, uA_n, ud_s, ud_n, bI_0, bI_1, nor_s, ↓reduceIte, or_false, false_or, or_true, true_or, or_self, not_true_eq_false, not_false_eq_true, and_true, true_and, and_false, false_and, bI_T, bI_F, Int.reduceToNat, Nat.reduceAdd, Nat.reduceMul, Int.reduceNeg, Option.bind_some, Int.toNat_natCast, c1, c2, c3, c5, h1]
      · rw [sb 0 (if_neg (fun z => c2 z.2.1)), sl 0 (if_neg (fun z => c2 z.2.1)), e0, e0, en]
        simp (disch := first | omega | (simp (disch := omega) only [uA_n]; done) | fail) only [iI_lit, iI_add, iI_sub, iI_mul, iI_neg, iI_lt, iI_le, iI_eq, zlt_t, zlt_f, zle_t, zle_f, zeq_t, zeq_f, nle_t, nle_f, iI_cl, rA, rS, rB, wA, wS, wB, mkp, mk2, uA_s, uA_n, ud_s, ud_n, bI_0, bI_1, nor_s, ↓reduceIte, or_false, false_or, or_true, true_or, or_self, not_true_eq_false, not_false_eq_true, and_true, true_and, and_false, false_and, bI_T, bI_F, Int.reduceToNat, Nat.reduceAdd, Nat.reduceMul, Int.reduceNeg, Option.bind_some, Int.toNat_natCast, c1, c2]
    · rw [sb 0 (if_neg (fun z => c1 z.1)), sl 0 (if_neg (fun z => c1 z.1)), e0, e0, en]
      simp (disch := first | omega | (simp (disch := omega) only [uA_n]; done) | fail) only [iI_lit, iI_add, iI_sub, iI_mul, iI_neg, iI_lt, iI_le, iI_eq, zlt_t, zlt_f, zle_t, zle_f, zeq_t, zeq_f, nle_t, nle_f, iI_cl, rA, rS, rB, wA, wS, wB, mkp, mk2, uA_s, uA_n, ud_s, ud_n, bI_0, bI_1, nor_s, ↓reduceIte, or_false, false_or, or_true, true_or, or_self, not_true_eq_false, not_false_eq_true, and_true, true_and, and_false, false_and, bI_T, bI_F, Int.reduceToNat, Nat.reduceAdd, Nat.reduceMul, Int.reduceNeg, Option.bind_some, Int.toNat_natCast, c1]
end SHEE
