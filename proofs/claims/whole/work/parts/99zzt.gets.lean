/-! WHAT CLAIMS GET: all worked together anew and anew; CALLS gets, assets -/
section GETS
variable {K D : Int} {A0 B0 A B : hI} {i : Nat} (F : Nat)
theorem em_z309 (Ax : hI) : ∀ (r i q : Nat) (B1 : hI), r + i = 60 → r < q → (∀ k : Nat, k ≠ 309 → B1 k = B k) → (∀ p : Nat, p < i → B1 309 p = 0) → ∃ B2 : hI, f_m_settle_2 F q (iI (i : Int)) (mk Ax B1) = f_m_settle_23 F F 1 (mk Ax B2) ∧ (∀ k : Nat, k ≠ 309 → B2 k = B k) ∧ ∀ p : Nat, p < 60 → B2 309 p = 0 := by
  intro r
  induction r with
  | zero =>
    intro i q B1 e hq h1 h2
    obtain ⟨q, rfl⟩ : ∃ k, q = k + 1 := ⟨q - 1, by omega⟩
    obtain rfl : i = 60 := by omega
    refine ⟨B1, ?_, h1, h2⟩
    rw [f_m_settle_2]
    exact if_pos (by simp (disch := first | omega | (simp (disch := omega) only [uA_n]; done) | fail) only [iI_lit, iI_add, iI_sub, iI_mul, iI_neg, iI_lt, iI_le, iI_eq, zlt_t, zlt_f, zle_t, zle_f, zeq_t, zeq_f, nle_t, nle_f, iI_cl, rA, rS, rB, wA, wS, wB, mkp, mk2, uA_s, uA_n, ud_s, ud_n, bI_0, bI_1, nor_s, ↓reduceIte, or_false, false_or, or_true, true_or, or_self, not_true_eq_false, not_false_eq_true, and_true, true_and, and_false, false_and, bI_T, bI_F, Int.reduceToNat, Nat.reduceAdd, Nat.reduceMul, Int.reduceNeg, Option.bind_some, Int.toNat_natCast])
  | succ r ih =>
    intro i q B1 e hq h1 h2
    obtain ⟨q, rfl⟩ : ∃ k, q = k + 1 := ⟨q - 1, by omega⟩
    have m0 : uA B1 309 i 0 399 = B1 399 := uA_n (by omega)
    obtain ⟨B2, y, g⟩ := ih (i + 1) q (uA B1 309 i 0) (by omega) (by omega) (fun k hk => by rw [uA_n hk]; exact h1 k hk) (fun p hp => by
      rw [uA_s]
      by_cases z : p = i
      · subst z; rw [ud_s]
      · rw [ud_n z]; exact h2 p (by omega))
    refine ⟨B2, Eq.trans ?_ y, g⟩
    rw [f_m_settle_2]
    refine (if_neg (by simp (disch := first | omega | (simp (disch := omega) only [uA_n]; done) | fail) only [iI_lit, iI_add, iI_sub, iI_mul, iI_neg, iI_lt, iI_le, iI_eq, zlt_t, zlt_f, zle_t, zle_f, zeq_t, zeq_f, nle_t, nle_f, iI_cl, rA, rS, rB, wA, wS, wB, mkp, mk2, uA_s, uA_n, ud_s, ud_n, bI_0, bI_1, nor_s, ↓reduceIte, or_false, false_or, or_true, true_or, or_self, not_true_eq_false, not_false_eq_true, and_true, true_and, and_false, false_and, bI_T, bI_F, Int.reduceToNat, Nat.reduceAdd, Nat.reduceMul, Int.reduceNeg, Option.bind_some, Int.toNat_natCast])).trans ?_
    refine (if_neg (by simp (disch := first | omega | (simp (disch := omega) only [uA_n]; done) | fail) only [iI_lit, iI_add, iI_sub, iI_mul, iI_neg, iI_lt, iI_le, iI_eq, zlt_t, zlt_f, zle_t, zle_f, zeq_t, zeq_f, nle_t, nle_f, iI_cl, rA, rS, rB, wA, wS, wB, mkp, mk2, uA_s, uA_n, ud_s, ud_n, bI_0, bI_1, nor_s, ↓reduceIte, or_false, false_or, or_true, true_or, or_self, not_true_eq_false, not_false_eq_true, and_true, true_and, and_false, false_and, bI_T, bI_F, Int.reduceToNat, Nat.reduceAdd, Nat.reduceMul, Int.reduceNeg, Option.bind_some, Int.toNat_natCast])).trans ?_
    rw [← iI_s]
    simp (disch := first | omega | (simp (disch := omega) only [uA_n]; done) | fail) only [iI_lit, iI_add, iI_sub, iI_mul, iI_neg, iI_lt, iI_le, iI_eq, zlt_t, zlt_f, zle_t, zle_f, zeq_t, zeq_f, nle_t, nle_f, iI_cl, rA, rS, rB, wA, wS, wB, mkp, mk2, uA_s, uA_n, ud_s, ud_n, bI_0, bI_1, nor_s, ↓reduceIte, or_false, false_or, or_true, true_or, or_self, not_true_eq_false, not_false_eq_true, and_true, true_and, and_false, false_and, bI_T, bI_F, Int.reduceToNat, Nat.reduceAdd, Nat.reduceMul, Int.reduceNeg, Option.bind_some, Int.toNat_natCast, mk2 m0]
theorem em_z310 (Ax : hI) (k23 : Int32 → mM → Option (Unit × mM)) {x : Nat → Int} : ∀ (r i q : Nat) (y : Nat → Int) (B1 : hI), r + i = 60 → r < q → MS B x y B1 → (∀ p : Nat, p < i → y p = 0) → ∃ B2 : hI, f_m_settle_29 F k23 q (iI (i : Int)) (mk Ax B1) = f_m_settle_50 F k23 F 1 (mk Ax B2) ∧ MS B x (fun _ => 0) B2 := by
  intro r
  induction r with
  | zero =>
    intro i q y B1 e hq h1 h2
    obtain ⟨q, rfl⟩ : ∃ k, q = k + 1 := ⟨q - 1, by omega⟩
    obtain rfl : i = 60 := by omega
    refine ⟨B1, ?_, h1.1, h1.2.1, fun p hp => by rw [h1.2.2 p hp, h2 p hp]⟩
    rw [f_m_settle_29]
    exact if_pos (by simp (disch := first | omega | (simp (disch := omega) only [uA_n]; done) | fail) only [iI_lit, iI_add, iI_sub, iI_mul, iI_neg, iI_lt, iI_le, iI_eq, zlt_t, zlt_f, zle_t, zle_f, zeq_t, zeq_f, nle_t, nle_f, iI_cl, rA, rS, rB, wA, wS, wB, mkp, mk2, uA_s, uA_n, ud_s, ud_n, bI_0, bI_1, nor_s, ↓reduceIte, or_false, false_or, or_true, true_or, or_self, not_true_eq_false, not_false_eq_true, and_true, true_and, and_false, false_and, bI_T, bI_F, Int.reduceToNat, Nat.reduceAdd, Nat.reduceMul, Int.reduceNeg, Option.bind_some, Int.toNat_natCast])
  | succ r ih =>
    intro i q y B1 e hq h1 h2
    obtain ⟨q, rfl⟩ : ∃ k, q = k + 1 := ⟨q - 1, by omega⟩
    have m0 : uA B1 310 i 0 399 = B1 399 := uA_n (by omega)
    obtain ⟨B2, z, g⟩ := ih (i + 1) q (ud y i 0) (uA B1 310 i 0) (by omega) (by omega) ⟨fun k k1 k2 => by rw [uA_n k2]; exact h1.1 k k1 k2, fun p hp => by rw [uA_n (by omega)]; exact h1.2.1 p hp, fun p hp => by
      rw [uA_s]
      by_cases z : p = i
      · subst z; rw [ud_s, ud_s]
      · rw [ud_n z, ud_n z]; exact h1.2.2 p hp⟩ (fun p hp => by
      by_cases z : p = i
      · subst z; rw [ud_s]
      · rw [ud_n z]; exact h2 p (by omega))
    refine ⟨B2, Eq.trans ?_ z, g⟩
    rw [f_m_settle_29]
    refine (if_neg (by simp (disch := first | omega | (simp (disch := omega) only [uA_n]; done) | fail) only [iI_lit, iI_add, iI_sub, iI_mul, iI_neg, iI_lt, iI_le, iI_eq, zlt_t, zlt_f, zle_t, zle_f, zeq_t, zeq_f, nle_t, nle_f, iI_cl, rA, rS, rB, wA, wS, wB, mkp, mk2, uA_s, uA_n, ud_s, ud_n, bI_0, bI_1, nor_s, ↓reduceIte, or_false, false_or, or_true, true_or, or_self, not_true_eq_false, not_false_eq_true, and_true, true_and, and_false, false_and, bI_T, bI_F, Int.reduceToNat, Nat.reduceAdd, Nat.reduceMul, Int.reduceNeg, Option.bind_some, Int.toNat_natCast])).trans ?_
    refine (if_neg (by simp (disch := first | omega | (simp (disch := omega) only [uA_n]; done) | fail) only [iI_lit, iI_add, iI_sub, iI_mul, iI_neg, iI_lt, iI_le, iI_eq, zlt_t, zlt_f, zle_t, zle_f, zeq_t, zeq_f, nle_t, nle_f, iI_cl, rA, rS, rB, wA, wS, wB, mkp, mk2, uA_s, uA_n, ud_s, ud_n, bI_0, bI_1, nor_s, ↓reduceIte, or_false, false_or, or_true, true_or, or_self, not_true_eq_false, not_false_eq_true, and_true, true_and, and_false, false_and, bI_T, bI_F, Int.reduceToNat, Nat.reduceAdd, Nat.reduceMul, Int.reduceNeg, Option.bind_some, Int.toNat_natCast])).trans ?_
    rw [← iI_s]
    simp (disch := first | omega | (simp (disch := omega) only [uA_n]; done) | fail) only [iI_lit, iI_add, iI_sub, iI_mul, iI_neg, iI_lt, iI_le, iI_eq, zlt_t, zlt_f, zle_t, zle_f, zeq_t, zeq_f, nle_t, nle_f, iI_cl, rA, rS, rB, wA, wS, wB, mkp, mk2, uA_s, uA_n, ud_s, ud_n, bI_0, bI_1, nor_s, ↓reduceIte, or_false, false_or, or_true, true_or, or_self, not_true_eq_false, not_false_eq_true, and_true, true_and, and_false, false_and, bI_T, bI_F, Int.reduceToNat, Nat.reduceAdd, Nat.reduceMul, Int.reduceNeg, Option.bind_some, Int.toNat_natCast, mk2 m0]
theorem kT_pos (R : RR K D A0 B0 A B) {w : Nat} {d : Int} {p : Nat} (hp : p < 60) (c : clm A p) (k : kd A w p) (e : A 34 p = d) : 1 ≤ sm 60 (kT A w d) := by
  have one := sm_one (n := 60) (f := kT A w d) hp (fun q hq => by
    rw [kT_at]
    split
    · rename_i z
      have := R.gP.ps q hq z.1.1
      omega
    · exact Int.le_refl _)
  rw [kT_at, if_pos ⟨c, k, e⟩] at one
  have := R.gP.ps p hp c.1
  omega
theorem em_parts (R : RR K D A0 B0 A B) (hF : 1000 ≤ F) (Ax : hI) {x y : Nat → Int} {B1 : hI} (hm : MS B x y B1) {h : Int} (h1 : 1 ≤ h) (h2 : h < A 19 11) {w : Nat} (hw : w = 0 ∨ w = 1) {l : Int} (hl : 0 ≤ l ∧ l < 2147483648) : ∃ (y' : Nat → Int) (B2 : hI), f_m_parts F (iI h) (iI l) (iI (w : Int)) (mk Ax B1) = some (iI (if l < sm 60 (kT A w h) then 0 else l - sm 60 (kT A w h)), mk Ax B2) ∧ MS B x y' B2 ∧ ∀ p, p < 60 → y' p = if clm A p ∧ kd A w p ∧ A 34 p = h then pay (A 33 p) l (sm 60 (kT A w h)) else y p := by
  have ha : 0 ≤ sm 60 (kT A w h) ∧ sm 60 (kT A w h) ≤ 660000 := by
    have c := R.clb
    rcases hw with rfl | rfl
    · exact c.2.2.1 h
    · exact c.2.1 h
  obtain ⟨y', B2, u1, u2, u3⟩ := em_parts2 F R hF Ax (x := x) h1 h2 hw hl ha 60 0 F y B1 (by omega) (by omega) (by omega) hm (fun p _ hp c k e => kT_pos R hp c k e)
  refine ⟨y', B2, ?_, u2, fun p hp => ?_⟩
  · unfold f_m_parts
    exact (em_parts1 F R hF Ax hm h1 h2 hw (iI l) 60 0 F (by omega) (by omega) (by omega)).trans u1
  · rw [u3 p hp]
    by_cases c : clm A p ∧ kd A w p ∧ A 34 p = h
    · rw [if_pos c, if_pos ⟨Nat.zero_le _, c⟩]
    · rw [if_neg c, if_neg (fun z => c z.2)]
theorem em_houses (R : RR K D A0 B0 A B) (hK : K ≤ 1000000000) (hF : 1000 ≤ F) (Ax : hI) (k23 : Int32 → mM → Option (Unit × mM)) {x : Nat → Int} (hx : xrg A x) : ∀ (r h q : Nat) (y : Nat → Int) (B1 : hI), (r : Int) = A 19 11 - h → 1 ≤ h → r < q → MS B x y B1 → (∀ p, p < 60 → y p = if clm A p ∧ A 34 p < h then shr A x p else 0) → ∃ B2 : hI, f_m_settle_50 F k23 q (iI (h : Int)) (mk Ax B1) = f_m_settle_102 F k23 F 0 0 (mk Ax B2) ∧ MS B x (phi A x) B2 := by
  have hn1 := R.gH.hn1
  have hn2 := R.gH.hn2
  intro r
  induction r with
  | zero =>
    intro h q y B1 e h1 hq hm hy
    obtain ⟨q, rfl⟩ : ∃ k, q = k + 1 := ⟨q - 1, by omega⟩
    have n3 := (R.ms hm).gH.hn3
    refine ⟨B1, ?_, hm.1, hm.2.1, fun p hp => ?_⟩
    · rw [f_m_settle_50]
      exact if_pos (by simp (disch := first | omega | (simp (disch := omega) only [uA_n]; done) | fail) only [iI_lit, iI_add, iI_sub, iI_mul, iI_neg, iI_lt, iI_le, iI_eq, zlt_t, zlt_f, zle_t, zle_f, zeq_t, zeq_f, nle_t, nle_f, iI_cl, rA, rS, rB, wA, wS, wB, mkp, mk2, uA_s, uA_n, ud_s, ud_n, bI_0, bI_1, nor_s, ↓reduceIte, or_false, false_or, or_true, true_or, or_self, not_true_eq_false, not_false_eq_true, and_true, true_and, and_false, false_and, bI_T, bI_F, Int.reduceToNat, Nat.reduceAdd, Nat.reduceMul, Int.reduceNeg, Option.bind_some, Int.toNat_natCast, dS, n3])
    · rw [hm.2.2 p hp, hy p hp]
      unfold phi
      by_cases c : clm A p
      · have := R.gP.pd p hp c.1
        rw [if_pos ⟨c, by omega⟩, if_pos c]
      · rw [if_neg (fun z => c z.1), if_neg c]
  | succ r ih =>
    intro h q y B1 e h1 hq hm hy
    obtain ⟨q, rfl⟩ : ∃ k, q = k + 1 := ⟨q - 1, by omega⟩
    have R1 := R.ms hm
    have n3 := R1.gH.hn3
    have yu := em_isUp F R1 Ax h (by omega) (by omega)
    rw [Int.toNat_natCast] at yu
    by_cases d : A 27 h = -1
    · obtain ⟨B2, g1, g2⟩ := ih (h + 1) q y B1 (by omega) (by omega) (by omega) hm (fun p hp => by
        rw [hy p hp]
        by_cases c : clm A p ∧ A 34 p < h
        · rw [if_pos c, if_pos ⟨c.1, by omega⟩]
        · by_cases c2 : clm A p ∧ A 34 p < ((h + 1 : Nat) : Int)
          · exfalso
            have e2 : A 34 p = h := by
              have := c2.2
              have : ¬ A 34 p < h := fun z => c ⟨c2.1, z⟩
              omega
            have := c2.1.2
            rw [e2, Int.toNat_natCast] at this
            exact this d
          · rw [if_neg c, if_neg c2])
      refine ⟨B2, Eq.trans ?_ g1, g2⟩
      rw [f_m_settle_50]
      refine (if_neg (by simp (disch := first | omega | (simp (disch := omega) only [uA_n]; done) | fail) only [iI_lit, iI_add, iI_sub, iI_mul, iI_neg, iI_lt, iI_le, iI_eq, zlt_t, zlt_f, zle_t, zle_f, zeq_t, zeq_f, nle_t, nle_f, iI_cl, rA, rS, rB, wA, wS, wB, mkp, mk2, uA_s, uA_n, ud_s, ud_n, bI_0, bI_1, nor_s, ↓reduceIte, or_false, false_or, or_true, true_or, or_self, not_true_eq_false, not_false_eq_true, and_true, true_and, and_false, false_and, bI_T, bI_F, Int.reduceToNat, Nat.reduceAdd, Nat.reduceMul, Int.reduceNeg, Option.bind_some, Int.toNat_natCast, dS, n3])).trans ?_
      refine (askT yu d).trans ?_
      unfold f_m_settle_92
      rw [← iI_s]; rfl
    · have wr := R.wlr hK hx (h := (h : Int)) (by omega) (by omega)
      obtain ⟨y1, B2, u1, u2, u3⟩ := em_parts F R hF Ax hm (h := (h : Int)) (by omega) (by omega) (w := 1) (Or.inr rfl) (l := wl A x h) (by omega)
      have e1 : sm 60 (kT A 1 h) = dpS A h := rfl
      have e0 : sm 60 (kT A 0 h) = otS A h := rfl
      rw [e1] at u1 u3
      have cl := R.clb
      have cd := cl.2.1 h
      have l2 : 0 ≤ (if wl A x h < dpS A h then 0 else wl A x h - dpS A h) ∧ (if wl A x h < dpS A h then 0 else wl A x h - dpS A h) < 2147483648 := by
        split <;> omega
      obtain ⟨y2, B3, v1, v2, v3⟩ := em_parts F R hF Ax u2 (h := (h : Int)) (by omega) (by omega) (w := 0) (Or.inl rfl) l2
      rw [e0] at v1 v3
      obtain ⟨B4, g1, g2⟩ := ih (h + 1) q y2 B3 (by omega) (by omega) (by omega) v2 (fun p hp => by
        rw [v3 p hp, u3 p hp, hy p hp]
        by_cases c : clm A p
        · by_cases c2 : A 34 p = h
          · rw [if_pos (c := clm A p ∧ A 34 p < ((h + 1 : Nat) : Int)) ⟨c, by omega⟩]
            have es : shr A x p = (if A 32 p = 2 then pay (A 33 p) (wl A x h) (dpS A h) else if wl A x h < dpS A h then 0 else pay (A 33 p) (wl A x h - dpS A h) (otS A h)) := by unfold shr; rw [c2]
            rw [es]
            by_cases k2 : A 32 p = 2
            · rw [if_neg (fun z => absurd (z.2.1.mp k2) (by omega)), if_pos ⟨c, ⟨fun _ => rfl, fun _ => k2⟩, c2⟩, if_pos k2]
            · have kd0 : kd A 0 p := ⟨fun z => absurd z k2, fun z => absurd z (by omega)⟩
              rw [if_pos ⟨c, kd0, c2⟩, if_neg k2]
              by_cases w : wl A x h < dpS A h
              · rw [if_pos w, if_pos w]
                have pos := kT_pos R hp c kd0 c2
                rw [e0] at pos
                unfold pay
                rw [if_pos (by omega), Int.mul_zero, Int.zero_ediv]
              · rw [if_neg w, if_neg w]
          · rw [if_neg (fun z => c2 z.2.2), if_neg (fun z => c2 z.2.2)]
            by_cases w : A 34 p < h
            · rw [if_pos ⟨c, w⟩, if_pos ⟨c, by omega⟩]
            · rw [if_neg (fun z => w z.2), if_neg (fun z => by have := z.2; omega)]
        · rw [if_neg (fun z => c z.1), if_neg (fun z => c z.1), if_neg (fun z => c z.1), if_neg (fun z => c z.1)])
      refine ⟨B4, Eq.trans ?_ g1, g2⟩
      rw [f_m_settle_50]
      refine (if_neg (by simp (disch := first | omega | (simp (disch := omega) only [uA_n]; done) | fail) only [iI_lit, iI_add, iI_sub, iI_mul, iI_neg, iI_lt, iI_le, iI_eq, zlt_t, zlt_f, zle_t, zle_f, zeq_t, zeq_f, nle_t, nle_f, iI_cl, rA, rS, rB, wA, wS, wB, mkp, mk2, uA_s, uA_n, ud_s, ud_n, bI_0, bI_1, nor_s, ↓reduceIte, or_false, false_or, or_true, true_or, or_self, not_true_eq_false, not_false_eq_true, and_true, true_and, and_false, false_and, bI_T, bI_F, Int.reduceToNat, Nat.reduceAdd, Nat.reduceMul, Int.reduceNeg, Option.bind_some, Int.toNat_natCast, dS, n3])).trans ?_
      refine (askF yu d).trans ?_
      refine obd (em_assets F R hK hF Ax hm hx (h := (h : Int)) (by omega) (by omega)) ?_
      refine obd u1 ?_
      refine obd v1 ?_
      unfold f_m_settle_92
      rw [← iI_s]; rfl
theorem em_cpy (Ax : hI) (k23 : Int32 → mM → Option (Unit × mM)) {x y : Nat → Int} (hxy : ∀ p, p < 60 → -2147483648 ≤ x p ∧ x p < 2147483648 ∧ -2147483648 ≤ y p ∧ y p < 2147483648) : ∀ (r i q : Nat) (f : Int) (B1 : hI), r + i = 60 → r < q → MS B (fun p => if p < i then y p else x p) y B1 → ((f = 0 ∧ ∀ p, p < i → y p = x p) ∨ (f = 1 ∧ ∃ p, p < 60 ∧ y p ≠ x p)) → ∃ (f' : Int) (B2 : hI), f_m_settle_102 F k23 q (iI f) (iI (i : Int)) (mk Ax B1) = k23 (iI f') (mk Ax B2) ∧ MS B y y B2 ∧ ((f' = 0 ∧ ∀ p, p < 60 → y p = x p) ∨ (f' = 1 ∧ ∃ p, p < 60 ∧ y p ≠ x p)) := by
  intro r
  induction r with
  | zero =>
    intro i q f B1 e hq hm hf
    obtain ⟨q, rfl⟩ : ∃ k, q = k + 1 := ⟨q - 1, by omega⟩
    obtain rfl : i = 60 := by omega
    refine ⟨f, B1, ?_, ⟨hm.1, fun p hp => by rw [hm.2.1 p hp]; exact if_pos hp, hm.2.2⟩, hf⟩
    rw [f_m_settle_102]
    exact if_pos (by simp (disch := first | omega | (simp (disch := omega) only [uA_n]; done) | fail) only [iI_lit, iI_add, iI_sub, iI_mul, iI_neg, iI_lt, iI_le, iI_eq, zlt_t, zlt_f, zle_t, zle_f, zeq_t, zeq_f, nle_t, nle_f, iI_cl, rA, rS, rB, wA, wS, wB, mkp, mk2, uA_s, uA_n, ud_s, ud_n, bI_0, bI_1, nor_s, ↓reduceIte, or_false, false_or, or_true, true_or, or_self, not_true_eq_false, not_false_eq_true, and_true, true_and, and_false, false_and, bI_T, bI_F, Int.reduceToNat, Nat.reduceAdd, Nat.reduceMul, Int.reduceNeg, Option.bind_some, Int.toNat_natCast])
  | succ r ih =>
    intro i q f B1 e hq hm hf
    obtain ⟨q, rfl⟩ : ∃ k, q = k + 1 := ⟨q - 1, by omega⟩
    have a9 : B1 309 i = x i := (hm.2.1 i (by omega)).trans (if_neg (Nat.lt_irrefl i))
    have a10 := hm.2.2 i (by omega)
    have rg := hxy i (by omega)
    have m0 : uA B1 309 i (y i) 399 = B1 399 := uA_n (by omega)
    have hm2 : MS B (fun p => if p < i + 1 then y p else x p) y (uA B1 309 i (y i)) := ⟨fun k k1 k2 => by rw [uA_n k1]; exact hm.1 k k1 k2, fun p hp => by
      rw [uA_s]
      show ud (B1 309) i (y i) p = if p < i + 1 then y p else x p
      by_cases z : p = i
      · subst z; rw [ud_s, if_pos (by omega)]
      · rw [ud_n z, hm.2.1 p hp]
        show (if p < i then y p else x p) = _
        by_cases w : p < i
        · rw [if_pos w, if_pos (by omega)]
        · rw [if_neg w, if_neg (by omega)], fun p hp => by rw [uA_n (by omega)]; exact hm.2.2 p hp⟩
    have st : ∀ u : Int, f_m_settle_132 F k23 (f_m_settle_102 F k23 q) (iI (i : Int)) (iI u) (mk Ax B1) = f_m_settle_102 F k23 q (iI u) (iI ((i + 1 : Nat) : Int)) (mk Ax (uA B1 309 i (y i))) := fun u => by
      unfold f_m_settle_132
      refine (if_neg (by simp (disch := first | omega | (simp (disch := omega) only [uA_n]; done) | fail) only [iI_lit, iI_add, iI_sub, iI_mul, iI_neg, iI_lt, iI_le, iI_eq, zlt_t, zlt_f, zle_t, zle_f, zeq_t, zeq_f, nle_t, nle_f, iI_cl, rA, rS, rB, wA, wS, wB, mkp, mk2, uA_s, uA_n, ud_s, ud_n, bI_0, bI_1, nor_s, ↓reduceIte, or_false, false_or, or_true, true_or, or_self, not_true_eq_false, not_false_eq_true, and_true, true_and, and_false, false_and, bI_T, bI_F, Int.reduceToNat, Nat.reduceAdd, Nat.reduceMul, Int.reduceNeg, Option.bind_some, Int.toNat_natCast])).trans ?_
      rw [← iI_s]
      simp (disch := first | omega | (simp (disch := omega) only [uA_n]; done) | fail) only [iI_lit, iI_add, iI_sub, iI_mul, iI_neg, iI_lt, iI_le, iI_eq, zlt_t, zlt_f, zle_t, zle_f, zeq_t, zeq_f, nle_t, nle_f, iI_cl, rA, rS, rB, wA, wS, wB, mkp, mk2, uA_s, uA_n, ud_s, ud_n, bI_0, bI_1, nor_s, ↓reduceIte, or_false, false_or, or_true, true_or, or_self, not_true_eq_false, not_false_eq_true, and_true, true_and, and_false, false_and, bI_T, bI_F, Int.reduceToNat, Nat.reduceAdd, Nat.reduceMul, Int.reduceNeg, Option.bind_some, Int.toNat_natCast, a10, mk2 m0]
    rcases hf with ⟨f0, f1⟩ | ⟨f0, f1⟩
    · by_cases d : y i = x i
      · obtain ⟨f', B2, g1, g2⟩ := ih (i + 1) q 0 _ (by omega) (by omega) hm2 (Or.inl ⟨rfl, fun p hp => by
          by_cases z : p = i
          · rw [z]; exact d
          · exact f1 p (by omega)⟩)
        refine ⟨f', B2, Eq.trans ?_ ((st 0).trans g1), g2⟩
        rw [f_m_settle_102, f0]
        refine (if_neg (by simp (disch := first | omega | (simp (disch := omega) only [uA_n]; done) | fail) only [iI_lit, iI_add, iI_sub, iI_mul, iI_neg, iI_lt, iI_le, iI_eq, zlt_t, zlt_f, zle_t, zle_f, zeq_t, zeq_f, nle_t, nle_f, iI_cl, rA, rS, rB, wA, wS, wB, mkp, mk2, uA_s, uA_n, ud_s, ud_n, bI_0, bI_1, nor_s, ↓reduceIte, or_false, false_or, or_true, true_or, or_self, not_true_eq_false, not_false_eq_true, and_true, true_and, and_false, false_and, bI_T, bI_F, Int.reduceToNat, Nat.reduceAdd, Nat.reduceMul, Int.reduceNeg, Option.bind_some, Int.toNat_natCast])).trans ?_
        refine (if_pos rfl).trans ?_
        refine (if_neg (by simp (disch := first | omega | (simp (disch := omega) only [uA_n]; done) | fail) only [iI_lit, iI_add, iI_sub, iI_mul, iI_neg, iI_lt, iI_le, iI_eq, zlt_t, zlt_f, zle_t, zle_f, zeq_t, zeq_f, nle_t, nle_f, iI_cl, rA, rS, rB, wA, wS, wB, mkp, mk2, uA_s, uA_n, ud_s, ud_n, bI_0, bI_1, nor_s, ↓reduceIte, or_false, false_or, or_true, true_or, or_self, not_true_eq_false, not_false_eq_true, and_true, true_and, and_false, false_and, bI_T, bI_F, Int.reduceToNat, Nat.reduceAdd, Nat.reduceMul, Int.reduceNeg, Option.bind_some, Int.toNat_natCast])).trans ?_
        exact if_pos (by simp (disch := first | omega | (simp (disch := omega) only [uA_n]; done) | fail) only [iI_lit, iI_add, iI_sub, iI_mul, iI_neg, iI_lt, iI_le, iI_eq, zlt_t, zlt_f, zle_t, zle_f, zeq_t, zeq_f, nle_t, nle_f, iI_cl, rA, rS, rB, wA, wS, wB, mkp, mk2, uA_s, uA_n, ud_s, ud_n, bI_0, bI_1, nor_s, ↓reduceIte, or_false, false_or, or_true, true_or, or_self, not_true_eq_false, not_false_eq_true, and_true, true_and, and_false, false_and, bI_T, bI_F, Int.reduceToNat, Nat.reduceAdd, Nat.reduceMul, Int.reduceNeg, Option.bind_some, Int.toNat_natCast, a9, a10, d])
      · obtain ⟨f', B2, g1, g2⟩ := ih (i + 1) q 1 _ (by omega) (by omega) hm2 (Or.inr ⟨rfl, i, by omega, d⟩)
        refine ⟨f', B2, Eq.trans ?_ ((st 1).trans g1), g2⟩
        rw [f_m_settle_102, f0]
        refine (if_neg (by simp (disch := first | omega | (simp (disch := omega) only [uA_n]; done) | fail) only [iI_lit, iI_add, iI_sub, iI_mul, iI_neg, iI_lt, iI_le, iI_eq, zlt_t, zlt_f, zle_t, zle_f, zeq_t, zeq_f, nle_t, nle_f, iI_cl, rA, rS, rB, wA, wS, wB, mkp, mk2, uA_s, uA_n, ud_s, ud_n, bI_0, bI_1, nor_s, ↓reduceIte, or_false, false_or, or_true, true_or, or_self, not_true_eq_false, not_false_eq_true, and_true, true_and, and_false, false_and, bI_T, bI_F, Int.reduceToNat, Nat.reduceAdd, Nat.reduceMul, Int.reduceNeg, Option.bind_some, Int.toNat_natCast])).trans ?_
        refine (if_pos rfl).trans ?_
        refine (if_neg (by simp (disch := first | omega | (simp (disch := omega) only [uA_n]; done) | fail) only [iI_lit, iI_add, iI_sub, iI_mul, iI_neg, iI_lt, iI_le, iI_eq, zlt_t, zlt_f, zle_t, zle_f, zeq_t, zeq_f, nle_t, nle_f, iI_cl, rA, rS, rB, wA, wS, wB, mkp, mk2, uA_s, uA_n, ud_s, ud_n, bI_0, bI_1, nor_s, ↓reduceIte, or_false, false_or, or_true, true_or, or_self, not_true_eq_false, not_false_eq_true, and_true, true_and, and_false, false_and, bI_T, bI_F, Int.reduceToNat, Nat.reduceAdd, Nat.reduceMul, Int.reduceNeg, Option.bind_some, Int.toNat_natCast])).trans ?_
        exact (if_neg (by simp (disch := first | omega | (simp (disch := omega) only [uA_n]; done) | fail) only [iI_lit, iI_add, iI_sub, iI_mul, iI_neg, iI_lt, iI_le, iI_eq, zlt_t, zlt_f, zle_t, zle_f, zeq_t, zeq_f, nle_t, nle_f, iI_cl, rA, rS, rB, wA, wS, wB, mkp, mk2, uA_s, uA_n, ud_s, ud_n, bI_0, bI_1, nor_s, ↓reduceIte, or_false, false_or, or_true, true_or, or_self, not_true_eq_false, not_false_eq_true, and_true, true_and, and_false, false_and, bI_T, bI_F, Int.reduceToNat, Nat.reduceAdd, Nat.reduceMul, Int.reduceNeg, Option.bind_some, Int.toNat_natCast, a9, a10])).trans rfl
    · obtain ⟨f', B2, g1, g2⟩ := ih (i + 1) q 1 _ (by omega) (by omega) hm2 (Or.inr ⟨rfl, f1⟩)
      refine ⟨f', B2, Eq.trans ?_ ((st 1).trans g1), g2⟩
      rw [f_m_settle_102, f0]
      refine (if_neg (by simp (disch := first | omega | (simp (disch := omega) only [uA_n]; done) | fail) only [iI_lit, iI_add, iI_sub, iI_mul, iI_neg, iI_lt, iI_le, iI_eq, zlt_t, zlt_f, zle_t, zle_f, zeq_t, zeq_f, nle_t, nle_f, iI_cl, rA, rS, rB, wA, wS, wB, mkp, mk2, uA_s, uA_n, ud_s, ud_n, bI_0, bI_1, nor_s, ↓reduceIte, or_false, false_or, or_true, true_or, or_self, not_true_eq_false, not_false_eq_true, and_true, true_and, and_false, false_and, bI_T, bI_F, Int.reduceToNat, Nat.reduceAdd, Nat.reduceMul, Int.reduceNeg, Option.bind_some, Int.toNat_natCast])).trans ?_
      exact (if_neg i1n0).trans rfl
theorem em_outer (R : RR K D A0 B0 A B) (hK : K ≤ 1000000000) (hF : 1000 ≤ F) (Ax : hI) : ∀ (r q : Nat) (x y : Nat → Int) (B1 : hI), 660001 ≤ sm 60 x + r → r + 1 < q → MS B x y B1 → xrg A x → pre A x → lef A x → ∃ (x' y' : Nat → Int) (B2 : hI), f_m_settle_23 F q 1 (mk Ax B1) = some ((), mk Ax B2) ∧ MS B x' y' B2 ∧ isMu A x' := by
  intro r
  induction r with
  | zero =>
    intro q x y B1 hr hq hm hx h1 h2
    have := xrg_sum R hx
    omega
  | succ r ih =>
    intro q x y B1 hr hq hm hx h1 h2
    obtain ⟨q, rfl⟩ : ∃ k, q = k + 2 := ⟨q - 2, by omega⟩
    obtain ⟨p1, p2, p3, p4⟩ := R.phi_st hK hx h1 h2
    have hn1 := R.gH.hn1
    have hn2 := R.gH.hn2
    obtain ⟨B2, a1, a2⟩ := em_z310 F Ax (f_m_settle_23 F (q + 1)) 60 0 F y B1 (by omega) (by omega) hm (fun p hp => absurd hp (Nat.not_lt_zero p))
    obtain ⟨B3, b1, b2⟩ := em_houses F R hK hF Ax (f_m_settle_23 F (q + 1)) hx (A 19 11 - 1).toNat 1 F (fun _ => 0) B2 (by omega) (by omega) (by omega) a2 (fun p hp => by
      rw [if_neg (fun z => by have := R.gP.pd p hp z.1.1; omega)])
    have rg : ∀ z : Nat → Int, xrg A z → ∀ p, p < 60 → 0 ≤ z p ∧ z p ≤ 11000 := fun z hz p hp => by
      by_cases c : clm A p
      · have := (hz p hp).1 c
        have := R.gP.ps p hp c.1
        omega
      · rw [(hz p hp).2 c]; omega
    obtain ⟨f', B4, c1, c2, c3⟩ := em_cpy F Ax (f_m_settle_23 F (q + 1)) (x := x) (y := phi A x) (fun p hp => by have := rg x hx p hp; have := rg _ p1 p hp; omega) 60 0 F 0 B3 (by omega) (by omega) ⟨b2.1, fun p hp => (b2.2.1 p hp).trans (if_neg (Nat.not_lt_zero p)).symm, b2.2.2⟩ (Or.inl ⟨rfl, fun p hp => absurd hp (Nat.not_lt_zero p)⟩)
    have st : f_m_settle_23 F (q + 1 + 1) 1 (mk Ax B1) = f_m_settle_23 F (q + 1) (iI f') (mk Ax B4) := by
      rw [f_m_settle_23]
      refine (if_neg (by decide)).trans ?_
      exact a1.trans (b1.trans c1)
    rw [st]
    rcases c3 with ⟨f0, f1⟩ | ⟨f0, p, hp, f1⟩
    · refine ⟨x, phi A x, B4, ?_, ⟨c2.1, fun p hp => by rw [c2.2.1 p hp, f1 p hp], c2.2.2⟩, hx, fun p hp c => ?_, h2⟩
      · rw [f0, f_m_settle_23]
        exact if_pos rfl
      · rw [← f1 p hp]; exact (if_pos c).symm
    · have su : sm 60 x + 1 ≤ sm 60 (phi A x) := by
        have s1 : sm 60 (ud x p (phi A x p)) = sm 60 x - x p + phi A x p := sm_ud hp
        have s2 : sm 60 (ud x p (phi A x p)) ≤ sm 60 (phi A x) := sm_le fun q hq => by
          by_cases z : q = p
          · subst z; rw [ud_s]; exact Int.le_refl _
          · rw [ud_n z]; exact p4 q hq
        have := p4 p hp
        omega
      obtain ⟨x', y', B5, d1, d2⟩ := ih (q + 1) (phi A x) (phi A x) B4 (by omega) (by omega) c2 p1 p2 p3
      refine ⟨x', y', B5, ?_, d2⟩
      rw [f0]
      exact d1
theorem em_settle (R : RR K D A0 B0 A B) (hK : K ≤ 1000000000) (hF : 700000 ≤ F) (Ax : hI) : ∃ (x y : Nat → Int) (B1 : hI), f_m_settle F (mk Ax B) = some ((), mk Ax B1) ∧ MS B x y B1 ∧ isMu A x := by
  obtain ⟨z1, z2, z3⟩ := zero_st R hK
  have s0 : sm 60 (fun _ => (0 : Int)) = 0 := sm_0 fun _ _ => rfl
  obtain ⟨B1, a1, a2, a3⟩ := em_z309 F (B := B) Ax 60 0 F B (by omega) (by omega) (fun _ _ => rfl) (fun p hp => absurd hp (Nat.not_lt_zero p))
  obtain ⟨x, y, B2, b1, b2⟩ := em_outer F R hK (by omega) Ax 660001 F (fun _ => 0) (B1 310) B1 (by omega) (by omega) ⟨fun k k1 _ => a2 k k1, a3, fun _ _ => rfl⟩ z1 z2 z3
  exact ⟨x, y, B2, a1.trans b1, b2⟩
theorem CS.nA {x : Nat → Int} {A1 : hI} (h : CS A x A1) : nA A A1 := fun k hk => h.1 k (by omega)
theorem MS.nB {x y : Nat → Int} {B1 : hI} (h : MS B x y B1) : nB B B1 := ⟨fun k hk => h.1 k (by omega) (by omega), by rw [h.1 304 (by omega) (by omega)], by rw [h.1 304 (by omega) (by omega)], by rw [h.1 304 (by omega) (by omega)], by rw [h.1 304 (by omega) (by omega)]⟩
theorem c_gets (h : Inv i A B) (hi : i < 512) (hF : 700000 ≤ F) (v1 : Int32) : CP i A B (f_x_gets F v1) (f_m_gets F v1) := by
  obtain ⟨z, za, zb, rfl⟩ : ∃ z : Int, -2147483648 ≤ z ∧ z < 2147483648 ∧ v1 = iI z := ⟨_, (i32rg v1).1, (i32rg v1).2, iI_of v1⟩
  have R := h.rr
  have hK := h.kmx (by omega)
  have hn2 := R.gH.hn2
  have xp := fun Bx => ex_isPaper F R Bx z za zb
  have yp := fun Ax => em_isPaper F R Ax z za zb
  by_cases c0 : 0 ≤ z ∧ z < 60 ∧ A 32 z.toNat ≠ -1
  rotate_left
  · refine cp_no F h (v := -3) (by omega) (by omega) (fun Bx => ?_) (fun Ax => ?_)
    · unfold f_x_gets
      exact (askF (xp Bx) c0).trans rfl
    · unfold f_m_gets
      exact (askF (yp Ax) c0).trans rfl
  obtain ⟨n, rfl⟩ : ∃ n : Nat, z = n := ⟨z.toNat, by omega⟩
  have hn : n < 60 := by omega
  have hk : A 32 n ≠ -1 := c0.2.2
  have pd := R.gP.pd n hn hk
  have kr := R.kr hn
  have xu := fun Bx => ex_isUp F R Bx (A 34 n) (by omega) pd.2.2
  by_cases c1 : A 27 (A 34 n).toNat = -1
  · refine cp_no F h (v := -2) (by omega) (by omega) (fun Bx => ?_) (fun Ax => ?_)
    · unfold f_x_gets
      refine (askT (xp Bx) c0).trans ?_
      refine (if_neg (by simp (disch := first | omega | (simp (disch := omega) only [uA_n]; done) | fail) only [iI_lit, iI_add, iI_sub, iI_mul, iI_neg, iI_lt, iI_le, iI_eq, zlt_t, zlt_f, zle_t, zle_f, zeq_t, zeq_f, nle_t, nle_f, iI_cl, rA, rS, rB, wA, wS, wB, mkp, mk2, uA_s, uA_n, ud_s, ud_n, bI_0, bI_1, nor_s, ↓reduceIte, or_false, false_or, or_true, true_or, or_self, not_true_eq_false, not_false_eq_true, and_true, true_and, and_false, false_and, bI_T, bI_F, Int.reduceToNat, Nat.reduceAdd, Nat.reduceMul, Int.reduceNeg, Option.bind_some, Int.toNat_natCast])).trans ?_
      have x1 := xu Bx
      rw [bI_t c1] at x1
      refine obd (v := (iI 1, mk A Bx)) (by simp (disch := first | omega | (simp (disch := omega) only [uA_n]; done) | fail) only [iI_lit, iI_add, iI_sub, iI_mul, iI_neg, iI_lt, iI_le, iI_eq, zlt_t, zlt_f, zle_t, zle_f, zeq_t, zeq_f, nle_t, nle_f, iI_cl, rA, rS, rB, wA, wS, wB, mkp, mk2, uA_s, uA_n, ud_s, ud_n, bI_0, bI_1, nor_s, ↓reduceIte, or_false, false_or, or_true, true_or, or_self, not_true_eq_false, not_false_eq_true, and_true, true_and, and_false, false_and, bI_T, bI_F, Int.reduceToNat, Nat.reduceAdd, Nat.reduceMul, Int.reduceNeg, Option.bind_some, Int.toNat_natCast, x1]) ?_
      exact (if_neg i1n0).trans rfl
    · unfold f_m_gets
      refine (askT (yp Ax) c0).trans ?_
      exact (askF (em_isClaim F R Ax hn) (fun z => z.2 c1)).trans rfl
  have c : clm A n := ⟨hk, c1⟩
  intro Ax Bx
  obtain ⟨x, A1, x1, cs, mu⟩ := ex_shareOut F R (by omega) hF Bx
  obtain ⟨x2, y2, B1, y1, ms, mu2⟩ := em_settle F R (by omega) hF Ax
  have e := mu.one mu2 hn
  have rg := (mu.1 n hn).1 c
  have ps := R.gP.ps n hn hk
  have a110 : A1 110 n = x n := cs.2.1 n (Int.not_le.mp fun z => hk (R.endf hn z).1)
  have b309 := ms.2.1 n hn
  refine ⟨iI (x n), A1, B1, ?_, ?_, (h.nb cs.nA ms.nB).up⟩
  · unfold f_x_gets
    refine (askT (xp Bx) c0).trans ?_
    refine (if_neg (by simp (disch := first | omega | (simp (disch := omega) only [uA_n]; done) | fail) only [iI_lit, iI_add, iI_sub, iI_mul, iI_neg, iI_lt, iI_le, iI_eq, zlt_t, zlt_f, zle_t, zle_f, zeq_t, zeq_f, nle_t, nle_f, iI_cl, rA, rS, rB, wA, wS, wB, mkp, mk2, uA_s, uA_n, ud_s, ud_n, bI_0, bI_1, nor_s, ↓reduceIte, or_false, false_or, or_true, true_or, or_self, not_true_eq_false, not_false_eq_true, and_true, true_and, and_false, false_and, bI_T, bI_F, Int.reduceToNat, Nat.reduceAdd, Nat.reduceMul, Int.reduceNeg, Option.bind_some, Int.toNat_natCast])).trans ?_
    have x3 := xu Bx
    rw [bI_f c1] at x3
    refine obd (v := (iI 0, mk A Bx)) (by simp (disch := first | omega | (simp (disch := omega) only [uA_n]; done) | fail) only [iI_lit, iI_add, iI_sub, iI_mul, iI_neg, iI_lt, iI_le, iI_eq, zlt_t, zlt_f, zle_t, zle_f, zeq_t, zeq_f, nle_t, nle_f, iI_cl, rA, rS, rB, wA, wS, wB, mkp, mk2, uA_s, uA_n, ud_s, ud_n, bI_0, bI_1, nor_s, ↓reduceIte, or_false, false_or, or_true, true_or, or_self, not_true_eq_false, not_false_eq_true, and_true, true_and, and_false, false_and, bI_T, bI_F, Int.reduceToNat, Nat.reduceAdd, Nat.reduceMul, Int.reduceNeg, Option.bind_some, Int.toNat_natCast, x3]) ?_
    refine (if_pos rfl).trans ?_
    refine obd x1 ?_
    simp (disch := first | omega | (simp (disch := omega) only [uA_n]; done) | fail) only [iI_lit, iI_add, iI_sub, iI_mul, iI_neg, iI_lt, iI_le, iI_eq, zlt_t, zlt_f, zle_t, zle_f, zeq_t, zeq_f, nle_t, nle_f, iI_cl, rA, rS, rB, wA, wS, wB, mkp, mk2, uA_s, uA_n, ud_s, ud_n, bI_0, bI_1, nor_s, ↓reduceIte, or_false, false_or, or_true, true_or, or_self, not_true_eq_false, not_false_eq_true, and_true, true_and, and_false, false_and, bI_T, bI_F, Int.reduceToNat, Nat.reduceAdd, Nat.reduceMul, Int.reduceNeg, Option.bind_some, Int.toNat_natCast, a110]
  · unfold f_m_gets
    refine (askT (yp Ax) c0).trans ?_
    refine (askT (em_isClaim F R Ax hn) c).trans ?_
    refine obd y1 ?_
    refine (if_neg (by simp (disch := first | omega | (simp (disch := omega) only [uA_n]; done) | fail) only [iI_lit, iI_add, iI_sub, iI_mul, iI_neg, iI_lt, iI_le, iI_eq, zlt_t, zlt_f, zle_t, zle_f, zeq_t, zeq_f, nle_t, nle_f, iI_cl, rA, rS, rB, wA, wS, wB, mkp, mk2, uA_s, uA_n, ud_s, ud_n, bI_0, bI_1, nor_s, ↓reduceIte, or_false, false_or, or_true, true_or, or_self, not_true_eq_false, not_false_eq_true, and_true, true_and, and_false, false_and, bI_T, bI_F, Int.reduceToNat, Nat.reduceAdd, Nat.reduceMul, Int.reduceNeg, Option.bind_some, Int.toNat_natCast])).trans ?_
    simp (disch := first | omega | (simp (disch := omega) only [uA_n]; done) | fail) only [iI_lit, iI_add, iI_sub, iI_mul, iI_neg, iI_lt, iI_le, iI_eq, zlt_t, zlt_f, zle_t, zle_f, zeq_t, zeq_f, nle_t, nle_f, iI_cl, rA, rS, rB, wA, wS, wB, mkp, mk2, uA_s, uA_n, ud_s, ud_n, bI_0, bI_1, nor_s, ↓reduceIte, or_false, false_or, or_true, true_or, or_self, not_true_eq_false, not_false_eq_true, and_true, true_and, and_false, false_and, bI_T, bI_F, Int.reduceToNat, Nat.reduceAdd, Nat.reduceMul, Int.reduceNeg, Option.bind_some, Int.toNat_natCast, b309, e]
theorem c_assets (h : Inv i A B) (hi : i < 512) (hF : 700000 ≤ F) (v1 : Int32) : CP i A B (f_x_assets F v1) (f_m_assets F v1) := by
  obtain ⟨z, za, zb, rfl⟩ : ∃ z : Int, -2147483648 ≤ z ∧ z < 2147483648 ∧ v1 = iI z := ⟨_, (i32rg v1).1, (i32rg v1).2, iI_of v1⟩
  have R := h.rr
  have hK := h.kmx (by omega)
  have hn2 := R.gH.hn2
  have xp := fun Bx => ex_isHouse F R Bx z za zb
  have yp := fun Ax => em_isHouse F R Ax z za zb
  by_cases c0 : 0 ≤ z ∧ z < A 19 11
  rotate_left
  · refine cp_no F h (v := -3) (by omega) (by omega) (fun Bx => ?_) (fun Ax => ?_)
    · unfold f_x_assets
      exact (askF (xp Bx) c0).trans rfl
    · unfold f_m_assets
      exact (askF (yp Ax) c0).trans rfl
  have xu := fun Bx => ex_isUp F R Bx z c0.1 c0.2
  have yu := fun Ax => em_isUp F R Ax z c0.1 c0.2
  by_cases c1 : A 27 z.toNat = -1
  · refine cp_no F h (v := -2) (by omega) (by omega) (fun Bx => ?_) (fun Ax => ?_)
    · unfold f_x_assets
      refine (askT (xp Bx) c0).trans ?_
      exact (askT (xu Bx) c1).trans rfl
    · unfold f_m_assets
      refine (askT (yp Ax) c0).trans ?_
      exact (askT (yu Ax) c1).trans rfl
  have z1 : 1 ≤ z := by
    refine Int.not_lt.mp fun q => c1 ?_
    rw [show z = 0 by omega]
    exact R.gH.hd0
  intro Ax Bx
  obtain ⟨x, A1, x1, cs, mu⟩ := ex_shareOut F R (by omega) hF Bx
  obtain ⟨x2, y2, B1, y1, ms, mu2⟩ := em_settle F R (by omega) hF Ax
  have e : wl A x2 z = wl A x z := by
    unfold wl
    rw [sm_c (n := 60) (f := wlC A x2 z) (g := wlC A x z) (fun p hp => by unfold wlC; rw [mu.one mu2 hp])]
  have a111 := cs.2.2.1 z.toNat (by omega)
  rw [show ((z.toNat : Nat) : Int) = z by omega] at a111
  have ya := em_assets F R (by omega) (by omega) Ax ms mu2.1 z1 c0.2
  rw [e] at ya
  refine ⟨iI (wl A x z), A1, B1, ?_, ?_, (h.nb cs.nA ms.nB).up⟩
  · unfold f_x_assets
    refine (askT (xp Bx) c0).trans ?_
    refine (askF (xu Bx) c1).trans ?_
    refine obd x1 ?_
    refine (if_neg (by simp (disch := first | omega | (simp (disch := omega) only [uA_n]; done) | fail) only [iI_lit, iI_add, iI_sub, iI_mul, iI_neg, iI_lt, iI_le, iI_eq, zlt_t, zlt_f, zle_t, zle_f, zeq_t, zeq_f, nle_t, nle_f, iI_cl, rA, rS, rB, wA, wS, wB, mkp, mk2, uA_s, uA_n, ud_s, ud_n, bI_0, bI_1, nor_s, ↓reduceIte, or_false, false_or, or_true, true_or, or_self, not_true_eq_false, not_false_eq_true, and_true, true_and, and_false, false_and, bI_T, bI_F, Int.reduceToNat, Nat.reduceAdd, Nat.reduceMul, Int.reduceNeg, Option.bind_some, Int.toNat_natCast])).trans ?_
    simp (disch := first | omega | (simp (disch := omega) only [uA_n]; done) | fail) only [iI_lit, iI_add, iI_sub, iI_mul, iI_neg, iI_lt, iI_le, iI_eq, zlt_t, zlt_f, zle_t, zle_f, zeq_t, zeq_f, nle_t, nle_f, iI_cl, rA, rS, rB, wA, wS, wB, mkp, mk2, uA_s, uA_n, ud_s, ud_n, bI_0, bI_1, nor_s, ↓reduceIte, or_false, false_or, or_true, true_or, or_self, not_true_eq_false, not_false_eq_true, and_true, true_and, and_false, false_and, bI_T, bI_F, Int.reduceToNat, Nat.reduceAdd, Nat.reduceMul, Int.reduceNeg, Option.bind_some, Int.toNat_natCast, a111]
  · unfold f_m_assets
    refine (askT (yp Ax) c0).trans ?_
    refine (askF (yu Ax) c1).trans ?_
    refine obd y1 ?_
    exact obd ya rfl
end GETS
