/-! CALLS: help -/
section
variable {K D : Int} {A0 B0 A B : hI} {i : Nat} (F : Nat)
theorem RR.pledged (R : RR K D A0 B0 A B) {p : Nat} (hp : p < 60) (h1 : A 32 p = 1) {v : Int} (hv : 0 ≤ v ∧ v < A 19 11) (hs : A 37 p = 0) (hn : ∀ q, q < 60 → A 32 q = 3 → A 37 q = 0 → A 41 q ≠ p) : RR K D A0 B0 (uA (uA A 35 p v) 40 p 1) (uA (uA B 454 p v) 464 p 1) := by
  have hk : A 32 p ≠ -1 := by omega
  refine R.pap (fun k hk => by rw [uA_n (by omega), uA_n (by omega)]) (fun k hk => by rw [uA_n (by omega), uA_n (by omega)]) ?_
  have z := (R.gP.pz hp).2.resolve_left (fun z => hk z.1)
  refine R.gP.loc hp (fun c c1 c2 c3 q hq => ((pap_o (uA A 35 p v) p (k := 40) 1 (by omega)).1 c c1 c2 c3 q hq).trans ((pap_o A p (k := 35) v (by omega)).1 c c1 c2 c3 q hq)) (fun q i hq hi => by rw [uA_n (by omega), uA_n (by omega)]) (fun c _ _ q hq => (pap_oS _ p 464 1 c q hq).trans (pap_oS B p 454 v c q hq)) (fun q _ => by rw [uA_n (by omega), uA_n (by omega)]) (by rw [uA_n (by omega), uA_n (by omega)]) (by rw [uA_n (by omega), uA_n (by omega)]) (by rw [uA_n (by omega), uA_n (by omega)]) (by simp (disch := omega) only [uA_n]; omega) (by simp (disch := omega) only [uA_n]; exact Int.le_refl _) (by simp (disch := omega) only [uA_n]; exact R.gP.pe2) ⟨?_, Or.inr ⟨?_, ?_, ?_⟩⟩ ?_ ?_
  · simp (disch := omega) only [uA_n]; exact (R.gP.pz hp).1
  · obtain ⟨x1, x2, x3, x4, x5, x6, x7, x8, x9, x10, x11, x12, x13, x14, x15, x16, x17, x18, x19⟩ := z.1
    unfold PU
    simp (disch := omega) only [uA_s, uA_n, ud_s]
    exact ⟨x1, x2, x3, x4, x5, ⟨trivial, hv.1, hv.2⟩, x7, x8, x9, ⟨trivial, by omega, by omega⟩, x11, x12, x13, x14, x15, x16, fun y => by omega, fun y => by omega, x19⟩
  · intro y
    obtain ⟨u1, u2, u3⟩ := z.2.1 h1
    simp (disch := omega) only [uA_s, uA_n, ud_s]
    refine ⟨u1, fun i hi => ?_, fun y => by omega⟩
    rw [uA_n (by omega), uA_n (by omega)]
    exact u2 i hi
  · intro y
    simp (disch := omega) only [uA_n] at y
    omega
  · intro q hq hqp h3 h4 e
    exact absurd e (hn q hq h3 h4)
  · intro y
    simp (disch := omega) only [uA_n] at y
    omega
def xPl (A : hI) (p b : Nat) (d s u : Int) : hI := uA (uA (xAdd A p 3 d 0 s u) 41 p b) 44 p (A 16 9)
def mPl (B : hI) (p b : Nat) (d s u : Int) : hI := uA (mAdd B p 3 d 0 s u) 465 p b
theorem xPl_o (A : hI) (p b : Nat) (d s u : Int) {c : Nat} (hc : ¬ (31 ≤ c ∧ c ≤ 44)) : xPl A p b d s u c = A c := by
  unfold xPl; rw [uA_n (by omega), uA_n (by omega)]; exact xAdd_o A p 3 d 0 s u hc
theorem mPl_o (B : hI) (p b : Nat) (d s u : Int) {c : Nat} (hc : ¬ (450 ≤ c ∧ c < 470)) : mPl B p b d s u c = B c := by
  unfold mPl; rw [uA_n (by omega)]; exact mAdd_o B p 3 d 0 s u hc
theorem xPl_q (A : hI) (p b : Nat) (d s u : Int) {c q : Nat} (hc : 32 ≤ c ∧ c ≤ 44) (hc2 : c ≠ 38) (hq : q ≠ p) : xPl A p b d s u c q = A c q := by
  unfold xPl
  have z : ∀ X : hI, ∀ e v, uA X e p v c q = X c q := fun X e v => by
    by_cases h : c = e
    · subst h; rw [uA_s, ud_n hq]
    · rw [uA_n h]
  rw [z, z]
  exact xAdd_q A p 3 d 0 s u hc hc2 hq
theorem mPl_q (B : hI) (p b : Nat) (d s u : Int) {c q : Nat} (hc : 450 ≤ c ∧ c < 470) (hq : q ≠ p) : mPl B p b d s u c q = B c q := by
  unfold mPl
  have z : ∀ X : hI, ∀ e v, uA X e p v c q = X c q := fun X e v => by
    by_cases h : c = e
    · subst h; rw [uA_s, ud_n hq]
    · rw [uA_n h]
  rw [z]
  exact mAdd_q B p 3 d 0 s u hc hq
theorem RR.addpl (R : RR K D A0 B0 A B) {p b : Nat} (hp : p < 60) (hf : A 32 p = -1) (hb : b < 60) (b1 : A 32 b = 1) (b2 : A 37 b = 0) (b3 : A 40 b = 1) (b4 : A 35 b = 0) (hn : ∀ q, q < 60 → A 32 q = 3 → A 37 q = 0 → A 41 q ≠ b) {d s u : Int} (hd : 1 ≤ d ∧ d < A 19 11) (hs : 1 ≤ s ∧ s ≤ 11000) (hu : D ≤ u ∧ u ≤ A 16 9 + 60) (hub : u < A 36 b) (hup : A 27 d.toNat = -1) : RR K D A0 (b9 B0 (mPl B p b d s u)) (xPl A p b d s u) (mPl B p b d s u) := by
  have hd1 := R.gD.dd1
  have hd2 := R.gD.dd2
  have hd3 := R.gD.dd3
  have hdD := R.gD.dD1
  have hpb : b ≠ p := fun z => by rw [z] at b1; omega
  obtain ⟨⟨x1, x2, x3, x4, x5, x6⟩, x7, ⟨x8, x9, x10, x11, x12⟩, x13, x14, x15, x16⟩ := xAdd_p A p 3 d 0 s u
  obtain ⟨⟨y1, y2, y3, y4, y5, y6, y7⟩, ⟨y8, y9, y10, y11, y12⟩, y13, y14⟩ := mAdd_p B p 3 d 0 s u
  have hmx := R.gP.pe2
  have hmn := R.gP.pe1
  have e469 : mPl B p b d s u 469 = uA B 469 p 0 469 := by
    rw [uA_s]
    unfold mPl mAdd mAd0
    rw [uA_n (by omega)]
    split <;> (simp (disch := omega) only [uA_n]; exact mZ_i (by omega))
  have eb : b9 B0 (mPl B p b d s u) = b9 B0 (uA B 469 p 0) := by
    funext c
    by_cases hc : c = 469
    · rw [hc, b9_s, b9_s, e469]
    · rw [b9_n hc, b9_n hc]
  rw [eb]
  refine (R.r9 p 0).pap (fun c hc => xPl_o A p b d s u (by omega)) (fun c hc => ?_) ?_
  · by_cases h9 : c = 469
    · rw [h9]; exact e469
    · rw [mPl_o B p b d s u (by omega), uA_n h9]
  have o27 := xPl_o A p b d s u (c := 27) (by omega)
  have o19 := xPl_o A p b d s u (c := 19) (by omega)
  have o16 := xPl_o A p b d s u (c := 16) (by omega)
  have w : ∀ c : Nat, c ≠ 41 → c ≠ 44 → xPl A p b d s u c = xAdd A p 3 d 0 s u c := fun c h1 h2 => by unfold xPl; rw [uA_n h2, uA_n h1]
  have w41 : xPl A p b d s u 41 p = b := by unfold xPl; rw [uA_n (by omega), uA_s, ud_s]
  have w44 : xPl A p b d s u 44 p = A 16 9 := by unfold xPl; rw [uA_s, ud_s]
  have v : ∀ c : Nat, c ≠ 465 → mPl B p b d s u c = mAdd B p 3 d 0 s u c := fun c h1 => by unfold mPl; rw [uA_n h1]
  have v465 : mPl B p b d s u 465 p = b := by unfold mPl; rw [uA_s, ud_s]
  rw [if_neg (by omega)] at x7 y13
  refine R.gP.loc hp (fun c c1 c2 c3 q hq => xPl_q A p b d s u ⟨c1, c2⟩ c3 hq) (fun q i hq hi => by rw [w 38 (by omega) (by omega)]; exact xAdd_38 A p 3 d 0 s u (by omega) (by omega)) (fun c c1 c2 q hq => mPl_q B p b d s u ⟨c1, by omega⟩ hq) (fun q _ => by rw [mPl_o B p b d s u (by omega)]) o27 (by rw [o19]) (by rw [o16]) ?_ (by rw [w 31 (by omega) (by omega)]; omega) (by rw [w 31 (by omega) (by omega)]; omega) ⟨fun z => by rw [w 31 (by omega) (by omega)] at z; omega, Or.inr ⟨?_, ?_, ?_⟩⟩ ?_ ?_
  · rw [w 31 (by omega) (by omega), w 32 (by omega) (by omega), x15, x1, bI_t (show (3 : Int) ≠ -1 by omega), bI_f (fun z => z hf)]; omega
  · unfold PU
    rw [w41, w44, v465, o27, o19, o16]
    simp (disch := omega) only [w, v]
    rw [x1, x2, x3, x4, x5, x6, x7, x8, x10, x11, y1, y2, y3, y4, y5, y6, y7, y8, y10, y11, y12, y13]
    exact ⟨by omega, rfl, rfl, ⟨rfl, hs.1, hs.2, fun z => absurd rfl z⟩, ⟨rfl, hd.1, hd.2⟩, ⟨rfl, by omega, by omega⟩, ⟨rfl, by omega, by omega⟩, ⟨rfl, by omega, by omega⟩, rfl, ⟨rfl, by omega, by omega⟩, by trivial, ⟨rfl, by omega, by omega⟩, ⟨rfl, by omega, by omega⟩, fun _ => ⟨rfl, rfl, by omega⟩, fun _ _ => hu, fun _ _ => hup, fun z => by omega, fun z => by omega, fun _ => ⟨hd3, hd1, Int.le_refl _⟩⟩
  · intro z
    rw [w 32 (by omega) (by omega), x1] at z
    omega
  · intro _ _
    have cq := fun (c : Nat) (h1 : 32 ≤ c ∧ c ≤ 44) (h2 : c ≠ 38) => xPl_q A p b d s u (c := c) (q := b) h1 h2 hpb
    rw [w41, Int.toNat_natCast, cq 32 (by omega) (by omega), cq 37 (by omega) (by omega), cq 40 (by omega) (by omega), cq 35 (by omega) (by omega), cq 36 (by omega) (by omega), w 35 (by omega) (by omega), w 36 (by omega) (by omega), x4, x5]
    exact ⟨rfl, by omega, by omega, b1, b2, b3, b4, hub⟩
  · intro q hq hqp h3 h0 e
    have g := R.gP.ppg q hq h3 h0
    rw [e, Int.toNat_natCast, hf] at g
    omega
  · intro _ _ q hq hqp h3 h0
    rw [w41]
    exact fun z => hn q hq h3 h0 z.symm
theorem xPl_cm (A : hI) {p b : Nat} (hpb : b ≠ p) (d s u : Int) : xPl (uA (uA A 35 b 0) 40 b 1) p b d s u = uA (uA (uA (uA (xAdd A p 3 d 0 s u) 41 p b) 44 p (A 16 9)) 40 b 1) 35 b 0 := by
  funext c q
  unfold xPl xAdd
  by_cases h35 : c = 35
  · subst h35
    simp (disch := omega) only [uA_s, uA_n]
    by_cases z : q = p
    · subst z; rw [ud_s, ud_n (by omega), ud_s]
    · rw [ud_n z]
      by_cases y : q = b
      · subst y; rw [ud_s, ud_s]
      · rw [ud_n y, ud_n y, ud_n z]
  · by_cases h40 : c = 40
    · subst h40
      simp (disch := omega) only [uA_s, uA_n]
      by_cases z : q = p
      · subst z; rw [ud_s, ud_n (by omega), ud_s]
      · rw [ud_n z]
        by_cases y : q = b
        · subst y; rw [ud_s, ud_s]
        · rw [ud_n y, ud_n y, ud_n z]
    · have e1 : ∀ X : hI, uA (uA X 40 b 1) 35 b 0 c = X c := fun X => by rw [uA_n h35, uA_n h40]
      have e2 : ∀ X : hI, uA (uA X 35 b 0) 40 b 1 c = X c := fun X => by rw [uA_n h40, uA_n h35]
      rw [e1]
      have e3 : ∀ (X Y : hI) (k j : Nat) (v : Int), X c = Y c → uA X k j v c = uA Y k j v c := fun X Y k j v e => by
        by_cases h : c = k
        · subst h; rw [uA_s, uA_s, e]
        · rw [uA_n h, uA_n h, e]
      have e16 : uA (uA A 35 b 0) 40 b 1 16 9 = A 16 9 := by rw [uA_n (by omega), uA_n (by omega)]
      have e31 : uA (uA A 35 b 0) 40 b 1 31 = A 31 := by rw [uA_n (by omega), uA_n (by omega)]
      rw [e16, e31]
      refine congrFun ?_ q
      refine e3 _ _ _ _ _ ?_
      refine e3 _ _ _ _ _ ?_
      refine e3 _ _ _ _ _ ?_
      refine e3 _ _ _ _ _ ?_
      refine e3 _ _ _ _ _ ?_
      refine e3 _ _ _ _ _ ?_
      refine e3 _ _ _ _ _ ?_
      refine e3 _ _ _ _ _ ?_
      refine e3 _ _ _ _ _ ?_
      refine e3 _ _ _ _ _ ?_
      refine e3 _ _ _ _ _ ?_
      refine e3 _ _ _ _ _ ?_
      refine e3 _ _ _ _ _ ?_
      refine e3 _ _ _ _ _ ?_
      refine e3 _ _ _ _ _ ?_
      refine e3 _ _ _ _ _ ?_
      refine e3 _ _ _ _ _ ?_
      refine e3 _ _ _ _ _ ?_
      exact e2 A
theorem mPl_cm (B : hI) {p b : Nat} (hpb : b ≠ p) (d s u : Int) : mPl (uA (uA B 454 b 0) 464 b 1) p b d s u = uA (uA (uA (mAdd B p 3 d 0 s u) 465 p b) 464 b 1) 454 b 0 := by
  funext c q
  unfold mPl
  by_cases hc : 450 ≤ c ∧ c < 470
  · by_cases z : q = p
    · subst z
      have e : ∀ X : hI, ∀ k v, uA X k b v c q = X c q := fun X k v => by
        by_cases h : c = k
        · subst h; rw [uA_s, ud_n (fun z => hpb z.symm)]
        · rw [uA_n h]
      rw [e, e]
      have k1 : ∀ X Y : hI, X c q = Y c q → uA X 465 q b c q = uA Y 465 q b c q := fun X Y e => by
        by_cases h : c = 465
        · subst h; rw [uA_s, uA_s, ud_s, ud_s]
        · rw [uA_n h, uA_n h, e]
      refine k1 _ _ ?_
      unfold mAdd
      rw [if_neg (by omega), if_neg (by omega)]
      unfold mAd0
      have k2 : ∀ (X Y : hI) (k : Nat) (v : Int), X c q = Y c q → uA X k q v c q = uA Y k q v c q := fun X Y k v e => by
        by_cases h : c = k
        · subst h; rw [uA_s, uA_s, ud_s, ud_s]
        · rw [uA_n h, uA_n h, e]
      have e400 : uA (uA B 454 b 0) 464 b 1 400 0 = B 400 0 := by rw [uA_n (by omega), uA_n (by omega)]
      rw [e400]
      refine k2 _ _ _ _ ?_
      refine k2 _ _ _ _ ?_
      refine k2 _ _ _ _ ?_
      refine k2 _ _ _ _ ?_
      refine k2 _ _ _ _ ?_
      refine k2 _ _ _ _ ?_
      refine k2 _ _ _ _ ?_
      refine k2 _ _ _ _ ?_
      refine k2 _ _ _ _ ?_
      rw [mZ_i hc, mZ_i hc, ud_s, ud_s]
    · have e : ∀ X : hI, ∀ v, uA X 465 p v c q = X c q := fun X v => by
        by_cases h : c = 465
        · subst h; rw [uA_s, ud_n z]
        · rw [uA_n h]
      rw [e, mAdd_q _ p 3 d 0 s u hc z]
      have k3 : ∀ (X Y : hI) (k : Nat) (v : Int), X c q = Y c q → uA X k b v c q = uA Y k b v c q := fun X Y k v e => by
        by_cases h : c = k
        · subst h
          by_cases y : q = b
          · subst y; rw [uA_s, uA_s, ud_s, ud_s]
          · rw [uA_s, uA_s, ud_n y, ud_n y, e]
        · rw [uA_n h, uA_n h, e]
      have cm : uA (uA B 454 b 0) 464 b 1 c q = uA (uA B 464 b 1) 454 b 0 c q := by
        by_cases h : c = 454
        · subst h; rw [uA_n (by omega), uA_s, uA_s, uA_n (by omega)]
        · rw [uA_n (k := 454) h]
          by_cases h2 : c = 464
          · subst h2; rw [uA_s, uA_s, uA_n h]
          · rw [uA_n h2, uA_n h2, uA_n h]
      rw [cm]
      refine k3 _ _ _ _ ?_
      refine k3 _ _ _ _ ?_
      rw [e, mAdd_q _ p 3 d 0 s u hc z]
  · rw [uA_n (by omega), mAdd_o _ p 3 d 0 s u hc, uA_n (by omega), uA_n (by omega), uA_n (by omega), uA_n (by omega), uA_n (by omega), mAdd_o _ p 3 d 0 s u hc]
theorem bcan_c {A1 B1 : hI} (gx : ∀ k : Nat, k ≠ 15 → k ≠ 54 → A1 k = A k) (gy : xBb B B1) (s : Int) : bcan A1 B1 s ↔ bcan A B s := by
  have e : ∀ bill key : Int, say A1 B1 bill key = say A B bill key := say_c (fun k hk => gx k (by omega) (by omega)) (fun k h1 h2 => gy.1 k (by omega) (by omega) (by omega) (by omega) (by omega) (by omega) (by omega))
  unfold bcan
  rw [e, e, gx 22 (by omega) (by omega), gx 55 (by omega) (by omega)]
theorem c_help (h : Inv i A B) (hi : i < 512) (hF : 1000 ≤ F) (v1 v2 : Int32) : CP i A B (f_x_help F v1 v2) (f_m_help F v1 v2) := by
  obtain ⟨n, na, nb, rfl⟩ : ∃ z : Int, -2147483648 ≤ z ∧ z < 2147483648 ∧ v1 = iI z := ⟨_, (i32rg v1).1, (i32rg v1).2, iI_of v1⟩
  obtain ⟨d, da, db, rfl⟩ : ∃ z : Int, -2147483648 ≤ z ∧ z < 2147483648 ∧ v2 = iI z := ⟨_, (i32rg v2).1, (i32rg v2).2, iI_of v2⟩
  have R := h.rr
  have hn2 := R.gH.hn2
  have hn1 := R.gH.hn1
  have hK := h.kmx (by omega)
  have d1 := R.gD.dd1
  have d2 := R.gD.dd2
  have d3 := R.gD.dd3
  have d4 := R.gD.dD1
  have r1 := R.gD.dr1
  have r2 := R.gD.dr2
  have r3 := R.gD.dr3
  by_cases c0 : 0 ≤ n ∧ n < 60 ∧ A 32 n.toNat ≠ -1
  rotate_left
  · refine cp_no F h (v := -3) (by omega) (by omega) (fun Bx => ?_) (fun Ax => ?_)
    · unfold f_x_help
      refine (askF (ex_isPaper F R Bx n na nb) c0).trans ?_
      rfl
    · unfold f_m_help
      refine (askF (em_isPaper F R Ax n na nb) c0).trans ?_
      rfl
  obtain ⟨n, rfl⟩ : ∃ m : Nat, n = m := ⟨n.toNat, by omega⟩
  have hn : n < 60 := by omega
  have hk : A 32 n ≠ -1 := c0.2.2
  have kr := R.kr hn
  have ph := R.gP.ph n hn hk
  by_cases c1 : A 32 n = 1
  rotate_left
  · refine cp_no F h (v := -5) (by omega) (by omega) (fun Bx => ?_) (fun Ax => ?_)
    · unfold f_x_help
      refine (askT (ex_isPaper F R Bx n na nb) c0).trans ?_
      refine (if_neg (by simp (disch := first | omega | (simp (disch := omega) only [uA_n]; done) | fail) only [iI_lit, iI_add, iI_sub, iI_mul, iI_neg, iI_lt, iI_le, iI_eq, zlt_t, zlt_f, zle_t, zle_f, zeq_t, zeq_f, nle_t, nle_f, iI_cl, rA, rS, rB, wA, wS, wB, mkp, mk2, uA_s, uA_n, ud_s, ud_n, bI_0, bI_1, nor_s, ↓reduceIte, or_false, false_or, or_true, true_or, or_self, not_true_eq_false, not_false_eq_true, and_true, true_and, and_false, false_and, bI_T, bI_F, Int.reduceToNat, Nat.reduceAdd, Nat.reduceMul, Int.reduceNeg, Option.bind_some, Int.toNat_natCast])).trans ?_
      refine (if_neg (by simp (disch := first | omega | (simp (disch := omega) only [uA_n]; done) | fail) only [iI_lit, iI_add, iI_sub, iI_mul, iI_neg, iI_lt, iI_le, iI_eq, zlt_t, zlt_f, zle_t, zle_f, zeq_t, zeq_f, nle_t, nle_f, iI_cl, rA, rS, rB, wA, wS, wB, mkp, mk2, uA_s, uA_n, ud_s, ud_n, bI_0, bI_1, nor_s, ↓reduceIte, or_false, false_or, or_true, true_or, or_self, not_true_eq_false, not_false_eq_true, and_true, true_and, and_false, false_and, bI_T, bI_F, Int.reduceToNat, Nat.reduceAdd, Nat.reduceMul, Int.reduceNeg, Option.bind_some, Int.toNat_natCast])).trans ?_
      rfl
    · unfold f_m_help
      refine (askT (em_isPaper F R Ax n na nb) c0).trans ?_
      refine obd (pap F Ax 4 4 rfl hn (by omega) ph.1) ?_
      refine obd (pap F Ax 1 1 rfl hn (by omega) (R.gP.pk n hn hk)) ?_
      refine (if_neg (by simp (disch := first | omega | (simp (disch := omega) only [uA_n]; done) | fail) only [iI_lit, iI_add, iI_sub, iI_mul, iI_neg, iI_lt, iI_le, iI_eq, zlt_t, zlt_f, zle_t, zle_f, zeq_t, zeq_f, nle_t, nle_f, iI_cl, rA, rS, rB, wA, wS, wB, mkp, mk2, uA_s, uA_n, ud_s, ud_n, bI_0, bI_1, nor_s, ↓reduceIte, or_false, false_or, or_true, true_or, or_self, not_true_eq_false, not_false_eq_true, and_true, true_and, and_false, false_and, bI_T, bI_F, Int.reduceToNat, Nat.reduceAdd, Nat.reduceMul, Int.reduceNeg, Option.bind_some, Int.toNat_natCast])).trans ?_
      rfl
  by_cases c2 : 1 ≤ A 35 n
  rotate_left
  · refine cp_no F h (v := -5) (by omega) (by omega) (fun Bx => ?_) (fun Ax => ?_)
    · unfold f_x_help
      refine (askT (ex_isPaper F R Bx n na nb) c0).trans ?_
      refine (if_neg (by simp (disch := first | omega | (simp (disch := omega) only [uA_n]; done) | fail) only [iI_lit, iI_add, iI_sub, iI_mul, iI_neg, iI_lt, iI_le, iI_eq, zlt_t, zlt_f, zle_t, zle_f, zeq_t, zeq_f, nle_t, nle_f, iI_cl, rA, rS, rB, wA, wS, wB, mkp, mk2, uA_s, uA_n, ud_s, ud_n, bI_0, bI_1, nor_s, ↓reduceIte, or_false, false_or, or_true, true_or, or_self, not_true_eq_false, not_false_eq_true, and_true, true_and, and_false, false_and, bI_T, bI_F, Int.reduceToNat, Nat.reduceAdd, Nat.reduceMul, Int.reduceNeg, Option.bind_some, Int.toNat_natCast])).trans ?_
      refine (if_pos (by simp (disch := first | omega | (simp (disch := omega) only [uA_n]; done) | fail) only [iI_lit, iI_add, iI_sub, iI_mul, iI_neg, iI_lt, iI_le, iI_eq, zlt_t, zlt_f, zle_t, zle_f, zeq_t, zeq_f, nle_t, nle_f, iI_cl, rA, rS, rB, wA, wS, wB, mkp, mk2, uA_s, uA_n, ud_s, ud_n, bI_0, bI_1, nor_s, ↓reduceIte, or_false, false_or, or_true, true_or, or_self, not_true_eq_false, not_false_eq_true, and_true, true_and, and_false, false_and, bI_T, bI_F, Int.reduceToNat, Nat.reduceAdd, Nat.reduceMul, Int.reduceNeg, Option.bind_some, Int.toNat_natCast, c1])).trans ?_
      refine (if_pos (by simp (disch := first | omega | (simp (disch := omega) only [uA_n]; done) | fail) only [iI_lit, iI_add, iI_sub, iI_mul, iI_neg, iI_lt, iI_le, iI_eq, zlt_t, zlt_f, zle_t, zle_f, zeq_t, zeq_f, nle_t, nle_f, iI_cl, rA, rS, rB, wA, wS, wB, mkp, mk2, uA_s, uA_n, ud_s, ud_n, bI_0, bI_1, nor_s, ↓reduceIte, or_false, false_or, or_true, true_or, or_self, not_true_eq_false, not_false_eq_true, and_true, true_and, and_false, false_and, bI_T, bI_F, Int.reduceToNat, Nat.reduceAdd, Nat.reduceMul, Int.reduceNeg, Option.bind_some, Int.toNat_natCast])).trans ?_
      rfl
    · unfold f_m_help
      refine (askT (em_isPaper F R Ax n na nb) c0).trans ?_
      refine obd (pap F Ax 4 4 rfl hn (by omega) ph.1) ?_
      refine obd (pap F Ax 1 1 rfl hn (by omega) (R.gP.pk n hn hk)) ?_
      refine (if_pos (by simp (disch := first | omega | (simp (disch := omega) only [uA_n]; done) | fail) only [iI_lit, iI_add, iI_sub, iI_mul, iI_neg, iI_lt, iI_le, iI_eq, zlt_t, zlt_f, zle_t, zle_f, zeq_t, zeq_f, nle_t, nle_f, iI_cl, rA, rS, rB, wA, wS, wB, mkp, mk2, uA_s, uA_n, ud_s, ud_n, bI_0, bI_1, nor_s, ↓reduceIte, or_false, false_or, or_true, true_or, or_self, not_true_eq_false, not_false_eq_true, and_true, true_and, and_false, false_and, bI_T, bI_F, Int.reduceToNat, Nat.reduceAdd, Nat.reduceMul, Int.reduceNeg, Option.bind_some, Int.toNat_natCast, c1])).trans ?_
      refine (if_pos (by simp (disch := first | omega | (simp (disch := omega) only [uA_n]; done) | fail) only [iI_lit, iI_add, iI_sub, iI_mul, iI_neg, iI_lt, iI_le, iI_eq, zlt_t, zlt_f, zle_t, zle_f, zeq_t, zeq_f, nle_t, nle_f, iI_cl, rA, rS, rB, wA, wS, wB, mkp, mk2, uA_s, uA_n, ud_s, ud_n, bI_0, bI_1, nor_s, ↓reduceIte, or_false, false_or, or_true, true_or, or_self, not_true_eq_false, not_false_eq_true, and_true, true_and, and_false, false_and, bI_T, bI_F, Int.reduceToNat, Nat.reduceAdd, Nat.reduceMul, Int.reduceNeg, Option.bind_some, Int.toNat_natCast])).trans ?_
      rfl
  by_cases c3 : 1 ≤ d
  rotate_left
  · refine cp_no F h (v := -7) (by omega) (by omega) (fun Bx => ?_) (fun Ax => ?_)
    · unfold f_x_help
      refine (askT (ex_isPaper F R Bx n na nb) c0).trans ?_
      refine (if_neg (by simp (disch := first | omega | (simp (disch := omega) only [uA_n]; done) | fail) only [iI_lit, iI_add, iI_sub, iI_mul, iI_neg, iI_lt, iI_le, iI_eq, zlt_t, zlt_f, zle_t, zle_f, zeq_t, zeq_f, nle_t, nle_f, iI_cl, rA, rS, rB, wA, wS, wB, mkp, mk2, uA_s, uA_n, ud_s, ud_n, bI_0, bI_1, nor_s, ↓reduceIte, or_false, false_or, or_true, true_or, or_self, not_true_eq_false, not_false_eq_true, and_true, true_and, and_false, false_and, bI_T, bI_F, Int.reduceToNat, Nat.reduceAdd, Nat.reduceMul, Int.reduceNeg, Option.bind_some, Int.toNat_natCast])).trans ?_
      refine (if_pos (by simp (disch := first | omega | (simp (disch := omega) only [uA_n]; done) | fail) only [iI_lit, iI_add, iI_sub, iI_mul, iI_neg, iI_lt, iI_le, iI_eq, zlt_t, zlt_f, zle_t, zle_f, zeq_t, zeq_f, nle_t, nle_f, iI_cl, rA, rS, rB, wA, wS, wB, mkp, mk2, uA_s, uA_n, ud_s, ud_n, bI_0, bI_1, nor_s, ↓reduceIte, or_false, false_or, or_true, true_or, or_self, not_true_eq_false, not_false_eq_true, and_true, true_and, and_false, false_and, bI_T, bI_F, Int.reduceToNat, Nat.reduceAdd, Nat.reduceMul, Int.reduceNeg, Option.bind_some, Int.toNat_natCast, c1])).trans ?_
      refine (if_neg (by simp (disch := first | omega | (simp (disch := omega) only [uA_n]; done) | fail) only [iI_lit, iI_add, iI_sub, iI_mul, iI_neg, iI_lt, iI_le, iI_eq, zlt_t, zlt_f, zle_t, zle_f, zeq_t, zeq_f, nle_t, nle_f, iI_cl, rA, rS, rB, wA, wS, wB, mkp, mk2, uA_s, uA_n, ud_s, ud_n, bI_0, bI_1, nor_s, ↓reduceIte, or_false, false_or, or_true, true_or, or_self, not_true_eq_false, not_false_eq_true, and_true, true_and, and_false, false_and, bI_T, bI_F, Int.reduceToNat, Nat.reduceAdd, Nat.reduceMul, Int.reduceNeg, Option.bind_some, Int.toNat_natCast])).trans ?_
      refine (if_pos (by simp (disch := first | omega | (simp (disch := omega) only [uA_n]; done) | fail) only [iI_lit, iI_add, iI_sub, iI_mul, iI_neg, iI_lt, iI_le, iI_eq, zlt_t, zlt_f, zle_t, zle_f, zeq_t, zeq_f, nle_t, nle_f, iI_cl, rA, rS, rB, wA, wS, wB, mkp, mk2, uA_s, uA_n, ud_s, ud_n, bI_0, bI_1, nor_s, ↓reduceIte, or_false, false_or, or_true, true_or, or_self, not_true_eq_false, not_false_eq_true, and_true, true_and, and_false, false_and, bI_T, bI_F, Int.reduceToNat, Nat.reduceAdd, Nat.reduceMul, Int.reduceNeg, Option.bind_some, Int.toNat_natCast])).trans ?_
      rfl
    · unfold f_m_help
      refine (askT (em_isPaper F R Ax n na nb) c0).trans ?_
      refine obd (pap F Ax 4 4 rfl hn (by omega) ph.1) ?_
      refine obd (pap F Ax 1 1 rfl hn (by omega) (R.gP.pk n hn hk)) ?_
      refine (if_pos (by simp (disch := first | omega | (simp (disch := omega) only [uA_n]; done) | fail) only [iI_lit, iI_add, iI_sub, iI_mul, iI_neg, iI_lt, iI_le, iI_eq, zlt_t, zlt_f, zle_t, zle_f, zeq_t, zeq_f, nle_t, nle_f, iI_cl, rA, rS, rB, wA, wS, wB, mkp, mk2, uA_s, uA_n, ud_s, ud_n, bI_0, bI_1, nor_s, ↓reduceIte, or_false, false_or, or_true, true_or, or_self, not_true_eq_false, not_false_eq_true, and_true, true_and, and_false, false_and, bI_T, bI_F, Int.reduceToNat, Nat.reduceAdd, Nat.reduceMul, Int.reduceNeg, Option.bind_some, Int.toNat_natCast, c1])).trans ?_
      refine (if_neg (by simp (disch := first | omega | (simp (disch := omega) only [uA_n]; done) | fail) only [iI_lit, iI_add, iI_sub, iI_mul, iI_neg, iI_lt, iI_le, iI_eq, zlt_t, zlt_f, zle_t, zle_f, zeq_t, zeq_f, nle_t, nle_f, iI_cl, rA, rS, rB, wA, wS, wB, mkp, mk2, uA_s, uA_n, ud_s, ud_n, bI_0, bI_1, nor_s, ↓reduceIte, or_false, false_or, or_true, true_or, or_self, not_true_eq_false, not_false_eq_true, and_true, true_and, and_false, false_and, bI_T, bI_F, Int.reduceToNat, Nat.reduceAdd, Nat.reduceMul, Int.reduceNeg, Option.bind_some, Int.toNat_natCast])).trans ?_
      refine (askF (em_in F d 1 60 (mk Ax B) da db (by omega) (by omega) (by omega) (by omega)) (by omega)).trans ?_
      rfl
  by_cases c4 : d ≤ 60
  rotate_left
  · refine cp_no F h (v := -7) (by omega) (by omega) (fun Bx => ?_) (fun Ax => ?_)
    · unfold f_x_help
      refine (askT (ex_isPaper F R Bx n na nb) c0).trans ?_
      refine (if_neg (by simp (disch := first | omega | (simp (disch := omega) only [uA_n]; done) | fail) only [iI_lit, iI_add, iI_sub, iI_mul, iI_neg, iI_lt, iI_le, iI_eq, zlt_t, zlt_f, zle_t, zle_f, zeq_t, zeq_f, nle_t, nle_f, iI_cl, rA, rS, rB, wA, wS, wB, mkp, mk2, uA_s, uA_n, ud_s, ud_n, bI_0, bI_1, nor_s, ↓reduceIte, or_false, false_or, or_true, true_or, or_self, not_true_eq_false, not_false_eq_true, and_true, true_and, and_false, false_and, bI_T, bI_F, Int.reduceToNat, Nat.reduceAdd, Nat.reduceMul, Int.reduceNeg, Option.bind_some, Int.toNat_natCast])).trans ?_
      refine (if_pos (by simp (disch := first | omega | (simp (disch := omega) only [uA_n]; done) | fail) only [iI_lit, iI_add, iI_sub, iI_mul, iI_neg, iI_lt, iI_le, iI_eq, zlt_t, zlt_f, zle_t, zle_f, zeq_t, zeq_f, nle_t, nle_f, iI_cl, rA, rS, rB, wA, wS, wB, mkp, mk2, uA_s, uA_n, ud_s, ud_n, bI_0, bI_1, nor_s, ↓reduceIte, or_false, false_or, or_true, true_or, or_self, not_true_eq_false, not_false_eq_true, and_true, true_and, and_false, false_and, bI_T, bI_F, Int.reduceToNat, Nat.reduceAdd, Nat.reduceMul, Int.reduceNeg, Option.bind_some, Int.toNat_natCast, c1])).trans ?_
      refine (if_neg (by simp (disch := first | omega | (simp (disch := omega) only [uA_n]; done) | fail) only [iI_lit, iI_add, iI_sub, iI_mul, iI_neg, iI_lt, iI_le, iI_eq, zlt_t, zlt_f, zle_t, zle_f, zeq_t, zeq_f, nle_t, nle_f, iI_cl, rA, rS, rB, wA, wS, wB, mkp, mk2, uA_s, uA_n, ud_s, ud_n, bI_0, bI_1, nor_s, ↓reduceIte, or_false, false_or, or_true, true_or, or_self, not_true_eq_false, not_false_eq_true, and_true, true_and, and_false, false_and, bI_T, bI_F, Int.reduceToNat, Nat.reduceAdd, Nat.reduceMul, Int.reduceNeg, Option.bind_some, Int.toNat_natCast])).trans ?_
      refine (if_neg (by simp (disch := first | omega | (simp (disch := omega) only [uA_n]; done) | fail) only [iI_lit, iI_add, iI_sub, iI_mul, iI_neg, iI_lt, iI_le, iI_eq, zlt_t, zlt_f, zle_t, zle_f, zeq_t, zeq_f, nle_t, nle_f, iI_cl, rA, rS, rB, wA, wS, wB, mkp, mk2, uA_s, uA_n, ud_s, ud_n, bI_0, bI_1, nor_s, ↓reduceIte, or_false, false_or, or_true, true_or, or_self, not_true_eq_false, not_false_eq_true, and_true, true_and, and_false, false_and, bI_T, bI_F, Int.reduceToNat, Nat.reduceAdd, Nat.reduceMul, Int.reduceNeg, Option.bind_some, Int.toNat_natCast])).trans ?_
      refine (if_pos (by simp (disch := first | omega | (simp (disch := omega) only [uA_n]; done) | fail) only [iI_lit, iI_add, iI_sub, iI_mul, iI_neg, iI_lt, iI_le, iI_eq, zlt_t, zlt_f, zle_t, zle_f, zeq_t, zeq_f, nle_t, nle_f, iI_cl, rA, rS, rB, wA, wS, wB, mkp, mk2, uA_s, uA_n, ud_s, ud_n, bI_0, bI_1, nor_s, ↓reduceIte, or_false, false_or, or_true, true_or, or_self, not_true_eq_false, not_false_eq_true, and_true, true_and, and_false, false_and, bI_T, bI_F, Int.reduceToNat, Nat.reduceAdd, Nat.reduceMul, Int.reduceNeg, Option.bind_some, Int.toNat_natCast])).trans ?_
      rfl
    · unfold f_m_help
      refine (askT (em_isPaper F R Ax n na nb) c0).trans ?_
      refine obd (pap F Ax 4 4 rfl hn (by omega) ph.1) ?_
      refine obd (pap F Ax 1 1 rfl hn (by omega) (R.gP.pk n hn hk)) ?_
      refine (if_pos (by simp (disch := first | omega | (simp (disch := omega) only [uA_n]; done) | fail) only [iI_lit, iI_add, iI_sub, iI_mul, iI_neg, iI_lt, iI_le, iI_eq, zlt_t, zlt_f, zle_t, zle_f, zeq_t, zeq_f, nle_t, nle_f, iI_cl, rA, rS, rB, wA, wS, wB, mkp, mk2, uA_s, uA_n, ud_s, ud_n, bI_0, bI_1, nor_s, ↓reduceIte, or_false, false_or, or_true, true_or, or_self, not_true_eq_false, not_false_eq_true, and_true, true_and, and_false, false_and, bI_T, bI_F, Int.reduceToNat, Nat.reduceAdd, Nat.reduceMul, Int.reduceNeg, Option.bind_some, Int.toNat_natCast, c1])).trans ?_
      refine (if_neg (by simp (disch := first | omega | (simp (disch := omega) only [uA_n]; done) | fail) only [iI_lit, iI_add, iI_sub, iI_mul, iI_neg, iI_lt, iI_le, iI_eq, zlt_t, zlt_f, zle_t, zle_f, zeq_t, zeq_f, nle_t, nle_f, iI_cl, rA, rS, rB, wA, wS, wB, mkp, mk2, uA_s, uA_n, ud_s, ud_n, bI_0, bI_1, nor_s, ↓reduceIte, or_false, false_or, or_true, true_or, or_self, not_true_eq_false, not_false_eq_true, and_true, true_and, and_false, false_and, bI_T, bI_F, Int.reduceToNat, Nat.reduceAdd, Nat.reduceMul, Int.reduceNeg, Option.bind_some, Int.toNat_natCast])).trans ?_
      refine (askF (em_in F d 1 60 (mk Ax B) da db (by omega) (by omega) (by omega) (by omega)) (by omega)).trans ?_
      rfl
  have pst := R.gP.pst n hn hk
  have pdu := R.gP.pdu n hn hk
  have ps := R.gP.ps n hn hk
  by_cases c5 : A 37 n = 0
  rotate_left
  · refine cp_no F h (v := -7) (by omega) (by omega) (fun Bx => ?_) (fun Ax => ?_)
    · unfold f_x_help
      refine (askT (ex_isPaper F R Bx n na nb) c0).trans ?_
      refine (if_neg (by simp (disch := first | omega | (simp (disch := omega) only [uA_n]; done) | fail) only [iI_lit, iI_add, iI_sub, iI_mul, iI_neg, iI_lt, iI_le, iI_eq, zlt_t, zlt_f, zle_t, zle_f, zeq_t, zeq_f, nle_t, nle_f, iI_cl, rA, rS, rB, wA, wS, wB, mkp, mk2, uA_s, uA_n, ud_s, ud_n, bI_0, bI_1, nor_s, ↓reduceIte, or_false, false_or, or_true, true_or, or_self, not_true_eq_false, not_false_eq_true, and_true, true_and, and_false, false_and, bI_T, bI_F, Int.reduceToNat, Nat.reduceAdd, Nat.reduceMul, Int.reduceNeg, Option.bind_some, Int.toNat_natCast])).trans ?_
      refine (if_pos (by simp (disch := first | omega | (simp (disch := omega) only [uA_n]; done) | fail) only [iI_lit, iI_add, iI_sub, iI_mul, iI_neg, iI_lt, iI_le, iI_eq, zlt_t, zlt_f, zle_t, zle_f, zeq_t, zeq_f, nle_t, nle_f, iI_cl, rA, rS, rB, wA, wS, wB, mkp, mk2, uA_s, uA_n, ud_s, ud_n, bI_0, bI_1, nor_s, ↓reduceIte, or_false, false_or, or_true, true_or, or_self, not_true_eq_false, not_false_eq_true, and_true, true_and, and_false, false_and, bI_T, bI_F, Int.reduceToNat, Nat.reduceAdd, Nat.reduceMul, Int.reduceNeg, Option.bind_some, Int.toNat_natCast, c1])).trans ?_
      refine (if_neg (by simp (disch := first | omega | (simp (disch := omega) only [uA_n]; done) | fail) only [iI_lit, iI_add, iI_sub, iI_mul, iI_neg, iI_lt, iI_le, iI_eq, zlt_t, zlt_f, zle_t, zle_f, zeq_t, zeq_f, nle_t, nle_f, iI_cl, rA, rS, rB, wA, wS, wB, mkp, mk2, uA_s, uA_n, ud_s, ud_n, bI_0, bI_1, nor_s, ↓reduceIte, or_false, false_or, or_true, true_or, or_self, not_true_eq_false, not_false_eq_true, and_true, true_and, and_false, false_and, bI_T, bI_F, Int.reduceToNat, Nat.reduceAdd, Nat.reduceMul, Int.reduceNeg, Option.bind_some, Int.toNat_natCast])).trans ?_
      refine (if_neg (by simp (disch := first | omega | (simp (disch := omega) only [uA_n]; done) | fail) only [iI_lit, iI_add, iI_sub, iI_mul, iI_neg, iI_lt, iI_le, iI_eq, zlt_t, zlt_f, zle_t, zle_f, zeq_t, zeq_f, nle_t, nle_f, iI_cl, rA, rS, rB, wA, wS, wB, mkp, mk2, uA_s, uA_n, ud_s, ud_n, bI_0, bI_1, nor_s, ↓reduceIte, or_false, false_or, or_true, true_or, or_self, not_true_eq_false, not_false_eq_true, and_true, true_and, and_false, false_and, bI_T, bI_F, Int.reduceToNat, Nat.reduceAdd, Nat.reduceMul, Int.reduceNeg, Option.bind_some, Int.toNat_natCast])).trans ?_
      refine (if_neg (by simp (disch := first | omega | (simp (disch := omega) only [uA_n]; done) | fail) only [iI_lit, iI_add, iI_sub, iI_mul, iI_neg, iI_lt, iI_le, iI_eq, zlt_t, zlt_f, zle_t, zle_f, zeq_t, zeq_f, nle_t, nle_f, iI_cl, rA, rS, rB, wA, wS, wB, mkp, mk2, uA_s, uA_n, ud_s, ud_n, bI_0, bI_1, nor_s, ↓reduceIte, or_false, false_or, or_true, true_or, or_self, not_true_eq_false, not_false_eq_true, and_true, true_and, and_false, false_and, bI_T, bI_F, Int.reduceToNat, Nat.reduceAdd, Nat.reduceMul, Int.reduceNeg, Option.bind_some, Int.toNat_natCast])).trans ?_
      refine (if_neg (by simp (disch := first | omega | (simp (disch := omega) only [uA_n]; done) | fail) only [iI_lit, iI_add, iI_sub, iI_mul, iI_neg, iI_lt, iI_le, iI_eq, zlt_t, zlt_f, zle_t, zle_f, zeq_t, zeq_f, nle_t, nle_f, iI_cl, rA, rS, rB, wA, wS, wB, mkp, mk2, uA_s, uA_n, ud_s, ud_n, bI_0, bI_1, nor_s, ↓reduceIte, or_false, false_or, or_true, true_or, or_self, not_true_eq_false, not_false_eq_true, and_true, true_and, and_false, false_and, bI_T, bI_F, Int.reduceToNat, Nat.reduceAdd, Nat.reduceMul, Int.reduceNeg, Option.bind_some, Int.toNat_natCast])).trans ?_
      rfl
    · unfold f_m_help
      refine (askT (em_isPaper F R Ax n na nb) c0).trans ?_
      refine obd (pap F Ax 4 4 rfl hn (by omega) ph.1) ?_
      refine obd (pap F Ax 1 1 rfl hn (by omega) (R.gP.pk n hn hk)) ?_
      refine (if_pos (by simp (disch := first | omega | (simp (disch := omega) only [uA_n]; done) | fail) only [iI_lit, iI_add, iI_sub, iI_mul, iI_neg, iI_lt, iI_le, iI_eq, zlt_t, zlt_f, zle_t, zle_f, zeq_t, zeq_f, nle_t, nle_f, iI_cl, rA, rS, rB, wA, wS, wB, mkp, mk2, uA_s, uA_n, ud_s, ud_n, bI_0, bI_1, nor_s, ↓reduceIte, or_false, false_or, or_true, true_or, or_self, not_true_eq_false, not_false_eq_true, and_true, true_and, and_false, false_and, bI_T, bI_F, Int.reduceToNat, Nat.reduceAdd, Nat.reduceMul, Int.reduceNeg, Option.bind_some, Int.toNat_natCast, c1])).trans ?_
      refine (if_neg (by simp (disch := first | omega | (simp (disch := omega) only [uA_n]; done) | fail) only [iI_lit, iI_add, iI_sub, iI_mul, iI_neg, iI_lt, iI_le, iI_eq, zlt_t, zlt_f, zle_t, zle_f, zeq_t, zeq_f, nle_t, nle_f, iI_cl, rA, rS, rB, wA, wS, wB, mkp, mk2, uA_s, uA_n, ud_s, ud_n, bI_0, bI_1, nor_s, ↓reduceIte, or_false, false_or, or_true, true_or, or_self, not_true_eq_false, not_false_eq_true, and_true, true_and, and_false, false_and, bI_T, bI_F, Int.reduceToNat, Nat.reduceAdd, Nat.reduceMul, Int.reduceNeg, Option.bind_some, Int.toNat_natCast])).trans ?_
      refine (askT (em_in F d 1 60 (mk Ax B) da db (by omega) (by omega) (by omega) (by omega)) ⟨c3, c4⟩).trans ?_
      refine obd (pap F Ax 6 6 rfl hn (by omega) pst.1) ?_
      refine (if_neg (by simp (disch := first | omega | (simp (disch := omega) only [uA_n]; done) | fail) only [iI_lit, iI_add, iI_sub, iI_mul, iI_neg, iI_lt, iI_le, iI_eq, zlt_t, zlt_f, zle_t, zle_f, zeq_t, zeq_f, nle_t, nle_f, iI_cl, rA, rS, rB, wA, wS, wB, mkp, mk2, uA_s, uA_n, ud_s, ud_n, bI_0, bI_1, nor_s, ↓reduceIte, or_false, false_or, or_true, true_or, or_self, not_true_eq_false, not_false_eq_true, and_true, true_and, and_false, false_and, bI_T, bI_F, Int.reduceToNat, Nat.reduceAdd, Nat.reduceMul, Int.reduceNeg, Option.bind_some, Int.toNat_natCast])).trans ?_
      rfl
  by_cases c6 : A 27 (A 35 n).toNat = -1
  rotate_left
  · refine cp_no F h (v := -7) (by omega) (by omega) (fun Bx => ?_) (fun Ax => ?_)
    · unfold f_x_help
      refine (askT (ex_isPaper F R Bx n na nb) c0).trans ?_
      refine (if_neg (by simp (disch := first | omega | (simp (disch := omega) only [uA_n]; done) | fail) only [iI_lit, iI_add, iI_sub, iI_mul, iI_neg, iI_lt, iI_le, iI_eq, zlt_t, zlt_f, zle_t, zle_f, zeq_t, zeq_f, nle_t, nle_f, iI_cl, rA, rS, rB, wA, wS, wB, mkp, mk2, uA_s, uA_n, ud_s, ud_n, bI_0, bI_1, nor_s, ↓reduceIte, or_false, false_or, or_true, true_or, or_self, not_true_eq_false, not_false_eq_true, and_true, true_and, and_false, false_and, bI_T, bI_F, Int.reduceToNat, Nat.reduceAdd, Nat.reduceMul, Int.reduceNeg, Option.bind_some, Int.toNat_natCast])).trans ?_
      refine (if_pos (by simp (disch := first | omega | (simp (disch := omega) only [uA_n]; done) | fail) only [iI_lit, iI_add, iI_sub, iI_mul, iI_neg, iI_lt, iI_le, iI_eq, zlt_t, zlt_f, zle_t, zle_f, zeq_t, zeq_f, nle_t, nle_f, iI_cl, rA, rS, rB, wA, wS, wB, mkp, mk2, uA_s, uA_n, ud_s, ud_n, bI_0, bI_1, nor_s, ↓reduceIte, or_false, false_or, or_true, true_or, or_self, not_true_eq_false, not_false_eq_true, and_true, true_and, and_false, false_and, bI_T, bI_F, Int.reduceToNat, Nat.reduceAdd, Nat.reduceMul, Int.reduceNeg, Option.bind_some, Int.toNat_natCast, c1])).trans ?_
      refine (if_neg (by simp (disch := first | omega | (simp (disch := omega) only [uA_n]; done) | fail) only [iI_lit, iI_add, iI_sub, iI_mul, iI_neg, iI_lt, iI_le, iI_eq, zlt_t, zlt_f, zle_t, zle_f, zeq_t, zeq_f, nle_t, nle_f, iI_cl, rA, rS, rB, wA, wS, wB, mkp, mk2, uA_s, uA_n, ud_s, ud_n, bI_0, bI_1, nor_s, ↓reduceIte, or_false, false_or, or_true, true_or, or_self, not_true_eq_false, not_false_eq_true, and_true, true_and, and_false, false_and, bI_T, bI_F, Int.reduceToNat, Nat.reduceAdd, Nat.reduceMul, Int.reduceNeg, Option.bind_some, Int.toNat_natCast])).trans ?_
      refine (if_neg (by simp (disch := first | omega | (simp (disch := omega) only [uA_n]; done) | fail) only [iI_lit, iI_add, iI_sub, iI_mul, iI_neg, iI_lt, iI_le, iI_eq, zlt_t, zlt_f, zle_t, zle_f, zeq_t, zeq_f, nle_t, nle_f, iI_cl, rA, rS, rB, wA, wS, wB, mkp, mk2, uA_s, uA_n, ud_s, ud_n, bI_0, bI_1, nor_s, ↓reduceIte, or_false, false_or, or_true, true_or, or_self, not_true_eq_false, not_false_eq_true, and_true, true_and, and_false, false_and, bI_T, bI_F, Int.reduceToNat, Nat.reduceAdd, Nat.reduceMul, Int.reduceNeg, Option.bind_some, Int.toNat_natCast])).trans ?_
      refine (if_neg (by simp (disch := first | omega | (simp (disch := omega) only [uA_n]; done) | fail) only [iI_lit, iI_add, iI_sub, iI_mul, iI_neg, iI_lt, iI_le, iI_eq, zlt_t, zlt_f, zle_t, zle_f, zeq_t, zeq_f, nle_t, nle_f, iI_cl, rA, rS, rB, wA, wS, wB, mkp, mk2, uA_s, uA_n, ud_s, ud_n, bI_0, bI_1, nor_s, ↓reduceIte, or_false, false_or, or_true, true_or, or_self, not_true_eq_false, not_false_eq_true, and_true, true_and, and_false, false_and, bI_T, bI_F, Int.reduceToNat, Nat.reduceAdd, Nat.reduceMul, Int.reduceNeg, Option.bind_some, Int.toNat_natCast])).trans ?_
      refine (if_pos (by simp (disch := first | omega | (simp (disch := omega) only [uA_n]; done) | fail) only [iI_lit, iI_add, iI_sub, iI_mul, iI_neg, iI_lt, iI_le, iI_eq, zlt_t, zlt_f, zle_t, zle_f, zeq_t, zeq_f, nle_t, nle_f, iI_cl, rA, rS, rB, wA, wS, wB, mkp, mk2, uA_s, uA_n, ud_s, ud_n, bI_0, bI_1, nor_s, ↓reduceIte, or_false, false_or, or_true, true_or, or_self, not_true_eq_false, not_false_eq_true, and_true, true_and, and_false, false_and, bI_T, bI_F, Int.reduceToNat, Nat.reduceAdd, Nat.reduceMul, Int.reduceNeg, Option.bind_some, Int.toNat_natCast, c5])).trans ?_
      have xu := ex_isUp F R Bx (A 35 n) ph.2.1 ph.2.2
      rw [bI_f c6] at xu
      refine obd (v := (iI 0, mk A Bx)) (by simp (disch := first | omega | (simp (disch := omega) only [uA_n]; done) | fail) only [iI_lit, iI_add, iI_sub, iI_mul, iI_neg, iI_lt, iI_le, iI_eq, zlt_t, zlt_f, zle_t, zle_f, zeq_t, zeq_f, nle_t, nle_f, iI_cl, rA, rS, rB, wA, wS, wB, mkp, mk2, uA_s, uA_n, ud_s, ud_n, bI_0, bI_1, nor_s, ↓reduceIte, or_false, false_or, or_true, true_or, or_self, not_true_eq_false, not_false_eq_true, and_true, true_and, and_false, false_and, bI_T, bI_F, Int.reduceToNat, Nat.reduceAdd, Nat.reduceMul, Int.reduceNeg, Option.bind_some, Int.toNat_natCast, xu]) ?_
      refine (if_pos rfl).trans ?_
      rfl
    · unfold f_m_help
      refine (askT (em_isPaper F R Ax n na nb) c0).trans ?_
      refine obd (pap F Ax 4 4 rfl hn (by omega) ph.1) ?_
      refine obd (pap F Ax 1 1 rfl hn (by omega) (R.gP.pk n hn hk)) ?_
      refine (if_pos (by simp (disch := first | omega | (simp (disch := omega) only [uA_n]; done) | fail) only [iI_lit, iI_add, iI_sub, iI_mul, iI_neg, iI_lt, iI_le, iI_eq, zlt_t, zlt_f, zle_t, zle_f, zeq_t, zeq_f, nle_t, nle_f, iI_cl, rA, rS, rB, wA, wS, wB, mkp, mk2, uA_s, uA_n, ud_s, ud_n, bI_0, bI_1, nor_s, ↓reduceIte, or_false, false_or, or_true, true_or, or_self, not_true_eq_false, not_false_eq_true, and_true, true_and, and_false, false_and, bI_T, bI_F, Int.reduceToNat, Nat.reduceAdd, Nat.reduceMul, Int.reduceNeg, Option.bind_some, Int.toNat_natCast, c1])).trans ?_
      refine (if_neg (by simp (disch := first | omega | (simp (disch := omega) only [uA_n]; done) | fail) only [iI_lit, iI_add, iI_sub, iI_mul, iI_neg, iI_lt, iI_le, iI_eq, zlt_t, zlt_f, zle_t, zle_f, zeq_t, zeq_f, nle_t, nle_f, iI_cl, rA, rS, rB, wA, wS, wB, mkp, mk2, uA_s, uA_n, ud_s, ud_n, bI_0, bI_1, nor_s, ↓reduceIte, or_false, false_or, or_true, true_or, or_self, not_true_eq_false, not_false_eq_true, and_true, true_and, and_false, false_and, bI_T, bI_F, Int.reduceToNat, Nat.reduceAdd, Nat.reduceMul, Int.reduceNeg, Option.bind_some, Int.toNat_natCast])).trans ?_
      refine (askT (em_in F d 1 60 (mk Ax B) da db (by omega) (by omega) (by omega) (by omega)) ⟨c3, c4⟩).trans ?_
      refine obd (pap F Ax 6 6 rfl hn (by omega) pst.1) ?_
      refine (if_pos (by simp (disch := first | omega | (simp (disch := omega) only [uA_n]; done) | fail) only [iI_lit, iI_add, iI_sub, iI_mul, iI_neg, iI_lt, iI_le, iI_eq, zlt_t, zlt_f, zle_t, zle_f, zeq_t, zeq_f, nle_t, nle_f, iI_cl, rA, rS, rB, wA, wS, wB, mkp, mk2, uA_s, uA_n, ud_s, ud_n, bI_0, bI_1, nor_s, ↓reduceIte, or_false, false_or, or_true, true_or, or_self, not_true_eq_false, not_false_eq_true, and_true, true_and, and_false, false_and, bI_T, bI_F, Int.reduceToNat, Nat.reduceAdd, Nat.reduceMul, Int.reduceNeg, Option.bind_some, Int.toNat_natCast, c5])).trans ?_
      refine (askF (em_isUp F R Ax (A 35 n) ph.2.1 ph.2.2) c6).trans ?_
      rfl
  by_cases c7 : d < A 36 n - A 16 9
  rotate_left
  · refine cp_no F h (v := -7) (by omega) (by omega) (fun Bx => ?_) (fun Ax => ?_)
    · unfold f_x_help
      refine (askT (ex_isPaper F R Bx n na nb) c0).trans ?_
      refine (if_neg (by simp (disch := first | omega | (simp (disch := omega) only [uA_n]; done) | fail) only [iI_lit, iI_add, iI_sub, iI_mul, iI_neg, iI_lt, iI_le, iI_eq, zlt_t, zlt_f, zle_t, zle_f, zeq_t, zeq_f, nle_t, nle_f, iI_cl, rA, rS, rB, wA, wS, wB, mkp, mk2, uA_s, uA_n, ud_s, ud_n, bI_0, bI_1, nor_s, ↓reduceIte, or_false, false_or, or_true, true_or, or_self, not_true_eq_false, not_false_eq_true, and_true, true_and, and_false, false_and, bI_T, bI_F, Int.reduceToNat, Nat.reduceAdd, Nat.reduceMul, Int.reduceNeg, Option.bind_some, Int.toNat_natCast])).trans ?_
      refine (if_pos (by simp (disch := first | omega | (simp (disch := omega) only [uA_n]; done) | fail) only [iI_lit, iI_add, iI_sub, iI_mul, iI_neg, iI_lt, iI_le, iI_eq, zlt_t, zlt_f, zle_t, zle_f, zeq_t, zeq_f, nle_t, nle_f, iI_cl, rA, rS, rB, wA, wS, wB, mkp, mk2, uA_s, uA_n, ud_s, ud_n, bI_0, bI_1, nor_s, ↓reduceIte, or_false, false_or, or_true, true_or, or_self, not_true_eq_false, not_false_eq_true, and_true, true_and, and_false, false_and, bI_T, bI_F, Int.reduceToNat, Nat.reduceAdd, Nat.reduceMul, Int.reduceNeg, Option.bind_some, Int.toNat_natCast, c1])).trans ?_
      refine (if_neg (by simp (disch := first | omega | (simp (disch := omega) only [uA_n]; done) | fail) only [iI_lit, iI_add, iI_sub, iI_mul, iI_neg, iI_lt, iI_le, iI_eq, zlt_t, zlt_f, zle_t, zle_f, zeq_t, zeq_f, nle_t, nle_f, iI_cl, rA, rS, rB, wA, wS, wB, mkp, mk2, uA_s, uA_n, ud_s, ud_n, bI_0, bI_1, nor_s, ↓reduceIte, or_false, false_or, or_true, true_or, or_self, not_true_eq_false, not_false_eq_true, and_true, true_and, and_false, false_and, bI_T, bI_F, Int.reduceToNat, Nat.reduceAdd, Nat.reduceMul, Int.reduceNeg, Option.bind_some, Int.toNat_natCast])).trans ?_
      refine (if_neg (by simp (disch := first | omega | (simp (disch := omega) only [uA_n]; done) | fail) only [iI_lit, iI_add, iI_sub, iI_mul, iI_neg, iI_lt, iI_le, iI_eq, zlt_t, zlt_f, zle_t, zle_f, zeq_t, zeq_f, nle_t, nle_f, iI_cl, rA, rS, rB, wA, wS, wB, mkp, mk2, uA_s, uA_n, ud_s, ud_n, bI_0, bI_1, nor_s, ↓reduceIte, or_false, false_or, or_true, true_or, or_self, not_true_eq_false, not_false_eq_true, and_true, true_and, and_false, false_and, bI_T, bI_F, Int.reduceToNat, Nat.reduceAdd, Nat.reduceMul, Int.reduceNeg, Option.bind_some, Int.toNat_natCast])).trans ?_
      refine (if_neg (by simp (disch := first | omega | (simp (disch := omega) only [uA_n]; done) | fail) only [iI_lit, iI_add, iI_sub, iI_mul, iI_neg, iI_lt, iI_le, iI_eq, zlt_t, zlt_f, zle_t, zle_f, zeq_t, zeq_f, nle_t, nle_f, iI_cl, rA, rS, rB, wA, wS, wB, mkp, mk2, uA_s, uA_n, ud_s, ud_n, bI_0, bI_1, nor_s, ↓reduceIte, or_false, false_or, or_true, true_or, or_self, not_true_eq_false, not_false_eq_true, and_true, true_and, and_false, false_and, bI_T, bI_F, Int.reduceToNat, Nat.reduceAdd, Nat.reduceMul, Int.reduceNeg, Option.bind_some, Int.toNat_natCast])).trans ?_
      refine (if_pos (by simp (disch := first | omega | (simp (disch := omega) only [uA_n]; done) | fail) only [iI_lit, iI_add, iI_sub, iI_mul, iI_neg, iI_lt, iI_le, iI_eq, zlt_t, zlt_f, zle_t, zle_f, zeq_t, zeq_f, nle_t, nle_f, iI_cl, rA, rS, rB, wA, wS, wB, mkp, mk2, uA_s, uA_n, ud_s, ud_n, bI_0, bI_1, nor_s, ↓reduceIte, or_false, false_or, or_true, true_or, or_self, not_true_eq_false, not_false_eq_true, and_true, true_and, and_false, false_and, bI_T, bI_F, Int.reduceToNat, Nat.reduceAdd, Nat.reduceMul, Int.reduceNeg, Option.bind_some, Int.toNat_natCast, c5])).trans ?_
      have xu := ex_isUp F R Bx (A 35 n) ph.2.1 ph.2.2
      rw [bI_t c6] at xu
      refine obd (v := (iI 1, mk A Bx)) (by simp (disch := first | omega | (simp (disch := omega) only [uA_n]; done) | fail) only [iI_lit, iI_add, iI_sub, iI_mul, iI_neg, iI_lt, iI_le, iI_eq, zlt_t, zlt_f, zle_t, zle_f, zeq_t, zeq_f, nle_t, nle_f, iI_cl, rA, rS, rB, wA, wS, wB, mkp, mk2, uA_s, uA_n, ud_s, ud_n, bI_0, bI_1, nor_s, ↓reduceIte, or_false, false_or, or_true, true_or, or_self, not_true_eq_false, not_false_eq_true, and_true, true_and, and_false, false_and, bI_T, bI_F, Int.reduceToNat, Nat.reduceAdd, Nat.reduceMul, Int.reduceNeg, Option.bind_some, Int.toNat_natCast, xu]) ?_
      refine (if_neg i1n0).trans ?_
      refine (if_neg (by simp (disch := first | omega | (simp (disch := omega) only [uA_n]; done) | fail) only [iI_lit, iI_add, iI_sub, iI_mul, iI_neg, iI_lt, iI_le, iI_eq, zlt_t, zlt_f, zle_t, zle_f, zeq_t, zeq_f, nle_t, nle_f, iI_cl, rA, rS, rB, wA, wS, wB, mkp, mk2, uA_s, uA_n, ud_s, ud_n, bI_0, bI_1, nor_s, ↓reduceIte, or_false, false_or, or_true, true_or, or_self, not_true_eq_false, not_false_eq_true, and_true, true_and, and_false, false_and, bI_T, bI_F, Int.reduceToNat, Nat.reduceAdd, Nat.reduceMul, Int.reduceNeg, Option.bind_some, Int.toNat_natCast])).trans ?_
      rfl
    · unfold f_m_help
      refine (askT (em_isPaper F R Ax n na nb) c0).trans ?_
      refine obd (pap F Ax 4 4 rfl hn (by omega) ph.1) ?_
      refine obd (pap F Ax 1 1 rfl hn (by omega) (R.gP.pk n hn hk)) ?_
      refine (if_pos (by simp (disch := first | omega | (simp (disch := omega) only [uA_n]; done) | fail) only [iI_lit, iI_add, iI_sub, iI_mul, iI_neg, iI_lt, iI_le, iI_eq, zlt_t, zlt_f, zle_t, zle_f, zeq_t, zeq_f, nle_t, nle_f, iI_cl, rA, rS, rB, wA, wS, wB, mkp, mk2, uA_s, uA_n, ud_s, ud_n, bI_0, bI_1, nor_s, ↓reduceIte, or_false, false_or, or_true, true_or, or_self, not_true_eq_false, not_false_eq_true, and_true, true_and, and_false, false_and, bI_T, bI_F, Int.reduceToNat, Nat.reduceAdd, Nat.reduceMul, Int.reduceNeg, Option.bind_some, Int.toNat_natCast, c1])).trans ?_
      refine (if_neg (by simp (disch := first | omega | (simp (disch := omega) only [uA_n]; done) | fail) only [iI_lit, iI_add, iI_sub, iI_mul, iI_neg, iI_lt, iI_le, iI_eq, zlt_t, zlt_f, zle_t, zle_f, zeq_t, zeq_f, nle_t, nle_f, iI_cl, rA, rS, rB, wA, wS, wB, mkp, mk2, uA_s, uA_n, ud_s, ud_n, bI_0, bI_1, nor_s, ↓reduceIte, or_false, false_or, or_true, true_or, or_self, not_true_eq_false, not_false_eq_true, and_true, true_and, and_false, false_and, bI_T, bI_F, Int.reduceToNat, Nat.reduceAdd, Nat.reduceMul, Int.reduceNeg, Option.bind_some, Int.toNat_natCast])).trans ?_
      refine (askT (em_in F d 1 60 (mk Ax B) da db (by omega) (by omega) (by omega) (by omega)) ⟨c3, c4⟩).trans ?_
      refine obd (pap F Ax 6 6 rfl hn (by omega) pst.1) ?_
      refine (if_pos (by simp (disch := first | omega | (simp (disch := omega) only [uA_n]; done) | fail) only [iI_lit, iI_add, iI_sub, iI_mul, iI_neg, iI_lt, iI_le, iI_eq, zlt_t, zlt_f, zle_t, zle_f, zeq_t, zeq_f, nle_t, nle_f, iI_cl, rA, rS, rB, wA, wS, wB, mkp, mk2, uA_s, uA_n, ud_s, ud_n, bI_0, bI_1, nor_s, ↓reduceIte, or_false, false_or, or_true, true_or, or_self, not_true_eq_false, not_false_eq_true, and_true, true_and, and_false, false_and, bI_T, bI_F, Int.reduceToNat, Nat.reduceAdd, Nat.reduceMul, Int.reduceNeg, Option.bind_some, Int.toNat_natCast, c5])).trans ?_
      refine (askT (em_isUp F R Ax (A 35 n) ph.2.1 ph.2.2) c6).trans ?_
      refine obd (pap F Ax 5 5 rfl hn (by omega) pdu.1) ?_
      refine (if_neg (by simp (disch := first | omega | (simp (disch := omega) only [uA_n]; done) | fail) only [iI_lit, iI_add, iI_sub, iI_mul, iI_neg, iI_lt, iI_le, iI_eq, zlt_t, zlt_f, zle_t, zle_f, zeq_t, zeq_f, nle_t, nle_f, iI_cl, rA, rS, rB, wA, wS, wB, mkp, mk2, uA_s, uA_n, ud_s, ud_n, bI_0, bI_1, nor_s, ↓reduceIte, or_false, false_or, or_true, true_or, or_self, not_true_eq_false, not_false_eq_true, and_true, true_and, and_false, false_and, bI_T, bI_F, Int.reduceToNat, Nat.reduceAdd, Nat.reduceMul, Int.reduceNeg, Option.bind_some, Int.toNat_natCast, dS, d3])).trans ?_
      rfl
  obtain ⟨W, hW⟩ : ∃ W : Int, wi (say A B (n : Int) 3).toInt 0 100 = W := ⟨_, rfl⟩
  have W1 : 0 ≤ W ∧ W ≤ 100 := by rw [← hW]; unfold wi; omega
  have pr1 : 0 ≤ A 33 n * W := Int.mul_nonneg (by omega) W1.1
  have pr2 : A 33 n * W ≤ 9999 * 100 := Int.mul_le_mul (by omega) W1.2 W1.1 (by omega)
  obtain ⟨l, hl⟩ : ∃ l : Int, A 33 n * W / 100 = l := ⟨_, rfl⟩
  have l1 : 0 ≤ l ∧ l ≤ 9999 := by omega
  have hbill : (n : Int) = -1 ∨ (0 ≤ (n : Int) ∧ (n : Int) < 60 ∧ A 32 (n : Int).toNat ≠ -1) := Or.inr c0
  have xl : ∀ Bx : hI, ∃ A1 : hI, f_World_lendable F (iI (n : Int)) (mk A Bx) = some (iI l, mk A1 Bx) ∧ ∀ k : Nat, k ≠ 15 → k ≠ 54 → A1 k = A k := fun Bx => by
    obtain ⟨A1, x1, g1⟩ := ex_lawSays F R hF (by omega) Bx (bill := n) (key := 3) hbill (by omega) (by omega)
    refine ⟨A1, ?_, g1⟩
    have xw := ex_within F (say A B (n : Int) 3).toInt 0 100 (mk A1 Bx) (i32rg _).1 (i32rg _).2 (by omega) (by omega) (by omega) (by omega)
    rw [← iI_of, hW] at xw
    unfold f_World_lendable
    refine (if_neg (by simp (disch := first | omega | (simp (disch := omega) only [uA_n]; done) | fail) only [iI_lit, iI_add, iI_sub, iI_mul, iI_neg, iI_lt, iI_le, iI_eq, zlt_t, zlt_f, zle_t, zle_f, zeq_t, zeq_f, nle_t, nle_f, iI_cl, rA, rS, rB, wA, wS, wB, mkp, mk2, uA_s, uA_n, ud_s, ud_n, bI_0, bI_1, nor_s, ↓reduceIte, or_false, false_or, or_true, true_or, or_self, not_true_eq_false, not_false_eq_true, and_true, true_and, and_false, false_and, bI_T, bI_F, Int.reduceToNat, Nat.reduceAdd, Nat.reduceMul, Int.reduceNeg, Option.bind_some, Int.toNat_natCast])).trans ?_
    refine obd x1 ?_
    refine obd xw ?_
    simp (disch := first | omega | (simp (disch := omega) only [uA_n]; done) | fail) only [iI_lit, iI_add, iI_sub, iI_mul, iI_neg, iI_lt, iI_le, iI_eq, zlt_t, zlt_f, zle_t, zle_f, zeq_t, zeq_f, nle_t, nle_f, iI_cl, rA, rS, rB, wA, wS, wB, mkp, mk2, uA_s, uA_n, ud_s, ud_n, bI_0, bI_1, nor_s, ↓reduceIte, or_false, false_or, or_true, true_or, or_self, not_true_eq_false, not_false_eq_true, and_true, true_and, and_false, false_and, bI_T, bI_F, Int.reduceToNat, Nat.reduceAdd, Nat.reduceMul, Int.reduceNeg, Option.bind_some, Int.toNat_natCast, iI_div, hl]
  have yl : ∀ Ax : hI, ∃ B1 : hI, f_m_ruled F 3 (iI (n : Int)) 0 (mk Ax B) = some (say A B (n : Int) 3, mk Ax B1) ∧ f_m_within F (say A B (n : Int) 3) 0 100 (mk Ax B1) = some (iI W, mk Ax B1) ∧ fr4 B B1 := fun Ax => by
    obtain ⟨B1, y1, g1⟩ := em_ruled F Ax R hF (by omega) (bill := n) (key := 3) (d := 0) hbill (by omega) (by omega) rfl
    refine ⟨B1, y1, ?_, g1⟩
    have yw := em_within F (say A B (n : Int) 3).toInt 0 100 (mk Ax B1) (i32rg _).1 (i32rg _).2 (by omega) (by omega) (by omega) (by omega) (by omega)
    rw [← iI_of, hW] at yw
    exact yw
  by_cases c8 : 1 ≤ l
  rotate_left
  · refine cp_no2 F h (v := -7) (by omega) (by omega) (fun Bx => ?_) (fun Ax => ?_)
    · obtain ⟨A1, xl1, gl1⟩ := xl Bx
      refine ⟨A1, nA.law gl1, ?_⟩
      unfold f_x_help
      refine (askT (ex_isPaper F R Bx n na nb) c0).trans ?_
      refine (if_neg (by simp (disch := first | omega | (simp (disch := omega) only [uA_n]; done) | fail) only [iI_lit, iI_add, iI_sub, iI_mul, iI_neg, iI_lt, iI_le, iI_eq, zlt_t, zlt_f, zle_t, zle_f, zeq_t, zeq_f, nle_t, nle_f, iI_cl, rA, rS, rB, wA, wS, wB, mkp, mk2, uA_s, uA_n, ud_s, ud_n, bI_0, bI_1, nor_s, ↓reduceIte, or_false, false_or, or_true, true_or, or_self, not_true_eq_false, not_false_eq_true, and_true, true_and, and_false, false_and, bI_T, bI_F, Int.reduceToNat, Nat.reduceAdd, Nat.reduceMul, Int.reduceNeg, Option.bind_some, Int.toNat_natCast])).trans ?_
      refine (if_pos (by simp (disch := first | omega | (simp (disch := omega) only [uA_n]; done) | fail) only [iI_lit, iI_add, iI_sub, iI_mul, iI_neg, iI_lt, iI_le, iI_eq, zlt_t, zlt_f, zle_t, zle_f, zeq_t, zeq_f, nle_t, nle_f, iI_cl, rA, rS, rB, wA, wS, wB, mkp, mk2, uA_s, uA_n, ud_s, ud_n, bI_0, bI_1, nor_s, ↓reduceIte, or_false, false_or, or_true, true_or, or_self, not_true_eq_false, not_false_eq_true, and_true, true_and, and_false, false_and, bI_T, bI_F, Int.reduceToNat, Nat.reduceAdd, Nat.reduceMul, Int.reduceNeg, Option.bind_some, Int.toNat_natCast, c1])).trans ?_
      refine (if_neg (by simp (disch := first | omega | (simp (disch := omega) only [uA_n]; done) | fail) only [iI_lit, iI_add, iI_sub, iI_mul, iI_neg, iI_lt, iI_le, iI_eq, zlt_t, zlt_f, zle_t, zle_f, zeq_t, zeq_f, nle_t, nle_f, iI_cl, rA, rS, rB, wA, wS, wB, mkp, mk2, uA_s, uA_n, ud_s, ud_n, bI_0, bI_1, nor_s, ↓reduceIte, or_false, false_or, or_true, true_or, or_self, not_true_eq_false, not_false_eq_true, and_true, true_and, and_false, false_and, bI_T, bI_F, Int.reduceToNat, Nat.reduceAdd, Nat.reduceMul, Int.reduceNeg, Option.bind_some, Int.toNat_natCast])).trans ?_
      refine (if_neg (by simp (disch := first | omega | (simp (disch := omega) only [uA_n]; done) | fail) only [iI_lit, iI_add, iI_sub, iI_mul, iI_neg, iI_lt, iI_le, iI_eq, zlt_t, zlt_f, zle_t, zle_f, zeq_t, zeq_f, nle_t, nle_f, iI_cl, rA, rS, rB, wA, wS, wB, mkp, mk2, uA_s, uA_n, ud_s, ud_n, bI_0, bI_1, nor_s, ↓reduceIte, or_false, false_or, or_true, true_or, or_self, not_true_eq_false, not_false_eq_true, and_true, true_and, and_false, false_and, bI_T, bI_F, Int.reduceToNat, Nat.reduceAdd, Nat.reduceMul, Int.reduceNeg, Option.bind_some, Int.toNat_natCast])).trans ?_
      refine (if_neg (by simp (disch := first | omega | (simp (disch := omega) only [uA_n]; done) | fail) only [iI_lit, iI_add, iI_sub, iI_mul, iI_neg, iI_lt, iI_le, iI_eq, zlt_t, zlt_f, zle_t, zle_f, zeq_t, zeq_f, nle_t, nle_f, iI_cl, rA, rS, rB, wA, wS, wB, mkp, mk2, uA_s, uA_n, ud_s, ud_n, bI_0, bI_1, nor_s, ↓reduceIte, or_false, false_or, or_true, true_or, or_self, not_true_eq_false, not_false_eq_true, and_true, true_and, and_false, false_and, bI_T, bI_F, Int.reduceToNat, Nat.reduceAdd, Nat.reduceMul, Int.reduceNeg, Option.bind_some, Int.toNat_natCast])).trans ?_
      refine (if_pos (by simp (disch := first | omega | (simp (disch := omega) only [uA_n]; done) | fail) only [iI_lit, iI_add, iI_sub, iI_mul, iI_neg, iI_lt, iI_le, iI_eq, zlt_t, zlt_f, zle_t, zle_f, zeq_t, zeq_f, nle_t, nle_f, iI_cl, rA, rS, rB, wA, wS, wB, mkp, mk2, uA_s, uA_n, ud_s, ud_n, bI_0, bI_1, nor_s, ↓reduceIte, or_false, false_or, or_true, true_or, or_self, not_true_eq_false, not_false_eq_true, and_true, true_and, and_false, false_and, bI_T, bI_F, Int.reduceToNat, Nat.reduceAdd, Nat.reduceMul, Int.reduceNeg, Option.bind_some, Int.toNat_natCast, c5])).trans ?_
      have xu := ex_isUp F R Bx (A 35 n) ph.2.1 ph.2.2
      rw [bI_t c6] at xu
      refine obd (v := (iI 1, mk A Bx)) (by simp (disch := first | omega | (simp (disch := omega) only [uA_n]; done) | fail) only [iI_lit, iI_add, iI_sub, iI_mul, iI_neg, iI_lt, iI_le, iI_eq, zlt_t, zlt_f, zle_t, zle_f, zeq_t, zeq_f, nle_t, nle_f, iI_cl, rA, rS, rB, wA, wS, wB, mkp, mk2, uA_s, uA_n, ud_s, ud_n, bI_0, bI_1, nor_s, ↓reduceIte, or_false, false_or, or_true, true_or, or_self, not_true_eq_false, not_false_eq_true, and_true, true_and, and_false, false_and, bI_T, bI_F, Int.reduceToNat, Nat.reduceAdd, Nat.reduceMul, Int.reduceNeg, Option.bind_some, Int.toNat_natCast, xu]) ?_
      refine (if_neg i1n0).trans ?_
      refine (if_pos (by simp (disch := first | omega | (simp (disch := omega) only [uA_n]; done) | fail) only [iI_lit, iI_add, iI_sub, iI_mul, iI_neg, iI_lt, iI_le, iI_eq, zlt_t, zlt_f, zle_t, zle_f, zeq_t, zeq_f, nle_t, nle_f, iI_cl, rA, rS, rB, wA, wS, wB, mkp, mk2, uA_s, uA_n, ud_s, ud_n, bI_0, bI_1, nor_s, ↓reduceIte, or_false, false_or, or_true, true_or, or_self, not_true_eq_false, not_false_eq_true, and_true, true_and, and_false, false_and, bI_T, bI_F, Int.reduceToNat, Nat.reduceAdd, Nat.reduceMul, Int.reduceNeg, Option.bind_some, Int.toNat_natCast])).trans ?_
      refine obd (xl1) ?_
      refine (if_pos (by simp (disch := first | omega | (simp (disch := omega) only [uA_n]; done) | fail) only [iI_lit, iI_add, iI_sub, iI_mul, iI_neg, iI_lt, iI_le, iI_eq, zlt_t, zlt_f, zle_t, zle_f, zeq_t, zeq_f, nle_t, nle_f, iI_cl, rA, rS, rB, wA, wS, wB, mkp, mk2, uA_s, uA_n, ud_s, ud_n, bI_0, bI_1, nor_s, ↓reduceIte, or_false, false_or, or_true, true_or, or_self, not_true_eq_false, not_false_eq_true, and_true, true_and, and_false, false_and, bI_T, bI_F, Int.reduceToNat, Nat.reduceAdd, Nat.reduceMul, Int.reduceNeg, Option.bind_some, Int.toNat_natCast])).trans ?_
      rfl
    · obtain ⟨B1, yl1, yw1, gm1⟩ := yl Ax
      refine ⟨B1, nB.four gm1, ?_⟩
      unfold f_m_help
      refine (askT (em_isPaper F R Ax n na nb) c0).trans ?_
      refine obd (pap F Ax 4 4 rfl hn (by omega) ph.1) ?_
      refine obd (pap F Ax 1 1 rfl hn (by omega) (R.gP.pk n hn hk)) ?_
      refine (if_pos (by simp (disch := first | omega | (simp (disch := omega) only [uA_n]; done) | fail) only [iI_lit, iI_add, iI_sub, iI_mul, iI_neg, iI_lt, iI_le, iI_eq, zlt_t, zlt_f, zle_t, zle_f, zeq_t, zeq_f, nle_t, nle_f, iI_cl, rA, rS, rB, wA, wS, wB, mkp, mk2, uA_s, uA_n, ud_s, ud_n, bI_0, bI_1, nor_s, ↓reduceIte, or_false, false_or, or_true, true_or, or_self, not_true_eq_false, not_false_eq_true, and_true, true_and, and_false, false_and, bI_T, bI_F, Int.reduceToNat, Nat.reduceAdd, Nat.reduceMul, Int.reduceNeg, Option.bind_some, Int.toNat_natCast, c1])).trans ?_
      refine (if_neg (by simp (disch := first | omega | (simp (disch := omega) only [uA_n]; done) | fail) only [iI_lit, iI_add, iI_sub, iI_mul, iI_neg, iI_lt, iI_le, iI_eq, zlt_t, zlt_f, zle_t, zle_f, zeq_t, zeq_f, nle_t, nle_f, iI_cl, rA, rS, rB, wA, wS, wB, mkp, mk2, uA_s, uA_n, ud_s, ud_n, bI_0, bI_1, nor_s, ↓reduceIte, or_false, false_or, or_true, true_or, or_self, not_true_eq_false, not_false_eq_true, and_true, true_and, and_false, false_and, bI_T, bI_F, Int.reduceToNat, Nat.reduceAdd, Nat.reduceMul, Int.reduceNeg, Option.bind_some, Int.toNat_natCast])).trans ?_
      refine (askT (em_in F d 1 60 (mk Ax B) da db (by omega) (by omega) (by omega) (by omega)) ⟨c3, c4⟩).trans ?_
      refine obd (pap F Ax 6 6 rfl hn (by omega) pst.1) ?_
      refine (if_pos (by simp (disch := first | omega | (simp (disch := omega) only [uA_n]; done) | fail) only [iI_lit, iI_add, iI_sub, iI_mul, iI_neg, iI_lt, iI_le, iI_eq, zlt_t, zlt_f, zle_t, zle_f, zeq_t, zeq_f, nle_t, nle_f, iI_cl, rA, rS, rB, wA, wS, wB, mkp, mk2, uA_s, uA_n, ud_s, ud_n, bI_0, bI_1, nor_s, ↓reduceIte, or_false, false_or, or_true, true_or, or_self, not_true_eq_false, not_false_eq_true, and_true, true_and, and_false, false_and, bI_T, bI_F, Int.reduceToNat, Nat.reduceAdd, Nat.reduceMul, Int.reduceNeg, Option.bind_some, Int.toNat_natCast, c5])).trans ?_
      refine (askT (em_isUp F R Ax (A 35 n) ph.2.1 ph.2.2) c6).trans ?_
      refine obd (pap F Ax 5 5 rfl hn (by omega) pdu.1) ?_
      refine (if_pos (by simp (disch := first | omega | (simp (disch := omega) only [uA_n]; done) | fail) only [iI_lit, iI_add, iI_sub, iI_mul, iI_neg, iI_lt, iI_le, iI_eq, zlt_t, zlt_f, zle_t, zle_f, zeq_t, zeq_f, nle_t, nle_f, iI_cl, rA, rS, rB, wA, wS, wB, mkp, mk2, uA_s, uA_n, ud_s, ud_n, bI_0, bI_1, nor_s, ↓reduceIte, or_false, false_or, or_true, true_or, or_self, not_true_eq_false, not_false_eq_true, and_true, true_and, and_false, false_and, bI_T, bI_F, Int.reduceToNat, Nat.reduceAdd, Nat.reduceMul, Int.reduceNeg, Option.bind_some, Int.toNat_natCast, dS, d3])).trans ?_
      refine obd (pap F Ax 2 2 rfl hn (by omega) ps.1) ?_
      refine obd (yl1) ?_
      refine obd (yw1) ?_
      refine (if_pos (by simp (disch := first | omega | (simp (disch := omega) only [uA_n]; done) | fail) only [iI_lit, iI_add, iI_sub, iI_mul, iI_neg, iI_lt, iI_le, iI_eq, zlt_t, zlt_f, zle_t, zle_f, zeq_t, zeq_f, nle_t, nle_f, iI_cl, rA, rS, rB, wA, wS, wB, mkp, mk2, uA_s, uA_n, ud_s, ud_n, bI_0, bI_1, nor_s, ↓reduceIte, or_false, false_or, or_true, true_or, or_self, not_true_eq_false, not_false_eq_true, and_true, true_and, and_false, false_and, bI_T, bI_F, Int.reduceToNat, Nat.reduceAdd, Nat.reduceMul, Int.reduceNeg, Option.bind_some, Int.toNat_natCast, iI_div, hl])).trans ?_
      rfl
  by_cases c9 : bcan A B l
  rotate_left
  · refine cp_no2 F h (v := -7) (by omega) (by omega) (fun Bx => ?_) (fun Ax => ?_)
    · obtain ⟨A1, xl1, gl1⟩ := xl Bx
      obtain ⟨A2, xb, gl2⟩ := ex_bankCan F (R.xA (fun k k1 _ k3 => gl1 k k1 k3)) hF (by omega) Bx (s := l) l1.1 (by omega)
      rw [bI_c (bcan_c gl1 (xBb.rf B) l)] at xb
      refine ⟨A2, (nA.law gl1).tr (nA.law gl2), ?_⟩
      unfold f_x_help
      refine (askT (ex_isPaper F R Bx n na nb) c0).trans ?_
      refine (if_neg (by simp (disch := first | omega | (simp (disch := omega) only [uA_n]; done) | fail) only [iI_lit, iI_add, iI_sub, iI_mul, iI_neg, iI_lt, iI_le, iI_eq, zlt_t, zlt_f, zle_t, zle_f, zeq_t, zeq_f, nle_t, nle_f, iI_cl, rA, rS, rB, wA, wS, wB, mkp, mk2, uA_s, uA_n, ud_s, ud_n, bI_0, bI_1, nor_s, ↓reduceIte, or_false, false_or, or_true, true_or, or_self, not_true_eq_false, not_false_eq_true, and_true, true_and, and_false, false_and, bI_T, bI_F, Int.reduceToNat, Nat.reduceAdd, Nat.reduceMul, Int.reduceNeg, Option.bind_some, Int.toNat_natCast])).trans ?_
      refine (if_pos (by simp (disch := first | omega | (simp (disch := omega) only [uA_n]; done) | fail) only [iI_lit, iI_add, iI_sub, iI_mul, iI_neg, iI_lt, iI_le, iI_eq, zlt_t, zlt_f, zle_t, zle_f, zeq_t, zeq_f, nle_t, nle_f, iI_cl, rA, rS, rB, wA, wS, wB, mkp, mk2, uA_s, uA_n, ud_s, ud_n, bI_0, bI_1, nor_s, ↓reduceIte, or_false, false_or, or_true, true_or, or_self, not_true_eq_false, not_false_eq_true, and_true, true_and, and_false, false_and, bI_T, bI_F, Int.reduceToNat, Nat.reduceAdd, Nat.reduceMul, Int.reduceNeg, Option.bind_some, Int.toNat_natCast, c1])).trans ?_
      refine (if_neg (by simp (disch := first | omega | (simp (disch := omega) only [uA_n]; done) | fail) only [iI_lit, iI_add, iI_sub, iI_mul, iI_neg, iI_lt, iI_le, iI_eq, zlt_t, zlt_f, zle_t, zle_f, zeq_t, zeq_f, nle_t, nle_f, iI_cl, rA, rS, rB, wA, wS, wB, mkp, mk2, uA_s, uA_n, ud_s, ud_n, bI_0, bI_1, nor_s, ↓reduceIte, or_false, false_or, or_true, true_or, or_self, not_true_eq_false, not_false_eq_true, and_true, true_and, and_false, false_and, bI_T, bI_F, Int.reduceToNat, Nat.reduceAdd, Nat.reduceMul, Int.reduceNeg, Option.bind_some, Int.toNat_natCast])).trans ?_
      refine (if_neg (by simp (disch := first | omega | (simp (disch := omega) only [uA_n]; done) | fail) only [iI_lit, iI_add, iI_sub, iI_mul, iI_neg, iI_lt, iI_le, iI_eq, zlt_t, zlt_f, zle_t, zle_f, zeq_t, zeq_f, nle_t, nle_f, iI_cl, rA, rS, rB, wA, wS, wB, mkp, mk2, uA_s, uA_n, ud_s, ud_n, bI_0, bI_1, nor_s, ↓reduceIte, or_false, false_or, or_true, true_or, or_self, not_true_eq_false, not_false_eq_true, and_true, true_and, and_false, false_and, bI_T, bI_F, Int.reduceToNat, Nat.reduceAdd, Nat.reduceMul, Int.reduceNeg, Option.bind_some, Int.toNat_natCast])).trans ?_
      refine (if_neg (by simp (disch := first | omega | (simp (disch := omega) only [uA_n]; done) | fail) only [iI_lit, iI_add, iI_sub, iI_mul, iI_neg, iI_lt, iI_le, iI_eq, zlt_t, zlt_f, zle_t, zle_f, zeq_t, zeq_f, nle_t, nle_f, iI_cl, rA, rS, rB, wA, wS, wB, mkp, mk2, uA_s, uA_n, ud_s, ud_n, bI_0, bI_1, nor_s, ↓reduceIte, or_false, false_or, or_true, true_or, or_self, not_true_eq_false, not_false_eq_true, and_true, true_and, and_false, false_and, bI_T, bI_F, Int.reduceToNat, Nat.reduceAdd, Nat.reduceMul, Int.reduceNeg, Option.bind_some, Int.toNat_natCast])).trans ?_
      refine (if_pos (by simp (disch := first | omega | (simp (disch := omega) only [uA_n]; done) | fail) only [iI_lit, iI_add, iI_sub, iI_mul, iI_neg, iI_lt, iI_le, iI_eq, zlt_t, zlt_f, zle_t, zle_f, zeq_t, zeq_f, nle_t, nle_f, iI_cl, rA, rS, rB, wA, wS, wB, mkp, mk2, uA_s, uA_n, ud_s, ud_n, bI_0, bI_1, nor_s, ↓reduceIte, or_false, false_or, or_true, true_or, or_self, not_true_eq_false, not_false_eq_true, and_true, true_and, and_false, false_and, bI_T, bI_F, Int.reduceToNat, Nat.reduceAdd, Nat.reduceMul, Int.reduceNeg, Option.bind_some, Int.toNat_natCast, c5])).trans ?_
      have xu := ex_isUp F R Bx (A 35 n) ph.2.1 ph.2.2
      rw [bI_t c6] at xu
      refine obd (v := (iI 1, mk A Bx)) (by simp (disch := first | omega | (simp (disch := omega) only [uA_n]; done) | fail) only [iI_lit, iI_add, iI_sub, iI_mul, iI_neg, iI_lt, iI_le, iI_eq, zlt_t, zlt_f, zle_t, zle_f, zeq_t, zeq_f, nle_t, nle_f, iI_cl, rA, rS, rB, wA, wS, wB, mkp, mk2, uA_s, uA_n, ud_s, ud_n, bI_0, bI_1, nor_s, ↓reduceIte, or_false, false_or, or_true, true_or, or_self, not_true_eq_false, not_false_eq_true, and_true, true_and, and_false, false_and, bI_T, bI_F, Int.reduceToNat, Nat.reduceAdd, Nat.reduceMul, Int.reduceNeg, Option.bind_some, Int.toNat_natCast, xu]) ?_
      refine (if_neg i1n0).trans ?_
      refine (if_pos (by simp (disch := first | omega | (simp (disch := omega) only [uA_n]; done) | fail) only [iI_lit, iI_add, iI_sub, iI_mul, iI_neg, iI_lt, iI_le, iI_eq, zlt_t, zlt_f, zle_t, zle_f, zeq_t, zeq_f, nle_t, nle_f, iI_cl, rA, rS, rB, wA, wS, wB, mkp, mk2, uA_s, uA_n, ud_s, ud_n, bI_0, bI_1, nor_s, ↓reduceIte, or_false, false_or, or_true, true_or, or_self, not_true_eq_false, not_false_eq_true, and_true, true_and, and_false, false_and, bI_T, bI_F, Int.reduceToNat, Nat.reduceAdd, Nat.reduceMul, Int.reduceNeg, Option.bind_some, Int.toNat_natCast])).trans ?_
      refine obd (xl1) ?_
      refine (if_neg (by simp (disch := first | omega | (simp (disch := omega) only [uA_n]; done) | fail) only [iI_lit, iI_add, iI_sub, iI_mul, iI_neg, iI_lt, iI_le, iI_eq, zlt_t, zlt_f, zle_t, zle_f, zeq_t, zeq_f, nle_t, nle_f, iI_cl, rA, rS, rB, wA, wS, wB, mkp, mk2, uA_s, uA_n, ud_s, ud_n, bI_0, bI_1, nor_s, ↓reduceIte, or_false, false_or, or_true, true_or, or_self, not_true_eq_false, not_false_eq_true, and_true, true_and, and_false, false_and, bI_T, bI_F, Int.reduceToNat, Nat.reduceAdd, Nat.reduceMul, Int.reduceNeg, Option.bind_some, Int.toNat_natCast])).trans ?_
      refine (askF xb c9).trans ?_
      rfl
    · obtain ⟨B1, yl1, yw1, gm1⟩ := yl Ax
      obtain ⟨B2, yb, gm2⟩ := em_bankCan F (R.x4 gm1) hF (by omega) Ax (s := l) l1.1 (by omega)
      rw [bI_c (bcan_c (fun _ _ _ => rfl) (xBb.four gm1) l)] at yb
      refine ⟨B2, (nB.four gm1).tr (nB.four gm2), ?_⟩
      unfold f_m_help
      refine (askT (em_isPaper F R Ax n na nb) c0).trans ?_
      refine obd (pap F Ax 4 4 rfl hn (by omega) ph.1) ?_
      refine obd (pap F Ax 1 1 rfl hn (by omega) (R.gP.pk n hn hk)) ?_
      refine (if_pos (by simp (disch := first | omega | (simp (disch := omega) only [uA_n]; done) | fail) only [iI_lit, iI_add, iI_sub, iI_mul, iI_neg, iI_lt, iI_le, iI_eq, zlt_t, zlt_f, zle_t, zle_f, zeq_t, zeq_f, nle_t, nle_f, iI_cl, rA, rS, rB, wA, wS, wB, mkp, mk2, uA_s, uA_n, ud_s, ud_n, bI_0, bI_1, nor_s, ↓reduceIte, or_false, false_or, or_true, true_or, or_self, not_true_eq_false, not_false_eq_true, and_true, true_and, and_false, false_and, bI_T, bI_F, Int.reduceToNat, Nat.reduceAdd, Nat.reduceMul, Int.reduceNeg, Option.bind_some, Int.toNat_natCast, c1])).trans ?_
      refine (if_neg (by simp (disch := first | omega | (simp (disch := omega) only [uA_n]; done) | fail) only [iI_lit, iI_add, iI_sub, iI_mul, iI_neg, iI_lt, iI_le, iI_eq, zlt_t, zlt_f, zle_t, zle_f, zeq_t, zeq_f, nle_t, nle_f, iI_cl, rA, rS, rB, wA, wS, wB, mkp, mk2, uA_s, uA_n, ud_s, ud_n, bI_0, bI_1, nor_s, ↓reduceIte, or_false, false_or, or_true, true_or, or_self, not_true_eq_false, not_false_eq_true, and_true, true_and, and_false, false_and, bI_T, bI_F, Int.reduceToNat, Nat.reduceAdd, Nat.reduceMul, Int.reduceNeg, Option.bind_some, Int.toNat_natCast])).trans ?_
      refine (askT (em_in F d 1 60 (mk Ax B) da db (by omega) (by omega) (by omega) (by omega)) ⟨c3, c4⟩).trans ?_
      refine obd (pap F Ax 6 6 rfl hn (by omega) pst.1) ?_
      refine (if_pos (by simp (disch := first | omega | (simp (disch := omega) only [uA_n]; done) | fail) only [iI_lit, iI_add, iI_sub, iI_mul, iI_neg, iI_lt, iI_le, iI_eq, zlt_t, zlt_f, zle_t, zle_f, zeq_t, zeq_f, nle_t, nle_f, iI_cl, rA, rS, rB, wA, wS, wB, mkp, mk2, uA_s, uA_n, ud_s, ud_n, bI_0, bI_1, nor_s, ↓reduceIte, or_false, false_or, or_true, true_or, or_self, not_true_eq_false, not_false_eq_true, and_true, true_and, and_false, false_and, bI_T, bI_F, Int.reduceToNat, Nat.reduceAdd, Nat.reduceMul, Int.reduceNeg, Option.bind_some, Int.toNat_natCast, c5])).trans ?_
      refine (askT (em_isUp F R Ax (A 35 n) ph.2.1 ph.2.2) c6).trans ?_
      refine obd (pap F Ax 5 5 rfl hn (by omega) pdu.1) ?_
      refine (if_pos (by simp (disch := first | omega | (simp (disch := omega) only [uA_n]; done) | fail) only [iI_lit, iI_add, iI_sub, iI_mul, iI_neg, iI_lt, iI_le, iI_eq, zlt_t, zlt_f, zle_t, zle_f, zeq_t, zeq_f, nle_t, nle_f, iI_cl, rA, rS, rB, wA, wS, wB, mkp, mk2, uA_s, uA_n, ud_s, ud_n, bI_0, bI_1, nor_s, ↓reduceIte, or_false, false_or, or_true, true_or, or_self, not_true_eq_false, not_false_eq_true, and_true, true_and, and_false, false_and, bI_T, bI_F, Int.reduceToNat, Nat.reduceAdd, Nat.reduceMul, Int.reduceNeg, Option.bind_some, Int.toNat_natCast, dS, d3])).trans ?_
      refine obd (pap F Ax 2 2 rfl hn (by omega) ps.1) ?_
      refine obd (yl1) ?_
      refine obd (yw1) ?_
      refine (if_neg (by simp (disch := first | omega | (simp (disch := omega) only [uA_n]; done) | fail) only [iI_lit, iI_add, iI_sub, iI_mul, iI_neg, iI_lt, iI_le, iI_eq, zlt_t, zlt_f, zle_t, zle_f, zeq_t, zeq_f, nle_t, nle_f, iI_cl, rA, rS, rB, wA, wS, wB, mkp, mk2, uA_s, uA_n, ud_s, ud_n, bI_0, bI_1, nor_s, ↓reduceIte, or_false, false_or, or_true, true_or, or_self, not_true_eq_false, not_false_eq_true, and_true, true_and, and_false, false_and, bI_T, bI_F, Int.reduceToNat, Nat.reduceAdd, Nat.reduceMul, Int.reduceNeg, Option.bind_some, Int.toNat_natCast, iI_div, hl])).trans ?_
      have yc : f_m_can F (iI 0) (iI (A 35 n)) (iI l) (mk Ax B1) = some (iI 0, mk Ax B2) := by
        rw [bI_f c9] at yb
        unfold f_m_can
        refine (if_neg (by simp (disch := first | omega | (simp (disch := omega) only [uA_n]; done) | fail) only [iI_lit, iI_add, iI_sub, iI_mul, iI_neg, iI_lt, iI_le, iI_eq, zlt_t, zlt_f, zle_t, zle_f, zeq_t, zeq_f, nle_t, nle_f, iI_cl, rA, rS, rB, wA, wS, wB, mkp, mk2, uA_s, uA_n, ud_s, ud_n, bI_0, bI_1, nor_s, ↓reduceIte, or_false, false_or, or_true, true_or, or_self, not_true_eq_false, not_false_eq_true, and_true, true_and, and_false, false_and, bI_T, bI_F, Int.reduceToNat, Nat.reduceAdd, Nat.reduceMul, Int.reduceNeg, Option.bind_some, Int.toNat_natCast])).trans ?_
        refine (if_pos rfl).trans ?_
        refine obd yb ?_
        exact if_pos (Or.inl rfl)
      refine obd (v := (iI 0, mk Ax B2)) (by simp (disch := first | omega | (simp (disch := omega) only [uA_n]; done) | fail) only [iI_lit, iI_add, iI_sub, iI_mul, iI_neg, iI_lt, iI_le, iI_eq, zlt_t, zlt_f, zle_t, zle_f, zeq_t, zeq_f, nle_t, nle_f, iI_cl, rA, rS, rB, wA, wS, wB, mkp, mk2, uA_s, uA_n, ud_s, ud_n, bI_0, bI_1, nor_s, ↓reduceIte, or_false, false_or, or_true, true_or, or_self, not_true_eq_false, not_false_eq_true, and_true, true_and, and_false, false_and, bI_T, bI_F, Int.reduceToNat, Nat.reduceAdd, Nat.reduceMul, Int.reduceNeg, Option.bind_some, Int.toNat_natCast, iI_div, hl, yc]) ?_
      refine (if_pos rfl).trans ?_
      rfl
  by_cases c10 : A 31 14 < 60
  rotate_left
  · refine cp_no2 F h (v := -8) (by omega) (by omega) (fun Bx => ?_) (fun Ax => ?_)
    · obtain ⟨A1, xl1, gl1⟩ := xl Bx
      obtain ⟨A2, xb, gl2⟩ := ex_bankCan F (R.xA (fun k k1 _ k3 => gl1 k k1 k3)) hF (by omega) Bx (s := l) l1.1 (by omega)
      rw [bI_c (bcan_c gl1 (xBb.rf B) l)] at xb
      refine ⟨A2, (nA.law gl1).tr (nA.law gl2), ?_⟩
      unfold f_x_help
      refine (askT (ex_isPaper F R Bx n na nb) c0).trans ?_
      refine (if_neg (by simp (disch := first | omega | (simp (disch := omega) only [uA_n]; done) | fail) only [iI_lit, iI_add, iI_sub, iI_mul, iI_neg, iI_lt, iI_le, iI_eq, zlt_t, zlt_f, zle_t, zle_f, zeq_t, zeq_f, nle_t, nle_f, iI_cl, rA, rS, rB, wA, wS, wB, mkp, mk2, uA_s, uA_n, ud_s, ud_n, bI_0, bI_1, nor_s, ↓reduceIte, or_false, false_or, or_true, true_or, or_self, not_true_eq_false, not_false_eq_true, and_true, true_and, and_false, false_and, bI_T, bI_F, Int.reduceToNat, Nat.reduceAdd, Nat.reduceMul, Int.reduceNeg, Option.bind_some, Int.toNat_natCast])).trans ?_
      refine (if_pos (by simp (disch := first | omega | (simp (disch := omega) only [uA_n]; done) | fail) only [iI_lit, iI_add, iI_sub, iI_mul, iI_neg, iI_lt, iI_le, iI_eq, zlt_t, zlt_f, zle_t, zle_f, zeq_t, zeq_f, nle_t, nle_f, iI_cl, rA, rS, rB, wA, wS, wB, mkp, mk2, uA_s, uA_n, ud_s, ud_n, bI_0, bI_1, nor_s, ↓reduceIte, or_false, false_or, or_true, true_or, or_self, not_true_eq_false, not_false_eq_true, and_true, true_and, and_false, false_and, bI_T, bI_F, Int.reduceToNat, Nat.reduceAdd, Nat.reduceMul, Int.reduceNeg, Option.bind_some, Int.toNat_natCast, c1])).trans ?_
      refine (if_neg (by simp (disch := first | omega | (simp (disch := omega) only [uA_n]; done) | fail) only [iI_lit, iI_add, iI_sub, iI_mul, iI_neg, iI_lt, iI_le, iI_eq, zlt_t, zlt_f, zle_t, zle_f, zeq_t, zeq_f, nle_t, nle_f, iI_cl, rA, rS, rB, wA, wS, wB, mkp, mk2, uA_s, uA_n, ud_s, ud_n, bI_0, bI_1, nor_s, ↓reduceIte, or_false, false_or, or_true, true_or, or_self, not_true_eq_false, not_false_eq_true, and_true, true_and, and_false, false_and, bI_T, bI_F, Int.reduceToNat, Nat.reduceAdd, Nat.reduceMul, Int.reduceNeg, Option.bind_some, Int.toNat_natCast])).trans ?_
      refine (if_neg (by simp (disch := first | omega | (simp (disch := omega) only [uA_n]; done) | fail) only [iI_lit, iI_add, iI_sub, iI_mul, iI_neg, iI_lt, iI_le, iI_eq, zlt_t, zlt_f, zle_t, zle_f, zeq_t, zeq_f, nle_t, nle_f, iI_cl, rA, rS, rB, wA, wS, wB, mkp, mk2, uA_s, uA_n, ud_s, ud_n, bI_0, bI_1, nor_s, ↓reduceIte, or_false, false_or, or_true, true_or, or_self, not_true_eq_false, not_false_eq_true, and_true, true_and, and_false, false_and, bI_T, bI_F, Int.reduceToNat, Nat.reduceAdd, Nat.reduceMul, Int.reduceNeg, Option.bind_some, Int.toNat_natCast])).trans ?_
      refine (if_neg (by simp (disch := first | omega | (simp (disch := omega) only [uA_n]; done) | fail) only [iI_lit, iI_add, iI_sub, iI_mul, iI_neg, iI_lt, iI_le, iI_eq, zlt_t, zlt_f, zle_t, zle_f, zeq_t, zeq_f, nle_t, nle_f, iI_cl, rA, rS, rB, wA, wS, wB, mkp, mk2, uA_s, uA_n, ud_s, ud_n, bI_0, bI_1, nor_s, ↓reduceIte, or_false, false_or, or_true, true_or, or_self, not_true_eq_false, not_false_eq_true, and_true, true_and, and_false, false_and, bI_T, bI_F, Int.reduceToNat, Nat.reduceAdd, Nat.reduceMul, Int.reduceNeg, Option.bind_some, Int.toNat_natCast])).trans ?_
      refine (if_pos (by simp (disch := first | omega | (simp (disch := omega) only [uA_n]; done) | fail) only [iI_lit, iI_add, iI_sub, iI_mul, iI_neg, iI_lt, iI_le, iI_eq, zlt_t, zlt_f, zle_t, zle_f, zeq_t, zeq_f, nle_t, nle_f, iI_cl, rA, rS, rB, wA, wS, wB, mkp, mk2, uA_s, uA_n, ud_s, ud_n, bI_0, bI_1, nor_s, ↓reduceIte, or_false, false_or, or_true, true_or, or_self, not_true_eq_false, not_false_eq_true, and_true, true_and, and_false, false_and, bI_T, bI_F, Int.reduceToNat, Nat.reduceAdd, Nat.reduceMul, Int.reduceNeg, Option.bind_some, Int.toNat_natCast, c5])).trans ?_
      have xu := ex_isUp F R Bx (A 35 n) ph.2.1 ph.2.2
      rw [bI_t c6] at xu
      refine obd (v := (iI 1, mk A Bx)) (by simp (disch := first | omega | (simp (disch := omega) only [uA_n]; done) | fail) only [iI_lit, iI_add, iI_sub, iI_mul, iI_neg, iI_lt, iI_le, iI_eq, zlt_t, zlt_f, zle_t, zle_f, zeq_t, zeq_f, nle_t, nle_f, iI_cl, rA, rS, rB, wA, wS, wB, mkp, mk2, uA_s, uA_n, ud_s, ud_n, bI_0, bI_1, nor_s, ↓reduceIte, or_false, false_or, or_true, true_or, or_self, not_true_eq_false, not_false_eq_true, and_true, true_and, and_false, false_and, bI_T, bI_F, Int.reduceToNat, Nat.reduceAdd, Nat.reduceMul, Int.reduceNeg, Option.bind_some, Int.toNat_natCast, xu]) ?_
      refine (if_neg i1n0).trans ?_
      refine (if_pos (by simp (disch := first | omega | (simp (disch := omega) only [uA_n]; done) | fail) only [iI_lit, iI_add, iI_sub, iI_mul, iI_neg, iI_lt, iI_le, iI_eq, zlt_t, zlt_f, zle_t, zle_f, zeq_t, zeq_f, nle_t, nle_f, iI_cl, rA, rS, rB, wA, wS, wB, mkp, mk2, uA_s, uA_n, ud_s, ud_n, bI_0, bI_1, nor_s, ↓reduceIte, or_false, false_or, or_true, true_or, or_self, not_true_eq_false, not_false_eq_true, and_true, true_and, and_false, false_and, bI_T, bI_F, Int.reduceToNat, Nat.reduceAdd, Nat.reduceMul, Int.reduceNeg, Option.bind_some, Int.toNat_natCast])).trans ?_
      refine obd (xl1) ?_
      refine (if_neg (by simp (disch := first | omega | (simp (disch := omega) only [uA_n]; done) | fail) only [iI_lit, iI_add, iI_sub, iI_mul, iI_neg, iI_lt, iI_le, iI_eq, zlt_t, zlt_f, zle_t, zle_f, zeq_t, zeq_f, nle_t, nle_f, iI_cl, rA, rS, rB, wA, wS, wB, mkp, mk2, uA_s, uA_n, ud_s, ud_n, bI_0, bI_1, nor_s, ↓reduceIte, or_false, false_or, or_true, true_or, or_self, not_true_eq_false, not_false_eq_true, and_true, true_and, and_false, false_and, bI_T, bI_F, Int.reduceToNat, Nat.reduceAdd, Nat.reduceMul, Int.reduceNeg, Option.bind_some, Int.toNat_natCast])).trans ?_
      refine (askT xb c9).trans ?_
      have xf := ex_isFull F (R.xA (fun k k1 _ k3 => (gl2 k k1 k3).trans (gl1 k k1 k3))) Bx
      rw [gl2 31 (by omega) (by omega), gl1 31 (by omega) (by omega)] at xf
      refine (askT xf (by omega)).trans ?_
      rfl
    · obtain ⟨B1, yl1, yw1, gm1⟩ := yl Ax
      obtain ⟨B2, yb, gm2⟩ := em_bankCan F (R.x4 gm1) hF (by omega) Ax (s := l) l1.1 (by omega)
      rw [bI_c (bcan_c (fun _ _ _ => rfl) (xBb.four gm1) l)] at yb
      refine ⟨B2, (nB.four gm1).tr (nB.four gm2), ?_⟩
      unfold f_m_help
      refine (askT (em_isPaper F R Ax n na nb) c0).trans ?_
      refine obd (pap F Ax 4 4 rfl hn (by omega) ph.1) ?_
      refine obd (pap F Ax 1 1 rfl hn (by omega) (R.gP.pk n hn hk)) ?_
      refine (if_pos (by simp (disch := first | omega | (simp (disch := omega) only [uA_n]; done) | fail) only [iI_lit, iI_add, iI_sub, iI_mul, iI_neg, iI_lt, iI_le, iI_eq, zlt_t, zlt_f, zle_t, zle_f, zeq_t, zeq_f, nle_t, nle_f, iI_cl, rA, rS, rB, wA, wS, wB, mkp, mk2, uA_s, uA_n, ud_s, ud_n, bI_0, bI_1, nor_s, ↓reduceIte, or_false, false_or, or_true, true_or, or_self, not_true_eq_false, not_false_eq_true, and_true, true_and, and_false, false_and, bI_T, bI_F, Int.reduceToNat, Nat.reduceAdd, Nat.reduceMul, Int.reduceNeg, Option.bind_some, Int.toNat_natCast, c1])).trans ?_
      refine (if_neg (by simp (disch := first | omega | (simp (disch := omega) only [uA_n]; done) | fail) only [iI_lit, iI_add, iI_sub, iI_mul, iI_neg, iI_lt, iI_le, iI_eq, zlt_t, zlt_f, zle_t, zle_f, zeq_t, zeq_f, nle_t, nle_f, iI_cl, rA, rS, rB, wA, wS, wB, mkp, mk2, uA_s, uA_n, ud_s, ud_n, bI_0, bI_1, nor_s, ↓reduceIte, or_false, false_or, or_true, true_or, or_self, not_true_eq_false, not_false_eq_true, and_true, true_and, and_false, false_and, bI_T, bI_F, Int.reduceToNat, Nat.reduceAdd, Nat.reduceMul, Int.reduceNeg, Option.bind_some, Int.toNat_natCast])).trans ?_
      refine (askT (em_in F d 1 60 (mk Ax B) da db (by omega) (by omega) (by omega) (by omega)) ⟨c3, c4⟩).trans ?_
      refine obd (pap F Ax 6 6 rfl hn (by omega) pst.1) ?_
      refine (if_pos (by simp (disch := first | omega | (simp (disch := omega) only [uA_n]; done) | fail) only [iI_lit, iI_add, iI_sub, iI_mul, iI_neg, iI_lt, iI_le, iI_eq, zlt_t, zlt_f, zle_t, zle_f, zeq_t, zeq_f, nle_t, nle_f, iI_cl, rA, rS, rB, wA, wS, wB, mkp, mk2, uA_s, uA_n, ud_s, ud_n, bI_0, bI_1, nor_s, ↓reduceIte, or_false, false_or, or_true, true_or, or_self, not_true_eq_false, not_false_eq_true, and_true, true_and, and_false, false_and, bI_T, bI_F, Int.reduceToNat, Nat.reduceAdd, Nat.reduceMul, Int.reduceNeg, Option.bind_some, Int.toNat_natCast, c5])).trans ?_
      refine (askT (em_isUp F R Ax (A 35 n) ph.2.1 ph.2.2) c6).trans ?_
      refine obd (pap F Ax 5 5 rfl hn (by omega) pdu.1) ?_
      refine (if_pos (by simp (disch := first | omega | (simp (disch := omega) only [uA_n]; done) | fail) only [iI_lit, iI_add, iI_sub, iI_mul, iI_neg, iI_lt, iI_le, iI_eq, zlt_t, zlt_f, zle_t, zle_f, zeq_t, zeq_f, nle_t, nle_f, iI_cl, rA, rS, rB, wA, wS, wB, mkp, mk2, uA_s, uA_n, ud_s, ud_n, bI_0, bI_1, nor_s, ↓reduceIte, or_false, false_or, or_true, true_or, or_self, not_true_eq_false, not_false_eq_true, and_true, true_and, and_false, false_and, bI_T, bI_F, Int.reduceToNat, Nat.reduceAdd, Nat.reduceMul, Int.reduceNeg, Option.bind_some, Int.toNat_natCast, dS, d3])).trans ?_
      refine obd (pap F Ax 2 2 rfl hn (by omega) ps.1) ?_
      refine obd (yl1) ?_
      refine obd (yw1) ?_
      refine (if_neg (by simp (disch := first | omega | (simp (disch := omega) only [uA_n]; done) | fail) only [iI_lit, iI_add, iI_sub, iI_mul, iI_neg, iI_lt, iI_le, iI_eq, zlt_t, zlt_f, zle_t, zle_f, zeq_t, zeq_f, nle_t, nle_f, iI_cl, rA, rS, rB, wA, wS, wB, mkp, mk2, uA_s, uA_n, ud_s, ud_n, bI_0, bI_1, nor_s, ↓reduceIte, or_false, false_or, or_true, true_or, or_self, not_true_eq_false, not_false_eq_true, and_true, true_and, and_false, false_and, bI_T, bI_F, Int.reduceToNat, Nat.reduceAdd, Nat.reduceMul, Int.reduceNeg, Option.bind_some, Int.toNat_natCast, iI_div, hl])).trans ?_
      have yc : f_m_can F (iI 0) (iI (A 35 n)) (iI l) (mk Ax B1) = some (iI 1, mk Ax B2) := by
        rw [bI_t c9] at yb
        unfold f_m_can
        refine (if_neg (by simp (disch := first | omega | (simp (disch := omega) only [uA_n]; done) | fail) only [iI_lit, iI_add, iI_sub, iI_mul, iI_neg, iI_lt, iI_le, iI_eq, zlt_t, zlt_f, zle_t, zle_f, zeq_t, zeq_f, nle_t, nle_f, iI_cl, rA, rS, rB, wA, wS, wB, mkp, mk2, uA_s, uA_n, ud_s, ud_n, bI_0, bI_1, nor_s, ↓reduceIte, or_false, false_or, or_true, true_or, or_self, not_true_eq_false, not_false_eq_true, and_true, true_and, and_false, false_and, bI_T, bI_F, Int.reduceToNat, Nat.reduceAdd, Nat.reduceMul, Int.reduceNeg, Option.bind_some, Int.toNat_natCast])).trans ?_
        refine (if_pos rfl).trans ?_
        refine obd yb ?_
        exact if_pos (Or.inr rfl)
      refine obd (v := (iI 1, mk Ax B2)) (by simp (disch := first | omega | (simp (disch := omega) only [uA_n]; done) | fail) only [iI_lit, iI_add, iI_sub, iI_mul, iI_neg, iI_lt, iI_le, iI_eq, zlt_t, zlt_f, zle_t, zle_f, zeq_t, zeq_f, nle_t, nle_f, iI_cl, rA, rS, rB, wA, wS, wB, mkp, mk2, uA_s, uA_n, ud_s, ud_n, bI_0, bI_1, nor_s, ↓reduceIte, or_false, false_or, or_true, true_or, or_self, not_true_eq_false, not_false_eq_true, and_true, true_and, and_false, false_and, bI_T, bI_F, Int.reduceToNat, Nat.reduceAdd, Nat.reduceMul, Int.reduceNeg, Option.bind_some, Int.toNat_natCast, iI_div, hl, yc]) ?_
      refine (if_neg i1n0).trans ?_
      refine obd (em_free0 F ((R.x4 gm1).x4 gm2) hF Ax (R.gP.full (by omega))) ?_
      refine (if_pos rfl).trans ?_
      rfl
  obtain ⟨p, hp, hf, hq⟩ := R.gP.free c10
  intro Ax Bx
  obtain ⟨A1, xl1, gl1⟩ := xl Bx
  obtain ⟨A2, xb, gl2⟩ := ex_bankCan F (R.xA (fun k k1 _ k3 => gl1 k k1 k3)) hF (by omega) Bx (s := l) l1.1 (by omega)
  rw [bI_c (bcan_c gl1 (xBb.rf B) l)] at xb
  obtain ⟨B1, yl1, yw1, gm1⟩ := yl Ax
  obtain ⟨B2, yb, gm2⟩ := em_bankCan F (R.x4 gm1) hF (by omega) Ax (s := l) l1.1 (by omega)
  rw [bI_c (bcan_c (fun _ _ _ => rfl) (xBb.four gm1) l)] at yb
  have g2 : ∀ k : Nat, k ≠ 15 → k ≠ 54 → A2 k = A k := fun k k1 k3 => (gl2 k k1 k3).trans (gl1 k k1 k3)
  have m2 : xBb B B2 := (xBb.four gm1).tr (xBb.four gm2)
  have R1 := (R.xA (fun k k1 _ k3 => g2 k k1 k3)).xBb m2
  have q1 : 0 ≤ l * A 16 10 := Int.mul_nonneg l1.1 r1
  have q2 : l * A 16 10 ≤ 9999 * 20 := Int.mul_le_mul l1.2 r2 r1 (by omega)
  have q3 : 0 ≤ l * A 16 10 * d := Int.mul_nonneg q1 (by omega)
  have q4 : l * A 16 10 * d ≤ 9999 * 20 * 60 := Int.mul_le_mul q2 c4 (by omega) (by omega)
  obtain ⟨A3, B3, x3, y3, R3, g3⟩ := R1.giv F hF (by omega) Ax Bx (a := 0) (b := A 35 n) (s := l) (by omega) (by rw [g2 19 (by omega) (by omega)]; omega) (by omega) (by rw [g2 19 (by omega) (by omega)]; omega) (by omega) l1.1 (by omega) (gCan0.mpr ((bcan_c g2 m2 l).mpr c9))
  have f : ∀ k : Nat, ¬ (2 ≤ k ∧ k ≤ 6) → k ≠ 22 → ¬ (55 ≤ k ∧ k ≤ 61) → k ≠ 15 → k ≠ 54 → A3 k = A k := fun k k1 k2 k3 k4 k5 => (g3 k ⟨k1, k2, k3⟩).trans (g2 k k4 k5)
  have e16 : A3 16 = A 16 := f 16 (by omega) (by omega) (by omega) (by omega) (by omega)
  have e19 : A3 19 = A 19 := f 19 (by omega) (by omega) (by omega) (by omega) (by omega)
  have e27 : A3 27 = A 27 := f 27 (by omega) (by omega) (by omega) (by omega) (by omega)
  have e32 : A3 32 = A 32 := f 32 (by omega) (by omega) (by omega) (by omega) (by omega)
  have e35 : A3 35 = A 35 := f 35 (by omega) (by omega) (by omega) (by omega) (by omega)
  have e36 : A3 36 = A 36 := f 36 (by omega) (by omega) (by omega) (by omega) (by omega)
  have e37 : A3 37 = A 37 := f 37 (by omega) (by omega) (by omega) (by omega) (by omega)
  have e40 : A3 40 = A 40 := f 40 (by omega) (by omega) (by omega) (by omega) (by omega)
  have e41 : A3 41 = A 41 := f 41 (by omega) (by omega) (by omega) (by omega) (by omega)
  have no : ∀ q, q < 60 → A 32 q = 3 → A 37 q = 0 → A 41 q ≠ n := fun q hq z1 z2 e => by
    have g := R.gP.ppg q hq z1 z2
    rw [e, Int.toNat_natCast] at g
    omega
  have hnp : n ≠ p := fun z => by rw [z] at hk; exact hk hf
  have R4 := R3.pledged (p := n) hn (by rw [e32]; exact c1) (v := 0) (by rw [e19]; omega) (by rw [e37]; exact c5) (by rw [e32, e37, e41]; exact no)
  have a32 : uA (uA A3 35 n 0) 40 n 1 32 = A 32 := by rw [uA_n (by omega), uA_n (by omega), e32]
  have a37 : uA (uA A3 35 n 0) 40 n 1 37 = A 37 := by rw [uA_n (by omega), uA_n (by omega), e37]
  have a41 : uA (uA A3 35 n 0) 40 n 1 41 = A 41 := by rw [uA_n (by omega), uA_n (by omega), e41]
  have a36 : uA (uA A3 35 n 0) 40 n 1 36 = A 36 := by rw [uA_n (by omega), uA_n (by omega), e36]
  have a27 : uA (uA A3 35 n 0) 40 n 1 27 = A 27 := by rw [uA_n (by omega), uA_n (by omega), e27]
  have a19 : uA (uA A3 35 n 0) 40 n 1 19 = A 19 := by rw [uA_n (by omega), uA_n (by omega), e19]
  have a16 : uA (uA A3 35 n 0) 40 n 1 16 = A 16 := by rw [uA_n (by omega), uA_n (by omega), e16]
  have R5 := R4.addpl (p := p) (b := n) hp (by rw [a32]; exact hf) hn (by rw [a32]; exact c1) (by rw [a37]; exact c5) (by rw [uA_s, ud_s]) (by rw [uA_n (by omega), uA_s, ud_s]) (by rw [a32, a37, a41]; exact no) (d := A 35 n) (s := l + l * A 16 10 * d / 36000) (u := A 16 9 + d) (by rw [a19]; omega) (by omega) (by rw [a16]; omega) (by rw [a36]; omega) (by rw [a27]; exact c6)
  have z16 : xPl (uA (uA A3 35 n 0) 40 n 1) p n (A 35 n) (l + l * A 16 10 * d / 36000) (A 16 9 + d) 16 = A 16 := by rw [xPl_o _ _ _ _ _ _ (by omega), a16]
  have I := h.step (A' := xPl (uA (uA A3 35 n 0) 40 n 1) p n (A 35 n) (l + l * A 16 10 * d / 36000) (A 16 9 + d)) (B' := mPl (uA (uA B3 454 n 0) 464 n 1) p n (A 35 n) (l + l * A 16 10 * d / 36000) (A 16 9 + d)) (B1 := b9 B (mPl (uA (uA B3 454 n 0) 464 n 1) p n (A 35 n) (l + l * A 16 10 * d / 36000) (A 16 9 + d))) (K := KMX i (A 16 9)) (by rw [z16]; exact R5) (fun k hk => b9_n hk) (by rw [z16]; unfold KMX; omega)
  rw [xPl_cm A3 hnp, mPl_cm B3 hnp] at I
  have d33 := R3.gD.dd3
  have r33 := R3.gD.dr3
  rw [e16] at d33 r33
  have ea := ex_addPaper F R3 hF Bx hp (by rw [e32]; exact hf) (by rw [e32]; exact hq) 3 (A 35 n) 0 (l + l * A 16 10 * d / 36000) (A 16 9 + d) (by omega)
  have eb := em_makes F R3 hF Ax hp (by rw [e32]; exact hf) (by rw [e32]; exact hq) 3 (A 35 n) 0 (l + l * A 16 10 * d / 36000) (A 16 9 + d) (by omega)
  refine ⟨iI (p : Int), _, _, ?_, ?_, I⟩
  · unfold f_x_help
    refine (askT (ex_isPaper F R Bx n na nb) c0).trans ?_
    refine (if_neg (by simp (disch := first | omega | (simp (disch := omega) only [uA_n]; done) | fail) only [iI_lit, iI_add, iI_sub, iI_mul, iI_neg, iI_lt, iI_le, iI_eq, zlt_t, zlt_f, zle_t, zle_f, zeq_t, zeq_f, nle_t, nle_f, iI_cl, rA, rS, rB, wA, wS, wB, mkp, mk2, uA_s, uA_n, ud_s, ud_n, bI_0, bI_1, nor_s, ↓reduceIte, or_false, false_or, or_true, true_or, or_self, not_true_eq_false, not_false_eq_true, and_true, true_and, and_false, false_and, bI_T, bI_F, Int.reduceToNat, Nat.reduceAdd, Nat.reduceMul, Int.reduceNeg, Option.bind_some, Int.toNat_natCast])).trans ?_
    refine (if_pos (by simp (disch := first | omega | (simp (disch := omega) only [uA_n]; done) | fail) only [iI_lit, iI_add, iI_sub, iI_mul, iI_neg, iI_lt, iI_le, iI_eq, zlt_t, zlt_f, zle_t, zle_f, zeq_t, zeq_f, nle_t, nle_f, iI_cl, rA, rS, rB, wA, wS, wB, mkp, mk2, uA_s, uA_n, ud_s, ud_n, bI_0, bI_1, nor_s, ↓reduceIte, or_false, false_or, or_true, true_or, or_self, not_true_eq_false, not_false_eq_true, and_true, true_and, and_false, false_and, bI_T, bI_F, Int.reduceToNat, Nat.reduceAdd, Nat.reduceMul, Int.reduceNeg, Option.bind_some, Int.toNat_natCast, c1])).trans ?_
    refine (if_neg (by simp (disch := first | omega | (simp (disch := omega) only [uA_n]; done) | fail) only [iI_lit, iI_add, iI_sub, iI_mul, iI_neg, iI_lt, iI_le, iI_eq, zlt_t, zlt_f, zle_t, zle_f, zeq_t, zeq_f, nle_t, nle_f, iI_cl, rA, rS, rB, wA, wS, wB, mkp, mk2, uA_s, uA_n, ud_s, ud_n, bI_0, bI_1, nor_s, ↓reduceIte, or_false, false_or, or_true, true_or, or_self, not_true_eq_false, not_false_eq_true, and_true, true_and, and_false, false_and, bI_T, bI_F, Int.reduceToNat, Nat.reduceAdd, Nat.reduceMul, Int.reduceNeg, Option.bind_some, Int.toNat_natCast])).trans ?_
    refine (if_neg (by simp (disch := first | omega | (simp (disch := omega) only [uA_n]; done) | fail) only [iI_lit, iI_add, iI_sub, iI_mul, iI_neg, iI_lt, iI_le, iI_eq, zlt_t, zlt_f, zle_t, zle_f, zeq_t, zeq_f, nle_t, nle_f, iI_cl, rA, rS, rB, wA, wS, wB, mkp, mk2, uA_s, uA_n, ud_s, ud_n, bI_0, bI_1, nor_s, ↓reduceIte, or_false, false_or, or_true, true_or, or_self, not_true_eq_false, not_false_eq_true, and_true, true_and, and_false, false_and, bI_T, bI_F, Int.reduceToNat, Nat.reduceAdd, Nat.reduceMul, Int.reduceNeg, Option.bind_some, Int.toNat_natCast])).trans ?_
    refine (if_neg (by simp (disch := first | omega | (simp (disch := omega) only [uA_n]; done) | fail) only [iI_lit, iI_add, iI_sub, iI_mul, iI_neg, iI_lt, iI_le, iI_eq, zlt_t, zlt_f, zle_t, zle_f, zeq_t, zeq_f, nle_t, nle_f, iI_cl, rA, rS, rB, wA, wS, wB, mkp, mk2, uA_s, uA_n, ud_s, ud_n, bI_0, bI_1, nor_s, ↓reduceIte, or_false, false_or, or_true, true_or, or_self, not_true_eq_false, not_false_eq_true, and_true, true_and, and_false, false_and, bI_T, bI_F, Int.reduceToNat, Nat.reduceAdd, Nat.reduceMul, Int.reduceNeg, Option.bind_some, Int.toNat_natCast])).trans ?_
    refine (if_pos (by simp (disch := first | omega | (simp (disch := omega) only [uA_n]; done) | fail) only [iI_lit, iI_add, iI_sub, iI_mul, iI_neg, iI_lt, iI_le, iI_eq, zlt_t, zlt_f, zle_t, zle_f, zeq_t, zeq_f, nle_t, nle_f, iI_cl, rA, rS, rB, wA, wS, wB, mkp, mk2, uA_s, uA_n, ud_s, ud_n, bI_0, bI_1, nor_s, ↓reduceIte, or_false, false_or, or_true, true_or, or_self, not_true_eq_false, not_false_eq_true, and_true, true_and, and_false, false_and, bI_T, bI_F, Int.reduceToNat, Nat.reduceAdd, Nat.reduceMul, Int.reduceNeg, Option.bind_some, Int.toNat_natCast, c5])).trans ?_
    have xu := ex_isUp F R Bx (A 35 n) ph.2.1 ph.2.2
    rw [bI_t c6] at xu
    refine obd (v := (iI 1, mk A Bx)) (by simp (disch := first | omega | (simp (disch := omega) only [uA_n]; done) | fail) only [iI_lit, iI_add, iI_sub, iI_mul, iI_neg, iI_lt, iI_le, iI_eq, zlt_t, zlt_f, zle_t, zle_f, zeq_t, zeq_f, nle_t, nle_f, iI_cl, rA, rS, rB, wA, wS, wB, mkp, mk2, uA_s, uA_n, ud_s, ud_n, bI_0, bI_1, nor_s, ↓reduceIte, or_false, false_or, or_true, true_or, or_self, not_true_eq_false, not_false_eq_true, and_true, true_and, and_false, false_and, bI_T, bI_F, Int.reduceToNat, Nat.reduceAdd, Nat.reduceMul, Int.reduceNeg, Option.bind_some, Int.toNat_natCast, xu]) ?_
    refine (if_neg i1n0).trans ?_
    refine (if_pos (by simp (disch := first | omega | (simp (disch := omega) only [uA_n]; done) | fail) only [iI_lit, iI_add, iI_sub, iI_mul, iI_neg, iI_lt, iI_le, iI_eq, zlt_t, zlt_f, zle_t, zle_f, zeq_t, zeq_f, nle_t, nle_f, iI_cl, rA, rS, rB, wA, wS, wB, mkp, mk2, uA_s, uA_n, ud_s, ud_n, bI_0, bI_1, nor_s, ↓reduceIte, or_false, false_or, or_true, true_or, or_self, not_true_eq_false, not_false_eq_true, and_true, true_and, and_false, false_and, bI_T, bI_F, Int.reduceToNat, Nat.reduceAdd, Nat.reduceMul, Int.reduceNeg, Option.bind_some, Int.toNat_natCast])).trans ?_
    refine obd (xl1) ?_
    refine (if_neg (by simp (disch := first | omega | (simp (disch := omega) only [uA_n]; done) | fail) only [iI_lit, iI_add, iI_sub, iI_mul, iI_neg, iI_lt, iI_le, iI_eq, zlt_t, zlt_f, zle_t, zle_f, zeq_t, zeq_f, nle_t, nle_f, iI_cl, rA, rS, rB, wA, wS, wB, mkp, mk2, uA_s, uA_n, ud_s, ud_n, bI_0, bI_1, nor_s, ↓reduceIte, or_false, false_or, or_true, true_or, or_self, not_true_eq_false, not_false_eq_true, and_true, true_and, and_false, false_and, bI_T, bI_F, Int.reduceToNat, Nat.reduceAdd, Nat.reduceMul, Int.reduceNeg, Option.bind_some, Int.toNat_natCast])).trans ?_
    refine (askT xb c9).trans ?_
    have xf := ex_isFull F (R.xA (fun k k1 _ k3 => (gl2 k k1 k3).trans (gl1 k k1 k3))) Bx
    rw [gl2 31 (by omega) (by omega), gl1 31 (by omega) (by omega)] at xf
    refine (askF xf (by omega)).trans ?_
    rw [bnd_id]
    unfold f_World_takePledge
    have b35 := g2 35 (by omega) (by omega)
    have b16 := g2 16 (by omega) (by omega)
    refine (if_neg (by simp (disch := first | omega | (simp (disch := omega) only [uA_n]; done) | fail) only [iI_lit, iI_add, iI_sub, iI_mul, iI_neg, iI_lt, iI_le, iI_eq, zlt_t, zlt_f, zle_t, zle_f, zeq_t, zeq_f, nle_t, nle_f, iI_cl, rA, rS, rB, wA, wS, wB, mkp, mk2, uA_s, uA_n, ud_s, ud_n, bI_0, bI_1, nor_s, ↓reduceIte, or_false, false_or, or_true, true_or, or_self, not_true_eq_false, not_false_eq_true, and_true, true_and, and_false, false_and, bI_T, bI_F, Int.reduceToNat, Nat.reduceAdd, Nat.reduceMul, Int.reduceNeg, Option.bind_some, Int.toNat_natCast])).trans ?_
    refine obd (v := ((), mk A3 Bx)) (by simp (disch := first | omega | (simp (disch := omega) only [uA_n]; done) | fail) only [iI_lit, iI_add, iI_sub, iI_mul, iI_neg, iI_lt, iI_le, iI_eq, zlt_t, zlt_f, zle_t, zle_f, zeq_t, zeq_f, nle_t, nle_f, iI_cl, rA, rS, rB, wA, wS, wB, mkp, mk2, uA_s, uA_n, ud_s, ud_n, bI_0, bI_1, nor_s, ↓reduceIte, or_false, false_or, or_true, true_or, or_self, not_true_eq_false, not_false_eq_true, and_true, true_and, and_false, false_and, bI_T, bI_F, Int.reduceToNat, Nat.reduceAdd, Nat.reduceMul, Int.reduceNeg, Option.bind_some, Int.toNat_natCast, b35, x3]) ?_
    refine obd (v := (iI (p : Int), mk (xAdd A3 p 3 (A 35 n) 0 (l + l * A 16 10 * d / 36000) (A 16 9 + d)) Bx)) (by simp (disch := first | omega | (simp (disch := omega) only [uA_n]; done) | fail) only [iI_lit, iI_add, iI_sub, iI_mul, iI_neg, iI_lt, iI_le, iI_eq, zlt_t, zlt_f, zle_t, zle_f, zeq_t, zeq_f, nle_t, nle_f, iI_cl, rA, rS, rB, wA, wS, wB, mkp, mk2, uA_s, uA_n, ud_s, ud_n, bI_0, bI_1, nor_s, ↓reduceIte, or_false, false_or, or_true, true_or, or_self, not_true_eq_false, not_false_eq_true, and_true, true_and, and_false, false_and, bI_T, bI_F, Int.reduceToNat, Nat.reduceAdd, Nat.reduceMul, Int.reduceNeg, Option.bind_some, Int.toNat_natCast, b35, b16, e16, iI_div, ea]) ?_
    refine (if_neg (by simp (disch := first | omega | (simp (disch := omega) only [uA_n]; done) | fail) only [iI_lit, iI_add, iI_sub, iI_mul, iI_neg, iI_lt, iI_le, iI_eq, zlt_t, zlt_f, zle_t, zle_f, zeq_t, zeq_f, nle_t, nle_f, iI_cl, rA, rS, rB, wA, wS, wB, mkp, mk2, uA_s, uA_n, ud_s, ud_n, bI_0, bI_1, nor_s, ↓reduceIte, or_false, false_or, or_true, true_or, or_self, not_true_eq_false, not_false_eq_true, and_true, true_and, and_false, false_and, bI_T, bI_F, Int.reduceToNat, Nat.reduceAdd, Nat.reduceMul, Int.reduceNeg, Option.bind_some, Int.toNat_natCast])).trans ?_
    refine (if_neg (by simp (disch := first | omega | (simp (disch := omega) only [uA_n]; done) | fail) only [iI_lit, iI_add, iI_sub, iI_mul, iI_neg, iI_lt, iI_le, iI_eq, zlt_t, zlt_f, zle_t, zle_f, zeq_t, zeq_f, nle_t, nle_f, iI_cl, rA, rS, rB, wA, wS, wB, mkp, mk2, uA_s, uA_n, ud_s, ud_n, bI_0, bI_1, nor_s, ↓reduceIte, or_false, false_or, or_true, true_or, or_self, not_true_eq_false, not_false_eq_true, and_true, true_and, and_false, false_and, bI_T, bI_F, Int.reduceToNat, Nat.reduceAdd, Nat.reduceMul, Int.reduceNeg, Option.bind_some, Int.toNat_natCast])).trans ?_
    unfold f_World_takePledge_106
    have f16 : xAdd A3 p 3 (A 35 n) 0 (l + l * A 16 10 * d / 36000) (A 16 9 + d) 16 = A3 16 := xAdd_o _ _ _ _ _ _ _ (by omega)
    simp (disch := first | omega | (simp (disch := omega) only [uA_n]; done) | fail) only [iI_lit, iI_add, iI_sub, iI_mul, iI_neg, iI_lt, iI_le, iI_eq, zlt_t, zlt_f, zle_t, zle_f, zeq_t, zeq_f, nle_t, nle_f, iI_cl, rA, rS, rB, wA, wS, wB, mkp, mk2, uA_s, uA_n, ud_s, ud_n, bI_0, bI_1, nor_s, ↓reduceIte, or_false, false_or, or_true, true_or, or_self, not_true_eq_false, not_false_eq_true, and_true, true_and, and_false, false_and, bI_T, bI_F, Int.reduceToNat, Nat.reduceAdd, Nat.reduceMul, Int.reduceNeg, Option.bind_some, Int.toNat_natCast, f16]
  · unfold f_m_help
    refine (askT (em_isPaper F R Ax n na nb) c0).trans ?_
    refine obd (pap F Ax 4 4 rfl hn (by omega) ph.1) ?_
    refine obd (pap F Ax 1 1 rfl hn (by omega) (R.gP.pk n hn hk)) ?_
    refine (if_pos (by simp (disch := first | omega | (simp (disch := omega) only [uA_n]; done) | fail) only [iI_lit, iI_add, iI_sub, iI_mul, iI_neg, iI_lt, iI_le, iI_eq, zlt_t, zlt_f, zle_t, zle_f, zeq_t, zeq_f, nle_t, nle_f, iI_cl, rA, rS, rB, wA, wS, wB, mkp, mk2, uA_s, uA_n, ud_s, ud_n, bI_0, bI_1, nor_s, ↓reduceIte, or_false, false_or, or_true, true_or, or_self, not_true_eq_false, not_false_eq_true, and_true, true_and, and_false, false_and, bI_T, bI_F, Int.reduceToNat, Nat.reduceAdd, Nat.reduceMul, Int.reduceNeg, Option.bind_some, Int.toNat_natCast, c1])).trans ?_
    refine (if_neg (by simp (disch := first | omega | (simp (disch := omega) only [uA_n]; done) | fail) only [iI_lit, iI_add, iI_sub, iI_mul, iI_neg, iI_lt, iI_le, iI_eq, zlt_t, zlt_f, zle_t, zle_f, zeq_t, zeq_f, nle_t, nle_f, iI_cl, rA, rS, rB, wA, wS, wB, mkp, mk2, uA_s, uA_n, ud_s, ud_n, bI_0, bI_1, nor_s, ↓reduceIte, or_false, false_or, or_true, true_or, or_self, not_true_eq_false, not_false_eq_true, and_true, true_and, and_false, false_and, bI_T, bI_F, Int.reduceToNat, Nat.reduceAdd, Nat.reduceMul, Int.reduceNeg, Option.bind_some, Int.toNat_natCast])).trans ?_
    refine (askT (em_in F d 1 60 (mk Ax B) da db (by omega) (by omega) (by omega) (by omega)) ⟨c3, c4⟩).trans ?_
    refine obd (pap F Ax 6 6 rfl hn (by omega) pst.1) ?_
    refine (if_pos (by simp (disch := first | omega | (simp (disch := omega) only [uA_n]; done) | fail) only [iI_lit, iI_add, iI_sub, iI_mul, iI_neg, iI_lt, iI_le, iI_eq, zlt_t, zlt_f, zle_t, zle_f, zeq_t, zeq_f, nle_t, nle_f, iI_cl, rA, rS, rB, wA, wS, wB, mkp, mk2, uA_s, uA_n, ud_s, ud_n, bI_0, bI_1, nor_s, ↓reduceIte, or_false, false_or, or_true, true_or, or_self, not_true_eq_false, not_false_eq_true, and_true, true_and, and_false, false_and, bI_T, bI_F, Int.reduceToNat, Nat.reduceAdd, Nat.reduceMul, Int.reduceNeg, Option.bind_some, Int.toNat_natCast, c5])).trans ?_
    refine (askT (em_isUp F R Ax (A 35 n) ph.2.1 ph.2.2) c6).trans ?_
    refine obd (pap F Ax 5 5 rfl hn (by omega) pdu.1) ?_
    refine (if_pos (by simp (disch := first | omega | (simp (disch := omega) only [uA_n]; done) | fail) only [iI_lit, iI_add, iI_sub, iI_mul, iI_neg, iI_lt, iI_le, iI_eq, zlt_t, zlt_f, zle_t, zle_f, zeq_t, zeq_f, nle_t, nle_f, iI_cl, rA, rS, rB, wA, wS, wB, mkp, mk2, uA_s, uA_n, ud_s, ud_n, bI_0, bI_1, nor_s, ↓reduceIte, or_false, false_or, or_true, true_or, or_self, not_true_eq_false, not_false_eq_true, and_true, true_and, and_false, false_and, bI_T, bI_F, Int.reduceToNat, Nat.reduceAdd, Nat.reduceMul, Int.reduceNeg, Option.bind_some, Int.toNat_natCast, dS, d3])).trans ?_
    refine obd (pap F Ax 2 2 rfl hn (by omega) ps.1) ?_
    refine obd (yl1) ?_
    refine obd (yw1) ?_
    refine (if_neg (by simp (disch := first | omega | (simp (disch := omega) only [uA_n]; done) | fail) only [iI_lit, iI_add, iI_sub, iI_mul, iI_neg, iI_lt, iI_le, iI_eq, zlt_t, zlt_f, zle_t, zle_f, zeq_t, zeq_f, nle_t, nle_f, iI_cl, rA, rS, rB, wA, wS, wB, mkp, mk2, uA_s, uA_n, ud_s, ud_n, bI_0, bI_1, nor_s, ↓reduceIte, or_false, false_or, or_true, true_or, or_self, not_true_eq_false, not_false_eq_true, and_true, true_and, and_false, false_and, bI_T, bI_F, Int.reduceToNat, Nat.reduceAdd, Nat.reduceMul, Int.reduceNeg, Option.bind_some, Int.toNat_natCast, iI_div, hl])).trans ?_
    have yc : f_m_can F (iI 0) (iI (A 35 n)) (iI l) (mk Ax B1) = some (iI 1, mk Ax B2) := by
      rw [bI_t c9] at yb
      unfold f_m_can
      refine (if_neg (by simp (disch := first | omega | (simp (disch := omega) only [uA_n]; done) | fail) only [iI_lit, iI_add, iI_sub, iI_mul, iI_neg, iI_lt, iI_le, iI_eq, zlt_t, zlt_f, zle_t, zle_f, zeq_t, zeq_f, nle_t, nle_f, iI_cl, rA, rS, rB, wA, wS, wB, mkp, mk2, uA_s, uA_n, ud_s, ud_n, bI_0, bI_1, nor_s, ↓reduceIte, or_false, false_or, or_true, true_or, or_self, not_true_eq_false, not_false_eq_true, and_true, true_and, and_false, false_and, bI_T, bI_F, Int.reduceToNat, Nat.reduceAdd, Nat.reduceMul, Int.reduceNeg, Option.bind_some, Int.toNat_natCast])).trans ?_
      refine (if_pos rfl).trans ?_
      refine obd yb ?_
      exact if_pos (Or.inr rfl)
    refine obd (v := (iI 1, mk Ax B2)) (by simp (disch := first | omega | (simp (disch := omega) only [uA_n]; done) | fail) only [iI_lit, iI_add, iI_sub, iI_mul, iI_neg, iI_lt, iI_le, iI_eq, zlt_t, zlt_f, zle_t, zle_f, zeq_t, zeq_f, nle_t, nle_f, iI_cl, rA, rS, rB, wA, wS, wB, mkp, mk2, uA_s, uA_n, ud_s, ud_n, bI_0, bI_1, nor_s, ↓reduceIte, or_false, false_or, or_true, true_or, or_self, not_true_eq_false, not_false_eq_true, and_true, true_and, and_false, false_and, bI_T, bI_F, Int.reduceToNat, Nat.reduceAdd, Nat.reduceMul, Int.reduceNeg, Option.bind_some, Int.toNat_natCast, iI_div, hl, yc]) ?_
    refine (if_neg i1n0).trans ?_
    refine obd (em_free1 F ((R.x4 gm1).x4 gm2) hF Ax hp hf hq) ?_
    refine (if_neg (by simp (disch := first | omega | (simp (disch := omega) only [uA_n]; done) | fail) only [iI_lit, iI_add, iI_sub, iI_mul, iI_neg, iI_lt, iI_le, iI_eq, zlt_t, zlt_f, zle_t, zle_f, zeq_t, zeq_f, nle_t, nle_f, iI_cl, rA, rS, rB, wA, wS, wB, mkp, mk2, uA_s, uA_n, ud_s, ud_n, bI_0, bI_1, nor_s, ↓reduceIte, or_false, false_or, or_true, true_or, or_self, not_true_eq_false, not_false_eq_true, and_true, true_and, and_false, false_and, bI_T, bI_F, Int.reduceToNat, Nat.reduceAdd, Nat.reduceMul, Int.reduceNeg, Option.bind_some, Int.toNat_natCast])).trans ?_
    refine obd (v := ((), mk Ax B3)) (by simp (disch := first | omega | (simp (disch := omega) only [uA_n]; done) | fail) only [iI_lit, iI_add, iI_sub, iI_mul, iI_neg, iI_lt, iI_le, iI_eq, zlt_t, zlt_f, zle_t, zle_f, zeq_t, zeq_f, nle_t, nle_f, iI_cl, rA, rS, rB, wA, wS, wB, mkp, mk2, uA_s, uA_n, ud_s, ud_n, bI_0, bI_1, nor_s, ↓reduceIte, or_false, false_or, or_true, true_or, or_self, not_true_eq_false, not_false_eq_true, and_true, true_and, and_false, false_and, bI_T, bI_F, Int.reduceToNat, Nat.reduceAdd, Nat.reduceMul, Int.reduceNeg, Option.bind_some, Int.toNat_natCast, iI_div, hl, y3]) ?_
    refine obd (v := (iI (p : Int), mk Ax (mAdd B3 p 3 (A 35 n) 0 (l + l * A 16 10 * d / 36000) (A 16 9 + d)))) (by simp (disch := first | omega | (simp (disch := omega) only [uA_n]; done) | fail) only [iI_lit, iI_add, iI_sub, iI_mul, iI_neg, iI_lt, iI_le, iI_eq, zlt_t, zlt_f, zle_t, zle_f, zeq_t, zeq_f, nle_t, nle_f, iI_cl, rA, rS, rB, wA, wS, wB, mkp, mk2, uA_s, uA_n, ud_s, ud_n, bI_0, bI_1, nor_s, ↓reduceIte, or_false, false_or, or_true, true_or, or_self, not_true_eq_false, not_false_eq_true, and_true, true_and, and_false, false_and, bI_T, bI_F, Int.reduceToNat, Nat.reduceAdd, Nat.reduceMul, Int.reduceNeg, Option.bind_some, Int.toNat_natCast, dS, iI_div, hl, d33, r33, eb]) ?_
    refine (if_neg (by simp (disch := first | omega | (simp (disch := omega) only [uA_n]; done) | fail) only [iI_lit, iI_add, iI_sub, iI_mul, iI_neg, iI_lt, iI_le, iI_eq, zlt_t, zlt_f, zle_t, zle_f, zeq_t, zeq_f, nle_t, nle_f, iI_cl, rA, rS, rB, wA, wS, wB, mkp, mk2, uA_s, uA_n, ud_s, ud_n, bI_0, bI_1, nor_s, ↓reduceIte, or_false, false_or, or_true, true_or, or_self, not_true_eq_false, not_false_eq_true, and_true, true_and, and_false, false_and, bI_T, bI_F, Int.reduceToNat, Nat.reduceAdd, Nat.reduceMul, Int.reduceNeg, Option.bind_some, Int.toNat_natCast])).trans ?_
    refine (if_neg (by simp (disch := first | omega | (simp (disch := omega) only [uA_n]; done) | fail) only [iI_lit, iI_add, iI_sub, iI_mul, iI_neg, iI_lt, iI_le, iI_eq, zlt_t, zlt_f, zle_t, zle_f, zeq_t, zeq_f, nle_t, nle_f, iI_cl, rA, rS, rB, wA, wS, wB, mkp, mk2, uA_s, uA_n, ud_s, ud_n, bI_0, bI_1, nor_s, ↓reduceIte, or_false, false_or, or_true, true_or, or_self, not_true_eq_false, not_false_eq_true, and_true, true_and, and_false, false_and, bI_T, bI_F, Int.reduceToNat, Nat.reduceAdd, Nat.reduceMul, Int.reduceNeg, Option.bind_some, Int.toNat_natCast])).trans ?_
    refine (if_neg (by simp (disch := first | omega | (simp (disch := omega) only [uA_n]; done) | fail) only [iI_lit, iI_add, iI_sub, iI_mul, iI_neg, iI_lt, iI_le, iI_eq, zlt_t, zlt_f, zle_t, zle_f, zeq_t, zeq_f, nle_t, nle_f, iI_cl, rA, rS, rB, wA, wS, wB, mkp, mk2, uA_s, uA_n, ud_s, ud_n, bI_0, bI_1, nor_s, ↓reduceIte, or_false, false_or, or_true, true_or, or_self, not_true_eq_false, not_false_eq_true, and_true, true_and, and_false, false_and, bI_T, bI_F, Int.reduceToNat, Nat.reduceAdd, Nat.reduceMul, Int.reduceNeg, Option.bind_some, Int.toNat_natCast])).trans ?_
    unfold f_m_help_254
    have m0 : uA (uA (uA (mAdd B3 p 3 (A 35 n) 0 (l + l * A 16 10 * d / 36000) (A 16 9 + d)) 465 p n) 464 n 1) 454 n 0 399 = mAdd B3 p 3 (A 35 n) 0 (l + l * A 16 10 * d / 36000) (A 16 9 + d) 399 := by rw [uA_n (by omega), uA_n (by omega), uA_n (by omega)]
    simp (disch := first | omega | (simp (disch := omega) only [uA_n]; done) | fail) only [iI_lit, iI_add, iI_sub, iI_mul, iI_neg, iI_lt, iI_le, iI_eq, zlt_t, zlt_f, zle_t, zle_f, zeq_t, zeq_f, nle_t, nle_f, iI_cl, rA, rS, rB, wA, wS, wB, mkp, mk2, uA_s, uA_n, ud_s, ud_n, bI_0, bI_1, nor_s, ↓reduceIte, or_false, false_or, or_true, true_or, or_self, not_true_eq_false, not_false_eq_true, and_true, true_and, and_false, false_and, bI_T, bI_F, Int.reduceToNat, Nat.reduceAdd, Nat.reduceMul, Int.reduceNeg, Option.bind_some, Int.toNat_natCast, zP, mk2 m0]
end
