/-! A PLAN'S ROW, the class -/
section ROWX
variable {K D : Int} {A B A' A1 w rc : hI}
def rt (v1 : Int32) (W n k : Nat) : Int := dig v1 (dgt W n k)
def prw (v1 : Int32) (W n : Nat) : Nat → List Int
  | 0 => []
  | k + 1 => rt v1 W n k :: prw v1 W n k
def vw (A : hI) (k : Nat) : hI := fun c => if 16 ≤ c ∧ c < 62 then A (c + 104 + 46 * k) else fun _ => 0
theorem vw_i (A : hI) (k : Nat) {c : Nat} (h1 : 16 ≤ c) (h2 : c < 62) : vw A k c = A (c + 104 + 46 * k) := if_pos ⟨h1, h2⟩
theorem vw_c {k : Nat} (h : ∀ c : Nat, 16 ≤ c → c < 62 → A' (c + 104 + 46 * k) = A (c + 104 + 46 * k)) : vw A' k = vw A k := by
  funext c
  unfold vw
  by_cases e : 16 ≤ c ∧ c < 62
  · rw [if_pos e, if_pos e, h c e.1 e.2]
  · rw [if_neg e, if_neg e]
theorem MON.szr {w a a2 : hI} (h : MON w a) (hb : w 55 7 ≤ 400) (e : ∀ c j, inSz c j → a2 c j = a c j) : MON w a2 := by
  obtain ⟨h1, h2, h3, h4, h5⟩ := h
  refine ⟨by rw [e 55 7 (by unfold inSz; omega)]; exact h1, fun c hc => ?_, by rw [e 55 12 (by unfold inSz; omega)]; exact h3, by rw [e 16 9 (by unfold inSz; omega)]; exact h4, by rw [e 16 14 (by unfold inSz; omega)]; exact h5⟩
  rw [e 59 c (by unfold inSz; omega)]
  exact h2 c hc
theorem MON.szl {w w2 a : hI} (h : MON w a) (hb : w 55 7 ≤ 400) (e : ∀ c j, inSz c j → w2 c j = w c j) : MON w2 a := by
  obtain ⟨h1, h2, h3, h4, h5⟩ := h
  have e7 := e 55 7 (by unfold inSz; omega)
  refine ⟨by rw [e7]; exact h1, fun c hc => ?_, by rw [e 55 12 (by unfold inSz; omega)]; exact h3, by rw [e 16 9 (by unfold inSz; omega)]; exact h4, by rw [e 16 14 (by unfold inSz; omega)]; exact h5⟩
  rw [e7] at hc
  rw [e 59 c (by unfold inSz; omega)]
  exact h2 c hc
theorem inSz.rg {c j : Nat} (h : inSz c j) : 16 ≤ c ∧ c < 62 := by unfold inSz at h; omega
variable (F : Nat) (Ax B0 : hI) (Bs : mM → Prop) (v1 : Int32) (W : Nat) (Kb d0 r0 : Int) (A1 : hI)
def NOTE (n k : Nat) (A : hI) : Prop := RUN F Bs (rt v1 W n k) (prw v1 W n k) ∧ ∃ w, PV F Ax B0 Bs (Kb + 9310000 * ((k + 1 : Nat) : Int)) (prw v1 W n (k + 1)) w w ∧ A 118 (4 * k) = rt v1 W n k ∧ A 118 (4 * k + 1) = w 22 0 ∧ A 118 (4 * k + 2) = 10 * w 55 9 ∧ A 118 (4 * k + 3) = w 19 12
def LV (n k : Nat) (A : hI) : Prop := PV F Ax B0 Bs (Kb + 9310000 * (k : Int)) (prw v1 W n k) (vw A k) A ∧ vw A k 16 9 = d0 + 7 * (k : Int) ∧ (r0 ≤ vw A k 16 12 ∧ vw A k 16 12 ≤ r0 + 6300 * (k : Int)) ∧ ∀ c j, inSz c j → (c ≠ 16 ∨ j ≠ 12) → -2147483648 ≤ vw A k c j ∧ vw A k c j < 2147483648
def LIV (n l : Nat) (A : hI) : Prop := Nm A ∧ PV F Ax B0 Bs (Kb + 9310000 * (l : Int)) (prw v1 W n l) A A ∧ A 16 9 = d0 + 7 * (l : Int) ∧ r0 ≤ A 16 12 ∧ A 16 12 ≤ r0 + 6300 * (l : Int)
def GF (A : hI) : Prop := (∀ k : Nat, k < 2 ∨ (8 ≤ k ∧ k < 15) ∨ (62 ≤ k ∧ k < 166 ∧ k ≠ 118) → A k = A1 k) ∧ AGR A1 A1 A ∧ MON A1 (vw A 0)
def LVS (n m : Nat) (A : hI) : Prop := (∀ k, k < m → LV F Ax B0 Bs v1 W Kb d0 r0 n k A) ∧ (∀ k k', k ≤ k' → k' < m → MON (vw A k) (vw A k'))
def RW (n l m : Nat) (A : hI) : Prop := LIV F Ax B0 Bs v1 W Kb d0 r0 n l A ∧ LVS F Ax B0 Bs v1 W Kb d0 r0 n m A ∧ (∀ k, k < m → MON (vw A k) A) ∧ (∀ k, k < l → NOTE F Ax B0 Bs v1 W Kb n k A) ∧ GF A1 A
/-- before a row: what it needs of the worlds that were kept -/
def RW0 (n f : Nat) (A : hI) : Prop := Nm A ∧ LVS F Ax B0 Bs v1 W Kb d0 r0 n (f + 1) A ∧ (∀ k, k < f → NOTE F Ax B0 Bs v1 W Kb n k A) ∧ GF A1 A
variable {F Ax B0 Bs v1 W Kb d0 r0 A1}
theorem LV.mv {n k : Nat} (h : LV F Ax B0 Bs v1 W Kb d0 r0 n k A) (hK : Kb + 9310000 * (k : Int) < 2147483648) (e : vw A' k = vw A k) (g : AGR (vw A k) A A') : LV F Ax B0 Bs v1 W Kb d0 r0 n k A' := by
  obtain ⟨h1, h2⟩ := h
  refine ⟨?_, ?_⟩
  · rw [e]
    exact h1.mv F Ax B0 Bs hK (fun _ _ _ => rfl) g
  · rw [e]; exact h2
theorem AGR.eq {w a b : hI} (e : ∀ k : Nat, 2 ≤ k → k < 15 → b k = a k) : AGR w a b := (AGR.rf w a).of rfl rfl rfl rfl rfl (fun _ _ _ => rfl) e
theorem NOTE.mv {n k : Nat} (h : NOTE F Ax B0 Bs v1 W Kb n k A) (e : ∀ j, j < 4 → A' 118 (4 * k + j) = A 118 (4 * k + j)) : NOTE F Ax B0 Bs v1 W Kb n k A' := by
  obtain ⟨h1, w, h2, h3, h4, h5, h6⟩ := h
  exact ⟨h1, w, h2, (e 0 (by omega)).trans h3, (e 1 (by omega)).trans h4, (e 2 (by omega)).trans h5, (e 3 (by omega)).trans h6⟩
theorem LV.cnt {n k : Nat} (h : LV F Ax B0 Bs v1 W Kb d0 r0 n k A) : vw A k 55 7 ≤ 400 := by
  obtain ⟨B, y⟩ := h.1.one F Ax B0 Bs
  exact y.cnt.1.2
/-- a week more -/
theorem RW.week (hb : ∀ M g, Bs M → Bs (m316 M g)) (hF : 1000 ≤ F) (hG : ∀ q, B0 350 q = 0) {n l : Nat} (hW : W ≤ 4) (hl : l < W) (hd : d0 + 7 * W ≤ 700) (hK : Kb + 37240000 ≤ 998000000) (hr : 0 ≤ rt v1 W n l ∧ rt v1 W n l ≤ 20) (h : RW F Ax B0 Bs v1 W Kb d0 r0 A1 n l (l + 1) A) (Bx : hI) : ∃ A', f_World_passDays F 7 0 (mk (uA A 16 10 (rt v1 W n l)) Bx) = some ((), mk A' Bx) ∧ RW F Ax B0 Bs v1 W Kb d0 r0 A1 n (l + 1) (l + 1) (nwk A' l) := by
  obtain ⟨⟨hN, hP, h9, h12a, h12b⟩, ⟨hL, hC⟩, hM, hO, g1, g2, g3⟩ := h
  obtain ⟨A2, x, P2, hU, N2, e9, e10, e12, s1, s2, s3, s4⟩ := hP.step F Ax B0 Bs hb hN hF (by omega) (by omega) hG hr Bx
  have eK : Kb + 9310000 * (l : Int) + 9310000 = Kb + 9310000 * ((l + 1 : Nat) : Int) := by omega
  rw [eK] at P2
  have e118 : A2 118 = A 118 := s1 118 (by omega)
  have n16 : nwk A2 l 16 = A2 16 := nwk_o A2 l (by omega)
  have ag : ∀ w : hI, AGR w A2 (nwk A2 l) := fun w => AGR.eq fun k _ _ => nwk_o A2 l (by omega)
  have vq : ∀ k, vw (nwk A2 l) k = vw A k := fun k => vw_c fun c h1 h2 => by rw [nwk_o A2 l (by omega), s1 _ (by omega)]
  have mr : ∀ w : hI, MON w A2 → MON w (nwk A2 l) := fun w h => by
    unfold MON at h ⊢
    rw [nwk_o A2 l (show 55 ≠ 118 by omega), nwk_o A2 l (show 59 ≠ 118 by omega), n16]
    exact h
  have m0 : ∀ k, k < l + 1 → MON (vw A k) (nwk A2 l) := fun k hk => mr _ ((hM k hk).tr s3)
  have ga : ∀ w : hI, MON w A → AGR w A (nwk A2 l) := fun w h => (s4.lo h).tr (ag w)
  refine ⟨A2, x, ⟨fun k j h1 h2 h3 => by rw [nwk_o A2 l (by omega)]; exact N2 k j h1 h2 h3, P2.mv F Ax B0 Bs (by omega) (fun c j hc => by rw [nwk_o A2 l (by unfold inSz at hc; omega)]) (ag _), by rw [n16]; omega, by rw [n16]; omega, by rw [n16]; omega⟩, ⟨fun k hk => (hL k hk).mv (by omega) (vq k) (ga _ (hM k hk)), fun k k' h1 h2 => by rw [vq, vq]; exact hC k k' h1 h2⟩, fun k hk => by rw [vq]; exact m0 k hk, fun k hk => ?_, fun k hk => by rw [nwk_o A2 l (by omega), s1 k (by omega)]; exact g1 k hk, g2.tr (ga _ (g3.tr (hM 0 (by omega)))), by rw [vq]; exact g3⟩
  by_cases c : k = l
  · subst c
    refine ⟨hU, A2, P2, ?_, ?_, ?_, ?_⟩
    · unfold nwk
      rw [uA_s, ud_n (by omega), uA_s, ud_n (by omega), uA_s, ud_n (by omega), uA_s, ud_s, e10]
    · unfold nwk
      rw [uA_s, ud_n (by omega), uA_s, ud_n (by omega), uA_s, ud_s]
    · unfold nwk
      rw [uA_s, ud_n (by omega), uA_s, ud_s]
    · unfold nwk
      rw [uA_s, ud_s]
  · refine (hO k (by omega)).mv fun j hj => ?_
    unfold nwk
    rw [uA_s, ud_n (by omega), uA_s, ud_n (by omega), uA_s, ud_n (by omega), uA_s, ud_n (by omega), e118]
/-- the live world is kept -/
theorem RW.save {n l : Nat} (h1 : 1 ≤ l) (hl : l ≤ 3) (hK : Kb + 37240000 ≤ 998000000) (h : RW F Ax B0 Bs v1 W Kb d0 r0 A1 n l l A) : RW F Ax B0 Bs v1 W Kb d0 r0 A1 n l (l + 1) (bec A 0 (104 + 46 * l)) := by
  obtain ⟨⟨hN, hP, h9, h12⟩, ⟨hL, hC⟩, hM, hO, g1, g2, g3⟩ := h
  have o : ∀ k : Nat, ¬ (120 + 46 * l ≤ k ∧ k < 166 + 46 * l) → bec A 0 (104 + 46 * l) k = A k := fun k hk => bec_o (by omega)
  have vq : ∀ k, k ≠ l → vw (bec A 0 (104 + 46 * l)) k = vw A k := fun k hk => vw_c fun c _ _ => o _ (by omega)
  have vl : ∀ c j, inSz c j → vw (bec A 0 (104 + 46 * l)) l c j = A c j := fun c j hc => by
    rw [vw_i _ _ hc.rg.1 hc.rg.2]
    have z := bec_i A (s := 0) (t := 104 + 46 * l) hc
    rw [← Nat.add_assoc] at z
    exact z
  have ag : ∀ w : hI, AGR w A (bec A 0 (104 + 46 * l)) := fun w => AGR.eq fun k _ _ => o k (by omega)
  have mr : ∀ w : hI, MON w A → MON w (bec A 0 (104 + 46 * l)) := fun w h => by
    unfold MON at h ⊢
    rw [o 55 (by omega), o 59 (by omega), o 16 (by omega)]
    exact h
  have ca : A 55 7 ≤ 400 := by
    obtain ⟨B, y⟩ := hP.one F Ax B0 Bs
    exact y.cnt.1.2
  have LL : LV F Ax B0 Bs v1 W Kb d0 r0 n l (bec A 0 (104 + 46 * l)) := ⟨hP.mv F Ax B0 Bs (by omega) vl (ag _), by rw [vl 16 9 (by unfold inSz; omega)]; exact h9, by rw [vl 16 12 (by unfold inSz; omega)]; exact h12, fun c j hc h3 => by rw [vl c j hc]; have := hc.rg; exact hN c j (by omega) (by omega) h3⟩
  refine ⟨⟨fun k j h1 h2 h3 => by rw [o k (by omega)]; exact hN k j h1 h2 h3, hP.mv F Ax B0 Bs (by omega) (fun c j hc => by rw [o c (by have := hc.rg; omega)]) (ag _), by rw [o 16 (by omega)]; exact h9, by rw [o 16 (by omega)]; exact h12⟩, ⟨fun k hk => ?_, fun k k' a b => ?_⟩, fun k hk => ?_, fun k hk => (hO k hk).mv fun j _ => by rw [o 118 (by omega)], fun k hk => by rw [o k (by omega)]; exact g1 k hk, g2.tr (ag _), by rw [vq 0 (by omega)]; exact g3⟩
  · by_cases c : k = l
    · rw [c]; exact LL
    · exact (hL k (by omega)).mv (by omega) (vq k c) (ag _)
  · by_cases c : k' = l
    · by_cases c2 : k = l
      · rw [c, c2]; exact MON.rf _
      · rw [c, vq k c2]
        exact (hM k (by omega)).szr (hL k (by omega)).cnt vl
    · rw [vq k (by omega), vq k' c]
      exact hC k k' a (by omega)
  · by_cases c : k = l
    · rw [c]
      exact (mr _ (MON.rf A)).szl ca vl
    · rw [vq k c]
      exact mr _ (hM k (by omega))
/-- the row begins with a world that was kept -/
theorem RW0.take {n f : Nat} (hf : f ≤ 3) (hK : Kb + 37240000 ≤ 998000000) (h : RW0 F Ax B0 Bs v1 W Kb d0 r0 A1 n f A) : RW F Ax B0 Bs v1 W Kb d0 r0 A1 n f (f + 1) (nr2 (bec A (104 + 46 * f) 0)) := by
  obtain ⟨hN, ⟨hL, hC⟩, hO, g1, g2, g3⟩ := h
  have o : ∀ k : Nat, 62 ≤ k → nr2 (bec A (104 + 46 * f) 0) k = A k := fun k hk => by rw [nr2_o _ (by omega)]; exact bec_o (by omega)
  have o2 : ∀ k : Nat, k < 16 → nr2 (bec A (104 + 46 * f) 0) k = A k := fun k hk => by
    by_cases c : k < 2
    · rw [nr2_o _ (by omega)]; exact bec_o (by omega)
    · funext j
      rw [nr2_i _ (by omega) (by omega) (by omega), bec_o (by omega)]
      exact hN.nv (by omega) (by omega) (by omega)
  have vq : ∀ k, vw (nr2 (bec A (104 + 46 * f) 0)) k = vw A k := fun k => vw_c fun c _ _ => o _ (by omega)
  obtain ⟨p1, p2, p3, p4⟩ := hL f (by omega)
  have li : ∀ c j, inSz c j → nr2 (bec A (104 + 46 * f) 0) c j = vw A f c j := fun c j hc => by
    have rg := hc.rg
    have z : bec A (104 + 46 * f) 0 c j = vw A f c j := by
      rw [vw_i _ _ rg.1 rg.2]
      have z := bec_i A (s := 104 + 46 * f) (t := 0) hc
      rw [← Nat.add_assoc] at z
      exact z
    by_cases c2 : c = 16 ∧ j = 12
    · obtain ⟨rfl, rfl⟩ := c2
      rw [nr2_12, z]
    · rw [nr2_i _ (by omega) (by omega) (by omega), z]
      have y := p4 c j hc (by omega)
      exact nv_id y.1 y.2
  have ag : ∀ w : hI, AGR w A (nr2 (bec A (104 + 46 * f) 0)) := fun w => AGR.eq fun k _ _ => o2 k (by omega)
  refine ⟨⟨nr2_nm _, p1.mv F Ax B0 Bs (by omega) li (ag _), by rw [li 16 9 (by unfold inSz; omega)]; exact p2, by rw [li 16 12 (by unfold inSz; omega)]; exact p3⟩, ⟨fun k hk => (hL k hk).mv (by omega) (vq k) (ag _), fun k k' a b => by rw [vq, vq]; exact hC k k' a b⟩, fun k hk => by rw [vq]; exact (hC k f (by omega) (by omega)).szr (hL k hk).cnt li, fun k hk => (hO k hk).mv fun j _ => by rw [o 118 (by omega)], fun k hk => ?_, g2.tr (ag _), by rw [vq]; exact g3⟩
  by_cases c : k < 16
  · rw [o2 k c]; exact g1 k hk
  · rw [o k (by omega)]; exact g1 k hk
theorem prw_c {n n' : Nat} : ∀ k : Nat, (∀ j, j < k → dgt W n' j = dgt W n j) → prw v1 W n' k = prw v1 W n k := by
  intro k
  induction k with
  | zero => intro _; rfl
  | succ k ih =>
    intro h
    unfold prw rt
    rw [ih (fun j hj => h j (by omega)), h k (by omega)]
/-- from a row to the next -/
theorem RW.next {n n' f : Nat} (hf : f < W) (hd : ∀ j, j < f → dgt W n' j = dgt W n j) (h : RW F Ax B0 Bs v1 W Kb d0 r0 A1 n W W A) : RW0 F Ax B0 Bs v1 W Kb d0 r0 A1 n' f A := by
  obtain ⟨⟨hN, -, -, -⟩, ⟨hL, hC⟩, -, hO, hg⟩ := h
  refine ⟨hN, ⟨fun k hk => ?_, fun k k' a b => hC k k' a (by omega)⟩, fun k hk => ?_, hg⟩
  · have z := hL k (by omega)
    unfold LV at z ⊢
    rw [prw_c k (fun j hj => hd j (by omega))]
    exact z
  · have z := hO k (by omega)
    unfold NOTE at z ⊢
    have e : rt v1 W n' k = rt v1 W n k := by unfold rt; rw [hd k hk]
    rw [e, prw_c k (fun j hj => hd j (by omega)), prw_c (k + 1) (fun j hj => hd j (by omega))]
    exact z
/-- another best row -/
theorem GF.row (e : ∀ k, k ≠ 117 → A' k = A k) (h : GF A1 A) : GF (rwA A1 117 (A' 117)) A' := by
  obtain ⟨g1, g2, g3⟩ := h
  have o : ∀ k, k ≠ 117 → rwA A1 117 (A' 117) k = A1 k := fun k hk => rwA_n hk
  have vq : vw A' 0 = vw A 0 := vw_c fun c _ _ => e _ (by omega)
  refine ⟨fun k hk => ?_, ?_, ?_⟩
  · by_cases c : k = 117
    · rw [c, rwA_s]
    · rw [o k c, e k c]; exact g1 k hk
  · exact g2.of (by rw [o 55 (by omega)]) (o 59 (by omega)) (by rw [o 55 (by omega)]) (by rw [o 16 (by omega)]) (by rw [o 16 (by omega)]) (fun k _ _ => o k (by omega)) (fun k _ _ => e k (by omega))
  · rw [vq]
    unfold MON at g3 ⊢
    rw [o 55 (by omega), o 59 (by omega), o 16 (by omega)]
    exact g3
theorem RW0.row {n f : Nat} (hK : Kb + 37240000 ≤ 998000000) (hf : f ≤ 3) (e : ∀ k, k ≠ 117 → A' k = A k) (h : RW0 F Ax B0 Bs v1 W Kb d0 r0 A1 n f A) : RW0 F Ax B0 Bs v1 W Kb d0 r0 (rwA A1 117 (A' 117)) n f A' := by
  obtain ⟨hN, ⟨hL, hC⟩, hO, hg⟩ := h
  have vq : ∀ k, vw A' k = vw A k := fun k => vw_c fun c _ _ => e _ (by omega)
  have ag : ∀ w : hI, AGR w A A' := fun w => AGR.eq fun k _ _ => e k (by omega)
  exact ⟨fun k j h1 h2 h3 => by rw [e k (by omega)]; exact hN k j h1 h2 h3, ⟨fun k hk => (hL k hk).mv (by omega) (vq k) (ag _), fun k k' a b => by rw [vq, vq]; exact hC k k' a b⟩, fun k hk => (hO k hk).mv fun j _ => by rw [e 118 (by omega)], hg.row e⟩
end ROWX
