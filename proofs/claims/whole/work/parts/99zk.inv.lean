/-! WHAT HOLDS BETWEEN THE CALLS -/
theorem WN.rc {w rc rc' S : hI} (h : WN w rc S) (g : AGR w rc rc') : WN w rc' S := by
  obtain ⟨x1, x2, x3, x4, x5, x6, x7, x8, x9, x10, x11, x12, x13, x14, x15, x16, x17, x18, x19, x20, x21, x22, x23, x24, x25⟩ := h
  obtain ⟨g1, g2, g3, g4⟩ := g
  have e2 : ∀ c : Nat, (c : Int) < w 55 7 → rc' 2 c = rc 2 c := fun c hc => (g1 c hc).1
  refine ⟨x1, x2, x3, x4, x5, x6, x7, x8, fun c hc => ?_, fun c hc => ?_, fun k hk => ?_, x12, x13, fun c i hc hi => ?_, x15, x16, x17, fun i j hij hj => ?_, x19, x20, x21, x22, x23, x24, fun i hi hj => ?_⟩
  · rw [e2 c hc]; exact x9 c hc
  · rw [x10 c hc]
    exact sm_c fun e he => bI_c (by rw [e2 e (by omega), e2 c hc])
  · rw [x11 k hk]
    exact sm_c fun e he => bI_c (by rw [e2 e (by omega)])
  · rw [(g1 c hc).2 i hi]; exact x14 c i hc hi
  · have u1 := x17 i (by omega)
    have u2 := x17 j hj
    rw [e2 _ (by omega), e2 _ (by omega)]
    exact x18 i j hij hj
  · obtain ⟨u1, u2, u3⟩ := g2 i hi hj
    rw [u1, u2, u3]
    exact x25 i hi hj
theorem WI.rc {w rc rc' S : hI} (h : WI w rc S) (g : AGR w rc rc') : WI w rc' S := fun k hk h2 => by
  obtain ⟨u1, u2, u3, u4, u5⟩ := h k hk h2
  exact ⟨u1, u2, by rw [(g.1 _ (by omega)).1]; exact u3, u4, u5⟩
theorem WW.rc {w rc rc' S : hI} (h : WW w rc S) (g : AGR w rc rc') : WW w rc' S := ⟨fun k i hk hi => by rw [g.2.2.1 k i hk hi]; exact h.1 k i hk hi, h.2⟩
theorem pOK.cg {b : Nat → Int} {L : Nat} {key ms sz : Int} {cd cd' : Nat → Int} (ok : pOK b L key ms sz cd) (hL : L ≤ 120) (h : ∀ i, i < 120 → cd' i = cd i) : pOK b L key ms sz cd' := by
  have e := (tx_ok ok.1 ok.2.1).1
  have q2 := pE2_PI b L
  have h120 : (pE2 b L).2.2.2.2.2.length ≤ 120 := by have := q2.2.2.2.2.1; have := q2.1; have := q2.2.1; omega
  obtain ⟨o1, o2, o3, o4, o5, o6⟩ := ok
  exact ⟨o1, o2, o3, o4, o5, fun i hi => by rw [h i (by rw [e] at hi; omega)]; exact o6 i hi⟩
theorem WX.rc {w rc rc' S : hI} (h : WX w rc S) (g : AGR w rc rc') : WX w rc' S := by
  obtain ⟨x1, x2, x3, x4, x5, x6, x7⟩ := h
  obtain ⟨g1, g2, g3, g4⟩ := g
  refine ⟨x1, x2, x3, fun x hx => ?_, x5, x6, fun x hx => ?_⟩
  · obtain ⟨u1, u2, u3, u4, u5, u6⟩ := g4 x hx
    rw [u1, u2, u3]
    exact x4 x hx
  · obtain ⟨u1, u2, u3, u4, u5, u6⟩ := g4 x hx
    rw [u1, u4, u5]
    exact (x7 x hx).cg (by have := x5 x hx; omega) u6
theorem WR.rc {w rc rc' S : hI} {K D : Int} (h : WR w rc S K D) (g : AGR w rc rc') : WR w rc' S K D := by
  obtain ⟨h1, h2, h3, h4, h5, h6, h7, h8, h9, h10, h11⟩ := h
  exact ⟨h1, h2, h3.rc g, h4, h5, h6, h7, h8.rc g, h9.rc g, h10, h11.rc g⟩
theorem WR.k {w rc S : hI} {K K' D : Int} (h : WR w rc S K D) (hk : K ≤ K') : WR w rc S K' D := by
  obtain ⟨h1, h2, h3, h4, h5, h6, h7, h8, h9, h10, h11⟩ := h
  exact ⟨h1, h2, h3, h4, h5, h6, h7, h8, h9, ⟨h10.1, Int.le_trans h10.2 hk⟩, h11⟩
/-- the kept land, as the class and the reference lay it by -/
def shA (A : hI) : hI := fun k => if 16 ≤ k then A (k + 46) else fun _ => 0
def shB (B : hI) : hI := fun k => B (1000 + k)
def KMX (i : Nat) (d : Int) : Int := 10000 * i + 1330000 * d
def tpI (A B : hI) : Prop := A 114 2 = B 304 9 ∧ 0 ≤ A 114 2 ∧ A 114 2 ≤ 120 ∧ ∀ j : Nat, (j : Int) < A 114 2 → A 115 j = B 311 j ∧ 0 ≤ A 115 j ∧ A 115 j ≤ 255
def rwI (A B : hI) : Prop := (A 0 10 = -1 ∧ B 304 30 = 0) ∨ (0 ≤ A 0 10 ∧ A 0 10 ≤ 60 ∧ B 304 30 = 1 ∧ B 304 29 = A 0 10 ∧ ∀ t : Nat, (t : Int) < A 0 10 → A 117 t = B 317 t ∧ -2147483648 ≤ A 117 t ∧ A 117 t < 2147483648)
def kpI (i : Nat) (A B : hI) : Prop := (A 0 11 = 0 ∧ B 304 24 = 0) ∨ (A 0 11 = 1 ∧ B 304 24 = 1 ∧ WR (shA A) A (shB B) (KMX i (A 62 9)) (A 62 9) ∧ MON (shA A) A)
def Inv (i : Nat) (A B : hI) : Prop := WR A A B (KMX i (A 16 9)) (A 16 9) ∧ (∀ j : Nat, j < 7 → A 119 j = B 306 (j + 2)) ∧ tpI A B ∧ rwI A B ∧ kpI i A B ∧ ∀ q, B 350 q = 0 ∧ B 1350 q = 0
theorem Inv.rr {i : Nat} {A B : hI} (h : Inv i A B) : RR (KMX i (A 16 9)) (A 16 9) A B A B := ⟨h.1, SX.rf A, SB.rf B⟩
theorem Inv.kmx {i : Nat} {A B : hI} (h : Inv i A B) (hi : i ≤ 512) : KMX i (A 16 9) ≤ 936120000 := by
  have h2 := h.1.gD.dd2
  unfold KMX
  omega
theorem kpI.up {i : Nat} {A B : hI} (h : kpI i A B) : kpI (i + 1) A B := by
  rcases h with h | ⟨h1, h2, h3, h4⟩
  · exact Or.inl h
  · exact Or.inr ⟨h1, h2, h3.k (by unfold KMX; omega), h4⟩
/-- a call that changed the land alone -/
theorem Inv.step {i : Nat} {A B A' B' B1 : hI} {K : Int} (h : Inv i A B) (R : RR K (A' 16 9) A B1 A' B') (hB1 : ∀ k : Nat, k ≠ 469 → B1 k = B k) (hK : K ≤ KMX (i + 1) (A' 16 9)) : Inv (i + 1) A' B' := by
  obtain ⟨-, h2, h3, h4, h5, h6⟩ := h
  obtain ⟨w, sx, sb⟩ := R
  obtain ⟨s1, s2, s3, s4⟩ := sx
  obtain ⟨t1, t2, t3, t4, t5⟩ := sb
  have hA : ∀ k : Nat, k < 2 ∨ (8 ≤ k ∧ k < 15) ∨ 62 ≤ k → A' k = A k := s1
  have hB : ∀ k : Nat, k = 306 ∨ k = 311 ∨ (315 ≤ k ∧ k < 318) ∨ k = 350 ∨ 1000 ≤ k → B' k = B k := fun k hk => (t1 k (by omega)).trans (hB1 k (by omega))
  have b304 : B1 304 = B 304 := hB1 304 (by omega)
  rw [b304] at t2 t3 t4 t5
  refine ⟨w.k hK, ?_, ?_, ?_, ?_, ?_⟩
  · rw [hA 119 (by omega), hB 306 (by omega)]; exact h2
  · unfold tpI
    rw [hA 114 (by omega), hA 115 (by omega), t2, hB 311 (by omega)]; exact h3
  · unfold rwI
    rw [hA 0 (by omega), hA 117 (by omega), t5, t4, hB 317 (by omega)]; exact h4
  · have e1 : shA A' = shA A := by
      funext k
      unfold shA
      split
      · exact hA (k + 46) (by omega)
      · rfl
    have e2 : shB B' = shB B := funext fun k => hB (1000 + k) (by omega)
    unfold kpI
    rw [hA 0 (by omega), hA 62 (by omega), t3, e1, e2]
    rcases h5.up with h5 | ⟨u1, u2, u3, u4⟩
    · exact Or.inl h5
    · exact Or.inr ⟨u1, u2, u3.rc (s4.lo u4), u4.tr s3⟩
  · intro q
    rw [hB 350 (by omega), hB 1350 (by omega)]; exact h6 q
theorem WR.cg {w w' rc rc' S S' : hI} {K D : Int} (h : WR w rc S K D) (q : ∀ k : Nat, 16 ≤ k ∧ k < 62 → w' k = w k) (q2 : ∀ k : Nat, 2 ≤ k ∧ k < 15 → rc' k = rc k) (q3 : ∀ k : Nat, k = 350 ∨ (400 ≤ k ∧ k < 1000) → S' k = S k) : WR w' rc' S' K D := by
  obtain ⟨h1, h2, h3, h4, h5, h6, h7, h8, h9, h10, h11⟩ := h
  refine ⟨?_, ?_, ?_, ?_, ?_, ?_, ?_, ?_, ?_, ?_, ?_⟩
  · apply h1.c <;> first | (rw [q _ (by omega)]) | (rw [q2 _ (by omega)]) | (rw [q3 _ (by omega)])
  · apply h2.c <;> first | (rw [q _ (by omega)]) | (rw [q2 _ (by omega)]) | (rw [q3 _ (by omega)])
  · apply h3.c <;> first | (rw [q _ (by omega)]) | (rw [q2 _ (by omega)]) | (rw [q3 _ (by omega)])
  · apply h4.c <;> first | (rw [q _ (by omega)]) | (rw [q2 _ (by omega)]) | (rw [q3 _ (by omega)])
  · apply h5.c <;> first | (rw [q _ (by omega)]) | (rw [q2 _ (by omega)]) | (rw [q3 _ (by omega)])
  · apply h6.c <;> first | (rw [q _ (by omega)]) | (rw [q2 _ (by omega)]) | (rw [q3 _ (by omega)])
  · apply h7.c <;> first | (rw [q _ (by omega)]) | (rw [q2 _ (by omega)]) | (rw [q3 _ (by omega)])
  · apply h8.c <;> first | (rw [q _ (by omega)]) | (rw [q2 _ (by omega)]) | (rw [q3 _ (by omega)])
  · apply h9.c <;> first | (rw [q _ (by omega)]) | (rw [q2 _ (by omega)]) | (rw [q3 _ (by omega)]) | (intro k _ _; exact q3 k (by omega))
  · apply h10.c <;> first | (rw [q _ (by omega)]) | (rw [q2 _ (by omega)]) | (rw [q3 _ (by omega)])
  · apply h11.c <;> first | (rw [q _ (by omega)]) | (rw [q2 _ (by omega)]) | (rw [q3 _ (by omega)])
/-- a call that left the land -/
theorem Inv.oth {i : Nat} {A B A' B' : hI} (h : Inv i A B) (eA : ∀ k : Nat, 2 ≤ k ∧ k < 108 → A' k = A k) (eB : ∀ k : Nat, 350 ≤ k → k ≠ 399 → B' k = B k) (s : ∀ j : Nat, j < 7 → A' 119 j = B' 306 (j + 2)) (t : tpI A' B') (r : rwI A' B') (e11 : A' 0 11 = A 0 11) (e24 : B' 304 24 = B 304 24) : Inv i A' B' := by
  obtain ⟨h1, h2, h3, h4, h5, h6⟩ := h
  refine ⟨?_, s, t, r, ?_, fun q => by rw [eB 350 (by omega) (by omega), eB 1350 (by omega) (by omega)]; exact h6 q⟩
  · rw [eA 16 (by omega)]
    exact h1.cg (fun k hk => eA k (by omega)) (fun k hk => eA k (by omega)) (fun k hk => eB k (by omega) (by omega))
  · unfold kpI
    rw [e11, e24, eA 62 (by omega)]
    rcases h5 with h5 | ⟨u1, u2, u3, u4⟩
    · exact Or.inl h5
    · have sh : ∀ k : Nat, 16 ≤ k ∧ k < 62 → shA A' k = shA A k := fun k hk => by
        unfold shA
        rw [if_pos hk.1, if_pos hk.1]
        exact eA (k + 46) (by omega)
      refine Or.inr ⟨u1, u2, u3.cg sh (fun k hk => eA k (by omega)) (fun k hk => eB (1000 + k) (by omega) (by omega)), ?_⟩
      unfold MON at u4 ⊢
      rw [sh 55 (by omega), sh 59 (by omega), sh 16 (by omega), eA 55 (by omega), eA 59 (by omega), eA 16 (by omega)]
      exact u4
/-- a refusal -/
theorem Inv.ref {i : Nat} {A B : hI} (h : Inv i A B) {j : Nat} (hj : j < 7) : Inv i (uA A 119 j (A 119 j + 1)) (uA B 306 (j + 2) (B 306 (j + 2) + 1)) := by
  have hA : ∀ k : Nat, k ≠ 119 → uA A 119 j (A 119 j + 1) k = A k := fun k hk => uA_n hk
  have hB : ∀ k : Nat, k ≠ 306 → uA B 306 (j + 2) (B 306 (j + 2) + 1) k = B k := fun k hk => uA_n hk
  refine h.oth (fun k hk => hA k (by omega)) (fun k hk _ => hB k (by omega)) (fun t ht => ?_) ?_ ?_ (by rw [hA 0 (by omega)]) (by rw [hB 304 (by omega)])
  · rw [uA_s, uA_s]
    by_cases e : t = j
    · subst e; rw [ud_s, ud_s, h.2.1 t ht]
    · rw [ud_n e, ud_n (by omega), h.2.1 t ht]
  · unfold tpI
    rw [hA 114 (by omega), hA 115 (by omega), hB 304 (by omega), hB 311 (by omega)]; exact h.2.2.1
  · unfold rwI
    rw [hA 0 (by omega), hA 117 (by omega), hB 304 (by omega), hB 317 (by omega)]; exact h.2.2.2.1
theorem Inv.up {i : Nat} {A B : hI} (h : Inv i A B) : Inv (i + 1) A B := ⟨h.1.k (by unfold KMX; omega), h.2.1, h.2.2.1, h.2.2.2.1, h.2.2.2.2.1.up, h.2.2.2.2.2⟩
/-- both refuse for the same reason -/
theorem both_refuse {i : Nat} {A B : hI} (F : Nat) (h : Inv i A B) {v : Int} (hv : -8 ≤ v) (hv2 : v ≤ -2) (Ax Bx : hI) : ∃ A' B' : hI, f_x_refuse F (iI v) (mk A Bx) = some (iI v, mk A' Bx) ∧ f_m_refuse F (iI v) (mk Ax B) = some (iI v, mk Ax B') ∧ Inv (i + 1) A' B' := by
  have y := h.up.ref (j := (-2 - v).toNat) (by omega)
  rw [show (-2 - v).toNat + 2 = (-v).toNat by omega] at y
  exact ⟨_, _, ex_refuse F v A Bx hv hv2, em_refuse F v Ax B hv hv2, y⟩
theorem pc_of {fx fm : mM → Option (Int32 × mM)} {P : hI → hI → Prop} {A B : hI} (h : ∀ Ax Bx : hI, ∃ (r : Int32) (A' B' : hI), fx (mk A Bx) = some (r, mk A' Bx) ∧ fm (mk Ax B) = some (r, mk Ax B') ∧ P A' B') : ∃ (r : Int32) (m1 : mM) (A' B' : hI), fx (mk A B) = some (r, m1) ∧ fm m1 = some (r, mk A' B') ∧ P A' B' := by
  obtain ⟨r1, A1, B1, x1, -, -⟩ := h A B
  obtain ⟨r, A2, B2, x2, y2, p2⟩ := h A1 B
  have e := Option.some.inj (x1.symm.trans x2)
  have er : r1 = r := congrArg Prod.fst e
  have em : mk A1 B = mk A2 B := congrArg Prod.snd e
  refine ⟨r, mk A1 B, A2, B2, by rw [x1, er], ?_, p2⟩
  rw [y2]
  have : mk A1 B2 = mk A2 B2 := by
    refine Prod.ext ?_ rfl
    funext k j
    by_cases hk : k < 304
    · have := congrFun (congrFun (congrArg Prod.fst em) k) j
      rw [rA hk, rA hk] at this
      rw [rA hk, rA hk, this]
    · show (if k < 304 then _ else _) = (if k < 304 then _ else _)
      rw [if_neg hk, if_neg hk]
  rw [this]
