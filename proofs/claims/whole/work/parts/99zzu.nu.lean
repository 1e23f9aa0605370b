/-! A LAND'S CELLS READ ANEW: within their sizes, and as the machine's ints have them -/
section NU
abbrev inSz (k j : Nat) : Prop := (k = 16 ∧ 9 ≤ j ∧ j ≤ 14) ∨ (k = 17 ∧ 1 ≤ j ∧ j ≤ 2) ∨ (k = 18 ∧ j < 64) ∨ (k = 19 ∧ 11 ≤ j ∧ j ≤ 12) ∨ (20 ≤ k ∧ k ≤ 30 ∧ j < 16) ∨ (k = 31 ∧ 14 ≤ j ∧ j ≤ 15) ∨ (32 ≤ k ∧ k ≤ 44 ∧ k ≠ 38 ∧ j < 60) ∨ (k = 38 ∧ j < 360) ∨ (k = 46 ∧ j = 5) ∨ (47 ≤ k ∧ k ≤ 51 ∧ j < 8) ∨ (k = 53 ∧ j < 104) ∨ (k = 55 ∧ 7 ≤ j ∧ j ≤ 12) ∨ ((k = 56 ∨ k = 57) ∧ j < 300) ∨ (58 ≤ k ∧ k ≤ 60 ∧ j < 400) ∨ (k = 61 ∧ j < 16)
theorem dOK.cg {n : Nat} {ra rb rd d ra' rb' rd' d' : Nat → Int} (h : dOK n ra rb rd d) (e : ∀ k, k < n → ra' k = ra k ∧ rb' k = rb k ∧ rd' k = rd k) (hr : ∀ k, k < n → (ra k).toNat < 8 ∧ (rb k).toNat < 8) (ed : ∀ j, j < 64 → d' j = d j) : dOK n ra' rb' rd' d' := by
  obtain ⟨⟨h1, h2, h3, h4⟩, h5⟩ := h
  refine ⟨⟨fun a ha => by rw [ed _ (by omega)]; exact h1 a ha, fun a b ha hb => by rw [ed _ (by omega)]; exact h2 a b ha hb, fun k hk => ?_, fun a b c ha hb hc => by rw [ed _ (by omega), ed _ (by omega), ed _ (by omega)]; exact h4 a b c ha hb hc⟩, fun f hf a b ha hb => ?_⟩
  · obtain ⟨e1, e2, e3⟩ := e k hk
    have r := hr k hk
    rw [e1, e2, e3, ed _ (by omega), ed _ (by omega)]
    exact h3 k hk
  · rw [ed _ (by omega)]
    refine h5 f ⟨hf.1, hf.2.1, fun k hk => ?_, hf.2.2.2⟩ a b ha hb
    have y := hf.2.2.1 k hk
    obtain ⟨e1, e2, e3⟩ := e k hk
    rw [e1, e2, e3] at y
    exact y
variable {w w' rc rc' S S' : hI} {K D : Int} {ν : Int → Int}
theorem WL.nu (hν : ∀ x, -2147483648 ≤ x → x < 2147483648 → ν x = x) (hw : ∀ k j, inSz k j → w' k j = ν (w k j)) (hS : ∀ c j : Nat, (400 ≤ c ∧ c < 490) ∨ (600 ≤ c ∧ c < 724) → S' c j = ν (S c j)) (h : WL w S) : WL w' S' := by
  obtain ⟨x1, x2, x3, x4, x5, x6, x7, x8, x9, x10⟩ := h
  have a1 : w' 17 1 = w 17 1 := (hw 17 1 (by unfold inSz; omega)).trans (hν _ (by omega) (by omega))
  have a2 : w' 17 2 = w 17 2 := (hw 17 2 (by unfold inSz; omega)).trans (hν _ (by omega) (by omega))
  have b1 : S' 400 1 = S 400 1 := (hS 400 1 (by omega)).trans (hν _ (by omega) (by omega))
  have b3 : S' 400 3 = S 400 3 := (hS 400 3 (by omega)).trans (hν _ (by omega) (by omega))
  have r1 : ∀ k : Nat, (k : Int) < w 17 2 → S' 401 k = S 401 k ∧ S' 402 k = S 402 k ∧ S' 403 k = S 403 k := fun k hk => by
    have y := x7 k hk
    exact ⟨(hS 401 k (by omega)).trans (hν _ (by omega) (by omega)), (hS 402 k (by omega)).trans (hν _ (by omega) (by omega)), (hS 403 k (by omega)).trans (hν _ (by omega) (by omega))⟩
  have r4 : ∀ j, j < 64 → S' 404 j = S 404 j := fun j hj => by
    have y := x8.1.2.1 (j / 8) (j % 8) (by omega) (by omega)
    rw [show 8 * (j / 8) + j % 8 = j by omega] at y
    exact (hS 404 j (by omega)).trans (hν _ (by omega) (by omega))
  unfold WL
  rw [a1, a2, b1, b3]
  refine ⟨x1, x2, x3, x4, x5, x6, fun k hk => ?_, x8.cg (fun k hk => r1 k (by omega)) (fun k hk => by have := x7 k (by omega); omega) r4, fun a b ha hb hlt => ?_, fun j hj => ?_⟩
  · obtain ⟨y1, y2, y3⟩ := r1 k hk
    rw [y1, y2, y3]; exact x7 k hk
  · have e : dCn (S' 404) a = dCn (S 404) a := by
      unfold dCn
      exact sm_c fun b hb => by rw [r4 _ (by omega)]
    rw [r4 _ (by omega)] at hlt ⊢
    rw [e]; exact x9 a b ha hb hlt
  · have y := x8.1.2.1 (j / 8) (j % 8) (by omega) (by omega)
    rw [show 8 * (j / 8) + j % 8 = j by omega] at y
    have z := x10 j hj
    rw [r4 j hj, ← z]
    refine (hw 18 j (by unfold inSz; omega)).trans (hν _ ?_ ?_)
    · rw [z]; split <;> omega
    · rw [z]; split <;> omega
theorem WH.nu (hν : ∀ x, -2147483648 ≤ x → x < 2147483648 → ν x = x) (hw : ∀ k j, inSz k j → w' k j = ν (w k j)) (hS : ∀ c j : Nat, (400 ≤ c ∧ c < 490) ∨ (600 ≤ c ∧ c < 724) → S' c j = ν (S c j)) (a1 : w' 17 1 = w 17 1) (a9 : w' 16 9 = w 16 9) (hd : 0 ≤ w 16 9 ∧ w 16 9 ≤ 700) (ht : w 17 1 ≤ 8) (h : WH w S) : WH w' S' := by
  obtain ⟨x1, x2, x3, x4, x5, x6, x7, x8, x9, x10, x11, x12, x13, x14, x15, x16, x17, x18, x19, x20, x21⟩ := h
  have f : ∀ k h : Nat, 20 ≤ k → k ≤ 30 → h < 16 → w' k h = ν (w k h) := fun k h h1 h2 h3 => hw k h (by unfold inSz; omega)
  have a11 : w' 19 11 = w 19 11 := (hw 19 11 (by unfold inSz; omega)).trans (hν _ (by omega) (by omega))
  have cn := sm_cnt (w 19 11).toNat (fun h => w 27 h ≠ -1)
  have a12 : w' 19 12 = w 19 12 := (hw 19 12 (by unfold inSz; omega)).trans (hν _ (by rw [x21]; omega) (by rw [x21]; omega))
  have b2 : S' 400 2 = S 400 2 := (hS 400 2 (by omega)).trans (hν _ (by omega) (by omega))
  have e20 : ∀ h : Nat, (h : Int) < w 19 11 → w' 20 h = w 20 h := fun h hh => (f 20 h (by omega) (by omega) (by omega)).trans (by
    by_cases c : h = 0
    · rw [c, x11.1]; exact hν _ (by omega) (by omega)
    · have := x12 h (by omega) hh; exact hν _ (by omega) (by omega))
  have e27 : ∀ h : Nat, (h : Int) < w 19 11 → w' 27 h = w 27 h := fun h hh => (f 27 h (by omega) (by omega) (by omega)).trans (by
    have := x19 h hh; exact hν _ (by omega) (by omega))
  have q0 : (0 : Int) < w 19 11 := by omega
  have e24 : ∀ h : Nat, (h : Int) < w 19 11 → w' 24 h = w 24 h := fun h hh => (f 24 h (by omega) (by omega) (by omega)).trans (by
    by_cases c : h = 0
    · rw [c, x15]; exact hν _ (by omega) (by omega)
    · have := x16 h (by omega) hh; exact hν _ (by omega) (by omega))
  unfold WH
  rw [a11, a12, a1, a9, b2]
  refine ⟨x1, x2, x3, fun h hh => by rw [hS _ _ (by omega), f _ _ (by omega) (by omega) hh, x4 h hh], fun h hh => by rw [hS _ _ (by omega), f _ _ (by omega) (by omega) hh, x5 h hh], fun h hh => by rw [hS _ _ (by omega), f _ _ (by omega) (by omega) hh, x6 h hh], fun h hh => by rw [hS _ _ (by omega), f _ _ (by omega) (by omega) hh, x7 h hh], fun h hh => by rw [hS _ _ (by omega), f _ _ (by omega) (by omega) hh, x8 h hh], fun h h1 hh => by rw [hS _ _ (by omega), f _ _ (by omega) (by omega) hh, x9 h h1 hh], fun h hh => by rw [hS _ _ (by omega), f _ _ (by omega) (by omega) hh, x10 h hh], ?_, fun h h1 hh => by rw [e20 h hh]; exact x12 h h1 hh, fun h hh => ?_, fun h hh => ?_, by rw [e24 0 q0]; exact x15, fun h h1 hh => ?_, fun h h1 hh => ?_, fun h h1 hh => ?_, fun h hh => ?_, by rw [e27 0 q0]; exact x20, ?_⟩
  · refine ⟨by rw [e20 0 q0]; exact x11.1, ?_⟩
    rw [f 21 0 (by omega) (by omega) (by omega), x11.2]; exact hν _ (by omega) (by omega)
  · have y := x13 h hh
    rw [f 21 h (by omega) (by omega) (by omega), hν _ (by omega) (by omega)]; exact y
  · have y := x14 h hh
    rw [f 23 h (by omega) (by omega) (by omega), hν _ (by omega) (by omega)]; exact y
  · have y := x16 h h1 hh
    rw [e24 h hh, e20 h hh, e20 _ (by omega)]; exact y
  · have y := x17 h h1 hh
    rw [f 25 h (by omega) (by omega) (by omega), hν _ (by omega) (by omega)]; exact y
  · have y := x18 h h1 hh
    rw [f 26 h (by omega) (by omega) (by omega), hν _ (by omega) (by omega)]; exact y
  · rw [e27 h hh]
    rcases x19 h hh with ⟨y1, y2⟩ | ⟨y1, y2, y3, y4, y5, y6, y7⟩
    · exact Or.inl ⟨y1, by rw [hS _ _ (by omega), y2]; exact hν _ (by omega) (by omega)⟩
    · refine Or.inr ⟨y1, y2, by rw [hS _ _ (by omega), y3]; exact hν _ (by omega) (by omega), ?_, ?_, ?_, ?_⟩
      · rw [hS _ _ (by omega), y4]; exact hν _ (by omega) (by omega)
      · rw [hS _ _ (by omega), f 28 h (by omega) (by omega) (by omega), y5]
      · rw [hS _ _ (by omega), f 29 h (by omega) (by omega) (by omega), y6]
      · rw [hS _ _ (by omega), f 30 h (by omega) (by omega) (by omega), y7]
  · rw [x21]
    exact sm_c fun h hh => by rw [e27 h (by omega)]
theorem WN.nu (hν : ∀ x, -2147483648 ≤ x → x < 2147483648 → ν x = x) (hw : ∀ k j, inSz k j → w' k j = ν (w k j)) (hr : ∀ k j : Nat, 2 ≤ k → k < 15 → rc' k j = ν (rc k j)) (hS : ∀ c j : Nat, (400 ≤ c ∧ c < 490) ∨ (600 ≤ c ∧ c < 724) → S' c j = ν (S c j)) (a11 : w' 19 11 = w 19 11) (hn : w 19 11 ≤ 16) (h : WN w rc S) : WN w' rc' S' := by
  obtain ⟨x1, x2, x3, x4, x5, x6, x7, x8, x9, x10, x11, x12, x13, x14, x15, x16, x17, x18, x19, x20, x21, x22, x23, x24, x25⟩ := h
  have c1 := sm_cnt 300 (fun k => w 56 k = 1)
  have c2 := sm_cnt 300 (fun k => w 56 k = 2)
  have c3 := sm_cnt 300 (fun k => w 56 k = 3)
  have c4 := sm_cnt (w 55 7).toNat (fun e => w 58 e = -1)
  have a7 : w' 55 7 = w 55 7 := (hw 55 7 (by unfold inSz; omega)).trans (hν _ (by omega) (by omega))
  have a8 : w' 55 8 = w 55 8 := (hw 55 8 (by unfold inSz; omega)).trans (hν _ (by omega) (by omega))
  have a9 : w' 55 9 = w 55 9 := (hw 55 9 (by unfold inSz; omega)).trans (hν _ (by omega) (by omega))
  have a10 : w' 55 10 = w 55 10 := (hw 55 10 (by unfold inSz; omega)).trans (hν _ (by omega) (by omega))
  have a1 : w' 55 11 = w 55 11 := (hw 55 11 (by unfold inSz; omega)).trans (hν _ (by omega) (by omega))
  have a12 : w' 55 12 = w 55 12 := (hw 55 12 (by unfold inSz; omega)).trans (hν _ (by omega) (by omega))
  have b6 : S' 400 6 = S 400 6 := (hS 400 6 (by omega)).trans (hν _ (by omega) (by omega))
  have b7 : S' 400 7 = S 400 7 := (hS 400 7 (by omega)).trans (hν _ (by omega) (by omega))
  have e56 : ∀ k : Nat, k < 300 → w' 56 k = w 56 k := fun k hk => (hw 56 k (by unfold inSz; omega)).trans (hν _ (by have := x7 k hk; omega) (by have := x7 k hk; omega))
  have e2 : ∀ c : Nat, (c : Int) < w 55 7 → rc' 2 c = rc 2 c := fun c hc => (hr 2 c (by omega) (by omega)).trans (hν _ (by have := x9 c hc; omega) (by have := x9 c hc; omega))
  have e58 : ∀ c : Nat, (c : Int) < w 55 7 → w' 58 c = w 58 c := fun c hc => (hw 58 c (by unfold inSz; omega)).trans (hν _ (by have := x12 c hc; omega) (by have := x12 c hc; omega))
  have e59 : ∀ c : Nat, (c : Int) < w 55 7 → w' 59 c = w 59 c := fun c hc => (hw 59 c (by unfold inSz; omega)).trans (hν _ (by have := x13 c hc; omega) (by have := x13 c hc; omega))
  have e60 : ∀ c : Nat, (c : Int) < w 55 7 → w' 60 c = w 60 c := fun c hc => (hw 60 c (by unfold inSz; omega)).trans (hν _ (by have := x17 c hc; omega) (by have := x17 c hc; omega))
  unfold WN
  rw [a7, a8, a9, a10, a1, a12, a11, b6, b7]
  refine ⟨x1, x2, x3, x4, x5, fun k hk => by rw [hS _ _ (by omega), hw 56 k (by unfold inSz; omega), x6 k hk], fun k hk => by rw [e56 k hk]; exact x7 k hk, fun k hk => by rw [e56 k hk]; exact x8 k hk, fun c hc => ?_, fun c hc => ?_, fun k hk => ?_, fun c hc => ?_, fun c hc => ?_, fun c j hc hj => ?_, fun h h1 h2 => ?_, ?_, fun j hj => by rw [e60 j hj]; exact x17 j hj, fun j k hjk hk => ?_, fun c hc => ?_, ?_, ?_, ?_, x23, ?_, fun j hj hj2 => ?_⟩
  · have y := x9 c hc
    rw [e2 c hc, hS _ _ (by omega), hν (S 430 c) (by omega) (by omega)]; exact y
  · have y := sm_cnt c (fun e => rc 2 e = rc 2 c)
    rw [hS _ _ (by omega), x10 c hc, hν _ (by omega) (by omega)]
    exact sm_c fun e he => by rw [e2 e (by omega), e2 c hc]
  · have y := sm_cnt (w 55 7).toNat (fun e => rc 2 e = k)
    rw [hS _ _ (by omega), x11 k hk, hν _ (by omega) (by omega)]
    exact sm_c fun e he => by rw [e2 e (by omega)]
  · have y := x12 c hc
    rw [e58 c hc, hS _ _ (by omega), hν (S 432 c) (by omega) (by omega)]; exact y
  · have y := x13 c hc
    rw [e59 c hc, hS _ _ (by omega), hν (S 433 c) (by omega) (by omega)]; exact y
  · rw [e59 c hc] at hj
    have y := x13 c hc
    rw [hS _ _ (by omega), hr 3 _ (by omega) (by omega), x14 c j hc hj]
  · have y := sm_cnt (w 55 7).toNat (fun e => w 58 e = h)
    rw [hw 61 h (by unfold inSz; omega), x15 h h1 h2, hν _ (by omega) (by omega)]
    exact sm_c fun e he => by rw [e58 e (by omega)]
  · rw [hw 61 0 (by unfold inSz; omega), x16]; exact hν _ (by omega) (by omega)
  · have u := x17 j (by omega)
    have v := x17 k hk
    rw [e60 j (by omega), e60 k hk, e2 _ (by omega), e2 _ (by omega)]
    exact x18 j k hjk hk
  · obtain ⟨j, hj, e⟩ := x19 c hc
    exact ⟨j, hj, by rw [e60 j hj]; exact e⟩
  · rw [x20]; exact sm_c fun k hk => by rw [e56 k hk]
  · rw [x21]; exact sm_c fun k hk => by rw [e56 k hk]
  · rw [x22]; exact sm_c fun k hk => by rw [e56 k hk]
  · rw [x24]; exact sm_c fun e he => by rw [e58 e (by omega)]
  · obtain ⟨y1, y2, y3⟩ := x25 j hj hj2
    rw [hS _ _ (by omega), hS _ _ (by omega), hS _ _ (by omega), hr 4 _ (by omega) (by omega), hr 5 _ (by omega) (by omega), hr 6 _ (by omega) (by omega), y1, y2, y3]
    exact ⟨rfl, rfl, rfl⟩
theorem WP.nu (hν : ∀ x, -2147483648 ≤ x → x < 2147483648 → ν x = x) (hw : ∀ k j, inSz k j → w' k j = ν (w k j)) (hS : ∀ c j : Nat, (400 ≤ c ∧ c < 490) ∨ (600 ≤ c ∧ c < 724) → S' c j = ν (S c j)) (hG : ∀ q, S' 350 q = S 350 q) (a11 : w' 19 11 = w 19 11) (hn : w 19 11 ≤ 16) (a9 : w' 16 9 = w 16 9) (hd : 0 ≤ w 16 9 ∧ w 16 9 ≤ 700) (e27 : ∀ h : Nat, (h : Int) < w 19 11 → w' 27 h = w 27 h) (h : WP w S D) : WP w' S' D := by
  obtain ⟨x1, x2, x3, x4, x5, x6, x7, x8, x9, x10, x11, x12, x13, x14, x15, x16, x17, x18, x19, x20, x21, x22, x23, x24, x25, x26, x27⟩ := h
  have f : ∀ k p : Nat, 32 ≤ k → k ≤ 44 → k ≠ 38 → p < 60 → w' k p = ν (w k p) := fun k p h1 h2 h3 h4 => hw k p (by unfold inSz; omega)
  have c0 := sm_cnt 60 (fun p => w 32 p ≠ -1)
  have a14 : w' 31 14 = w 31 14 := (hw 31 14 (by unfold inSz; omega)).trans (hν _ (by omega) (by omega))
  have a15 : w' 31 15 = w 31 15 := (hw 31 15 (by unfold inSz; omega)).trans (hν _ (by omega) (by omega))
  have e32 : ∀ p : Nat, p < 60 → w' 32 p = w 32 p := fun p hp => (f 32 p (by omega) (by omega) (by omega) hp).trans (hν _ (by have := x5 p hp; omega) (by have := x5 p hp; omega))
  have g : ∀ (k p : Nat), 32 ≤ k → k ≤ 44 → k ≠ 38 → p < 60 → -2147483648 ≤ w k p → w k p < 2147483648 → w' k p = w k p := fun k p h1 h2 h3 h4 h5 h6 => (f k p h1 h2 h3 h4).trans (hν _ h5 h6)
  have e37 : ∀ p : Nat, p < 60 → w' 37 p = w 37 p := fun p hp => g 37 p (by omega) (by omega) (by omega) hp (by have := x5 p hp; have := x11 p hp; omega) (by have := x5 p hp; have := x11 p hp; omega)
  have e34 : ∀ p : Nat, p < 60 → w 32 p ≠ -1 → w' 34 p = w 34 p := fun p hp hk => g 34 p (by omega) (by omega) (by omega) hp (by have := x8 p hp hk; omega) (by have := x8 p hp hk; omega)
  have e35 : ∀ p : Nat, p < 60 → w 32 p ≠ -1 → w' 35 p = w 35 p := fun p hp hk => g 35 p (by omega) (by omega) (by omega) hp (by have := x9 p hp hk; omega) (by have := x9 p hp hk; omega)
  have e36 : ∀ p : Nat, p < 60 → w 32 p ≠ -1 → w' 36 p = w 36 p := fun p hp hk => g 36 p (by omega) (by omega) (by omega) hp (by have := x10 p hp hk; omega) (by have := x10 p hp hk; omega)
  have e39 : ∀ p : Nat, p < 60 → w 32 p ≠ -1 → w' 39 p = w 39 p := fun p hp hk => g 39 p (by omega) (by omega) (by omega) hp (by have := x17 p hp hk; have := x18 p hp; omega) (by have := x17 p hp hk; have := x18 p hp; omega)
  have e40 : ∀ p : Nat, p < 60 → w 32 p ≠ -1 → w' 40 p = w 40 p := fun p hp hk => g 40 p (by omega) (by omega) (by omega) hp (by have := x13 p hp hk; omega) (by have := x13 p hp hk; omega)
  have sv : ∀ (c : Nat) (x : Int) (p : Nat), 450 ≤ c → c < 470 → S c p = x → -2147483648 ≤ x → x < 2147483648 → S' c p = x := fun c x p h1 h2 h3 h4 h5 => by rw [hS c p (by omega), h3]; exact hν x h4 h5
  have sq : ∀ (c k p : Nat), 450 ≤ c → c < 470 → 32 ≤ k → k ≤ 44 → k ≠ 38 → p < 60 → S c p = w k p → S' c p = w' k p := fun c k p h1 h2 h3 h4 h5 h6 h7 => by rw [hS c p (by omega), f k p h3 h4 h5 h6, h7]
  unfold WP
  rw [a14, a15, a11, a9]
  refine ⟨?_, x2, x3, fun p hp he => by rw [e32 p hp]; exact x4 p hp he, fun p hp => ?_, fun p hp hk => ?_, fun p hp hk => ?_, fun p hp hk => ?_, fun p hp hk => ?_, fun p hp hk => ?_, fun p hp hk => ?_, fun p hp hk => ?_, fun p hp hk => ?_, fun p hp hk => ?_, fun p hp hk => ?_, fun p hp hk => ?_, fun p hp hk h1 => ?_, fun p hp h1 => ?_, fun p j hp h1 hj => ?_, fun p hp hk hl h2 => ?_, fun p hp hk hl h1 => ?_, fun p hp h2 => ?_, fun p hp h2 => ?_, fun p hp h1 h2 hg => ?_, fun p hp h3 => ?_, fun p hp h3 hl => ?_, fun p q hp hq h1 h2 h3 h4 he => ?_⟩
  · rw [x1]; exact sm_c fun p hp => by rw [e32 p hp]
  · rw [e32 p hp, e37 p hp]
    rcases x5 p hp with ⟨y1, y2, y3⟩ | ⟨y1, y2, y3⟩
    · exact Or.inl ⟨y1, y2, sv 450 0 p (by omega) (by omega) y3 (by omega) (by omega)⟩
    · exact Or.inr ⟨y1, y2, sv 450 1 p (by omega) (by omega) y3 (by omega) (by omega)⟩
  · rw [e32 p hp] at hk
    exact sq 451 32 p (by omega) (by omega) (by omega) (by omega) (by omega) hp (x6 p hp hk)
  · rw [e32 p hp] at hk
    have y := x7 p hp hk
    rw [e32 p hp, g 33 p (by omega) (by omega) (by omega) hp (by omega) (by omega)]
    exact ⟨sv 452 _ p (by omega) (by omega) y.1 (by omega) (by omega), y.2⟩
  · rw [e32 p hp] at hk
    have y := x8 p hp hk
    rw [e34 p hp hk]
    exact ⟨sv 453 _ p (by omega) (by omega) y.1 (by omega) (by omega), y.2⟩
  · rw [e32 p hp] at hk
    have y := x9 p hp hk
    rw [e35 p hp hk]
    exact ⟨sv 454 _ p (by omega) (by omega) y.1 (by omega) (by omega), y.2⟩
  · rw [e32 p hp] at hk
    have y := x10 p hp hk
    rw [e36 p hp hk]
    exact ⟨sv 455 _ p (by omega) (by omega) y.1 (by omega) (by omega), y.2⟩
  · rw [e32 p hp] at hk
    have y := x11 p hp hk
    rw [e37 p hp]
    exact ⟨sv 456 _ p (by omega) (by omega) y.1 (by omega) (by omega), y.2⟩
  · rw [e32 p hp] at hk
    exact sq 457 39 p (by omega) (by omega) (by omega) (by omega) (by omega) hp (x12 p hp hk)
  · rw [e32 p hp] at hk
    have y := x13 p hp hk
    rw [e40 p hp hk]
    exact ⟨sv 464 _ p (by omega) (by omega) y.1 (by omega) (by omega), y.2⟩
  · rw [e32 p hp] at hk
    exact sq 465 41 p (by omega) (by omega) (by omega) (by omega) (by omega) hp (x14 p hp hk)
  · rw [e32 p hp] at hk
    have y := x15 p hp hk
    rw [g 42 p (by omega) (by omega) (by omega) hp (by omega) (by omega)]
    exact ⟨sv 467 _ p (by omega) (by omega) y.1 (by omega) (by omega), y.2⟩
  · rw [e32 p hp] at hk
    have y := x16 p hp hk
    rw [g 43 p (by omega) (by omega) (by omega) hp (by omega) (by omega)]
    exact ⟨sv 468 _ p (by omega) (by omega) y.1 (by omega) (by omega), y.2⟩
  · rw [e32 p hp] at hk h1
    have y := x17 p hp hk h1
    rw [e39 p hp hk, e37 p hp, g 43 p (by omega) (by omega) (by omega) hp (by omega) (by omega)]
    exact y
  · rw [e32 p hp] at h1
    rw [e39 p hp (by omega)]
    exact x18 p hp h1
  · rw [e32 p hp] at h1
    rw [e39 p hp (by omega)] at hj
    have b := x18 p hp h1
    have y := x19 p j hp h1 hj
    rw [hw 38 (6 * p + j) (by unfold inSz; omega), hν _ (by omega) (by omega)]
    exact ⟨sv (458 + j) _ p (by omega) (by omega) y.1 (by omega) (by omega), y.2⟩
  · rw [e32 p hp] at hk h2
    rw [e37 p hp] at hl
    rw [e36 p hp hk]
    exact x20 p hp hk hl h2
  · rw [e32 p hp] at hk h1
    rw [e37 p hp] at hl
    have y := x8 p hp hk
    rw [e34 p hp hk, e27 _ (by omega)]
    exact x21 p hp hk hl h1
  · rw [e32 p hp] at h2
    rw [e36 p hp (by omega), e35 p hp (by omega), e34 p hp (by omega)]
    exact x22 p hp h2
  · rw [e32 p hp] at h2
    rw [e35 p hp (by omega)]
    exact x23 p hp h2
  · rw [e32 p hp] at h1
    rw [e37 p hp] at h2
    rw [hG] at hg
    have b := x18 p hp h1
    obtain ⟨j, y1, y2, y3, y4⟩ := x24 p hp h1 h2 hg
    have z := x19 p j hp h1 y2
    refine ⟨j, y1, by rw [e39 p hp (by omega)]; exact y2, ?_, ?_⟩
    · rw [hw 38 (6 * p + j) (by unfold inSz; omega), hν _ (by omega) (by omega), e35 p hp (by omega)]; exact y3
    · rw [hw 38 (6 * p + j) (by unfold inSz; omega), hν _ (by omega) (by omega), e34 p hp (by omega)]; exact y4
  · rw [e32 p hp] at h3
    have y := x25 p hp h3
    rw [g 44 p (by omega) (by omega) (by omega) hp (by omega) (by omega)]
    exact ⟨sv 466 _ p (by omega) (by omega) y.1 (by omega) (by omega), y.2⟩
  · rw [e32 p hp] at h3
    rw [e37 p hp] at hl
    have y := x26 p hp h3 hl
    have e41 := g 41 p (by omega) (by omega) (by omega) hp (by omega) (by omega)
    rw [e41, e35 p hp (by omega), e36 p hp (by omega), e32 _ (by omega), e37 _ (by omega), e40 _ (by omega) (by omega), e35 _ (by omega) (by omega), e36 _ (by omega) (by omega)]
    exact y
  · rw [e32 p hp] at h1
    rw [e37 p hp] at h2
    rw [e32 q hq] at h3
    rw [e37 q hq] at h4
    have y := x26 p hp h1 h2
    have z := x26 q hq h3 h4
    rw [g 41 p (by omega) (by omega) (by omega) hp (by omega) (by omega), g 41 q (by omega) (by omega) (by omega) hq (by omega) (by omega)] at he
    exact x27 p q hp hq h1 h2 h3 h4 he
theorem pOK.nu (hν : ∀ x, -2147483648 ≤ x → x < 2147483648 → ν x = x) {b : Nat → Int} {L : Nat} {key ms sz : Int} {cd cd' : Nat → Int} (hL : L ≤ 120) (ok : pOK b L key ms sz cd) (h : ∀ j, j < 120 → cd' j = ν (cd j)) : pOK b L (ν key) (ν ms) (ν sz) cd' := by
  have t := tx_ok ok.1 ok.2.1
  have e := t.1
  have q1 := pE1_PI b L
  have q2 := pE2_PI b L
  have q0 := (p0_PI b L).1
  have l1 : (pE1 b L).2.2.2.2.2.length ≤ 120 := by have := q1.2.2.2.2.1; have := q1.1; have := q1.2.1; omega
  have l2 : (pE2 b L).2.2.2.2.2.length ≤ 120 := by have := q2.2.2.2.2.1; have := q2.1; have := q2.2.1; omega
  have tk := q0.2.2.2.2.2.1
  obtain ⟨o1, o2, o3, o4, o5, o6⟩ := ok
  unfold tkR at tk
  refine ⟨o1, o2, ?_, ?_, ?_, fun j hj => ?_⟩
  · rw [o3]; exact hν _ (by omega) (by omega)
  · rw [o4]; exact hν _ (by omega) (by omega)
  · rw [o5, e]; exact hν _ (by omega) (by omega)
  · have z := o6 j hj
    rw [e] at hj z ⊢
    rw [h j (by omega), z]
    have m : (pE2 b L).2.2.2.2.2.getD j 0 ∈ (pE2 b L).2.2.2.2.2 := by
      rw [List.getD_eq_getElem?_getD, List.getElem?_eq_getElem hj]
      exact List.getElem_mem hj
    have := q2.2.2.2.2.2.2 _ m
    exact hν _ (by omega) (by omega)
theorem adv_cg {P Q : Nat → Bool} : ∀ (n p : Nat), (∀ i, p ≤ i → i < p + n → P i = Q i) → adv P n p = adv Q n p := by
  intro n
  induction n with
  | zero => intro p _; rfl
  | succ n ih =>
    intro p h
    unfold adv
    rw [h p (Nat.le_refl _) (by omega), ih (p + 1) (fun i h1 h2 => h i (by omega) (by omega))]
theorem wsl_cg {b b' : Nat → Int} {p q : Nat} (h : ∀ i, p ≤ i → i < q → b i = b' i) : wsl b p q = wsl b' p q := by
  unfold wsl
  refine List.map_congr_left fun i hi => ?_
  have := List.mem_range.mp hi
  exact h _ (by omega) (by omega)
theorem tkn_cg {b b' : Nat → Int} {L : Nat} (h : ∀ i, i < L → b i = b' i) (p0 : Nat) : tkn b L p0 = tkn b' L p0 := by
  unfold tkn
  have e0 : adv (fun i => decide (b i = 32)) (L - p0) p0 = adv (fun i => decide (b' i = 32)) (L - p0) p0 := adv_cg _ _ fun i h1 h2 => by
    show decide (b i = 32) = decide (b' i = 32)
    rw [h i (by omega)]
  simp only [e0]
  generalize adv (fun i => decide (b' i = 32)) (L - p0) p0 = p
  by_cases c : L ≤ p
  · rw [if_pos c, if_pos c]
  · rw [if_neg c, if_neg c]
    have ep : b p = b' p := h p (by omega)
    have e1 : adv (fun i => pL (b i)) (L - p) p = adv (fun i => pL (b' i)) (L - p) p := adv_cg _ _ fun i h1 h2 => by
      show pL (b i) = pL (b' i)
      rw [h i (by omega)]
    have e2 : adv (fun i => pD (b i)) (L - p) p = adv (fun i => pD (b' i)) (L - p) p := adv_cg _ _ fun i h1 h2 => by
      show pD (b i) = pD (b' i)
      rw [h i (by omega)]
    have r1 := adv_rg (fun i => pL (b' i)) (L - p) p
    have r2 := adv_rg (fun i => pD (b' i)) (L - p) p
    have w1 : pWd b p (adv (fun i => pL (b' i)) (L - p) p) = pWd b' p (adv (fun i => pL (b' i)) (L - p) p) := by
      unfold pWd
      rw [wsl_cg fun i h1 h2 => h i (by omega)]
    have w2 : pNm b p (adv (fun i => pD (b' i)) (L - p) p) = pNm b' p (adv (fun i => pD (b' i)) (L - p) p) := by
      unfold pNm
      rw [wsl_cg fun i h1 h2 => h i (by omega)]
    rw [ep, e1, e2, w1, w2]
theorem pOK.bc {b b' : Nat → Int} {L : Nat} {key ms sz : Int} {cd : Nat → Int} (h : ∀ i, i < L → b i = b' i) : pOK b L key ms sz cd ↔ pOK b' L key ms sz cd := by
  have e : pnx b L = pnx b' L := funext fun s => by unfold pnx; rw [tkn_cg h]
  have e0 : p0 b L = p0 b' L := by unfold p0; rw [e]
  have e1 : pE1 b L = pE1 b' L := by unfold pE1; rw [e, e0]
  have e2 : pE2 b L = pE2 b' L := by unfold pE2; rw [e, e1]
  have eT : pT b L = pT b' L := by unfold pT; rw [e0, e2]
  unfold pOK
  rw [e0, e1, eT]
/-- the whole land -/
theorem WR.nu (hν : ∀ x, -2147483648 ≤ x → x < 2147483648 → ν x = x) (hν2 : ∀ x, iI (ν x) = iI x) (hK : K < 2147483648) (hw : ∀ k j, inSz k j → w' k j = ν (w k j)) (hr : ∀ k j : Nat, 2 ≤ k → k < 15 → rc' k j = ν (rc k j)) (hS : ∀ c j : Nat, (400 ≤ c ∧ c < 490) ∨ (600 ≤ c ∧ c < 724) → S' c j = ν (S c j)) (hG : ∀ q, S' 350 q = S 350 q) (h : WR w rc S K D) : WR w' rc' S' K D := by
  obtain ⟨h1, h2, h3, h4, h5, h6, h7, h8, h9, h10, h11⟩ := h
  have n1 := h2.hn1
  have n2 := h2.hn2
  have d1 := h7.dd1
  have d2 := h7.dd2
  have cn := sm_cnt (w 19 11).toNat (fun h => w 27 h ≠ -1)
  have a11 : w' 19 11 = w 19 11 := (hw 19 11 (by unfold inSz; omega)).trans (hν _ (by omega) (by omega))
  have a9 : w' 16 9 = w 16 9 := (hw 16 9 (by unfold inSz; omega)).trans (hν _ (by omega) (by omega))
  have t1 := h1.lt1
  have t2 := h1.lt2
  have a1 : w' 17 1 = w 17 1 := (hw 17 1 (by unfold inSz; omega)).trans (hν _ (by omega) (by omega))
  have e27 : ∀ h : Nat, (h : Int) < w 19 11 → w' 27 h = w 27 h := fun h hh => (hw 27 h (by unfold inSz; omega)).trans (by
    have := h2.hdn h hh; exact hν _ (by omega) (by omega))
  refine ⟨h1.nu hν hw hS, h2.nu hν hw hS a1 a9 ⟨d1, d2⟩ t2, h3.nu hν hw hr hS a11 n2, h4.nu hν hw hS hG a11 n2 a9 ⟨d1, d2⟩ e27, ?_, ?_, ?_, ?_, ?_, ?_, ?_⟩
  · obtain ⟨x1, x2, x3, x4, x5⟩ := h5
    have a5 : w' 46 5 = w 46 5 := (hw 46 5 (by unfold inSz; omega)).trans (hν _ (by omega) (by omega))
    unfold WT
    rw [a5, a11]
    refine ⟨x1, x2, ?_, fun t ht => ?_, fun t ht => ?_⟩
    · rw [hS _ _ (by omega), x3]; exact hν _ (by omega) (by omega)
    · obtain ⟨y1, y2, y3, y4, y5⟩ := x4 t ht
      rw [hS _ _ (by omega), hS _ _ (by omega), hS _ _ (by omega), hS _ _ (by omega), hS _ _ (by omega), hw 47 t (by unfold inSz; omega), hw 48 t (by unfold inSz; omega), hw 49 t (by unfold inSz; omega), hw 50 t (by unfold inSz; omega), hw 51 t (by unfold inSz; omega), y1, y2, y3, y4, y5]
      exact ⟨rfl, rfl, rfl, rfl, rfl⟩
    · have y := x5 t ht
      rw [hw 47 t (by unfold inSz; omega), hw 48 t (by unfold inSz; omega), hw 49 t (by unfold inSz; omega), hw 50 t (by unfold inSz; omega), hw 51 t (by unfold inSz; omega), hν (w 47 t) (by omega) (by omega), hν (w 48 t) (by omega) (by omega), hν (w 49 t) (by omega) (by omega), hν (w 50 t) (by omega) (by omega), hν (w 51 t) (by omega) (by omega)]
      exact y
  · obtain ⟨x1, x2⟩ := h6
    refine ⟨fun j hj => ?_, fun j hj => ?_⟩
    · rw [hS _ _ (by omega), hw 53 j (by unfold inSz; omega), x1 j hj]
    · have y := x2 j hj
      rw [hw 53 j (by unfold inSz; omega), hν _ (by omega) (by omega)]; exact y
  · obtain ⟨x1, x2, x3, x4, x5, x6, x7, x8, x9, x10, x11, x12, x13, x14, x15⟩ := h7
    have a10 : w' 16 10 = w 16 10 := (hw 16 10 (by unfold inSz; omega)).trans (hν _ (by omega) (by omega))
    have a12 : w' 16 11 = w 16 11 := (hw 16 11 (by unfold inSz; omega)).trans (hν _ (by omega) (by omega))
    have a13 : w' 16 13 = w 16 13 := (hw 16 13 (by unfold inSz; omega)).trans (hν _ (by omega) (by omega))
    unfold WD
    rw [a9, a10, a12, a13]
    refine ⟨x1, x2, ?_, x4, x5, x6, x7, ?_, x9, x10, ?_, ?_, x13, x14, ?_⟩
    · rw [hS _ _ (by omega), x3]; exact hν _ (by omega) (by omega)
    · rw [hS _ _ (by omega), x8]; exact hν _ (by omega) (by omega)
    · rw [hS _ _ (by omega), x11]; exact hν _ (by omega) (by omega)
    · rw [hS _ _ (by omega), hw 16 12 (by unfold inSz; omega), x12]
    · rw [hS _ _ (by omega), x15]; exact hν _ (by omega) (by omega)
  · obtain ⟨x1, x2⟩ := h8
    unfold WW
    rw [a9]
    refine ⟨fun k j hk hj => ?_, fun k hk => ?_⟩
    · rw [hr 7 _ (by omega) (by omega), x1 k j hk hj, hS 486 k (by omega), hS (480 + j) k (by omega), hν2]
      split
      · rfl
      · exact hν _ (by omega) (by omega)
    · have y := x2 k hk
      rw [hS 485 k (by omega), hν _ (by omega) (by omega)]; exact y
  · obtain ⟨x1, x2, x3, x4, x5, x6, x7⟩ := h9
    have a14 : w' 16 14 = w 16 14 := (hw 16 14 (by unfold inSz; omega)).trans (hν _ (by omega) (by omega))
    unfold WX
    rw [a14]
    refine ⟨x1, x2, ?_, fun x hx => ?_, fun x hx => ?_, fun x j hx hj => ?_, fun x hx => ?_⟩
    · rw [hS _ _ (by omega), x3]; exact hν _ (by omega) (by omega)
    · obtain ⟨y1, y2, y3, y4, y5, y6, y7⟩ := x4 x hx
      rw [hS _ _ (by omega), hS _ _ (by omega), hS _ _ (by omega), hr 9 _ (by omega) (by omega), hr 10 _ (by omega) (by omega), hr 11 _ (by omega) (by omega), y1, y2, y3, hν (rc 10 x) (by omega) (by omega), hν (rc 11 x) (by omega) (by omega)]
      exact ⟨rfl, rfl, rfl, y4, y5, y6, y7⟩
    · have y := x5 x hx
      rw [hS _ _ (by omega), hν _ (by omega) (by omega)]; exact y
    · have y5 := x5 x hx
      rw [hS 603 _ (by omega), hν _ (by omega) (by omega)] at hj
      have y := x6 x j hx hj
      rw [hS (604 + j) _ (by omega), hν _ (by omega) (by omega)]; exact y
    · have y5 := x5 x hx
      have y7 := x7 x hx
      rw [hS 603 _ (by omega), hν (S 603 x) (by omega) (by omega), hr 9 _ (by omega) (by omega), hr 12 _ (by omega) (by omega), hr 13 _ (by omega) (by omega)]
      have eb : ∀ j, j < (S 603 x).toNat → xby S' x j = xby S x j := fun j hj => by
        have y := x6 x j hx (by omega)
        unfold xby
        rw [if_pos (by omega), if_pos (by omega), hS (604 + j) _ (by omega), hν _ (by omega) (by omega)]
      exact (pOK.bc eb).mpr (y7.nu hν (by omega) (fun j hj => hr 14 _ (by omega) (by omega)))
  · obtain ⟨x1, x2⟩ := h10
    have e22 : ∀ h : Nat, (h : Int) < w 19 11 → w' 22 h = w 22 h := fun h hh => by
      have o := sm_one (n := (w 19 11).toNat) (f := w 22) (j := h) (by omega) (fun q hq => x1 q (by omega))
      have := x1 h hh
      exact (hw 22 h (by unfold inSz; omega)).trans (hν _ (by omega) (by omega))
    refine ⟨fun h hh => ?_, ?_⟩
    · rw [a11] at hh
      rw [e22 h hh]; exact x1 h hh
    · rw [a11, sm_c (g := w 22) (fun h hh => e22 h (by omega))]; exact x2
  · intro k hk h2
    have y56 := h3.nsr k hk
    rw [hw 56 k (by unfold inSz; omega), hν _ (by omega) (by omega)] at h2
    have c7 := h3.nc2
    obtain ⟨y1, y2, y3, y4, y5⟩ := h11 k hk h2
    have a7 : w' 55 7 = w 55 7 := (hw 55 7 (by unfold inSz; omega)).trans (hν _ (by omega) (by omega))
    rw [hw 57 k (by unfold inSz; omega), hν (w 57 k) (by omega) (by omega), a7, hr 2 _ (by omega) (by omega), y3, hw 58 _ (by unfold inSz; omega), y4, hS 423 k (by omega), y5, hν (w 57 k) (by omega) (by omega)]
    exact ⟨y1, y2, hν _ (by omega) (by omega), hν _ (by omega) (by omega), rfl⟩
end NU
