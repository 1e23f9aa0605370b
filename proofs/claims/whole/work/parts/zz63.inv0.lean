/-! WHAT HOLDS AT THE START -/
section INV0
theorem i0_L : WL A00 B00 := by
  have q1 : ∀ a : Nat, a < 8 → ∀ b : Nat, b < 8 → B00 404 (8 * a + b) = if a = b then 0 else 999999 := by decide +kernel
  have q2 : ∀ a : Nat, a < 8 → ∀ b : Nat, b < 8 → B00 404 (8 * a + b) < 999999 → B00 404 (8 * a + b) ≤ 30 * dCn (B00 404) a - 30 := by decide +kernel
  have q3 : ∀ j : Nat, j < 64 → A00 18 j = if B00 404 j = 999999 then -1 else B00 404 j := by decide +kernel
  have q4 : (A00 17 2).toNat = 0 := by decide +kernel
  refine ⟨by decide +kernel, by decide +kernel, by decide +kernel, by decide +kernel, by decide +kernel, by decide +kernel, fun k hk => ?_, ?_, fun a b ha hb => q2 a ha b hb, q3⟩
  · have : (k : Int) < 0 := hk
    omega
  · rw [q4]
    refine ⟨⟨fun a ha => by rw [q1 a ha a ha, if_pos rfl], fun a b ha hb => ?_, fun k hk => absurd hk (Nat.not_lt_zero _), fun a b c ha hb hc => ?_⟩, fun f hf a b ha hb => ?_⟩
    · rw [q1 a ha b hb]; split <;> omega
    · rw [q1 a ha b hb, q1 a ha c hc, q1 c hc b hb]
      repeat' split
      all_goals omega
    · rw [q1 a ha b hb]
      by_cases e : a = b
      · subst e
        rw [if_pos rfl, hf.1 a ha]
        exact Int.le_refl _
      · rw [if_neg e]
        exact (hf.2.1 a b ha hb).2
theorem i0_H : WH A00 B00 := by
  have n1 : A00 19 11 = 1 := by decide +kernel
  have z : ∀ h : Nat, 1 ≤ h → ¬ (h : Int) < A00 19 11 := fun h h1 h2 => by rw [n1] at h2; omega
  have z0 : ∀ h : Nat, (h : Int) < A00 19 11 → h = 0 := fun h h2 => by rw [n1] at h2; omega
  refine ⟨by decide +kernel, by decide +kernel, by decide +kernel, by decide +kernel, by decide +kernel, by decide +kernel, by decide +kernel, by decide +kernel, fun h h1 _ => (show (if h = 0 then (9 : Int) else 0) = 0 from if_neg (by omega)), by decide +kernel, by decide +kernel, fun h h1 h2 => absurd h2 (z h h1), fun h h2 => ?_, fun h h2 => ?_, by decide +kernel, fun h h1 h2 => absurd h2 (z h h1), fun h h1 h2 => absurd h2 (z h h1), fun h h1 h2 => absurd h2 (z h h1), fun h h2 => ?_, by decide +kernel, by decide +kernel⟩
  · rw [z0 h h2]; decide +kernel
  · rw [z0 h h2]; decide +kernel
  · rw [z0 h h2]; exact Or.inl (by decide +kernel)
theorem i0_N : WN A00 A00 B00 := by
  have z : ∀ c : Nat, ¬ (c : Int) < A00 55 7 := fun c hc => by
    have : (c : Int) < 0 := hc
    omega
  have n7 : (A00 55 7).toNat = 0 := by decide +kernel
  refine ⟨by decide +kernel, by decide +kernel, by decide +kernel, by decide +kernel, by decide +kernel, fun k _ => rfl, fun k _ => (show (0 : Int) ≤ 0 ∧ (0 : Int) ≤ 3 by decide), fun k _ => ⟨fun _ => ?_, fun _ => rfl⟩, fun c hc => absurd hc (z c), fun c hc => absurd hc (z c), fun k _ => ?_, fun c hc => absurd hc (z c), fun c hc => absurd hc (z c), fun c i hc => absurd hc (z c), fun h _ _ => ?_, by decide +kernel, fun c hc => absurd hc (z c), fun i j _ hc => absurd hc (z j), fun c hc => absurd hc (z c), by decide +kernel, by decide +kernel, by decide +kernel, by decide +kernel, ?_, fun i _ hc => absurd hc (z i)⟩
  · show (0 : Int) ≤ (k : Int)
    omega
  · rw [n7]; rfl
  · rw [n7]; rfl
  · rw [n7]; rfl
theorem i0_P : WP A00 B00 0 := by
  have e : ∀ p : Nat, p < 60 → A00 32 p = -1 := by decide +kernel
  have e7 : ∀ p : Nat, p < 60 → A00 37 p = -1 := by decide +kernel
  have n : ∀ p : Nat, p < 60 → ¬ A00 32 p ≠ -1 := fun p hp h => h (e p hp)
  have m : ∀ p : Nat, p < 60 → ∀ v : Int, 0 ≤ v → ¬ A00 32 p = v := fun p hp v hv h => by rw [e p hp] at h; omega
  refine ⟨by decide +kernel, by decide +kernel, by decide +kernel, fun p hp _ => e p hp, fun p hp => Or.inl ⟨e p hp, e7 p hp, rfl⟩, fun p hp h => absurd h (n p hp), fun p hp h => absurd h (n p hp), fun p hp h => absurd h (n p hp), fun p hp h => absurd h (n p hp), fun p hp h => absurd h (n p hp), fun p hp h => absurd h (n p hp), fun p hp h => absurd h (n p hp), fun p hp h => absurd h (n p hp), fun p hp h => absurd h (n p hp), fun p hp h => absurd h (n p hp), fun p hp h => absurd h (n p hp), fun p hp h => absurd h (n p hp), fun p hp h => absurd h (m p hp 1 (by omega)), fun p i hp h => absurd h (m p hp 1 (by omega)), fun p hp h => absurd h (n p hp), fun p hp h => absurd h (n p hp), fun p hp h => absurd h (m p hp 2 (by omega)), fun p hp h => ?_, fun p hp h => absurd h (m p hp 1 (by omega)), fun p hp h => absurd h (m p hp 3 (by omega)), fun p hp h => absurd h (m p hp 3 (by omega)), fun p q hp _ h => absurd h (m p hp 3 (by omega))⟩
  exact h.elim (fun h => absurd h (m p hp 0 (by omega))) (fun h => absurd h (m p hp 2 (by omega)))
theorem i0_R : WR A00 A00 B00 (KMX 0 (A00 16 9)) (A00 16 9) := by
  have e9 : A00 16 9 = 0 := by decide +kernel
  have n1 : A00 19 11 = 1 := by decide +kernel
  rw [e9]
  refine ⟨i0_L, i0_H, i0_N, i0_P, ⟨by decide +kernel, by decide +kernel, by decide +kernel, fun t _ => ⟨rfl, rfl, rfl, rfl, rfl⟩, fun t ht => ?_⟩, ⟨by decide +kernel, by decide +kernel⟩, ⟨by decide +kernel, by decide +kernel, by decide +kernel, by decide +kernel, by decide +kernel, by decide +kernel, by decide +kernel, by decide +kernel, by decide +kernel, by decide +kernel, by decide +kernel, by decide +kernel, by decide +kernel, by decide +kernel, by decide +kernel⟩, ⟨fun k i hk => ?_, fun k hk => ?_⟩, ⟨by decide +kernel, by decide +kernel, by decide +kernel, fun x hx => ?_, fun x hx => ?_, fun x i hx => ?_, fun x hx => ?_⟩, ⟨fun h _ => (show (0 : Int) ≤ 0 by decide), by decide +kernel⟩, fun k _ h => ?_⟩
  · have : (t : Int) < 0 := ht
    omega
  · have : 7 * (k : Int) + 7 ≤ 0 := hk
    omega
  · have : 7 * (k : Int) + 7 ≤ 0 := hk
    omega
  · have : (x : Int) < 0 := hx
    omega
  · have : (x : Int) < 0 := hx
    omega
  · have : (x : Int) < 0 := hx
    omega
  · have : (x : Int) < 0 := hx
    omega
  · have : (0 : Int) = 2 := h
    omega
theorem inv0 : Inv 0 A00 B00 := by
  refine ⟨i0_R, fun j _ => rfl, ⟨by decide +kernel, by decide +kernel, by decide +kernel, fun j hj => ?_⟩, Or.inl ⟨by decide +kernel, by decide +kernel⟩, Or.inl ⟨by decide +kernel, by decide +kernel⟩, fun q => ⟨rfl, rfl⟩⟩
  have : (j : Int) < 0 := hj
  omega
end INV0
