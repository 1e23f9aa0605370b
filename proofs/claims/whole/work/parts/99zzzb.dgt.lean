/-! A PLAN'S ROWS AND THEIR DIGITS -/
section DGT
def dgt (W n k : Nat) : Nat := n / 4 ^ (W - 1 - k) % 4
def ntzN (n : Nat) : Nat := if n % 2 = 1 then 0 else if n % 4 = 2 then 1 else if n % 8 = 4 then 2 else if n % 16 = 8 then 3 else if n % 32 = 16 then 4 else if n % 64 = 32 then 5 else if n % 128 = 64 then 6 else 7
def fstN (W n : Nat) : Nat := if n = 0 then 0 else W - 1 - ntzN n / 2
theorem ntz_m (F : Nat) (v : Int32) (m : mM) : f_Integer_numberOfTrailingZeros F v m = (f_Integer_numberOfTrailingZeros 0 v (fun _ _ => 0, fun _ => 0)).map (fun q => (q.1, m)) := by
  unfold f_Integer_numberOfTrailingZeros f_Integer_numberOfTrailingZeros_34 f_Integer_numberOfTrailingZeros_49 f_Integer_numberOfTrailingZeros_62 f_Integer_numberOfTrailingZeros_74
  repeat' split
  all_goals rfl
set_option maxRecDepth 100000 in
theorem ntz_ok : ∀ n : Nat, n < 256 → n ≠ 0 → (f_Integer_numberOfTrailingZeros 0 (iI (n : Int)) (fun _ _ => 0, fun _ => 0)).map (fun q => q.1) = some (iI (ntzN n : Int)) := by decide +kernel
theorem ex_ntz (F : Nat) {n : Nat} (h : n < 256) (h0 : n ≠ 0) (m : mM) : f_Integer_numberOfTrailingZeros F (iI (n : Int)) m = some (iI (ntzN n : Int), m) := by
  have e := ntz_ok n h h0
  rw [ntz_m]
  revert e
  cases f_Integer_numberOfTrailingZeros 0 (iI (n : Int)) (fun _ _ => 0, fun _ => 0) with
  | none => intro e; cases e
  | some q =>
    intro e
    have e2 : q.1 = _ := Option.some.inj e
    show some (q.1, m) = _
    rw [e2]
set_option maxRecDepth 100000 in
theorem dgt_ok : ∀ W : Nat, W < 5 → ∀ n : Nat, n < 256 → ∀ k : Nat, k < W → ((iI (n : Int) >>> (((2 : Int32) * ((iI (W : Int) - 1) - iI (k : Int))) &&& 31)) &&& 3) = iI (dgt W n k : Int) := by decide +kernel
theorem tot_ok : ∀ W : Nat, W < 5 → 1 ≤ W → ((1 : Int32) <<< (((2 : Int32) * iI (W : Int)) &&& 31)) = iI ((4 ^ W : Nat) : Int) := by decide +kernel
set_option maxRecDepth 100000 in
theorem fst_ok1 : ∀ W : Nat, W < 5 → ∀ n : Nat, n < 256 → (n < 4 ^ W → n ≠ 0 → fstN W n < W) := by decide +kernel
set_option maxRecDepth 100000 in
theorem fst_ok2 : ∀ W : Nat, W < 5 → ∀ n : Nat, n < 256 → (n < 4 ^ W → n ≠ 0 → (iI (W : Int) - 1) - iI (ntzN n : Int) / 2 = iI (fstN W n : Int)) := by decide +kernel
set_option maxRecDepth 100000 in
theorem fst_ok3a : ∀ W : Nat, W < 5 → ∀ n : Nat, n < 256 → ∀ k : Nat, k < 4 → (if k < fstN W n then (n = 0 ∨ dgt W n k = dgt W (n - 1) k) else True) := by decide +kernel
theorem fst_ok3 {W n k : Nat} (hW : W < 5) (hn : n < 256) (hk : k < 4) (h0 : n ≠ 0) (h : k < fstN W n) : dgt W n k = dgt W (n - 1) k := by
  have e := fst_ok3a W hW n hn k hk
  rw [if_pos h] at e
  exact e.resolve_left h0
theorem dgt_lt (W n k : Nat) : dgt W n k < 4 := Nat.mod_lt _ (by omega)
end DGT
