/-! THE REFERENCE'S TOKENS -/
/-- a word's number, as the reference writes it -/
def wv (i : Int) : Int := if i = 0 then 11522 else if i = 1 then 355568 else if i = 2 then 2050 else if i = 3 then 240223 else if i = 4 then 164138 else if i = 5 then 380237 else if i = 6 then 242939 else if i = 7 then 149044 else if i = 8 then 7750153 else if i = 9 then 7055522852 else if i = 10 then 456500 else if i = 11 then 2968 else if i = 12 then 8863997 else if i = 13 then 14431 else if i = 14 then 80155 else if i = 15 then 7469488 else if i = 16 then 405230 else if i = 17 then 249 else if i = 18 then 423 else if i = 19 then 1111 else 10631
/-- what a row of letters counts -/
def hsh (b : Nat → Int) (p : Nat) : Nat → Int
  | 0 => 0
  | k + 1 => if k < 7 then 27 * hsh b p k + b (p + k) - 96 else -1
def unh : Nat → Int → List Int
  | 0, _ => []
  | k + 1, v => if v = 0 then [] else unh k (v / 27) ++ [v % 27 + 96]
theorem wsl_snoc {b : Nat → Int} {p k : Nat} : wsl b p (p + (k + 1)) = wsl b p (p + k) ++ [b (p + k)] := by
  unfold wsl
  rw [show p + (k + 1) - p = k + 1 by omega, show p + k - p = k by omega, List.range_succ, List.map_append]
  rfl
theorem hsh_rg (b : Nat → Int) (p : Nat) : ∀ k, k ≤ 7 → (∀ i, i < k → 97 ≤ b (p + i) ∧ b (p + i) ≤ 122) → (k = 0 ∨ 0 < hsh b p k) ∧ 0 ≤ hsh b p k ∧ hsh b p k < 27 ^ k := by
  intro k
  induction k with
  | zero => intro _ _; exact ⟨Or.inl rfl, Int.le_refl _, (by decide : (0 : Int) < 27 ^ 0)⟩
  | succ k ih =>
    intro hk hb
    obtain ⟨i1, i2, i3⟩ := ih (by omega) (fun i hi => hb i (by omega))
    have h := hb k (by omega)
    unfold hsh
    rw [if_pos (by omega), Int.pow_succ]
    refine ⟨Or.inr (by omega), by omega, by omega⟩
theorem unh_hsh (b : Nat → Int) (p : Nat) : ∀ k, k ≤ 7 → (∀ i, i < k → 97 ≤ b (p + i) ∧ b (p + i) ≤ 122) → ∀ n, k ≤ n → unh n (hsh b p k) = wsl b p (p + k) := by
  intro k
  induction k with
  | zero => intro _ _ n _; rw [wsl_nil (by omega)]; cases n with | zero => rfl | succ n => exact if_pos rfl
  | succ k ih =>
    intro hk hb n hn
    obtain ⟨n, rfl⟩ : ∃ m, n = m + 1 := ⟨n - 1, by omega⟩
    have r := hsh_rg b p (k + 1) hk hb
    have h := hb k (by omega)
    rw [wsl_snoc, ← ih (by omega) (fun i hi => hb i (by omega)) n (by omega)]
    rw [unh, if_neg (by omega)]
    have e : hsh b p (k + 1) = 27 * hsh b p k + b (p + k) - 96 := by rw [hsh, if_pos (by omega)]
    rw [e, show (27 * hsh b p k + b (p + k) - 96) / 27 = hsh b p k by omega, show (27 * hsh b p k + b (p + k) - 96) % 27 + 96 = b (p + k) by omega]
theorem hsh_cg {b c : Nat → Int} {p q : Nat} : ∀ k, wsl b p (p + k) = wsl c q (q + k) → hsh b p k = hsh c q k := by
  intro k
  induction k with
  | zero => intro _; rfl
  | succ k ih =>
    intro h
    rw [wsl_snoc, wsl_snoc] at h
    have h2 := List.append_inj' h rfl
    unfold hsh
    rw [ih h2.1, (List.cons.inj h2.2).1]
/-- the words and their numbers -/
theorem wfi_get (x : List Int) : ∀ (l : List (List Int)) (n : Int), 0 ≤ n → (∀ j : Nat, wfi x l n = n + j → l[j]? = some x) ∧ (wfi x l n = -1 → x ∉ l) := by
  intro l
  induction l with
  | nil => intro n hn; exact ⟨fun j h => by unfold wfi at h; omega, fun _ => List.not_mem_nil⟩
  | cons y l ih =>
    intro n hn
    obtain ⟨i1, i2⟩ := ih (n + 1) (by omega)
    have r := wfi_rg x l (n + 1) (by omega)
    by_cases h : x = y
    · subst h
      have e : wfi x (x :: l) n = n := if_pos rfl
      rw [e]
      exact ⟨fun j hj => by obtain rfl : j = 0 := by omega
                            rfl, fun z => by omega⟩
    · have e : wfi x (y :: l) n = wfi x l (n + 1) := if_neg h
      rw [e]
      refine ⟨fun j hj => ?_, fun z w => ?_⟩
      · obtain ⟨j, rfl⟩ : ∃ i, j = i + 1 := ⟨j - 1, by omega⟩
        exact i1 j (by omega)
      · rcases List.mem_cons.mp w with u | u
        · exact h u
        · exact i2 z u
theorem wv_words : ∀ j : Fin 21, unh 8 (wv (j.val : Int)) = (pWs.getD j.val []) := by decide +kernel
theorem wv_hash : ∀ j : Fin 21, hsh (fun i => (pWs.getD j.val []).getD i 0) 0 (pWs.getD j.val []).length = wv (j.val : Int) ∧ (pWs.getD j.val []).length ≤ 7 := by decide +kernel
theorem wv_pos : ∀ j : Fin 21, 0 < wv (j.val : Int) ∧ wv (j.val : Int) < 10460353203 := by decide +kernel
theorem wsl_self (l : List Int) : wsl (fun i => l.getD i 0) 0 (0 + l.length) = l := by
  unfold wsl
  refine List.ext_getElem? fun i => ?_
  rw [List.getElem?_map]
  by_cases hi : i < l.length
  · rw [List.getElem?_range (by omega), List.getElem?_eq_getElem hi]
    simp only [Option.map_some, Nat.zero_add, List.getD_eq_getElem?_getD, List.getElem?_eq_getElem hi, Option.getD_some]
  · rw [List.getElem?_eq_none (l := List.range _) (by rw [List.length_range]; omega), List.getElem?_eq_none (by omega)]
    rfl
/-- the row of letters is the word just where the numbers are the same -/
theorem hsh_ok {b : Nat → Int} {p q : Nat} (hpq : p < q) (hb : ∀ i, p ≤ i → i < q → 97 ≤ b i ∧ b i ≤ 122) : (∀ j : Int, 0 ≤ j → j < 21 → (hsh b p (q - p) = wv j ↔ pWd b p q = j)) ∧ -1 ≤ hsh b p (q - p) ∧ hsh b p (q - p) < 10460353203 := by
  obtain ⟨k, rfl⟩ : ∃ k, q = p + k := ⟨q - p, by omega⟩
  rw [show p + k - p = k by omega]
  have hb2 : ∀ i, i < k → 97 ≤ b (p + i) ∧ b (p + i) ≤ 122 := fun i hi => hb (p + i) (by omega) (by omega)
  obtain ⟨g1, g2⟩ := wfi_get (wsl b p (p + k)) pWs 0 (Int.le_refl _)
  have gr := pWd_rg b p (p + k)
  have inj : ∀ j : Nat, j < 21 → wsl b p (p + k) = pWs.getD j [] → pWd b p (p + k) = j := by
    intro j hj h
    rcases gr with z | z
    · refine absurd ?_ (g2 z)
      rw [h, List.getD_eq_getElem?_getD, List.getElem?_eq_getElem (show j < pWs.length from hj)]
      exact List.getElem_mem _
    · obtain ⟨i, hi⟩ : ∃ i : Nat, pWd b p (p + k) = i := ⟨(pWd b p (p + k)).toNat, by omega⟩
      have e := g1 i (by show pWd b p (p + k) = _; omega)
      have hne : ∀ a c : Fin 21, pWs.getD a.val [] = pWs.getD c.val [] → a = c := by decide +kernel
      have e2 : pWs.getD i [] = wsl b p (p + k) := by rw [List.getD_eq_getElem?_getD, e]; rfl
      have := hne ⟨i, by omega⟩ ⟨j, hj⟩ (by show pWs.getD i [] = pWs.getD j []; rw [e2, h])
      have : i = j := congrArg Fin.val this
      omega
  have len : ∀ j : Nat, j < 21 → wsl b p (p + k) = pWs.getD j [] → hsh b p k = wv j := by
    intro j hj h
    have hl : (wsl b p (p + k)).length = k := by unfold wsl; rw [List.length_map, List.length_range]; omega
    have hw := wv_hash ⟨j, hj⟩
    rw [← hw.1]
    have e : (pWs.getD j []).length = k := by rw [← h, hl]
    show hsh b p k = hsh _ 0 (pWs.getD j []).length
    rw [e]
    refine hsh_cg k ?_
    rw [h]
    have := wsl_self (pWs.getD j [])
    rw [e] at this
    exact this.symm
  by_cases h7 : k ≤ 7
  · have r := hsh_rg b p k h7 hb2
    have hp : (27 : Int) ^ k ≤ 10460353203 := by
      rcases (show k = 0 ∨ k = 1 ∨ k = 2 ∨ k = 3 ∨ k = 4 ∨ k = 5 ∨ k = 6 ∨ k = 7 by omega) with e | e | e | e | e | e | e | e <;> rw [e] <;> decide
    refine ⟨fun j h0 h21 => ⟨fun h => ?_, fun h => ?_⟩, by omega, by omega⟩
    · have u := unh_hsh b p k h7 hb2 8 (by omega)
      obtain ⟨i, hi⟩ : ∃ i : Nat, j = i := ⟨j.toNat, by omega⟩
      rw [h, hi, wv_words ⟨i, by omega⟩] at u
      rw [hi]
      exact inj i (by omega) u.symm
    · obtain ⟨i, hi⟩ : ∃ i : Nat, j = i := ⟨j.toNat, by omega⟩
      have e := g1 i (by show pWd b p (p + k) = _; omega)
      rw [hi]
      exact len i (by omega) (by rw [List.getD_eq_getElem?_getD, e]; rfl)
  · obtain ⟨m, rfl⟩ : ∃ m, k = m + 1 := ⟨k - 1, by omega⟩
    have e : hsh b p (m + 1) = -1 := by rw [hsh, if_neg (by omega)]
    rw [e]
    refine ⟨fun j h0 h21 => ⟨fun h => ?_, fun h => ?_⟩, by omega, by omega⟩
    · obtain ⟨i, hi⟩ : ∃ i : Nat, j = i := ⟨j.toNat, by omega⟩
      have := (wv_pos ⟨i, by omega⟩).1
      rw [hi] at h
      exfalso
      have h : (-1 : Int) = wv (i : Int) := h
      have this : 0 < wv (i : Int) := this
      omega
    · obtain ⟨i, hi⟩ : ∃ i : Nat, j = i := ⟨j.toNat, by omega⟩
      have e2 := g1 i (by show pWd b p (p + (m + 1)) = _; omega)
      have h := len i (by omega) (by rw [List.getD_eq_getElem?_getD, e2]; rfl)
      rw [hi, ← h, e]
def tkw (t v : Int) : Int := if t = 3 then v else if t = 4 then v + 7 else if 5 ≤ t ∧ t ≤ 8 then t + 12 else -1
/-- the reference's token is the state's -/
def tkB (B : hI) (s : PS) : Prop := (s.1 ≠ 1 → B 304 15 = s.2.2.2.1) ∧ (0 ≤ B 304 12 ∧ B 304 12 ≤ 4) ∧ (-9223372036854775808 ≤ B 399 304 ∧ B 399 304 < 9223372036854775808) ∧ (s.1 = 0 ↔ B 304 12 = 0) ∧ (s.1 = 2 ↔ B 304 12 = 2) ∧ (s.1 = 2 → B 399 304 = s.2.1) ∧ (∀ j : Int, 0 ≤ j → j < 21 → ((B 304 12 = 1 ∧ B 399 304 = wv j) ↔ tkw s.1 s.2.1 = j)) ∧ (∀ c : Int, 37 ≤ c → c ≤ 62 → ((B 304 12 = 3 ∧ B 399 304 = c) ↔ s.1 = c)) ∧ (B 304 12 = 1 ↔ (0 ≤ tkw s.1 s.2.1 ∨ (s.1 = 1 ∧ B 304 12 = 1)))
def tRel (B : hI) (b : Nat → Int) (L : Nat) (s : PS) (o : Int) : Prop := B 304 11 = L ∧ (∀ i, i < L → B 312 i = b i) ∧ B 304 16 = o ∧ (s.2.2.2.2.1 = -1 → B 304 17 = 0 ∧ B 304 13 = s.2.2.1 ∧ tkB B s) ∧ (s.2.2.2.2.1 ≠ -1 → B 304 17 = 1 ∧ B 304 18 = s.2.2.2.2.1)
def frM (B B' : hI) : Prop := (∀ k : Nat, k ≠ 304 → k ≠ 399 → B' k = B k) ∧ ∀ j : Nat, ¬ (j = 12 ∨ j = 13 ∨ (15 ≤ j ∧ j ≤ 18)) → B' 304 j = B 304 j
theorem frM.rf (B : hI) : frM B B := ⟨fun _ _ _ => rfl, fun _ _ => rfl⟩
theorem frM.tr {A A1 A2 : hI} (h : frM A A1) (g : frM A1 A2) : frM A A2 := ⟨fun k h1 h2 => (g.1 k h1 h2).trans (h.1 k h1 h2), fun j hj => (g.2 j hj).trans (h.2 j hj)⟩
