/-! THE LAND AS THE CONSTRUCTORS LEAVE IT -/
section INIT
def wd0 (k j : Nat) : Int := if k = 16 then (if j = 10 then 5 else if j = 13 then -1 else 0) else if k = 17 then (if j = 1 then 1 else 0) else if k = 18 then (if j < 64 then (if j / 8 = j % 8 then 0 else -1) else 0) else if k = 19 then (if j = 11 then 1 else 0) else if k = 20 then (if j = 0 then 2 else 0) else if k = 24 then (if j = 0 then -1 else 0) else if k = 27 then (if j = 0 then -1 else 0) else if k = 32 then (if j < 60 then -1 else 0) else if k = 37 then (if j < 60 then -1 else 0) else if k = 53 then (if j < 104 then -1 else 0) else 0
def A00 : hI := fun k j => if k < 16 then (if k = 0 then (if j = 10 then -1 else 0) else 0) else if k < 62 then wd0 k j else if k < 108 then wd0 (k - 46) j else if k < 120 then 0 else if k < 304 then wd0 (16 + (k - 120) % 46) j else 0
def B00 : hI := fun k j => if k = 400 then (if j = 1 then 1 else if j = 2 then 1 else if j = 9 then -1 else if j = 10 then 5 else 0) else if k = 404 then (if j < 64 then (if j / 8 = j % 8 then 0 else 999999) else 0) else if k = 410 then (if j = 0 then 2 else 0) else if k = 413 then (if j = 0 then 1 else 0) else if k = 415 then (if j = 0 then -1 else 0) else if k = 416 then (if j = 0 then 9 else 0) else if k = 475 then (if j < 104 then -1 else 0) else 0
theorem wd0_t (k : Nat) {j : Nat} (h : 104 ≤ j) : wd0 k j = 0 := by
  unfold wd0
  repeat' split
  all_goals first | rfl | omega
theorem A00_t (k : Nat) {j : Nat} (h : 104 ≤ j) : A00 k j = 0 := by
  unfold A00
  repeat' split
  all_goals first | exact wd0_t _ h | omega
theorem B00_t {k : Nat} (j : Nat) (h : k < 400 ∨ 476 ≤ k) : B00 k j = 0 := by
  unfold B00
  repeat' split
  all_goals first | rfl | omega
def cv (x : Nat) : Int32 := (UInt32.ofNat x).toInt32
def allN (f : Nat → Int32) : Nat → List Nat → Nat → Bool
  | 0, _, _ => true
  | n + 1, [], j => decide (f j = 0) && allN f n [] (j + 1)
  | n + 1, x :: xs, j => decide (cv x = f j) && allN f n xs (j + 1)
theorem allN_of (f : Nat → Int32) : ∀ (n : Nat) (l : List Nat) (j : Nat), allN f n l j = true → ∀ i, i < n → cv (l.getD i 0) = f (j + i) := by
  intro n
  induction n with
  | zero => intro l j _ i hi; omega
  | succ n ih =>
    intro l j h i hi
    cases l with
    | nil =>
      simp only [allN, Bool.and_eq_true, decide_eq_true_eq] at h
      cases i with
      | zero => rw [Nat.add_zero, h.1]; rfl
      | succ i =>
        have z := ih [] (j + 1) h.2 i (by omega)
        rw [show j + (i + 1) = j + 1 + i by omega, ← z]
        rfl
    | cons x xs =>
      simp only [allN, Bool.and_eq_true, decide_eq_true_eq] at h
      cases i with
      | zero => rw [Nat.add_zero, ← h.1]; rfl
      | succ i =>
        have z := ih xs (j + 1) h.2 i (by omega)
        rw [show j + (i + 1) = j + 1 + i by omega, ← z]
        rfl
def nrow (k : Nat) : Nat := if k = 305 then 7544 else 104
/-- the rows are so, one by one -/
def allR (M : Nat → Nat → Int32) : List (List Nat) → Nat → Bool
  | [], _ => true
  | l :: ls, k => (Nat.ble l.length (nrow k) && allN (M k) (nrow k) l 0) && allR M ls (k + 1)
theorem allR_of (M : Nat → Nat → Int32) : ∀ (ls : List (List Nat)) (k : Nat), allR M ls k = true → ∀ i, i < ls.length → (ls.getD i []).length ≤ nrow (k + i) ∧ ∀ j, j < nrow (k + i) → cv ((ls.getD i []).getD j 0) = M (k + i) j := by
  intro ls
  induction ls with
  | nil => intro k _ i hi; exact absurd hi (Nat.not_lt_zero _)
  | cons l ls ih =>
    intro k h i hi
    simp only [allR, Bool.and_eq_true] at h
    obtain ⟨⟨h1, h2⟩, h3⟩ := h
    cases i with
    | zero =>
      refine ⟨Nat.le_of_ble_eq_true h1, fun j hj => ?_⟩
      have z := allN_of _ _ _ _ h2 j hj
      rw [Nat.zero_add] at z
      exact z
    | succ i =>
      have z := ih (k + 1) h3 i (by simpa using hi)
      rw [show k + (i + 1) = k + 1 + i by omega]
      exact z
theorem gd_n {α : Type} (l : List α) {i : Nat} (d : α) (h : l.length ≤ i) : l.getD i d = d := by
  rw [List.getD_eq_getElem?_getD, List.getElem?_eq_none h]
  rfl
theorem c_mem (ls : List (List Nat)) (hl : ls.length = 318) (h : allR (mk A00 B00).1 ls 0 = true) : ((c_M ls, fun _ => 0) : mM) = mk A00 B00 := by
  refine Prod.ext (funext fun k => funext fun j => ?_) (funext fun k => ?_)
  · show cv ((ls.getD k []).getD j 0) = (mk A00 B00).1 k j
    by_cases c : k < 318
    · obtain ⟨z1, z2⟩ := allR_of _ _ _ h k (by omega)
      rw [Nat.zero_add] at z1 z2
      by_cases c2 : j < nrow k
      · exact z2 j c2
      · rw [gd_n _ _ (by omega)]
        show (0 : Int32) = _
        have hj : 104 ≤ j := by unfold nrow at c2; split at c2 <;> omega
        by_cases e : k < 304
        · rw [rA e, A00_t k hj]; rfl
        · by_cases e5 : k = 305
          · subst e5
            have hj5 : 7544 ≤ j := by unfold nrow at c2; rw [if_pos rfl] at c2; omega
            rw [rS, B00_t]
            · rfl
            · unfold dec
              rw [if_neg (by omega), if_neg (by omega), if_neg (by omega), if_neg (by omega), if_neg (by omega), if_neg (by omega), if_neg (by omega), if_neg (by omega), if_neg (by omega), if_neg (by omega), if_neg (by omega)]
              by_cases d1 : j < 9032
              · rw [if_pos d1]
                exact Or.inr (show 476 ≤ 600 + (j - 7544) % 124 by omega)
              · rw [if_neg d1]
                by_cases d2 : j < 9732
                · rw [if_pos d2]
                  exact Or.inr (show 476 ≤ 480 + (j - 9032) % 7 by omega)
                · rw [if_neg d2]
                  exact Or.inr (show 476 ≤ 498 by omega)
          · have hd := dec_rg j
            show (0 : Int32) = (if k < 304 then _ else if k = 305 then _ else if k = 313 then iI (B00 (1000 + (dec j).1) (dec j).2) else if k = 314 then iI (B00 (2000 + (dec j).1) (dec j).2) else if k < 318 then iI (B00 k j) else iI (B00 (10000 + k) j))
            rw [if_neg e, if_neg e5]
            repeat' split
            all_goals (rw [B00_t _ (by omega)]; rfl)
    · rw [show ls.getD k [] = [] from gd_n _ _ (by omega)]
      show (0 : Int32) = (if k < 304 then _ else if k = 305 then _ else if k = 313 then _ else if k = 314 then _ else if k < 318 then _ else iI (B00 (10000 + k) j))
      rw [if_neg (by omega), if_neg (by omega), if_neg (by omega), if_neg (by omega), if_neg c, B00_t _ (by omega)]
      rfl
  · show (0 : Int64) = Int64.ofInt (B00 399 k)
    rw [B00_t _ (by omega)]
    rfl
end INIT
