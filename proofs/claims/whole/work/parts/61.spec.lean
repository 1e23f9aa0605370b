/-! SUMS AND COUNTS -/
def sm : Nat → (Nat → Int) → Int
  | 0, _ => 0
  | n + 1, f => sm n f + f n
theorem sm_c {n : Nat} {f g : Nat → Int} (h : ∀ i, i < n → f i = g i) : sm n f = sm n g := by
  induction n with
  | zero => rfl
  | succ n ih => simp only [sm]; rw [ih (fun i hi => h i (by omega)), h n (by omega)]
theorem sm_ud {n : Nat} {f : Nat → Int} {j : Nat} {v : Int} (h : j < n) : sm n (ud f j v) = sm n f - f j + v := by
  induction n with
  | zero => omega
  | succ n ih =>
    simp only [sm]
    by_cases hj : j = n
    · subst hj
      rw [ud_s, sm_c (g := f) (fun i hi => ud_n (by omega))]
      omega
    · rw [ih (by omega), ud_n (by omega)]
      omega
theorem sm_0 {n : Nat} {f : Nat → Int} (h : ∀ i, i < n → f i = 0) : sm n f = 0 := by
  induction n with
  | zero => rfl
  | succ n ih => simp only [sm]; rw [ih (fun i hi => h i (by omega)), h n (by omega)]; rfl
theorem sm_le {n : Nat} {f g : Nat → Int} (h : ∀ i, i < n → f i ≤ g i) : sm n f ≤ sm n g := by
  induction n with
  | zero => exact Int.le_refl _
  | succ n ih => simp only [sm]; exact Int.add_le_add (ih (fun i hi => h i (by omega))) (h n (by omega))
theorem sm_nn {n : Nat} {f : Nat → Int} (h : ∀ i, i < n → 0 ≤ f i) : 0 ≤ sm n f := by
  have := sm_le (n := n) (f := fun _ => 0) (g := f) h
  rw [sm_0 (fun _ _ => rfl)] at this
  exact this
theorem sm_one {n j : Nat} {f : Nat → Int} (hj : j < n) (h : ∀ i, i < n → 0 ≤ f i) : f j ≤ sm n f := by
  induction n with
  | zero => omega
  | succ n ih =>
    simp only [sm]
    have h1 := sm_nn (n := n) (f := f) (fun i hi => h i (by omega))
    have h2 := h n (by omega)
    by_cases hn : j = n
    · subst hn; omega
    · have := ih (by omega) (fun i hi => h i (by omega)); omega
theorem bI_nn (p : Prop) [Decidable p] : 0 ≤ bI p ∧ bI p ≤ 1 := by
  unfold bI
  split <;> decide
theorem sm_const (n : Nat) (c : Int) : sm n (fun _ => c) = n * c := by
  induction n with
  | zero => simp [sm]
  | succ n ih => simp only [sm]; rw [ih]; rw [Int.natCast_add, Int.add_mul]; simp
theorem sm_cnt (n : Nat) (p : Nat → Prop) [DecidablePred p] : 0 ≤ sm n (fun i => bI (p i)) ∧ sm n (fun i => bI (p i)) ≤ n := by
  refine ⟨sm_nn (fun i _ => (bI_nn _).1), ?_⟩
  have h := sm_le (n := n) (f := fun i => bI (p i)) (g := fun _ => 1) (fun i _ => (bI_nn _).2)
  rw [sm_const] at h
  omega
/-! THE TEXT'S READING, as it should be: bytes b, L of them; a state: token, its worth, its place, the place behind it, fault, codes -/
abbrev PS : Type := Int × Int × Nat × Nat × Int × List Int
def pL (x : Int) : Bool := decide (97 ≤ x) && decide (x ≤ 122)
def pD (x : Int) : Bool := decide (48 ≤ x) && decide (x ≤ 57)
def pSg (x : Int) : Bool := decide (x = 40) || decide (x = 41) || decide (x = 43) || decide (x = 45) || decide (x = 42) || decide (x = 47) || decide (x = 37) || decide (x = 61) || decide (x = 60) || decide (x = 62)
def adv (P : Nat → Bool) : Nat → Nat → Nat
  | 0, p => p
  | n + 1, p => if P p then adv P n (p + 1) else p
/-- the words, each with its number -/
def pWs : List (List Int) := [[111, 117, 116], [114, 97, 116, 101], [98, 117, 121], [108, 101, 110, 100], [104, 105, 100, 101], [115, 104, 111, 119], [108, 105, 102, 116], [103, 111, 108, 100], [110, 111, 116, 101, 115], [114, 101, 115, 101, 114, 118, 101], [119, 101, 101, 107], [100, 97, 121], [112, 114, 105, 99, 101], [115, 117, 109], [100, 97, 121, 115], [110, 97, 109, 101, 115], [116, 111, 119, 110], [105, 102], [111, 114], [97, 110, 100], [110, 111, 116]]
def wsl (b : Nat → Int) (p q : Nat) : List Int := (List.range (q - p)).map (fun i => b (p + i))
def wfi (x : List Int) : List (List Int) → Int → Int
  | [], _ => -1
  | y :: l, n => if x = y then n else wfi x l (n + 1)
def pWd (b : Nat → Int) (p q : Nat) : Int := wfi (wsl b p q) pWs 0
def pNm (b : Nat → Int) (p q : Nat) : Int := (wsl b p q).foldl (fun v x => 10 * v + x - 48) 0
def tkn (b : Nat → Int) (L p0 : Nat) : Int × Int × Nat × Nat :=
  let p := adv (fun i => decide (b i = 32)) (L - p0) p0
  if L ≤ p then (0, 0, p, p)
  else if pL (b p) then
    let q := adv (fun i => pL (b i)) (L - p) p
    let w := pWd b p q
    if w = -1 then (1, 0, p, q) else if w < 7 then (3, w, p, q) else if w < 17 then (4, w - 7, p, q) else (5 + w - 17, 0, p, q)
  else if pD (b p) then
    let q := adv (fun i => pD (b i)) (L - p) p
    if q - p ≤ 5 then (2, pNm b p q, p, q) else (1, 0, p, q)
  else if pSg (b p) then (b p, 0, p, p + 1) else (1, 0, p, p + 1)
def pnx (b : Nat → Int) (L : Nat) (s : PS) : PS := ((tkn b L s.2.2.2.1).1, (tkn b L s.2.2.2.1).2.1, (tkn b L s.2.2.2.1).2.2.1, (tkn b L s.2.2.2.1).2.2.2, s.2.2.2.2.1, s.2.2.2.2.2)
def pst (s : PS) : PS := (1, s.2.1, s.2.2.1, s.2.2.2.1, if s.2.2.2.2.1 = -1 then (s.2.2.1 : Int) else s.2.2.2.2.1, s.2.2.2.2.2)
def pac (c : Int) (s : PS) : PS := (s.1, s.2.1, s.2.2.1, s.2.2.2.1, s.2.2.2.2.1, s.2.2.2.2.2 ++ [c])
/-- while the token is one of them: what the operator does -/
def plp (nx X : PS → PS) (c : Int → Int) : Nat → PS → PS
  | 0, s => s
  | n + 1, s => if c s.1 = 0 then s else plp nx X c n (pac (c s.1) (X (nx s)))
def cOr (t : Int) : Int := if t = 6 then -13 else 0
def cAnd (t : Int) : Int := if t = 7 then -14 else 0
def cSum (t : Int) : Int := if t = 43 then -18 else if t = 45 then -19 else 0
def cTerm (t : Int) : Int := if t = 42 then -20 else if t = 47 then -21 else if t = 37 then -22 else 0
def cCmp (t : Int) : Int := if t = 61 then -15 else if t = 60 then -16 else if t = 62 then -17 else 0
def pOneF (nx : PS → PS) (dead : Bool) (one ors : PS → PS) (s : PS) : PS :=
  if s.1 = 2 then nx (pac s.2.1 s)
  else if s.1 = 4 then nx (pac (-1 - s.2.1) s)
  else if dead || !(decide (s.1 = 45) || decide (s.1 = 40)) then pst s
  else if s.1 = 45 then pac (-12) (one (nx s))
  else if (ors (nx s)).1 = 41 then nx (ors (nx s)) else pst (ors (nx s))
def pTermF (nx one : PS → PS) (s : PS) : PS := plp nx one cTerm 120 (one s)
def pSumF (nx term : PS → PS) (s : PS) : PS := plp nx term cSum 120 (term s)
def pNotF (nx : PS → PS) (dead : Bool) (not sum : PS → PS) (s : PS) : PS :=
  if s.1 = 8 then (if dead then pst s else pac (-11) (not (nx s)))
  else if cCmp (sum s).1 = 0 then sum s else pac (cCmp (sum s).1) (sum (nx (sum s)))
def pAndF (nx not : PS → PS) (s : PS) : PS := plp nx not cAnd 120 (not s)
def pOrF (nx and : PS → PS) (s : PS) : PS := plp nx and cOr 120 (and s)
/-- with l left to open: ONE, NOT, E -/
def pLv (nx : PS → PS) : Nat → (PS → PS) × (PS → PS) × (PS → PS)
  | 0 => (pOneF nx true id id, pNotF nx true id (pSumF nx (pTermF nx (pOneF nx true id id))), pOrF nx (pAndF nx (pNotF nx true id (pSumF nx (pTermF nx (pOneF nx true id id))))))
  | l + 1 => (pOneF nx false (pLv nx l).1 (pLv nx l).2.2, pNotF nx false (pLv nx l).2.1 (pSumF nx (pTermF nx (pOneF nx false (pLv nx l).1 (pLv nx l).2.2))), pOrF nx (pAndF nx (pNotF nx false (pLv nx l).2.1 (pSumF nx (pTermF nx (pOneF nx false (pLv nx l).1 (pLv nx l).2.2))))))
def p0 (b : Nat → Int) (L : Nat) : PS := pnx b L (0, 0, 0, 0, -1, [])
/-- what was read: the state behind, the key, how many codes the meaning has -/
def pE1 (b : Nat → Int) (L : Nat) : PS := (pLv (pnx b L) 6).2.2 (pnx b L (p0 b L))
def pE2 (b : Nat → Int) (L : Nat) : PS := if (pE1 b L).1 = 5 then (pLv (pnx b L) 6).2.2 (pnx b L (pE1 b L)) else pE1 b L
def pT (b : Nat → Int) (L : Nat) : PS := if (p0 b L).1 = 3 then (if (pE2 b L).1 = 0 then pE2 b L else pst (pE2 b L)) else pst (p0 b L)
/-- the text holds in the class's rows: key, places, codes -/
def pOK (b : Nat → Int) (L : Nat) (key ms sz : Int) (cd : Nat → Int) : Prop := (p0 b L).1 = 3 ∧ (pT b L).2.2.2.2.1 = -1 ∧ key = (p0 b L).2.1 ∧ ms = (pE1 b L).2.2.2.2.2.length ∧ sz = (pT b L).2.2.2.2.2.length ∧ ∀ i, i < (pT b L).2.2.2.2.2.length → cd i = (pT b L).2.2.2.2.2.getD i 0
/-! FAR: the greatest numbers that no road, and no way by a third town, goes below -/
def dC1 (n : Nat) (ra rb rd d : Nat → Int) : Prop := (∀ a, a < 8 → d (8 * a + a) = 0) ∧ (∀ a b, a < 8 → b < 8 → 0 ≤ d (8 * a + b) ∧ d (8 * a + b) ≤ 999999) ∧ (∀ k, k < n → d (8 * (ra k).toNat + (rb k).toNat) ≤ rd k ∧ d (8 * (rb k).toNat + (ra k).toNat) ≤ rd k) ∧ (∀ a b c, a < 8 → b < 8 → c < 8 → d (8 * a + b) ≤ d (8 * a + c) + d (8 * c + b))
def dOK (n : Nat) (ra rb rd d : Nat → Int) : Prop := dC1 n ra rb rd d ∧ ∀ f : Nat → Int, dC1 n ra rb rd f → ∀ a b, a < 8 → b < 8 → f (8 * a + b) ≤ d (8 * a + b)
/-- how many towns can be reached from a -/
def dCn (d : Nat → Int) (a : Nat) : Int := sm 8 (fun b => bI (d (8 * a + b) < 999999))
