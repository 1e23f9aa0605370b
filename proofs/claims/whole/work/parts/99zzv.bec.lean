/-! ONE WORLD BECOMES ANOTHER -/
section BEC
variable {K D : Int} {A0 B0 A B : hI} (F : Nat)
theorem WR.sz {w w' rc S S' : hI} {K D : Int} (hK : K < 2147483648) (e : ∀ k j, inSz k j → w' k j = w k j) (eS : ∀ c : Nat, (400 ≤ c ∧ c < 490) ∨ (600 ≤ c ∧ c < 724) → S' c = S c) (eG : S' 350 = S 350) (h : WR w rc S K D) : WR w' rc S' K D := h.nu (ν := id) (fun _ _ _ => rfl) (fun _ => rfl) hK e (fun _ _ _ _ => rfl) (fun c j hc => by rw [eS c hc]; rfl) (fun q => by rw [eG])
/-- the cells as the machine's ints have them -/
def nv (x : Int) : Int := (iI x).toInt
theorem nv_id {x : Int} (h1 : -2147483648 ≤ x) (h2 : x < 2147483648) : nv x = x := iI_toInt h1 h2
theorem iI_nv (x : Int) : iI (nv x) = iI x := (iI_of _).symm
theorem nv_rg (x : Int) : -2147483648 ≤ nv x ∧ nv x < 2147483648 := i32rg _
def nrA (A : hI) : hI := fun k j => nv (A k j)
def nrB (B : hI) : hI := fun k j => if 400 ≤ k ∧ k < 724 then nv (B k j) else B k j
theorem mk_nrA (A Bx : hI) : mk (nrA A) Bx = mk A Bx := by
  refine Prod.ext (funext fun k => funext fun j => ?_) rfl
  by_cases h : k < 304
  · rw [rA h, rA h]; exact iI_nv _
  · show (if k < 304 then _ else _) = (if k < 304 then _ else _)
    rw [if_neg h, if_neg h]
theorem mk_nrB (Ax B : hI) : mk Ax (nrB B) = mk Ax B := by
  refine Prod.ext (funext fun k => funext fun j => ?_) (funext fun k => ?_)
  · have hd := dec_rg j
    have o : ∀ k j, ¬ (400 ≤ k ∧ k < 724) → nrB B k j = B k j := fun k j h => if_neg h
    have u : ∀ k j, iI (nrB B k j) = iI (B k j) := fun k j => by
      unfold nrB
      split
      · exact iI_nv _
      · rfl
    show (if k < 304 then _ else if k = 305 then _ else if k = 313 then _ else if k = 314 then _ else if k < 318 then _ else _) = (if k < 304 then _ else if k = 305 then _ else if k = 313 then _ else if k = 314 then _ else if k < 318 then _ else _)
    (repeat' split) <;> first | rfl | exact u _ _
  · show Int64.ofInt (nrB B 399 k) = Int64.ofInt (B 399 k)
    rw [show nrB B 399 k = B 399 k from if_neg (by omega)]
theorem WR.nrm {w rc S : hI} {K D : Int} (hK : K < 2147483648) (h : WR w rc S K D) : WR (nrA w) (nrA rc) (nrB S) K D := h.nu (ν := nv) (fun _ h1 h2 => nv_id h1 h2) iI_nv hK (fun _ _ _ => rfl) (fun _ _ _ _ => rfl) (fun c j hc => if_pos (by omega)) (fun q => if_neg (by omega))
/-- memory tells the cells, where they are the machine's ints -/
theorem mk_inj {A A' Bx : hI} (h : mk A Bx = mk A' Bx) (n : ∀ k j, -2147483648 ≤ A k j ∧ A k j < 2147483648) (n' : ∀ k j, -2147483648 ≤ A' k j ∧ A' k j < 2147483648) {k : Nat} (hk : k < 304) : A k = A' k := by
  funext j
  have e := congrFun (congrFun (congrArg Prod.fst h) k) j
  rw [rA hk, rA hk] at e
  have a := n k j
  have b := n' k j
  rw [← iI_toInt a.1 a.2, ← iI_toInt b.1 b.2, e]
def bcL (A : hI) (s t : Nat) (l : List Nat) : hI := fun k => if 16 + t ≤ k ∧ k < 62 + t ∧ k - t ∈ l then (fun j => if inSz (k - t) j then A (k - t + s) j else A k j) else A k
def bec (A : hI) (s t : Nat) : hI := fun k => if 16 + t ≤ k ∧ k < 62 + t then (fun j => if inSz (k - t) j then A (k - t + s) j else A k j) else A k
theorem bec_i (A : hI) {s t k j : Nat} (h : inSz k j) : bec A s t (k + t) j = A (k + s) j := by
  unfold bec
  rw [if_pos (show 16 + t ≤ k + t ∧ k + t < 62 + t by unfold inSz at h; omega), show k + t - t = k by omega, if_pos h]
theorem bec_o {A : hI} {s t k : Nat} (h : ¬ (16 + t ≤ k ∧ k < 62 + t)) : bec A s t k = A k := if_neg h
theorem bcL_nil (A : hI) (s t : Nat) : bcL A s t [] = A := funext fun k => if_neg (fun h => List.not_mem_nil h.2.2)
theorem bcL_all (A : hI) (s t : Nat) {l : List Nat} (h : ∀ c, c < 62 → 16 ≤ c → c ∈ l ∨ c = 45 ∨ c = 52 ∨ c = 54) : bcL A s t l = bec A s t := by
  funext k
  unfold bcL bec
  by_cases c : 16 + t ≤ k ∧ k < 62 + t
  · rw [if_pos c]
    by_cases m : k - t ∈ l
    · rw [if_pos ⟨c.1, c.2, m⟩]
    · rw [if_neg (fun z => m z.2.2)]
      have := (h (k - t) (by omega) (by omega)).resolve_left m
      exact funext fun j => (if_neg (by unfold inSz; omega)).symm
  · rw [if_neg (fun z => c ⟨z.1, z.2.1⟩), if_neg c]
theorem bcL_src {A : hI} {s t : Nat} {l : List Nat} (hst : s + 46 ≤ t ∨ t + 46 ≤ s) {c : Nat} (hc : 16 ≤ c ∧ c < 62) : bcL A s t l (c + s) = A (c + s) := if_neg (by omega)
theorem bcL_dst {A : hI} {s t : Nat} {l : List Nat} {c : Nat} (hn : c ∉ l) : bcL A s t l (c + t) = A (c + t) := if_neg (fun h => by rw [show c + t - t = c by omega] at h; exact hn h.2.2)
theorem bcL_cons {A X : hI} {s t : Nat} {l : List Nat} {c : Nat} (hc : 16 ≤ c ∧ c < 62) (h1 : ∀ k, k ≠ c + t → X k = bcL A s t l k) (h2 : ∀ j, X (c + t) j = if inSz c j then A (c + s) j else A (c + t) j) : X = bcL A s t (c :: l) := by
  funext k
  by_cases e : k = c + t
  · subst e
    funext j
    rw [h2 j]
    unfold bcL
    rw [if_pos (show 16 + t ≤ c + t ∧ c + t < 62 + t ∧ c + t - t ∈ c :: l from ⟨by omega, by omega, by rw [show c + t - t = c by omega]; exact List.mem_cons_self⟩), show c + t - t = c by omega]
  · rw [h1 k e]
    unfold bcL
    by_cases m : 16 + t ≤ k ∧ k < 62 + t ∧ k - t ∈ l
    · rw [if_pos m, if_pos ⟨m.1, m.2.1, List.mem_cons_of_mem _ m.2.2⟩]
    · rw [if_neg m, if_neg (fun z => (List.mem_cons.mp z.2.2).elim (fun y => e (by omega)) (fun y => m ⟨z.1, z.2.1, y⟩))]
theorem bc_row {A : hI} {s t : Nat} {l : List Nat} {c n a b : Nat} (ha : a = c + s) (hb : b = c + t) (hst : s + 46 ≤ t ∨ t + 46 ≤ s) (hc : 16 ≤ c ∧ c < 62) (hn : c ∉ l) (hz : ∀ j, inSz c j ↔ j < n) : rwA (bcL A s t l) b (fun j => if j < n then bcL A s t l a j else bcL A s t l b j) = bcL A s t (c :: l) := by
  subst ha hb
  refine bcL_cons hc (fun k hk => rwA_n hk) (fun j => ?_)
  rw [rwA_s, bcL_src hst hc, bcL_dst hn]
  by_cases d : j < n
  · rw [if_pos d, if_pos ((hz j).mpr d)]
  · rw [if_neg d, if_neg (fun z => d ((hz j).mp z))]
def uAs (X : hI) (c : Nat) (f : Nat → Int) : List Nat → hI
  | [] => X
  | j :: js => uA (uAs X c f js) c j (f j)
theorem uAs_n (X : hI) (c : Nat) (f : Nat → Int) : ∀ (js : List Nat) {k : Nat}, k ≠ c → uAs X c f js k = X k
  | [], _, _ => rfl
  | j :: js, k, h => by
    show uA (uAs X c f js) c j (f j) k = X k
    rw [uA_n h]; exact uAs_n X c f js h
theorem uAs_s (X : hI) (c : Nat) (f : Nat → Int) : ∀ (js : List Nat) (q : Nat), uAs X c f js c q = if q ∈ js then f q else X c q
  | [], q => (if_neg List.not_mem_nil).symm
  | j :: js, q => by
    show uA (uAs X c f js) c j (f j) c q = _
    rw [uA_s]
    by_cases e : q = j
    · subst e; rw [ud_s, if_pos List.mem_cons_self]
    · rw [ud_n e, uAs_s X c f js q]
      by_cases m : q ∈ js
      · rw [if_pos m, if_pos (List.mem_cons_of_mem _ m)]
      · rw [if_neg m, if_neg (fun z => (List.mem_cons.mp z).elim e m)]
theorem bc_sc {A : hI} {s t : Nat} {l : List Nat} {c a b : Nat} {js : List Nat} (ha : a = c + s) (hb : b = c + t) (hst : s + 46 ≤ t ∨ t + 46 ≤ s) (hc : 16 ≤ c ∧ c < 62) (hn : c ∉ l) (hz : ∀ j, inSz c j ↔ j ∈ js) : uAs (bcL A s t l) b (bcL A s t l a) js = bcL A s t (c :: l) := by
  subst ha hb
  refine bcL_cons hc (fun k hk => uAs_n _ _ _ _ hk) (fun j => ?_)
  rw [uAs_s, bcL_src hst hc, bcL_dst hn]
  by_cases d : j ∈ js
  · rw [if_pos d, if_pos ((hz j).mpr d)]
  · rw [if_neg d, if_neg (fun z => d ((hz j).mp z))]
theorem cpa (X Bx : hI) {a b n : Nat} (ha : a < 304) (hb : b < 304) (hn : Int32.ofNat n = iI (n : Int)) (hn2 : n ≤ 2000) : ((f_Math_min_II F (Int32.ofNat n) (Int32.ofNat n) (mk X Bx)).bind fun q1 => (if (0 : Int32) < 0 ∨ (0 : Int32) < 0 ∨ q1.1 < 0 ∨ n < (0 : Int32).toNatClampNeg + q1.1.toNatClampNeg ∨ n < (0 : Int32).toNatClampNeg + q1.1.toNatClampNeg then none else some ((), ((m_row q1.2.1 b (va_cpy (q1.2.1 a) (q1.2.1 b) (0 : Int32).toNatClampNeg (0 : Int32).toNatClampNeg q1.1.toNatClampNeg)), q1.2.2)))) = some ((), mk (rwA X b (fun j => if j < n then X a j else X b j)) Bx) := by
  rw [hn]
  refine obd (ex_min F (n : Int) (n : Int) (mk X Bx) (by omega) (by omega) (by omega) (by omega)) ?_
  rw [Int.min_self]
  have z0 : (0 : Int32).toNatClampNeg = 0 := rfl
  have zn : (iI (n : Int)).toNatClampNeg = n := by rw [iI_cl (by omega) (by omega), Int.toNat_natCast]
  show (if (0 : Int32) < 0 ∨ (0 : Int32) < 0 ∨ iI (n : Int) < 0 ∨ n < (0 : Int32).toNatClampNeg + (iI (n : Int)).toNatClampNeg ∨ n < (0 : Int32).toNatClampNeg + (iI (n : Int)).toNatClampNeg then none else some ((), ((m_row (mk X Bx).1 b (va_cpy ((mk X Bx).1 a) ((mk X Bx).1 b) (0 : Int32).toNatClampNeg (0 : Int32).toNatClampNeg (iI (n : Int)).toNatClampNeg)), (mk X Bx).2))) = _
  rw [z0, zn]
  refine (if_neg ?_).trans ?_
  · rintro (z | z | z | z | z)
    · exact absurd z (by decide)
    · exact absurd z (by decide)
    · have z : iI (n : Int) < iI 0 := z
      rw [iI_lt (by omega) (by omega) (by omega) (by omega)] at z
      omega
    · omega
    · omega
  · refine congrArg some (Prod.ext rfl ?_)
    show (m_row (mk X Bx).1 b _, (mk X Bx).2) = _
    rw [mrow (A := X) (B := Bx) (c := b) hb (g := fun j => if j < n then X a j else X b j) (fun j => ?_)]
    · rfl
    · unfold va_cpy
      by_cases c : j < n
      · rw [if_pos ⟨Nat.zero_le _, by omega⟩, if_pos c, Nat.sub_zero, Nat.zero_add, rA ha]
      · rw [if_neg (fun z => c (by omega)), if_neg c, rA hb]
end BEC
