/-! WHAT CLAIMS GET: the least shares that stay -/
section CLM
variable {K D : Int} {A0 B0 A B : hI}
def pay (s l a : Int) : Int := if l < a then s * l / a else s
theorem pay_rg {s l a : Int} (hs : 0 ≤ s) (hl : 0 ≤ l) : 0 ≤ pay s l a ∧ pay s l a ≤ s := by
  unfold pay
  split
  · rename_i h
    refine ⟨Int.ediv_nonneg (Int.mul_nonneg hs hl) (by omega), ?_⟩
    refine Int.ediv_le_of_le_mul (by omega) ?_
    exact Int.mul_le_mul_of_nonneg_left (by omega) hs
  · exact ⟨hs, Int.le_refl _⟩
theorem pay_mono {s l l' a : Int} (hs : 0 ≤ s) (hl : 0 ≤ l) (h : l ≤ l') : pay s l a ≤ pay s l' a := by
  by_cases c : l' < a
  · unfold pay
    rw [if_pos c, if_pos (by omega)]
    exact Int.ediv_le_ediv (by omega) (Int.mul_le_mul_of_nonneg_left h hs)
  · rw [show pay s l' a = s from if_neg c]
    exact (pay_rg hs hl).2
abbrev clm (A : hI) (p : Nat) : Prop := A 32 p ≠ -1 ∧ A 27 (A 34 p).toNat ≠ -1
def wlB (A : hI) (h : Int) : Nat → Int := fun p => if A 32 p ≠ -1 ∧ A 27 (A 34 p).toNat = -1 ∧ A 35 p = h then A 33 p else 0
def wlC (A : hI) (x : Nat → Int) (h : Int) : Nat → Int := fun p => if clm A p ∧ A 35 p = h then x p else 0
def wl (A : hI) (x : Nat → Int) (h : Int) : Int := A 22 h.toNat + 10 * A 61 h.toNat + sm 60 (wlB A h) + sm 60 (wlC A x h)
def dpT (A : hI) (d : Int) : Nat → Int := fun p => if clm A p ∧ A 32 p = 2 ∧ A 34 p = d then A 33 p else 0
def otT (A : hI) (d : Int) : Nat → Int := fun p => if clm A p ∧ A 32 p ≠ 2 ∧ A 34 p = d then A 33 p else 0
def dpS (A : hI) (d : Int) : Int := sm 60 (dpT A d)
def otS (A : hI) (d : Int) : Int := sm 60 (otT A d)
def shr (A : hI) (x : Nat → Int) (p : Nat) : Int := if A 32 p = 2 then pay (A 33 p) (wl A x (A 34 p)) (dpS A (A 34 p)) else if wl A x (A 34 p) < dpS A (A 34 p) then 0 else pay (A 33 p) (wl A x (A 34 p) - dpS A (A 34 p)) (otS A (A 34 p))
def xrg (A : hI) (x : Nat → Int) : Prop := ∀ p, p < 60 → (clm A p → 0 ≤ x p ∧ x p ≤ A 33 p) ∧ (¬ clm A p → x p = 0)
def isF (A : hI) (x : Nat → Int) : Prop := ∀ p, p < 60 → clm A p → shr A x p = x p
def pre (A : hI) (x : Nat → Int) : Prop := ∀ p, p < 60 → clm A p → x p ≤ shr A x p
def lef (A : hI) (x : Nat → Int) : Prop := ∀ y, xrg A y → isF A y → ∀ p, p < 60 → x p ≤ y p
def isMu (A : hI) (x : Nat → Int) : Prop := xrg A x ∧ isF A x ∧ lef A x
theorem isMu.one {x y : Nat → Int} (h : isMu A x) (g : isMu A y) {p : Nat} (hp : p < 60) : x p = y p := by
  have a := h.2.2 y g.1 g.2.1 p hp
  have b := g.2.2 x h.1 h.2.1 p hp
  omega
theorem sm_60le {f : Nat → Int} {c : Int} (h : ∀ i, i < 60 → 0 ≤ f i ∧ f i ≤ c) : 0 ≤ sm 60 f ∧ sm 60 f ≤ 60 * c := by
  refine ⟨sm_nn (fun i hi => (h i hi).1), ?_⟩
  have := sm_le (n := 60) (f := f) (g := fun _ => c) (fun i hi => (h i hi).2)
  rw [sm_const] at this
  exact this
theorem RR.clb (R : RR K D A0 B0 A B) : (∀ h, 0 ≤ sm 60 (wlB A h) ∧ sm 60 (wlB A h) ≤ 660000) ∧ (∀ d, 0 ≤ dpS A d ∧ dpS A d ≤ 660000) ∧ (∀ d, 0 ≤ otS A d ∧ otS A d ≤ 660000) ∧ ∀ x h, xrg A x → 0 ≤ sm 60 (wlC A x h) ∧ sm 60 (wlC A x h) ≤ 660000 := by
  have ps : ∀ p, p < 60 → A 32 p ≠ -1 → 0 ≤ A 33 p ∧ A 33 p ≤ 11000 := fun p hp hk => by have := R.gP.ps p hp hk; omega
  have key : ∀ f : Nat → Int, (∀ i, i < 60 → 0 ≤ f i ∧ f i ≤ 11000) → 0 ≤ sm 60 f ∧ sm 60 f ≤ 660000 := fun f h => by
    have := sm_60le h
    omega
  refine ⟨fun h => key _ fun p hp => ?_, fun d => key _ fun p hp => ?_, fun d => key _ fun p hp => ?_, fun x h hx => key _ fun p hp => ?_⟩
  · unfold wlB
    split
    · rename_i c; exact ps p hp c.1
    · omega
  · unfold dpT
    split
    · rename_i c; exact ps p hp c.1.1
    · omega
  · unfold otT
    split
    · rename_i c; exact ps p hp c.1.1
    · omega
  · unfold wlC
    split
    · rename_i c
      have := (hx p hp).1 c.1
      have := ps p hp c.1.1
      omega
    · omega
theorem RR.wlr (R : RR K D A0 B0 A B) (hK : K ≤ 1000000000) {x : Nat → Int} (hx : xrg A x) {h : Int} (h1 : 1 ≤ h) (h2 : h < A 19 11) : 0 ≤ wl A x h ∧ wl A x h ≤ 1001400000 := by
  have hn := R.gH.hn2
  have c := R.clb
  have c1 := c.1 h
  have c2 := c.2.2.2 x h hx
  have g := R.gle (h := h.toNat) (by omega)
  have hd := R.held (h := h.toNat) (by omega) (by omega)
  unfold wl
  omega
theorem wl_mono {x y : Nat → Int} (h : ∀ p, p < 60 → x p ≤ y p) (a : Int) : wl A x a ≤ wl A y a := by
  have : sm 60 (wlC A x a) ≤ sm 60 (wlC A y a) := sm_le fun p hp => by
    unfold wlC
    split
    · exact h p hp
    · exact Int.le_refl _
  unfold wl
  omega
theorem RR.shr_rg (R : RR K D A0 B0 A B) (hK : K ≤ 1000000000) {x : Nat → Int} (hx : xrg A x) {p : Nat} (hp : p < 60) (hc : clm A p) : 0 ≤ shr A x p ∧ shr A x p ≤ A 33 p := by
  have ps := R.gP.ps p hp hc.1
  have pd := R.gP.pd p hp hc.1
  have w := R.wlr hK hx pd.2.1 pd.2.2
  unfold shr
  split
  · exact pay_rg (by omega) w.1
  · split
    · omega
    · exact pay_rg (by omega) (by omega)
theorem RR.shr_mono (R : RR K D A0 B0 A B) (hK : K ≤ 1000000000) {x y : Nat → Int} (hx : xrg A x) (h : ∀ p, p < 60 → x p ≤ y p) {p : Nat} (hp : p < 60) (hc : clm A p) (hy : xrg A y) : shr A x p ≤ shr A y p := by
  have ps := R.gP.ps p hp hc.1
  have pd := R.gP.pd p hp hc.1
  have w := R.wlr hK hx pd.2.1 pd.2.2
  have w2 := R.wlr hK hy pd.2.1 pd.2.2
  have m := wl_mono (A := A) h (A 34 p)
  unfold shr
  by_cases c : A 32 p = 2
  · rw [if_pos c, if_pos c]
    exact pay_mono (by omega) w.1 m
  · rw [if_neg c, if_neg c]
    by_cases d : wl A x (A 34 p) < dpS A (A 34 p)
    · rw [if_pos d]
      by_cases e : wl A y (A 34 p) < dpS A (A 34 p)
      · rw [if_pos e]; exact Int.le_refl _
      · rw [if_neg e]; exact (pay_rg (by omega) (by omega)).1
    · rw [if_neg d, if_neg (by omega)]
      exact pay_mono (by omega) (by omega) (by omega)
theorem wl_ud {x : Nat → Int} {p : Nat} (hp : p < 60) (hc : clm A p) (v : Int) (h : Int) : wl A (ud x p v) h = if A 35 p = h then wl A x h + (v - x p) else wl A x h := by
  have e : wlC A (ud x p v) h = ud (wlC A x h) p (if A 35 p = h then v else 0) := by
    funext q
    by_cases z : q = p
    · subst z
      rw [ud_s]
      unfold wlC
      rw [ud_s]
      by_cases c : A 35 q = h
      · rw [if_pos ⟨hc, c⟩, if_pos c]
      · rw [if_neg (fun z => c z.2), if_neg c]
    · rw [ud_n z]
      unfold wlC
      rw [ud_n z]
  have ep : wlC A x h p = if A 35 p = h then x p else 0 := by
    unfold wlC
    by_cases c : A 35 p = h
    · rw [if_pos ⟨hc, c⟩, if_pos c]
    · rw [if_neg (fun z => c z.2), if_neg c]
  unfold wl
  rw [e, sm_ud hp, ep]
  by_cases c : A 35 p = h
  · rw [if_pos c, if_pos c, if_pos c]; omega
  · rw [if_neg c, if_neg c, if_neg c]; omega
/-- one claim worked anew -/
theorem RR.shr_st (R : RR K D A0 B0 A B) (hK : K ≤ 1000000000) {x : Nat → Int} (hx : xrg A x) (hp1 : pre A x) (hl : lef A x) {p : Nat} (hp : p < 60) (hc : clm A p) : xrg A (ud x p (shr A x p)) ∧ pre A (ud x p (shr A x p)) ∧ lef A (ud x p (shr A x p)) ∧ ∀ q, q < 60 → x q ≤ ud x p (shr A x p) q := by
  have r := R.shr_rg hK hx hp hc
  have up : ∀ q, q < 60 → x q ≤ ud x p (shr A x p) q := fun q hq => by
    by_cases z : q = p
    · subst z; rw [ud_s]; exact hp1 q hp hc
    · rw [ud_n z]; exact Int.le_refl _
  have hx2 : xrg A (ud x p (shr A x p)) := fun q hq => by
    by_cases z : q = p
    · subst z
      rw [ud_s]
      exact ⟨fun _ => r, fun z => absurd hc z⟩
    · rw [ud_n z]; exact hx q hq
  refine ⟨hx2, fun q hq hcq => ?_, fun y hy hf q hq => ?_, up⟩
  · have m := R.shr_mono hK hx up hq hcq hx2
    by_cases z : q = p
    · subst z; rw [ud_s]; exact m
    · rw [ud_n z]; exact Int.le_trans (hp1 q hq hcq) m
  · by_cases z : q = p
    · subst z
      rw [ud_s, ← hf q hq hc]
      exact R.shr_mono hK hx (hl y hy hf) hq hc hy
    · rw [ud_n z]; exact hl y hy hf q hq
/-- all claims worked anew -/
def phi (A : hI) (x : Nat → Int) : Nat → Int := fun p => if clm A p then shr A x p else 0
theorem RR.phi_st (R : RR K D A0 B0 A B) (hK : K ≤ 1000000000) {x : Nat → Int} (hx : xrg A x) (hp1 : pre A x) (hl : lef A x) : xrg A (phi A x) ∧ pre A (phi A x) ∧ lef A (phi A x) ∧ ∀ q, q < 60 → x q ≤ phi A x q := by
  have up : ∀ q, q < 60 → x q ≤ phi A x q := fun q hq => by
    unfold phi
    by_cases c : clm A q
    · rw [if_pos c]; exact hp1 q hq c
    · rw [if_neg c, (hx q hq).2 c]; exact Int.le_refl _
  have hx2 : xrg A (phi A x) := fun q hq => by
    unfold phi
    by_cases c : clm A q
    · rw [if_pos c]; exact ⟨fun _ => R.shr_rg hK hx hq c, fun z => absurd c z⟩
    · rw [if_neg c]; exact ⟨fun z => absurd z c, fun _ => rfl⟩
  refine ⟨hx2, fun q hq c => ?_, fun y hy hf q hq => ?_, up⟩
  · have m := R.shr_mono hK hx up hq c hx2
    rw [show phi A x q = shr A x q from if_pos c]
    exact m
  · by_cases c : clm A q
    · rw [show phi A x q = shr A x q from if_pos c, ← hf q hq c]
      exact R.shr_mono hK hx (hl y hy hf) hq c hy
    · rw [show phi A x q = 0 from if_neg c, (hy q hq).2 c]; exact Int.le_refl _
theorem zero_st (R : RR K D A0 B0 A B) (hK : K ≤ 1000000000) : xrg A (fun _ => 0) ∧ pre A (fun _ => 0) ∧ lef A (fun _ => 0) := by
  have hx : xrg A (fun _ => 0) := fun p hp => ⟨fun c => by have := R.gP.ps p hp c.1; show (0 : Int) ≤ 0 ∧ (0 : Int) ≤ A 33 p; omega, fun _ => rfl⟩
  refine ⟨hx, fun p hp c => (R.shr_rg hK hx hp c).1, fun y hy _ p hp => ?_⟩
  by_cases c : clm A p
  · exact ((hy p hp).1 c).1
  · rw [(hy p hp).2 c]; exact Int.le_refl _
theorem xrg_sum (R : RR K D A0 B0 A B) {x : Nat → Int} (hx : xrg A x) : 0 ≤ sm 60 x ∧ sm 60 x ≤ 660000 := by
  have h : ∀ p, p < 60 → 0 ≤ x p ∧ x p ≤ 11000 := fun p hp => by
    by_cases c : clm A p
    · have := (hx p hp).1 c
      have := R.gP.ps p hp c.1
      omega
    · rw [(hx p hp).2 c]; omega
  have := sm_60le h
  omega
end CLM
