/-! FAR: what is the greatest is one; a road more; way by way -/
theorem dOK.one {n : Nat} {ra rb rd d e : Nat → Int} (h : dOK n ra rb rd d) (g : dOK n ra rb rd e) {j : Nat} (hj : j < 64) : d j = e j := by
  have h1 := h.2 e g.1 (j / 8) (j % 8) (by omega) (by omega)
  have h2 := g.2 d h.1 (j / 8) (j % 8) (by omega) (by omega)
  rw [show 8 * (j / 8) + j % 8 = j by omega] at h1 h2
  omega
theorem dOK.sym {n : Nat} {ra rb rd d : Nat → Int} (hr : ∀ k, k < n → ((ra k).toNat < 8 ∧ (rb k).toNat < 8)) (h : dOK n ra rb rd d) {a b : Nat} (ha : a < 8) (hb : b < 8) : d (8 * a + b) = d (8 * b + a) := by
  have key : dC1 n ra rb rd (fun j => d (8 * (j % 8) + j / 8)) := by
    obtain ⟨⟨h1, h2, h3, h4⟩, -⟩ := h
    have e : ∀ a b : Nat, a < 8 → b < 8 → (8 * a + b) % 8 = b ∧ (8 * a + b) / 8 = a := fun a b _ _ => by omega
    refine ⟨fun a ha => ?_, fun a b ha hb => ?_, fun k hk => ?_, fun a b c ha hb hc => ?_⟩
    · show d (8 * ((8 * a + a) % 8) + (8 * a + a) / 8) = 0
      rw [(e a a ha ha).1, (e a a ha ha).2]; exact h1 a ha
    · show 0 ≤ d (8 * ((8 * a + b) % 8) + (8 * a + b) / 8) ∧ d (8 * ((8 * a + b) % 8) + (8 * a + b) / 8) ≤ 999999
      rw [(e a b ha hb).1, (e a b ha hb).2]; exact h2 b a hb ha
    · obtain ⟨r1, r2⟩ := hr k hk
      show d (8 * ((8 * (ra k).toNat + (rb k).toNat) % 8) + (8 * (ra k).toNat + (rb k).toNat) / 8) ≤ rd k ∧ d (8 * ((8 * (rb k).toNat + (ra k).toNat) % 8) + (8 * (rb k).toNat + (ra k).toNat) / 8) ≤ rd k
      rw [(e _ _ r1 r2).1, (e _ _ r1 r2).2, (e _ _ r2 r1).1, (e _ _ r2 r1).2]
      exact (h3 k hk).symm
    · show d (8 * ((8 * a + b) % 8) + (8 * a + b) / 8) ≤ d (8 * ((8 * a + c) % 8) + (8 * a + c) / 8) + d (8 * ((8 * c + b) % 8) + (8 * c + b) / 8)
      rw [(e a b ha hb).1, (e a b ha hb).2, (e a c ha hc).1, (e a c ha hc).2, (e c b hc hb).1, (e c b hc hb).2]
      have := h4 b a c hb ha hc
      omega
  have x1 := h.2 _ key a b ha hb
  have x2 := h.2 _ key b a hb ha
  have q1 : (8 * a + b) % 8 = b ∧ (8 * a + b) / 8 = a := by omega
  have q2 : (8 * b + a) % 8 = a ∧ (8 * b + a) / 8 = b := by omega
  simp only [q1.1, q1.2, q2.1, q2.2] at x1 x2
  omega
/-- a road more -/
def dRd (d : Nat → Int) (a b : Nat) (w : Int) : Nat → Int := fun j => min (d j) (min (d (8 * (j / 8) + a) + w + d (8 * b + j % 8)) (d (8 * (j / 8) + b) + w + d (8 * a + j % 8)))
theorem dRd_at (d : Nat → Int) (a b : Nat) (w : Int) {i j : Nat} (hi : i < 8) (hj : j < 8) : dRd d a b w (8 * i + j) = min (d (8 * i + j)) (min (d (8 * i + a) + w + d (8 * b + j)) (d (8 * i + b) + w + d (8 * a + j))) := by
  unfold dRd
  rw [show (8 * i + j) / 8 = i by omega, show (8 * i + j) % 8 = j by omega]
theorem dRd_ok {n : Nat} {ra rb rd d ra' rb' rd' : Nat → Int} {a b : Nat} {w : Int} (h : dOK n ra rb rd d) (ha : a < 8) (hb : b < 8) (hw : 0 ≤ w)
    (e1 : ∀ k, k < n → ra' k = ra k ∧ rb' k = rb k ∧ rd' k = rd k) (e2 : (ra' n).toNat = a) (e3 : (rb' n).toNat = b) (e4 : rd' n = w) : dOK (n + 1) ra' rb' rd' (dRd d a b w) := by
  obtain ⟨⟨h1, h2, h3, h4⟩, h5⟩ := h
  have hnn : ∀ x y : Nat, x < 8 → y < 8 → 0 ≤ d (8 * x + y) := fun x y hx hy => (h2 x y hx hy).1
  refine ⟨⟨fun i hi => ?_, fun i j hi hj => ?_, fun k hk => ?_, fun i j m hi hj hm => ?_⟩, fun f hf i j hi hj => ?_⟩
  · rw [dRd_at d a b w hi hi, h1 i hi]
    have := hnn i a hi ha; have := hnn b i hb hi; have := hnn i b hi hb; have := hnn a i ha hi
    omega
  · rw [dRd_at d a b w hi hj]
    have := hnn i a hi ha; have := hnn b j hb hj; have := hnn i b hi hb; have := hnn a j ha hj; have := h2 i j hi hj
    omega
  · by_cases hkn : k < n
    · obtain ⟨q1, q2, q3⟩ := e1 k hkn
      rw [q1, q2, q3]
      have := h3 k hkn
      have m1 : ∀ j, dRd d a b w j ≤ d j := fun j => by unfold dRd; omega
      have := m1 (8 * (ra k).toNat + (rb k).toNat)
      have := m1 (8 * (rb k).toNat + (ra k).toNat)
      omega
    · obtain rfl : k = n := by omega
      rw [e2, e3, e4, dRd_at d a b w ha hb, dRd_at d a b w hb ha]
      have := h1 a ha; have := h1 b hb
      omega
  · rw [dRd_at d a b w hi hj, dRd_at d a b w hi hm, dRd_at d a b w hm hj]
    have t1 := h4 i j m hi hj hm
    have t2 := h4 i a m hi ha hm
    have t3 := h4 i b m hi hb hm
    have t4 := h4 b j m hb hj hm
    have t5 := h4 a j m ha hj hm
    have t6 := h4 i j a hi hj ha
    have t7 := h4 i j b hi hj hb
    have := hnn i a hi ha; have := hnn i b hi hb; have := hnn b j hb hj; have := hnn a j ha hj
    have := hnn m a hm ha; have := hnn m b hm hb; have := hnn b m hb hm; have := hnn a m ha hm
    omega
  · obtain ⟨f1, f2, f3, f4⟩ := hf
    have hd : dC1 n ra rb rd f := ⟨f1, f2, fun k hk => by
      obtain ⟨q1, q2, q3⟩ := e1 k hk
      have := f3 k (by omega)
      rw [q1, q2, q3] at this
      exact this, f4⟩
    have g := h5 f hd
    have fn := f3 n (by omega)
    rw [e2, e3, e4] at fn
    rw [dRd_at d a b w hi hj]
    have g1 := g i j hi hj
    have g2 := g i a hi ha
    have g3 := g b j hb hj
    have g4 := g i b hi hb
    have g5 := g a j ha hj
    have t1 := f4 i j a hi hj ha
    have t2 := f4 a j b ha hj hb
    have t3 := f4 i j b hi hj hb
    have t4 := f4 b j a hb hj ha
    omega
/-- what can be reached is near -/
theorem dCn_mono {d e : Nat → Int} {a : Nat} (h : ∀ b, b < 8 → e (8 * a + b) ≤ d (8 * a + b)) : dCn d a ≤ dCn e a := by
  unfold dCn
  refine sm_le fun b hb => ?_
  have := h b hb
  unfold bI
  split <;> split <;> omega
theorem dCn_rg (d : Nat → Int) (a : Nat) : 0 ≤ dCn d a ∧ dCn d a ≤ 8 := sm_cnt 8 (fun b => d (8 * a + b) < 999999)
theorem sm_add (n : Nat) (f g : Nat → Int) : sm n (fun i => f i + g i) = sm n f + sm n g := by
  induction n with
  | zero => rfl
  | succ n ih => simp only [sm]; rw [ih]; omega
theorem dRd_fin {n : Nat} {ra rb rd d : Nat → Int} {a b : Nat} {w : Int} (hr : ∀ k, k < n → ((ra k).toNat < 8 ∧ (rb k).toNat < 8)) (h : dOK n ra rb rd d) (hf : ∀ i j, i < 8 → j < 8 → d (8 * i + j) < 999999 → d (8 * i + j) ≤ 30 * dCn d i - 30) (ha : a < 8) (hb : b < 8) (hw : 0 ≤ w) (hw2 : w ≤ 30) {i j : Nat} (hi : i < 8) (hj : j < 8) (hlt : dRd d a b w (8 * i + j) < 999999) : dRd d a b w (8 * i + j) ≤ 30 * dCn (dRd d a b w) i - 30 := by
  have mono : ∀ x, dRd d a b w x ≤ d x := fun x => by unfold dRd; omega
  have nm := dCn_mono (d := d) (e := dRd d a b w) (a := i) (fun b _ => mono _)
  have hnn : ∀ x y : Nat, x < 8 → y < 8 → 0 ≤ d (8 * x + y) ∧ d (8 * x + y) ≤ 999999 := fun x y hx hy => h.1.2.1 x y hx hy
  have hs := fun x y (hx : x < 8) (hy : y < 8) => h.sym hr (a := x) (b := y) hx hy
  have far : ∀ x y : Nat, x < 8 → y < 8 → d (8 * x + y) < 999999 → d (8 * x + y) ≤ 210 := fun x y hx hy hl => by
    have := hf x y hx hy hl
    have := dCn_rg d x
    omega
  by_cases hd : d (8 * i + j) < 999999
  · have := hf i j hi hj hd
    have := mono (8 * i + j)
    omega
  · -- the two ends lie in parts that had no way between them
    have dis : ∀ m, m < 8 → ¬ (d (8 * i + m) < 999999 ∧ d (8 * j + m) < 999999) := fun m hm hh => by
      have h1 := far i m hi hm hh.1
      have h2 := far j m hj hm hh.2
      have h3 := h.1.2.2.2 i j m hi hj hm
      have h4 := hs j m hj hm
      omega
    have main : ∀ p q : Nat, p < 8 → q < 8 → d (8 * i + p) < 999999 → d (8 * q + j) < 999999 → dRd d a b w (8 * i + j) = d (8 * i + p) + w + d (8 * q + j) → dRd d a b w (8 * i + j) ≤ 30 * dCn (dRd d a b w) i - 30 := by
      intro p q hp hq h1 h2 he
      have f1 := hf i p hi hp h1
      have s1 := hs q j hq hj
      have f2 := hf j q hj hq (by omega)
      have g1 := far i p hi hp h1
      have g2 := far q j hq hj h2
      have cnt : dCn d i + dCn d j ≤ dCn (dRd d a b w) i := by
        unfold dCn
        rw [← sm_add]
        refine sm_le fun m hm => ?_
        have hdm := dis m hm
        have w1 := mono (8 * i + m)
        have w2 : d (8 * j + m) < 999999 → dRd d a b w (8 * i + m) < 999999 := fun hl => by
          have g3 := far j m hj hm hl
          have hok := dRd_ok (ra' := fun k => if k < n then ra k else a) (rb' := fun k => if k < n then rb k else b) (rd' := fun k => if k < n then rd k else w) h ha hb hw (fun k hk => by simp [hk]) (by simp) (by simp) (by simp)
          have t := hok.1.2.2.2 i m j hi hm hj
          have w3 := mono (8 * j + m)
          omega
        unfold bI
        split <;> split <;> split <;> omega
      have r1 := dCn_rg d i
      have r2 := dCn_rg d j
      omega
    have e := dRd_at d a b w hi hj
    have q1 := hnn i a hi ha; have q2 := hnn b j hb hj; have q3 := hnn i b hi hb; have q4 := hnn a j ha hj
    rcases Int.le_total (d (8 * i + a) + w + d (8 * b + j)) (d (8 * i + b) + w + d (8 * a + j)) with hc | hc
    · exact main a b ha hb (by omega) (by omega) (by omega)
    · exact main b a hb ha (by omega) (by omega) (by omega)
theorem dRd_tri {n : Nat} {ra rb rd d : Nat → Int} {a b : Nat} {w : Int} (h : dOK n ra rb rd d) (ha : a < 8) (hb : b < 8) (hw : 0 ≤ w) {i j : Nat} (hi : i < 8) (hj : j < 8) : dRd d a b w (8 * i + j) ≤ dRd d a b w (8 * i + a) + w + dRd d a b w (8 * b + j) ∧ dRd d a b w (8 * i + j) ≤ dRd d a b w (8 * i + b) + w + dRd d a b w (8 * a + j) := by
  have hok := dRd_ok (ra' := fun k => if k < n then ra k else a) (rb' := fun k => if k < n then rb k else b) (rd' := fun k => if k < n then rd k else w) h ha hb hw (fun k hk => by simp [hk]) (by simp) (by simp) (by simp)
  obtain ⟨-, -, h3, h4⟩ := hok.1
  have r := h3 n (by omega)
  simp only [Nat.lt_irrefl, if_false, Int.toNat_natCast] at r
  have t1 := h4 i j a hi hj ha
  have t2 := h4 a j b ha hj hb
  have t3 := h4 i j b hi hj hb
  have t4 := h4 b j a hb hj ha
  omega
/-! Floyd's way -/
def fwS (d : Nat → Int) (k : Nat) : Nat → Int := fun j => min (d j) (d (8 * (j / 8) + k) + d (8 * k + j % 8))
theorem fwS_at (d : Nat → Int) (k : Nat) {i j : Nat} (hi : i < 8) (hj : j < 8) : fwS d k (8 * i + j) = min (d (8 * i + j)) (d (8 * i + k) + d (8 * k + j)) := by
  unfold fwS
  rw [show (8 * i + j) / 8 = i by omega, show (8 * i + j) % 8 = j by omega]
/-- what holds behind k turns: on the way of those that have had their turn -/
def fwI (n : Nat) (ra rb rd d : Nat → Int) (k : Nat) : Prop := (∀ a, a < 8 → d (8 * a + a) = 0) ∧ (∀ a b, a < 8 → b < 8 → 0 ≤ d (8 * a + b) ∧ d (8 * a + b) ≤ 999999) ∧ (∀ i, i < n → d (8 * (ra i).toNat + (rb i).toNat) ≤ rd i ∧ d (8 * (rb i).toNat + (ra i).toNat) ≤ rd i) ∧ (∀ a b c, a < 8 → b < 8 → c < k → d (8 * a + b) ≤ d (8 * a + c) + d (8 * c + b)) ∧ ∀ f : Nat → Int, dC1 n ra rb rd f → ∀ a b, a < 8 → b < 8 → f (8 * a + b) ≤ d (8 * a + b)
theorem fwI.st {n : Nat} {ra rb rd d : Nat → Int} {k : Nat} (hr : ∀ i, i < n → (ra i).toNat < 8 ∧ (rb i).toNat < 8) (hk : k < 8) (h : fwI n ra rb rd d k) : fwI n ra rb rd (fwS d k) (k + 1) := by
  obtain ⟨h1, h2, h3, h4, h5⟩ := h
  have nn : ∀ x y : Nat, x < 8 → y < 8 → 0 ≤ d (8 * x + y) := fun x y hx hy => (h2 x y hx hy).1
  refine ⟨fun a ha => ?_, fun a b ha hb => ?_, fun i hi => ?_, fun a b c ha hb hc => ?_, fun f hf a b ha hb => ?_⟩
  · rw [fwS_at d k ha ha, h1 a ha]
    have := nn a k ha hk; have := nn k a hk ha
    omega
  · rw [fwS_at d k ha hb]
    have := nn a k ha hk; have := nn k b hk hb; have := h2 a b ha hb
    omega
  · obtain ⟨q1, q2⟩ := hr i hi
    have := h3 i hi
    rw [fwS_at d k q1 q2, fwS_at d k q2 q1]
    omega
  · have hc8 : c < 8 := by omega
    rw [fwS_at d k ha hb, fwS_at d k ha hc8, fwS_at d k hc8 hb]
    have n1 := nn a k ha hk; have n2 := nn k b hk hb; have n3 := nn k c hk hc8; have n4 := nn c k hc8 hk
    by_cases hck : c = k
    · subst hck
      have := h1 c hc8
      have := nn a b ha hb
      omega
    · have t1 := h4 a b c ha hb (by omega)
      have t2 := h4 k b c hk hb (by omega)
      have t3 := h4 a k c ha hk (by omega)
      omega
  · rw [fwS_at d k ha hb]
    have f1 := h5 f hf a b ha hb
    have f2 := h5 f hf a k ha hk
    have f3 := h5 f hf k b hk hb
    have f4 := hf.2.2.2 a b k ha hb hk
    omega
theorem fwI.ok {n : Nat} {ra rb rd d : Nat → Int} (h : fwI n ra rb rd d 8) : dOK n ra rb rd d := ⟨⟨h.1, h.2.1, h.2.2.1, fun a b c ha hb hc => h.2.2.2.1 a b c ha hb hc⟩, h.2.2.2.2⟩
/-- a road is laid -/
def fwR (d : Nat → Int) (a b : Nat) (w : Int) : Nat → Int := if d (8 * a + b) ≤ w then d else ud (ud d (8 * a + b) w) (8 * b + a) w
def fwD (n : Nat) (ra rb rd d : Nat → Int) : Prop := (∀ a, a < 8 → d (8 * a + a) = 0) ∧ (∀ a b, a < 8 → b < 8 → 0 ≤ d (8 * a + b) ∧ d (8 * a + b) ≤ 999999 ∧ d (8 * a + b) = d (8 * b + a)) ∧ (∀ i, i < n → d (8 * (ra i).toNat + (rb i).toNat) ≤ rd i ∧ d (8 * (rb i).toNat + (ra i).toNat) ≤ rd i) ∧ ∀ f : Nat → Int, (∀ a, a < 8 → f (8 * a + a) = 0) → (∀ a b, a < 8 → b < 8 → 0 ≤ f (8 * a + b) ∧ f (8 * a + b) ≤ 999999) → (∀ k, k < n → f (8 * (ra k).toNat + (rb k).toNat) ≤ rd k ∧ f (8 * (rb k).toNat + (ra k).toNat) ≤ rd k) → ∀ a b, a < 8 → b < 8 → f (8 * a + b) ≤ d (8 * a + b)
theorem fwD.st {n : Nat} {ra rb rd d : Nat → Int} (hr : ∀ i, i < n → (ra i).toNat < 8 ∧ (rb i).toNat < 8) (h : fwD n ra rb rd d) (ha : (ra n).toNat < 8) (hb : (rb n).toNat < 8) (hw : 0 ≤ rd n) (hw2 : rd n ≤ 999999) : fwD (n + 1) ra rb rd (fwR d (ra n).toNat (rb n).toNat (rd n)) := by
  obtain ⟨h1, h2, h3, h4⟩ := h
  unfold fwR
  by_cases hc : d (8 * (ra n).toNat + (rb n).toNat) ≤ rd n
  · rw [if_pos hc]
    refine ⟨h1, h2, fun i hi => ?_, fun f f1 f2 f3 => h4 f f1 f2 (fun k hk => f3 k (by omega))⟩
    by_cases hn : i < n
    · exact h3 i hn
    · obtain rfl : i = n := by omega
      have := h2 _ _ ha hb
      omega
  · rw [if_neg hc]
    have hab : (ra n).toNat ≠ (rb n).toNat := fun z => by rw [z, h1 _ hb] at hc; exact hc hw
    have hs := (h2 _ _ ha hb).2.2
    have val : ∀ x y : Nat, x < 8 → y < 8 → (((x = (ra n).toNat ∧ y = (rb n).toNat) ∨ (x = (rb n).toNat ∧ y = (ra n).toNat)) ∧ ud (ud d (8 * (ra n).toNat + (rb n).toNat) (rd n)) (8 * (rb n).toNat + (ra n).toNat) (rd n) (8 * x + y) = rd n) ∨ (¬ ((x = (ra n).toNat ∧ y = (rb n).toNat) ∨ (x = (rb n).toNat ∧ y = (ra n).toNat)) ∧ ud (ud d (8 * (ra n).toNat + (rb n).toNat) (rd n)) (8 * (rb n).toNat + (ra n).toNat) (rd n) (8 * x + y) = d (8 * x + y)) := by
      intro x y hx hy
      by_cases e1 : 8 * x + y = 8 * (rb n).toNat + (ra n).toNat
      · rw [e1, ud_s]; exact Or.inl ⟨by omega, rfl⟩
      · rw [ud_n e1]
        by_cases e2 : 8 * x + y = 8 * (ra n).toNat + (rb n).toNat
        · rw [e2, ud_s]; exact Or.inl ⟨by omega, rfl⟩
        · rw [ud_n e2]; exact Or.inr ⟨by omega, rfl⟩
    generalize ud (ud d (8 * (ra n).toNat + (rb n).toNat) (rd n)) (8 * (rb n).toNat + (ra n).toNat) (rd n) = e at *
    have le : ∀ x y : Nat, x < 8 → y < 8 → e (8 * x + y) ≤ d (8 * x + y) := fun x y hx hy => by
      rcases val x y hx hy with ⟨⟨q1, q2⟩ | ⟨q1, q2⟩, v⟩ | ⟨-, v⟩
      · rw [v, q1, q2]; omega
      · rw [v, q1, q2]; omega
      · rw [v]; exact Int.le_refl _
    refine ⟨fun x hx => ?_, fun x y hx hy => ?_, fun i hi => ?_, fun f f1 f2 f3 x y hx hy => ?_⟩
    · rcases val x x hx hx with ⟨q, v⟩ | ⟨-, v⟩
      · omega
      · rw [v]; exact h1 x hx
    · have z := h2 x y hx hy
      rcases val x y hx hy with ⟨q, v⟩ | ⟨q, v⟩ <;> rcases val y x hy hx with ⟨q', v'⟩ | ⟨q', v'⟩ <;> omega
    · by_cases hn : i < n
      · obtain ⟨m1, m2⟩ := h3 i hn
        obtain ⟨r1, r2⟩ := hr i hn
        exact ⟨Int.le_trans (le _ _ r1 r2) m1, Int.le_trans (le _ _ r2 r1) m2⟩
      · obtain rfl : i = n := by omega
        rcases val _ _ ha hb with ⟨-, v⟩ | ⟨q, -⟩
        · rcases val _ _ hb ha with ⟨-, v'⟩ | ⟨q, -⟩
          · omega
          · exact absurd (Or.inr ⟨rfl, rfl⟩) q
        · exact absurd (Or.inl ⟨rfl, rfl⟩) q
    · rcases val x y hx hy with ⟨⟨q1, q2⟩ | ⟨q1, q2⟩, v⟩ | ⟨-, v⟩
      · rw [v, q1, q2]; exact (f3 n (by omega)).1
      · rw [v, q1, q2]; exact (f3 n (by omega)).2
      · rw [v]; exact h4 f f1 f2 (fun k hk => f3 k (by omega)) x y hx hy
theorem fwD.i {n : Nat} {ra rb rd d : Nat → Int} (h : fwD n ra rb rd d) : fwI n ra rb rd d 0 := ⟨h.1, fun a b ha hb => ⟨(h.2.1 a b ha hb).1, (h.2.1 a b ha hb).2.1⟩, h.2.2.1, fun _ _ _ _ _ hc => absurd hc (by omega), fun f hf => h.2.2.2 f hf.1 hf.2.1 hf.2.2.1⟩
