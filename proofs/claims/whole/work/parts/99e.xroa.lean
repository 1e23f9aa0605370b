/-! A ROAD MORE: the class -/
def cd (x : Int) : Int := if x = 999999 then -1 else x
theorem uA_id (A : hI) (k j : Nat) : uA A k j (A k j) = A := by
  funext k'
  by_cases hk : k' = k
  · subst hk; rw [uA_s]; funext i; by_cases hi : i = j
    · subst hi; rw [ud_s]
    · rw [ud_n hi]
  · rw [uA_n hk]
theorem uA_id2 {A : hI} {k j : Nat} {v : Int} (h : A k j = v) : uA A k j v = A := by rw [← h, uA_id]
theorem ex_shorten (F : Nat) (Bx : hI) {A : hI} {t : Nat} (ht : t < 64) {x p q w : Int} (hx : A 18 t = cd x) (x1 : 0 ≤ x ∧ x ≤ 999999 ∧ (x < 999999 → x ≤ 1000)) (p1 : 0 ≤ p ∧ p ≤ 999999 ∧ (p < 999999 → p ≤ 1000)) (q1 : 0 ≤ q ∧ q ≤ 999999 ∧ (q < 999999 → q ≤ 1000)) (w1 : 0 ≤ w ∧ w ≤ 30) : f_Land_shorten F (iI t) (iI (cd p)) (iI w) (iI (cd q)) (mk A Bx) = some ((), mk (uA A 18 t (cd (min x (p + w + q)))) Bx) := by
  simp only [f_Land_shorten, f_Land_shorten_11, f_Land_shorten_49, f_Land_shorten_41]
  by_cases hp : p = 999999
  · rw [show min x (p + w + q) = x by omega, uA_id2 hx, show cd p = -1 from if_pos hp]
    simp (disch := first | omega | (simp (disch := omega) only [uA_n]; done) | fail) only [iI_lit, iI_add, iI_sub, iI_mul, iI_neg, iI_lt, iI_le, iI_eq, zlt_t, zlt_f, zle_t, zle_f, zeq_t, zeq_f, nle_t, nle_f, iI_cl, rA, rS, rB, wA, wS, wB, mkp, mk2, uA_s, uA_n, ud_s, ud_n, bI_0, bI_1, nor_s, ↓reduceIte, or_false, false_or, or_true, true_or, or_self, not_true_eq_false, not_false_eq_true, and_true, true_and, and_false, false_and, bI_T, bI_F, Int.reduceToNat, Nat.reduceAdd, Nat.reduceMul, Int.reduceNeg, Option.bind_some, Int.toNat_natCast]
  · by_cases hq : q = 999999
    · rw [show min x (p + w + q) = x by omega, uA_id2 hx, show cd q = -1 from if_pos hq, show cd p = p from if_neg hp]
      simp (disch := first | omega | (simp (disch := omega) only [uA_n]; done) | fail) only [iI_lit, iI_add, iI_sub, iI_mul, iI_neg, iI_lt, iI_le, iI_eq, zlt_t, zlt_f, zle_t, zle_f, zeq_t, zeq_f, nle_t, nle_f, iI_cl, rA, rS, rB, wA, wS, wB, mkp, mk2, uA_s, uA_n, ud_s, ud_n, bI_0, bI_1, nor_s, ↓reduceIte, or_false, false_or, or_true, true_or, or_self, not_true_eq_false, not_false_eq_true, and_true, true_and, and_false, false_and, bI_T, bI_F, Int.reduceToNat, Nat.reduceAdd, Nat.reduceMul, Int.reduceNeg, Option.bind_some, Int.toNat_natCast]
    · rw [show cd q = q from if_neg hq, show cd p = p from if_neg hp]
      by_cases h : x = 999999
      · rw [show cd x = -1 from if_pos h] at hx
        rw [show min x (p + w + q) = p + w + q by omega, show cd (p + w + q) = p + w + q from if_neg (by omega)]
        simp (disch := first | omega | (simp (disch := omega) only [uA_n]; done) | fail) only [iI_lit, iI_add, iI_sub, iI_mul, iI_neg, iI_lt, iI_le, iI_eq, zlt_t, zlt_f, zle_t, zle_f, zeq_t, zeq_f, nle_t, nle_f, iI_cl, rA, rS, rB, wA, wS, wB, mkp, mk2, uA_s, uA_n, ud_s, ud_n, bI_0, bI_1, nor_s, ↓reduceIte, or_false, false_or, or_true, true_or, or_self, not_true_eq_false, not_false_eq_true, and_true, true_and, and_false, false_and, bI_T, bI_F, Int.reduceToNat, Nat.reduceAdd, Nat.reduceMul, Int.reduceNeg, Option.bind_some, Int.toNat_natCast, hx]
      · rw [show cd x = x from if_neg h] at hx
        by_cases hl : x ≤ p + w + q
        · rw [show min x (p + w + q) = x by omega, show cd x = x from if_neg h, uA_id2 hx]
          simp (disch := first | omega | (simp (disch := omega) only [uA_n]; done) | fail) only [iI_lit, iI_add, iI_sub, iI_mul, iI_neg, iI_lt, iI_le, iI_eq, zlt_t, zlt_f, zle_t, zle_f, zeq_t, zeq_f, nle_t, nle_f, iI_cl, rA, rS, rB, wA, wS, wB, mkp, mk2, uA_s, uA_n, ud_s, ud_n, bI_0, bI_1, nor_s, ↓reduceIte, or_false, false_or, or_true, true_or, or_self, not_true_eq_false, not_false_eq_true, and_true, true_and, and_false, false_and, bI_T, bI_F, Int.reduceToNat, Nat.reduceAdd, Nat.reduceMul, Int.reduceNeg, Option.bind_some, Int.toNat_natCast, hx]
        · rw [show min x (p + w + q) = p + w + q by omega, show cd (p + w + q) = p + w + q from if_neg (by omega)]
          simp (disch := first | omega | (simp (disch := omega) only [uA_n]; done) | fail) only [iI_lit, iI_add, iI_sub, iI_mul, iI_neg, iI_lt, iI_le, iI_eq, zlt_t, zlt_f, zle_t, zle_f, zeq_t, zeq_f, nle_t, nle_f, iI_cl, rA, rS, rB, wA, wS, wB, mkp, mk2, uA_s, uA_n, ud_s, ud_n, bI_0, bI_1, nor_s, ↓reduceIte, or_false, false_or, or_true, true_or, or_self, not_true_eq_false, not_false_eq_true, and_true, true_and, and_false, false_and, bI_T, bI_F, Int.reduceToNat, Nat.reduceAdd, Nat.reduceMul, Int.reduceNeg, Option.bind_some, Int.toNat_natCast, hx]
def sA (A : hI) (g : Nat → Int) : hI := fun k => if k = 18 then g else A k
theorem sA_s (A : hI) (g : Nat → Int) : sA A g 18 = g := if_pos rfl
theorem sA_n {A : hI} {g : Nat → Int} {k : Nat} (h : k ≠ 18) : sA A g k = A k := if_neg h
theorem sA_u (A : hI) (g : Nat → Int) (t : Nat) (v : Int) : uA (sA A g) 18 t v = sA A (ud g t v) := by
  funext k
  by_cases hk : k = 18
  · subst hk; rw [uA_s, sA_s, sA_s]
  · rw [uA_n hk, sA_n hk, sA_n hk]
/-- as far as place t the new, behind it the old -/
def pv (e d : Nat → Int) (t : Nat) : Nat → Int := fun x => if x < t then e x else d x
theorem pv_all {e d : Nat → Int} {P : Int → Prop} (he : ∀ x, x < 64 → P (e x)) (hd : ∀ x, x < 64 → P (d x)) (t : Nat) {x : Nat} (hx : x < 64) : P (pv e d t x) := by
  unfold pv
  split
  · exact he x hx
  · exact hd x hx
def gT (e d z : Nat → Int) (t : Nat) : Nat → Int := fun x => if x < t then cd (e x) else if x < 64 then cd (d x) else z x
theorem gT_v (e d z : Nat → Int) (t : Nat) {x : Nat} (hx : x < 64) : gT e d z t x = cd (pv e d t x) := by
  unfold gT pv
  by_cases h : x < t
  · rw [if_pos h, if_pos h]
  · rw [if_neg h, if_neg h, if_pos hx]
theorem gT_u (e d z : Nat → Int) {t : Nat} (ht : t < 64) : ud (gT e d z t) t (cd (e t)) = gT e d z (t + 1) := by
  funext x
  by_cases h : x = t
  · subst h; rw [ud_s]; unfold gT; rw [if_pos (by omega)]
  · rw [ud_n h]; unfold gT
    by_cases h2 : x < t
    · rw [if_pos h2, if_pos (by omega)]
    · rw [if_neg h2, if_neg (show ¬ x < t + 1 by omega)]
section XROA
variable (F : Nat) (Bx : hI) {A : hI} {d : Nat → Int} {a b : Nat} {w : Int}
abbrev okV (x : Int) : Prop := 0 ≤ x ∧ x ≤ 999999 ∧ (x < 999999 → x ≤ 210)
theorem road_m {dt et p q w m eia dia ebj dbj : Int} (hw : 0 ≤ w) (hw2 : w ≤ 30) (hdt : okV dt) (he : 0 ≤ et) (hed : et ≤ dt) (t1 : et ≤ eia + w + ebj) (p1 : okV p) (p2 : eia ≤ p) (p3 : p ≤ dia) (q1 : okV q) (q2 : ebj ≤ q) (q3 : q ≤ dbj) (hm : min dt (p + w + q) = m) : et ≤ m ∧ m ≤ dt ∧ 0 ≤ m ∧ m ≤ 999999 ∧ (m < 999999 → m ≤ 1000) ∧ m ≤ dia + w + dbj := by
  obtain ⟨a1, a2, a3⟩ := hdt
  obtain ⟨b1, b2, b3⟩ := p1
  obtain ⟨c1, c2, c3⟩ := q1
  refine ⟨by omega, by omega, by omega, by omega, fun z => ?_, by omega⟩
  by_cases h : dt < 999999
  · have := a3 h; omega
  · have h1 : p < 999999 := by omega
    have h2 : q < 999999 := by omega
    have := b3 h1; have := c3 h2; omega
theorem road_e {dt et m v u w dia dbj dib daj eib eaj : Int} (hte : et = min dt (min (dia + w + dbj) (dib + w + daj))) (t2 : et ≤ eib + w + eaj) (m1 : et ≤ m) (m2 : m ≤ dt) (m3 : m ≤ dia + w + dbj) (v1 : eib ≤ v) (v2 : v ≤ dib) (u1 : eaj ≤ u) (u2 : u ≤ daj) : min m (v + w + u) = et := by omega
theorem ex_road0 (ha : a < 8) (hb : b < 8) {i j : Nat} (hi : i < 8) (hj : j < 8) {A1 A2 : hI} {x1 x2 x3 x4 : Int} (h1 : A 18 (8 * i + a) = x1) (h2 : A 18 (8 * b + j) = x2) (h3 : A1 18 (8 * i + b) = x3) (h4 : A1 18 (8 * a + j) = x4) (s1 : f_Land_shorten F (iI ((8 * i + j : Nat) : Int)) (iI x1) (iI w) (iI x2) (mk A Bx) = some ((), mk A1 Bx)) (s2 : f_Land_shorten F (iI ((8 * i + j : Nat) : Int)) (iI x3) (iI w) (iI x4) (mk A1 Bx) = some ((), mk A2 Bx)) {q : Nat} {k13 : Int32 → Int32 → Int32 → Int32 → mM → Option (Unit × mM)} : f_Land_addRoad_23 F k13 (q + 1) (iI a) (iI b) (iI w) (iI i) (iI j) (mk A Bx) = f_Land_addRoad_23 F k13 q (iI a) (iI b) (iI w) (iI i) (iI ((j : Int) + 1)) (mk A2 Bx) := by
  have c1 : ((i : Int) * 8 + a).toNat = 8 * i + a := by omega
  have c2 : ((b : Int) * 8 + j).toNat = 8 * b + j := by omega
  have c3 : ((i : Int) * 8 + b).toNat = 8 * i + b := by omega
  have c4 : ((a : Int) * 8 + j).toNat = 8 * a + j := by omega
  have c5 : (i : Int) * 8 + j = ((8 * i + j : Nat) : Int) := by omega
  rw [f_Land_addRoad_23]
  simp (disch := first | omega | (simp (disch := omega) only [uA_n]; done) | fail) only [iI_lit, iI_add, iI_sub, iI_mul, iI_neg, iI_lt, iI_le, iI_eq, zlt_t, zlt_f, zle_t, zle_f, zeq_t, zeq_f, nle_t, nle_f, iI_cl, rA, rS, rB, wA, wS, wB, mkp, mk2, uA_s, uA_n, ud_s, ud_n, bI_0, bI_1, nor_s, ↓reduceIte, or_false, false_or, or_true, true_or, or_self, not_true_eq_false, not_false_eq_true, and_true, true_and, and_false, false_and, bI_T, bI_F, Int.reduceToNat, Nat.reduceAdd, Nat.reduceMul, Int.reduceNeg, Option.bind_some, Int.toNat_natCast, c1, c2, c3, c4, c5, h1, h2, h3, h4, s1, s2]
theorem ex_road1 (ha : a < 8) (hb : b < 8) (hw : 0 ≤ w ∧ w ≤ 30) (z : Nat → Int) (hd : ∀ x, x < 64 → okV (d x)) (he : ∀ x, x < 64 → okV (dRd d a b w x)) (tri : ∀ i j, i < 8 → j < 8 → dRd d a b w (8 * i + j) ≤ dRd d a b w (8 * i + a) + w + dRd d a b w (8 * b + j) ∧ dRd d a b w (8 * i + j) ≤ dRd d a b w (8 * i + b) + w + dRd d a b w (8 * a + j)) {i j : Nat} (hi : i < 8) (hj : j < 8) {q : Nat} {k13 : Int32 → Int32 → Int32 → Int32 → mM → Option (Unit × mM)} : f_Land_addRoad_23 F k13 (q + 1) (iI a) (iI b) (iI w) (iI i) (iI j) (mk (sA A (gT (dRd d a b w) d z (8 * i + j))) Bx) = f_Land_addRoad_23 F k13 q (iI a) (iI b) (iI w) (iI i) (iI ((j : Int) + 1)) (mk (sA A (gT (dRd d a b w) d z (8 * i + j + 1))) Bx) := by
  have hte := dRd_at d a b w hi hj
  obtain ⟨t1, t2⟩ := tri i j hi hj
  have ht : 8 * i + j < 64 := by omega
  have hia : 8 * i + a < 64 := by omega
  have hbj : 8 * b + j < 64 := by omega
  have hib : 8 * i + b < 64 := by omega
  have haj : 8 * a + j < 64 := by omega
  have key := fun {A1 A2 : hI} {x1 x2 x3 x4 : Int} {h1 h2 h3 h4 s1 s2} => ex_road0 F Bx (A := sA A (gT (dRd d a b w) d z (8 * i + j))) (w := w) ha hb hi hj (A1 := A1) (A2 := A2) (x1 := x1) (x2 := x2) (x3 := x3) (x4 := x4) h1 h2 h3 h4 s1 s2 (q := q) (k13 := k13)
  generalize 8 * i + j = t at *
  generalize 8 * i + a = ia at *
  generalize 8 * b + j = bj at *
  generalize 8 * i + b = ib at *
  generalize 8 * a + j = aj at *
  have le : ∀ x, dRd d a b w x ≤ d x := fun x => by unfold dRd; exact Int.min_le_left _ _
  generalize dRd d a b w = e at *
  have P1 : ∀ x, x < 64 → okV (pv e d t x) ∧ e x ≤ pv e d t x ∧ pv e d t x ≤ d x := fun x hx => by
    refine ⟨pv_all (P := okV) he hd t hx, ?_⟩
    have := le x
    unfold pv
    by_cases h : x < t
    · rw [if_pos h]; exact ⟨Int.le_refl _, this⟩
    · rw [if_neg h]; exact ⟨this, Int.le_refl _⟩
  have pt : pv e d t t = d t := if_neg (Nat.lt_irrefl t)
  obtain ⟨ia1, ia2, ia3⟩ := P1 ia hia
  obtain ⟨bj1, bj2, bj3⟩ := P1 bj hbj
  have hm1 := road_m hw.1 hw.2 (hd t ht) (he t ht).1 (le t) t1 ia1 ia2 ia3 bj1 bj2 bj3 rfl
  have up : ∀ {x : Int}, okV x → 0 ≤ x ∧ x ≤ 999999 ∧ (x < 999999 → x ≤ 1000) := fun h => ⟨h.1, h.2.1, fun z => Int.le_trans (h.2.2 z) (by decide)⟩
  have s1 := ex_shorten F Bx (A := sA A (gT e d z t)) (t := t) ht (x := d t) (p := pv e d t ia) (q := pv e d t bj) (w := w) (by rw [sA_s, gT_v e d z t ht, pt]) (up (hd t ht)) (up ia1) (up bj1) hw
  generalize min (d t) (pv e d t ia + w + pv e d t bj) = m1 at *
  obtain ⟨n1, n2, n3, n4, n5, n6⟩ := hm1
  rw [sA_u] at s1
  have g2 : ∀ x, x < 64 → ∃ v, ud (gT e d z t) t (cd m1) x = cd v ∧ e x ≤ v ∧ v ≤ d x ∧ 0 ≤ v ∧ v ≤ 999999 ∧ (v < 999999 → v ≤ 1000) := fun x hx => by
    by_cases h : x = t
    · subst h; exact ⟨m1, ud_s _ _ _, n1, n2, n3, n4, n5⟩
    · obtain ⟨y1, y2, y3⟩ := P1 x hx
      exact ⟨pv e d t x, by rw [ud_n h, gT_v e d z t hx], y2, y3, up y1⟩
  obtain ⟨v1, v2, v3, v4, v5⟩ := g2 ib hib
  obtain ⟨u1, u2, u3, u4, u5⟩ := g2 aj haj
  have s2 := ex_shorten F Bx (A := sA A (ud (gT e d z t) t (cd m1))) (t := t) ht (x := m1) (p := v1) (q := u1) (w := w) (by rw [sA_s, ud_s]) ⟨n3, n4, n5⟩ v5 u5 hw
  have hfin : min m1 (v1 + w + u1) = e t := road_e hte t2 n1 n2 n6 v3 v4 u3 u4
  rw [hfin, sA_u] at s2
  have e9 : ud (ud (gT e d z t) t (cd m1)) t (cd (e t)) = gT e d z (t + 1) := by
    rw [← gT_u e d z ht]
    funext x
    by_cases h : x = t
    · subst h; rw [ud_s, ud_s]
    · rw [ud_n h, ud_n h, ud_n h]
  rw [e9] at s2
  have r1 : sA A (gT e d z t) 18 ia = cd (pv e d t ia) := by rw [sA_s]; exact gT_v e d z t hia
  have r2 : sA A (gT e d z t) 18 bj = cd (pv e d t bj) := by rw [sA_s]; exact gT_v e d z t hbj
  have r3 : sA A (ud (gT e d z t) t (cd m1)) 18 ib = cd v1 := by rw [sA_s]; exact v2
  have r4 : sA A (ud (gT e d z t) t (cd m1)) 18 aj = cd u1 := by rw [sA_s]; exact u2
  exact key (h1 := r1) (h2 := r2) (h3 := r3) (h4 := r4) (s1 := s1) (s2 := s2)
theorem ex_addRoad (hF : 1000 ≤ F) (ha : a < 8) (hb : b < 8) (hw : 0 ≤ w ∧ w ≤ 30) (hA : ∀ x, x < 64 → A 18 x = cd (d x)) (hd : ∀ x, x < 64 → okV (d x)) (he : ∀ x, x < 64 → okV (dRd d a b w x)) (tri : ∀ i j, i < 8 → j < 8 → dRd d a b w (8 * i + j) ≤ dRd d a b w (8 * i + a) + w + dRd d a b w (8 * b + j) ∧ dRd d a b w (8 * i + j) ≤ dRd d a b w (8 * i + b) + w + dRd d a b w (8 * a + j)) : f_Land_addRoad_13 F F (iI a) (iI b) (iI w) (iI 0) (mk A Bx) = some ((), mk (sA A (gT (dRd d a b w) d (A 18) 64)) Bx) := by
  have row : ∀ (i : Nat), i < 8 → ∀ (k13 : Int32 → Int32 → Int32 → Int32 → mM → Option (Unit × mM)) (r j q : Nat), r = 8 - j → j ≤ 8 → r < q → f_Land_addRoad_23 F k13 q (iI a) (iI b) (iI w) (iI i) (iI j) (mk (sA A (gT (dRd d a b w) d (A 18) (8 * i + j))) Bx) = k13 (iI a) (iI b) (iI w) (iI ((i + 1 : Nat) : Int)) (mk (sA A (gT (dRd d a b w) d (A 18) (8 * (i + 1)))) Bx) := by
    intro i hi k13 r
    induction r with
    | zero =>
      intro j q h1 h2 h3
      obtain ⟨q, rfl⟩ : ∃ p, q = p + 1 := ⟨q - 1, by omega⟩
      obtain rfl : j = 8 := by omega
      rw [f_Land_addRoad_23]
      simp (disch := first | omega | (simp (disch := omega) only [uA_n]; done) | fail) only [iI_lit, iI_add, iI_sub, iI_mul, iI_neg, iI_lt, iI_le, iI_eq, zlt_t, zlt_f, zle_t, zle_f, zeq_t, zeq_f, nle_t, nle_f, iI_cl, rA, rS, rB, wA, wS, wB, mkp, mk2, uA_s, uA_n, ud_s, ud_n, bI_0, bI_1, nor_s, ↓reduceIte, or_false, false_or, or_true, true_or, or_self, not_true_eq_false, not_false_eq_true, and_true, true_and, and_false, false_and, bI_T, bI_F, Int.reduceToNat, Nat.reduceAdd, Nat.reduceMul, Int.reduceNeg, Option.bind_some, Int.toNat_natCast]
      rfl
    | succ r ih =>
      intro j q h1 h2 h3
      obtain ⟨q, rfl⟩ : ∃ p, q = p + 1 := ⟨q - 1, by omega⟩
      rw [ex_road1 F Bx ha hb hw (A 18) hd he tri hi (by omega)]
      exact ih (j + 1) q (by omega) (by omega) (by omega)
  have all : ∀ (r i q : Nat), r = 8 - i → i ≤ 8 → r < q → f_Land_addRoad_13 F q (iI a) (iI b) (iI w) (iI i) (mk (sA A (gT (dRd d a b w) d (A 18) (8 * i))) Bx) = some ((), mk (sA A (gT (dRd d a b w) d (A 18) 64)) Bx) := by
    intro r
    induction r with
    | zero =>
      intro i q h1 h2 h3
      obtain ⟨q, rfl⟩ : ∃ p, q = p + 1 := ⟨q - 1, by omega⟩
      obtain rfl : i = 8 := by omega
      rw [f_Land_addRoad_13]
      simp (disch := first | omega | (simp (disch := omega) only [uA_n]; done) | fail) only [iI_lit, iI_add, iI_sub, iI_mul, iI_neg, iI_lt, iI_le, iI_eq, zlt_t, zlt_f, zle_t, zle_f, zeq_t, zeq_f, nle_t, nle_f, iI_cl, rA, rS, rB, wA, wS, wB, mkp, mk2, uA_s, uA_n, ud_s, ud_n, bI_0, bI_1, nor_s, ↓reduceIte, or_false, false_or, or_true, true_or, or_self, not_true_eq_false, not_false_eq_true, and_true, true_and, and_false, false_and, bI_T, bI_F, Int.reduceToNat, Nat.reduceAdd, Nat.reduceMul, Int.reduceNeg, Option.bind_some, Int.toNat_natCast]
    | succ r ih =>
      intro i q h1 h2 h3
      obtain ⟨q, rfl⟩ : ∃ p, q = p + 1 := ⟨q - 1, by omega⟩
      have x := row i (by omega) (f_Land_addRoad_13 F q) 8 0 F (by omega) (by omega) (by omega)
      rw [f_Land_addRoad_13]
      simp (disch := first | omega | (simp (disch := omega) only [uA_n]; done) | fail) only [iI_lit, iI_add, iI_sub, iI_mul, iI_neg, iI_lt, iI_le, iI_eq, zlt_t, zlt_f, zle_t, zle_f, zeq_t, zeq_f, nle_t, nle_f, iI_cl, rA, rS, rB, wA, wS, wB, mkp, mk2, uA_s, uA_n, ud_s, ud_n, bI_0, bI_1, nor_s, ↓reduceIte, or_false, false_or, or_true, true_or, or_self, not_true_eq_false, not_false_eq_true, and_true, true_and, and_false, false_and, bI_T, bI_F, Int.reduceToNat, Nat.reduceAdd, Nat.reduceMul, Int.reduceNeg, Option.bind_some, Int.toNat_natCast]
      refine Eq.trans ?_ ((x).trans (ih (i + 1) q (by omega) (by omega) (by omega)))
      rfl
  have e0 : sA A (gT (dRd d a b w) d (A 18) (8 * 0)) = A := by
    funext k
    by_cases hk : k = 18
    · subst hk; rw [sA_s]; funext x; unfold gT
      rw [if_neg (by omega)]
      by_cases h : x < 64
      · rw [if_pos h, hA x h]
      · rw [if_neg h]
    · rw [sA_n hk]
  have := all 8 0 F rfl (by omega) (by omega)
  rw [e0] at this
  exact this
end XROA
