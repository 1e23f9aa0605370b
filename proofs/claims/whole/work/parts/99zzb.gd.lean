/-! GUARDS of calls, and what a refusal may leave changed -/
section GD
variable {K D : Int} {A0 B0 A B : hI} {i : Nat} (F : Nat)
theorem askT {α : Type} {x : Option (Int32 × mM)} {p : Prop} [Decidable p] {m : mM} {f g : Int32 × mM → Option α} (h : x = some (iI (bI p), m)) (c : p) : (x.bind fun q => if q.1 = 0 then f q else g q) = g (iI 1, m) := by
  rw [h, bI_t c]; exact (if_neg i1n0 : (if iI 1 = 0 then f (iI 1, m) else g (iI 1, m)) = _)
theorem askF {α : Type} {x : Option (Int32 × mM)} {p : Prop} [Decidable p] {m : mM} {f g : Int32 × mM → Option α} (h : x = some (iI (bI p), m)) (c : ¬ p) : (x.bind fun q => if q.1 = 0 then f q else g q) = f (iI 0, m) := by
  rw [h, bI_f c]; exact (if_pos rfl : (if iI 0 = 0 then f (iI 0, m) else g (iI 0, m)) = _)
theorem bnd_id (x : Option (Int32 × mM)) : (x.bind fun q => some (q.1, q.2)) = x := by cases x <;> rfl
theorem RR.kd (R : RR K D A0 B0 A B) {a : Nat} (h : (a : Int) < A 19 11) : 0 ≤ A 20 a ∧ A 20 a ≤ 2 ∧ B 410 a = A 20 a := by
  have hn2 := R.gH.hn2
  refine ⟨?_, ?_, R.gH.hk a (by omega)⟩
  · by_cases c : a = 0
    · subst c; rw [R.gH.hk0.1]; omega
    · exact (R.gH.hk1 a (by omega) h).1
  · by_cases c : a = 0
    · subst c; rw [R.gH.hk0.1]; omega
    · have := (R.gH.hk1 a (by omega) h).2; omega
/-- cells that nobody looks at between the calls -/
def nA (A A1 : hI) : Prop := ∀ k : Nat, (k < 108 ∧ k ≠ 15 ∧ k ≠ 45 ∧ k ≠ 54) ∨ k = 114 ∨ k = 115 ∨ k = 117 ∨ k = 119 → A1 k = A k
def nB (B B1 : hI) : Prop := (∀ k : Nat, k = 306 ∨ k = 311 ∨ k = 317 ∨ (350 ≤ k ∧ k ≠ 399) → B1 k = B k) ∧ B1 304 9 = B 304 9 ∧ B1 304 24 = B 304 24 ∧ B1 304 29 = B 304 29 ∧ B1 304 30 = B 304 30
theorem nA.rf (A : hI) : nA A A := fun _ _ => rfl
theorem nB.rf (B : hI) : nB B B := ⟨fun _ _ => rfl, rfl, rfl, rfl, rfl⟩
theorem nA.tr {a b c : hI} (h : nA a b) (g : nA b c) : nA a c := fun k hk => (g k hk).trans (h k hk)
theorem nB.tr {a b c : hI} (h : nB a b) (g : nB b c) : nB a c := ⟨fun k hk => (g.1 k hk).trans (h.1 k hk), g.2.1.trans h.2.1, g.2.2.1.trans h.2.2.1, g.2.2.2.1.trans h.2.2.2.1, g.2.2.2.2.trans h.2.2.2.2⟩
theorem nA.law {A A1 : hI} (h : ∀ k : Nat, k ≠ 15 → k ≠ 54 → A1 k = A k) : nA A A1 := fun k hk => h k (by omega) (by omega)
theorem nB.three {B B1 : hI} (h : sc3 B B1) : nB B B1 := ⟨fun k hk => h.1 k (by omega), h.2 9 (by omega), h.2 24 (by omega), h.2 29 (by omega), h.2 30 (by omega)⟩
theorem nB.four {B B1 : hI} (h : fr4 B B1) : nB B B1 := ⟨fun k hk => h.1 k (by omega) (by omega) (by omega), h.2 9 (by omega), h.2 24 (by omega), h.2 29 (by omega), h.2 30 (by omega)⟩
def nbA (A A1 : hI) : hI := fun k => if k = 15 ∨ k = 45 ∨ k = 54 then A1 k else A k
theorem nbA_o {A A1 : hI} {k : Nat} (h : ¬ (k = 15 ∨ k = 45 ∨ k = 54)) : nbA A A1 k = A k := if_neg h
theorem Inv.nb {A1 B1 : hI} (h : Inv i A B) (a : nA A A1) (b : nB B B1) : Inv i A1 B1 := by
  have R := h.rr.xA (A' := nbA A A1) (fun k h1 h2 h3 => nbA_o (by omega))
  have e16 : nbA A A1 16 = A 16 := nbA_o (by omega)
  have I : Inv i (nbA A A1) B := h.same (B1 := B) (K := KMX i (A 16 9)) (by rw [e16]; exact R) (fun _ _ => rfl) (by rw [e16]; exact Int.le_refl _)
  have a2 : ∀ k : Nat, k < 108 ∨ k = 114 ∨ k = 115 ∨ k = 117 ∨ k = 119 → A1 k = nbA A A1 k := fun k hk => by
    unfold nbA
    by_cases c : k = 15 ∨ k = 45 ∨ k = 54
    · rw [if_pos c]
    · rw [if_neg c]; exact a k (by omega)
  obtain ⟨b1, b2, b3, b4, b5⟩ := b
  refine I.oth (fun k hk => a2 k (by omega)) (fun k hk _ => b1 k (by omega)) (fun j hj => ?_) ?_ ?_ (by rw [a2 0 (by omega)]) b3
  · rw [a2 119 (by omega), b1 306 (by omega)]; exact I.2.1 j hj
  · unfold tpI
    rw [a2 114 (by omega), a2 115 (by omega), b2, b1 311 (by omega)]; exact I.2.2.1
  · unfold rwI
    rw [a2 0 (by omega), a2 117 (by omega), b5, b4, b1 317 (by omega)]; exact I.2.2.2.1
theorem cp_no2 (h : Inv i A B) {v : Int} (hv : -8 ≤ v) (hv2 : v ≤ -2) {fx fm : mM → Option (Int32 × mM)} (x : ∀ Bx : hI, ∃ A1, nA A A1 ∧ fx (mk A Bx) = ((f_x_refuse F (iI v) (mk A1 Bx)).bind fun q => some (q.1, q.2))) (y : ∀ Ax : hI, ∃ B1, nB B B1 ∧ fm (mk Ax B) = ((f_m_refuse F (iI v) (mk Ax B1)).bind fun q => some (q.1, q.2))) : CP i A B fx fm := by
  intro Ax Bx
  obtain ⟨A1, a1, x1⟩ := x Bx
  obtain ⟨B1, b1, y1⟩ := y Ax
  obtain ⟨A2, B2, x2, y2, I2⟩ := both_refuse F (h.nb a1 b1) hv hv2 Ax Bx
  exact ⟨iI v, A2, B2, x1.trans (obd x2 rfl), y1.trans (obd y2 rfl), I2⟩
theorem cp_zero2 (h : Inv i A B) {v : Int} (hv : -8 ≤ v) (hv2 : v ≤ -2) {fx fm : mM → Option (Int32 × mM)} (x : ∀ Bx : hI, ∃ A1, nA A A1 ∧ fx (mk A Bx) = ((f_x_refuseByZero F (iI v) (mk A1 Bx)).bind fun q => some (q.1, q.2))) (y : ∀ Ax : hI, ∃ B1, nB B B1 ∧ fm (mk Ax B) = ((f_m_hush F (iI v) (mk Ax B1)).bind fun q => some (q.1, q.2))) : CP i A B fx fm := by
  intro Ax Bx
  obtain ⟨A1, a1, x1⟩ := x Bx
  obtain ⟨B1, b1, y1⟩ := y Ax
  obtain ⟨A2, B2, x2, y2, I2⟩ := both_zero F (h.nb a1 b1) hv hv2 Ax Bx
  exact ⟨iI 0, A2, B2, x1.trans (obd x2 rfl), y1.trans (obd y2 rfl), I2⟩
/-- an answer that changes nothing that is looked at -/
theorem cp_ans (h : Inv i A B) {fx fm : mM → Option (Int32 × mM)} (r : Int32) (x : ∀ Bx : hI, ∃ A1, nA A A1 ∧ fx (mk A Bx) = some (r, mk A1 Bx)) (y : ∀ Ax : hI, ∃ B1, nB B B1 ∧ fm (mk Ax B) = some (r, mk Ax B1)) : CP i A B fx fm := by
  intro Ax Bx
  obtain ⟨A1, a1, x1⟩ := x Bx
  obtain ⟨B1, b1, y1⟩ := y Ax
  exact ⟨r, A1, B1, x1, y1, (h.nb a1 b1).up⟩
end GD
