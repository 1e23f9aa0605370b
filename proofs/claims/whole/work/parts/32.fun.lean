/-! METHODS AS FUNCTIONS (written by program: wip/whole/gen/emit.py) -/
def f_x_refuse_25 (F : Nat)   (v1 : Int32) (m : mM) : Option (Int32 × mM) := some (v1, m)
theorem ok_x_refuse_25 (X : mX) (d F : Nat) : ∀ (v1 : Int32) (w0 : Option Value) (m : mM) (r : Int32) (m' : mM), f_x_refuse_25 F v1 m = some (r, m') → m_R X (d + 0) 14 25 [w0, some (.int v1)] [] (SH, m) (some (.int r), (SH, m')) := by
  intro v1 w0 m r m' h
  unfold f_x_refuse_25 at h
  refine m_R_sg (by decide) [(.iload_n 1, 1, 0, 1, 0, 0, 0)] (by decide +kernel) (show m_sgl X _ _ _ _ _ = some (26, [w0, some (.int v1)], [.int v1], (SH, m.1, m.2)) from rfl) ?_
  cases h
  exact m_R_iret (by decide) (m_opb_of (ins := .ireturn) (len := 1) (tag := 1) (a := 0) (b := 0) (c := 0) (q := 0) (by decide +kernel)) (Or.inl rfl)
def f_x_refuse (F : Nat)   (v1 : Int32) (m : mM) : Option (Int32 × mM) := (if (-2 : Int32) < v1 then f_x_refuse_25 F v1 m else (if v1 < (-8 : Int32) then f_x_refuse_25 F v1 m else (if ((-2 : Int32) - v1) < 0 ∨ 7 ≤ ((-2 : Int32) - v1).toNatClampNeg then none else f_x_refuse_25 F v1 ((m_up m.1 119 ((-2 : Int32) - v1).toNatClampNeg ((m.1 119 ((-2 : Int32) - v1).toNatClampNeg) + (1 : Int32))), m.2))))
theorem ok_x_refuse (X : mX) (d F : Nat) : ∀ (v1 : Int32)  (m : mM) (r : Int32) (m' : mM), f_x_refuse F v1 m = some (r, m') → m_R X (d + 0) 14 0 [some (.ref 0), some (.int v1)] [] (SH, m) (some (.int r), (SH, m')) := by
  intro v1 m r m' h
  unfold f_x_refuse at h
  refine m_R_sg (by decide) [(.iload_n 1, 1, 0, 1, 0, 0, 0), (.bipush (-2), 2, 0, 2, 1, 0, 0)] (by decide +kernel) (show m_sgl X _ _ _ _ _ = some (3, [some (.ref 0), some (.int v1)], [.int (-2 : Int32), .int v1], (SH, m.1, m.2)) from rfl) ?_
  rcases m_ite h with ⟨c1, h⟩ | ⟨c1, h⟩
  · refine m_R_1 (by decide) (m_opb_of (ins := .if_icmp .gt 22) (len := 3) (tag := 0) (a := 25) (b := 0) (c := 0) (q := 0) (by decide +kernel)) (if_pos c1) ?_
    exact ok_x_refuse_25 X d F _ _ _ _ _ h
  · refine m_R_1 (by decide) (m_opb_of (ins := .if_icmp .gt 22) (len := 3) (tag := 0) (a := 25) (b := 0) (c := 0) (q := 0) (by decide +kernel)) (if_neg c1) ?_
    refine m_R_sg (by decide) [(.iload_n 1, 1, 0, 1, 0, 0, 0), (.bipush (-8), 2, 0, 8, 1, 0, 0)] (by decide +kernel) (show m_sgl X _ _ _ _ _ = some (9, [some (.ref 0), some (.int v1)], [.int (-8 : Int32), .int v1], (SH, m.1, m.2)) from rfl) ?_
    rcases m_ite h with ⟨c2, h⟩ | ⟨c2, h⟩
    · refine m_R_1 (by decide) (m_opb_of (ins := .if_icmp .lt 16) (len := 3) (tag := 0) (a := 25) (b := 0) (c := 0) (q := 0) (by decide +kernel)) (if_pos c2) ?_
      exact ok_x_refuse_25 X d F _ _ _ _ _ h
    · refine m_R_1 (by decide) (m_opb_of (ins := .if_icmp .lt 16) (len := 3) (tag := 0) (a := 25) (b := 0) (c := 0) (q := 0) (by decide +kernel)) (if_neg c2) ?_
      refine m_R_sg (by decide) [(.aload_n 0, 1, 0, 0, 0, 0, 0), (.getfield 60, 3, 0, 11, 9, 3, 639), (.bipush (-2), 2, 0, 2, 1, 0, 0), (.iload_n 1, 1, 0, 1, 0, 0, 0), (.isub, 1, 0, 0, 0, 0, 0), (.dup2, 1, 0, 0, 0, 0, 0)] (by decide +kernel) (show m_sgl X _ _ _ _ _ = some (21, [some (.ref 0), some (.int v1)], [.int ((-2 : Int32) - v1), .ref 119, .int ((-2 : Int32) - v1), .ref 119], (SH, m.1, m.2)) from rfl) ?_
      obtain ⟨c3, h⟩ := m_ite_n h
      refine m_R_1 (by decide) (m_opb_of (ins := .iaload) (len := 1) (tag := 0) (a := 0) (b := 0) (c := 0) (q := 0) (by decide +kernel)) (m_s_iald sh_119 (by decide) c3) ?_
      refine m_R_sg (by decide) [(.iconst 1, 1, 0, 1, 0, 0, 0), (.iadd, 1, 0, 0, 0, 0, 0)] (by decide +kernel) (show m_sgl X _ _ _ _ _ = some (24, [some (.ref 0), some (.int v1)], [.int ((m.1 119 ((-2 : Int32) - v1).toNatClampNeg) + (1 : Int32)), .int ((-2 : Int32) - v1), .ref 119], (SH, m.1, m.2)) from rfl) ?_
      refine m_R_1 (by decide) (m_opb_of (ins := .iastore) (len := 1) (tag := 0) (a := 0) (b := 0) (c := 0) (q := 0) (by decide +kernel)) (m_s_iast sh_119 c3) ?_
      exact ok_x_refuse_25 X d F _ _ _ _ _ h
def f_x_town (F : Nat)    (m : mM) : Option (Int32 × mM) := (if (m.1 17 1) < (8 : Int32) then some ((((m_up m.1 17 1 ((m.1 17 1) + (1 : Int32))) 17 1) - (1 : Int32)), ((m_up m.1 17 1 ((m.1 17 1) + (1 : Int32))), m.2)) else ((f_x_refuse F (-8 : Int32) m).bind fun q1 => some (q1.1, q1.2)))
theorem ok_x_town (X : mX) (d F : Nat) : ∀   (m : mM) (r : Int32) (m' : mM), f_x_town F  m = some (r, m') → m_R X (d + 1) 13 0 [some (.ref 0), none] [] (SH, m) (some (.int r), (SH, m')) := by
  intro m r m' h
  unfold f_x_town at h
  refine m_R_sg (by decide) [(.aload_n 0, 1, 0, 0, 0, 0, 0), (.getfield 28, 3, 0, 11, 2, 3, 632), (.getfield 67, 3, 0, 10, 0, 3, 504), (.astore_n 1, 1, 0, 1, 0, 0, 0), (.aload_n 1, 1, 0, 1, 0, 0, 0), (.getfield 71, 3, 0, 2, 1, 0, 233), (.bipush 8, 2, 0, 8, 0, 0, 0)] (by decide +kernel) (show m_sgl X _ _ _ _ _ = some (14, [some (.ref 0), some (.ref 17)], [.int (8 : Int32), .int (m.1 17 1)], (SH, m.1, m.2)) from rfl) ?_
  rcases m_ite h with ⟨c4, h⟩ | ⟨c4, h⟩
  · refine m_R_1 (by decide) (m_opb_of (ins := .if_icmp .lt 10) (len := 3) (tag := 0) (a := 24) (b := 0) (c := 0) (q := 0) (by decide +kernel)) (if_pos c4) ?_
    refine m_R_sg (by decide) [(.aload_n 1, 1, 0, 1, 0, 0, 0), (.dup, 1, 0, 0, 0, 0, 0), (.getfield 71, 3, 0, 2, 1, 0, 233), (.iconst 1, 1, 0, 1, 0, 0, 0), (.iadd, 1, 0, 0, 0, 0, 0), (.putfield 71, 3, 0, 2, 1, 0, 233), (.aload_n 1, 1, 0, 1, 0, 0, 0), (.getfield 71, 3, 0, 2, 1, 0, 233), (.iconst 1, 1, 0, 1, 0, 0, 0), (.isub, 1, 0, 0, 0, 0, 0)] (by decide +kernel) (show m_sgl X _ _ _ _ _ = some (40, [some (.ref 0), some (.ref 17)], [.int (((m_up m.1 17 1 ((m.1 17 1) + (1 : Int32))) 17 1) - (1 : Int32))], (SH, (m_up m.1 17 1 ((m.1 17 1) + (1 : Int32))), m.2)) from rfl) ?_
    cases h
    exact m_R_iret (by decide) (m_opb_of (ins := .ireturn) (len := 1) (tag := 1) (a := 0) (b := 0) (c := 0) (q := 0) (by decide +kernel)) (Or.inl rfl)
  · refine m_R_1 (by decide) (m_opb_of (ins := .if_icmp .lt 10) (len := 3) (tag := 0) (a := 24) (b := 0) (c := 0) (q := 0) (by decide +kernel)) (if_neg c4) ?_
    refine m_R_sg (by decide) [(.aload_n 0, 1, 0, 0, 0, 0, 0), (.bipush (-8), 2, 0, 8, 1, 0, 0)] (by decide +kernel) (show m_sgl X _ _ _ _ _ = some (20, [some (.ref 0), some (.ref 17)], [.int (-8 : Int32), .ref 0], (SH, m.1, m.2)) from rfl) ?_
    obtain ⟨q1, hc1, h⟩ := Option.bind_eq_some_iff.mp h
    refine m_R_cV (v := (some (.int q1.1))) (h1 := (SH, q1.2)) (rest := []) (lo' := [some (.ref 0), some (.int (-8 : Int32))]) (ml := 2) (k0 := 0) (by decide) (Or.inl rfl) (m_opb_of (ins := .invokevirtual 76) (len := 3) (tag := 5) (a := 14) (b := 1) (c := 0) (q := 671) (by decide +kernel)) (by decide +kernel) rfl (show m_isO 14 0 (SH, _) = true from m_isO_of (by decide +kernel)) (Nat.le_of_ble_eq_true rfl) rfl rfl (ok_x_refuse X (d + 0) F _ _ _ _ hc1) ?_
    cases h
    exact m_R_iret (by decide) (m_opb_of (ins := .ireturn) (len := 1) (tag := 1) (a := 0) (b := 0) (c := 0) (q := 0) (by decide +kernel)) (Or.inl rfl)
def f_m_refuse (F : Nat)   (v1 : Int32) (m : mM) : Option (Int32 × mM) := (if (-v1) < 0 ∨ 9 ≤ (-v1).toNatClampNeg then none else some (v1, ((m_up m.1 306 (-v1).toNatClampNeg ((m.1 306 (-v1).toNatClampNeg) + (1 : Int32))), m.2)))
theorem ok_m_refuse (X : mX) (d F : Nat) : ∀ (v1 : Int32)  (m : mM) (r : Int32) (m' : mM), f_m_refuse F v1 m = some (r, m') → m_R X (d + 0) 202 0 [some (.ref 304), some (.int v1)] [] (SH, m) (some (.int r), (SH, m')) := by
  intro v1 m r m' h
  unfold f_m_refuse at h
  refine m_R_sg (by decide) [(.aload_n 0, 1, 0, 0, 0, 0, 0), (.getfield 17, 3, 0, 12, 2, 3, 1497), (.iload_n 1, 1, 0, 1, 0, 0, 0), (.ineg, 1, 0, 0, 0, 0, 0), (.dup2, 1, 0, 0, 0, 0, 0)] (by decide +kernel) (show m_sgl X _ _ _ _ _ = some (7, [some (.ref 304), some (.int v1)], [.int (-v1), .ref 306, .int (-v1), .ref 306], (SH, m.1, m.2)) from rfl) ?_
  obtain ⟨c5, h⟩ := m_ite_n h
  refine m_R_1 (by decide) (m_opb_of (ins := .iaload) (len := 1) (tag := 0) (a := 0) (b := 0) (c := 0) (q := 0) (by decide +kernel)) (m_s_iald sh_306 (by decide) c5) ?_
  refine m_R_sg (by decide) [(.iconst 1, 1, 0, 1, 0, 0, 0), (.iadd, 1, 0, 0, 0, 0, 0)] (by decide +kernel) (show m_sgl X _ _ _ _ _ = some (10, [some (.ref 304), some (.int v1)], [.int ((m.1 306 (-v1).toNatClampNeg) + (1 : Int32)), .int (-v1), .ref 306], (SH, m.1, m.2)) from rfl) ?_
  refine m_R_1 (by decide) (m_opb_of (ins := .iastore) (len := 1) (tag := 0) (a := 0) (b := 0) (c := 0) (q := 0) (by decide +kernel)) (m_s_iast sh_306 c5) ?_
  refine m_R_sg (by decide) [(.iload_n 1, 1, 0, 1, 0, 0, 0)] (by decide +kernel) (show m_sgl X _ _ _ _ _ = some (12, [some (.ref 304), some (.int v1)], [.int v1], (SH, (m_up m.1 306 (-v1).toNatClampNeg ((m.1 306 (-v1).toNatClampNeg) + (1 : Int32))), m.2)) from rfl) ?_
  cases h
  exact m_R_iret (by decide) (m_opb_of (ins := .ireturn) (len := 1) (tag := 1) (a := 0) (b := 0) (c := 0) (q := 0) (by decide +kernel)) (Or.inl rfl)
def f_Land_isTown_17 (F : Nat)   (s0 : Int32) (m : mM) : Option (Int32 × mM) := (if s0 = 0 ∨ s0 = 1 then some (s0, m) else none)
theorem ok_Land_isTown_17 (X : mX) (d F : Nat) : ∀ (s0 : Int32) (w0 : Option Value) (w1 : Option Value) (m : mM) (r : Int32) (m' : mM), f_Land_isTown_17 F s0 m = some (r, m') → m_R X (d + 0) 16 17 [w0, w1] [.int s0] (SH, m) (some (.int r), (SH, m')) := by
  intro s0 w0 w1 m r m' h
  unfold f_Land_isTown_17 at h
  obtain ⟨c0, h⟩ := m_ite_p h
  cases h
  exact m_R_iret (by decide) (m_opb_of (ins := .ireturn) (len := 1) (tag := 1) (a := 1) (b := 0) (c := 0) (q := 0) (by decide +kernel)) (Or.inr c0)
def f_Land_isTown_16 (F : Nat)    (m : mM) : Option (Int32 × mM) := f_Land_isTown_17 F (0 : Int32) m
theorem ok_Land_isTown_16 (X : mX) (d F : Nat) : ∀  (w0 : Option Value) (w1 : Option Value) (m : mM) (r : Int32) (m' : mM), f_Land_isTown_16 F  m = some (r, m') → m_R X (d + 0) 16 16 [w0, w1] [] (SH, m) (some (.int r), (SH, m')) := by
  intro w0 w1 m r m' h
  unfold f_Land_isTown_16 at h
  refine m_R_sg (by decide) [(.iconst 0, 1, 0, 0, 0, 0, 0)] (by decide +kernel) (show m_sgl X _ _ _ _ _ = some (17, [w0, w1], [.int (0 : Int32)], (SH, m.1, m.2)) from rfl) ?_
  exact ok_Land_isTown_17 X d F _ _ _ _ _ _ h
def f_Land_isTown (F : Nat)   (v1 : Int32) (m : mM) : Option (Int32 × mM) := (if v1 < 0 then f_Land_isTown_16 F m else (if (m.1 17 1) ≤ v1 then f_Land_isTown_16 F m else f_Land_isTown_17 F (1 : Int32) m))
theorem ok_Land_isTown (X : mX) (d F : Nat) : ∀ (v1 : Int32)  (m : mM) (r : Int32) (m' : mM), f_Land_isTown F v1 m = some (r, m') → m_R X (d + 0) 16 0 [some (.ref 17), some (.int v1)] [] (SH, m) (some (.int r), (SH, m')) := by
  intro v1 m r m' h
  unfold f_Land_isTown at h
  refine m_R_sg (by decide) [(.iload_n 1, 1, 0, 1, 0, 0, 0)] (by decide +kernel) (show m_sgl X _ _ _ _ _ = some (1, [some (.ref 17), some (.int v1)], [.int v1], (SH, m.1, m.2)) from rfl) ?_
  rcases m_ite h with ⟨c6, h⟩ | ⟨c6, h⟩
  · refine m_R_1 (by decide) (m_opb_of (ins := .ifCond .lt 15) (len := 3) (tag := 0) (a := 16) (b := 0) (c := 0) (q := 0) (by decide +kernel)) (if_pos c6) ?_
    exact ok_Land_isTown_16 X d F _ _ _ _ _ h
  · refine m_R_1 (by decide) (m_opb_of (ins := .ifCond .lt 15) (len := 3) (tag := 0) (a := 16) (b := 0) (c := 0) (q := 0) (by decide +kernel)) (if_neg c6) ?_
    refine m_R_sg (by decide) [(.iload_n 1, 1, 0, 1, 0, 0, 0), (.aload_n 0, 1, 0, 0, 0, 0, 0), (.getfield 15, 3, 0, 2, 1, 0, 232)] (by decide +kernel) (show m_sgl X _ _ _ _ _ = some (9, [some (.ref 17), some (.int v1)], [.int (m.1 17 1), .int v1], (SH, m.1, m.2)) from rfl) ?_
    rcases m_ite h with ⟨c7, h⟩ | ⟨c7, h⟩
    · refine m_R_1 (by decide) (m_opb_of (ins := .if_icmp .ge 7) (len := 3) (tag := 0) (a := 16) (b := 0) (c := 0) (q := 0) (by decide +kernel)) (if_pos c7) ?_
      exact ok_Land_isTown_16 X d F _ _ _ _ _ h
    · refine m_R_1 (by decide) (m_opb_of (ins := .if_icmp .ge 7) (len := 3) (tag := 0) (a := 16) (b := 0) (c := 0) (q := 0) (by decide +kernel)) (if_neg c7) ?_
      refine m_R_sg (by decide) [(.iconst 1, 1, 0, 1, 0, 0, 0), (.goto 4, 3, 0, 17, 0, 0, 0)] (by decide +kernel) (show m_sgl X _ _ _ _ _ = some (17, [some (.ref 17), some (.int v1)], [.int (1 : Int32)], (SH, m.1, m.2)) from rfl) ?_
      exact ok_Land_isTown_17 X d F _ _ _ _ _ _ h
def f_Land_shorten_11 (F : Nat)    (m : mM) : Option (Unit × mM) := some ((), m)
theorem ok_Land_shorten_11 (X : mX) (d F : Nat) : ∀  (w0 : Option Value) (w1 : Option Value) (w2 : Option Value) (w3 : Option Value) (w4 : Option Value) (w5 : Option Value) (m : mM) (r : Unit) (m' : mM), f_Land_shorten_11 F  m = some (r, m') → m_R X (d + 0) 18 11 [w0, w1, w2, w3, w4, w5] [] (SH, m) (none, (SH, m')) := by
  intro w0 w1 w2 w3 w4 w5 m r m' h
  unfold f_Land_shorten_11 at h
  cases h
  exact m_R_vret (by decide) (m_opb_of (ins := .return_) (len := 1) (tag := 3) (a := 0) (b := 0) (c := 0) (q := 0) (by decide +kernel))
def f_Land_shorten_49 (F : Nat)    (m : mM) : Option (Unit × mM) := some ((), m)
theorem ok_Land_shorten_49 (X : mX) (d F : Nat) : ∀  (w0 : Option Value) (w1 : Option Value) (w2 : Option Value) (w3 : Option Value) (w4 : Option Value) (w5 : Option Value) (m : mM) (r : Unit) (m' : mM), f_Land_shorten_49 F  m = some (r, m') → m_R X (d + 0) 18 49 [w0, w1, w2, w3, w4, w5] [] (SH, m) (none, (SH, m')) := by
  intro w0 w1 w2 w3 w4 w5 m r m' h
  unfold f_Land_shorten_49 at h
  cases h
  exact m_R_vret (by decide) (m_opb_of (ins := .return_) (len := 1) (tag := 3) (a := 0) (b := 0) (c := 0) (q := 0) (by decide +kernel))
def f_Land_shorten_41 (F : Nat)   (v1 : Int32) (v5 : Int32) (m : mM) : Option (Unit × mM) := (if v1 < 0 ∨ 64 ≤ v1.toNatClampNeg then none else f_Land_shorten_49 F ((m_up m.1 18 v1.toNatClampNeg v5), m.2))
theorem ok_Land_shorten_41 (X : mX) (d F : Nat) : ∀ (v1 : Int32) (v5 : Int32) (w2 : Option Value) (w3 : Option Value) (w4 : Option Value) (m : mM) (r : Unit) (m' : mM), f_Land_shorten_41 F v1 v5 m = some (r, m') → m_R X (d + 0) 18 41 [some (.ref 17), some (.int v1), w2, w3, w4, some (.int v5)] [] (SH, m) (none, (SH, m')) := by
  intro v1 v5 w2 w3 w4 m r m' h
  unfold f_Land_shorten_41 at h
  refine m_R_sg (by decide) [(.aload_n 0, 1, 0, 0, 0, 0, 0), (.getfield 9, 3, 0, 2, 0, 3, 231), (.iload_n 1, 1, 0, 1, 0, 0, 0), (.iload 5, 2, 0, 5, 0, 0, 0)] (by decide +kernel) (show m_sgl X _ _ _ _ _ = some (48, [some (.ref 17), some (.int v1), w2, w3, w4, some (.int v5)], [.int v5, .int v1, .ref 18], (SH, m.1, m.2)) from rfl) ?_
  obtain ⟨c8, h⟩ := m_ite_n h
  refine m_R_1 (by decide) (m_opb_of (ins := .iastore) (len := 1) (tag := 0) (a := 0) (b := 0) (c := 0) (q := 0) (by decide +kernel)) (m_s_iast sh_18 c8) ?_
  exact ok_Land_shorten_49 X d F _ _ _ _ _ _ _ _ _ h
def f_Land_shorten (F : Nat)   (v1 : Int32) (v2 : Int32) (v3 : Int32) (v4 : Int32) (m : mM) : Option (Unit × mM) := (if v2 = (-1 : Int32) then f_Land_shorten_11 F m else (if v4 = (-1 : Int32) then f_Land_shorten_11 F m else (if v1 < 0 ∨ 64 ≤ v1.toNatClampNeg then none else (if (m.1 18 v1.toNatClampNeg) = (-1 : Int32) then f_Land_shorten_41 F v1 ((v2 + v3) + v4) m else (if (m.1 18 v1.toNatClampNeg) ≤ ((v2 + v3) + v4) then f_Land_shorten_49 F m else f_Land_shorten_41 F v1 ((v2 + v3) + v4) m)))))
theorem ok_Land_shorten (X : mX) (d F : Nat) : ∀ (v1 : Int32) (v2 : Int32) (v3 : Int32) (v4 : Int32)  (m : mM) (r : Unit) (m' : mM), f_Land_shorten F v1 v2 v3 v4 m = some (r, m') → m_R X (d + 0) 18 0 [some (.ref 17), some (.int v1), some (.int v2), some (.int v3), some (.int v4), none] [] (SH, m) (none, (SH, m')) := by
  intro v1 v2 v3 v4 m r m' h
  unfold f_Land_shorten at h
  refine m_R_sg (by decide) [(.iload_n 2, 1, 0, 2, 0, 0, 0), (.iconst (-1), 1, 0, 1, 1, 0, 0)] (by decide +kernel) (show m_sgl X _ _ _ _ _ = some (2, [some (.ref 17), some (.int v1), some (.int v2), some (.int v3), some (.int v4), none], [.int (-1 : Int32), .int v2], (SH, m.1, m.2)) from rfl) ?_
  rcases m_ite h with ⟨c9, h⟩ | ⟨c9, h⟩
  · refine m_R_1 (by decide) (m_opb_of (ins := .if_icmp .eq 9) (len := 3) (tag := 0) (a := 11) (b := 0) (c := 0) (q := 0) (by decide +kernel)) (if_pos c9) ?_
    exact ok_Land_shorten_11 X d F _ _ _ _ _ _ _ _ _ h
  · refine m_R_1 (by decide) (m_opb_of (ins := .if_icmp .eq 9) (len := 3) (tag := 0) (a := 11) (b := 0) (c := 0) (q := 0) (by decide +kernel)) (if_neg c9) ?_
    refine m_R_sg (by decide) [(.iload 4, 2, 0, 4, 0, 0, 0), (.iconst (-1), 1, 0, 1, 1, 0, 0)] (by decide +kernel) (show m_sgl X _ _ _ _ _ = some (8, [some (.ref 17), some (.int v1), some (.int v2), some (.int v3), some (.int v4), none], [.int (-1 : Int32), .int v4], (SH, m.1, m.2)) from rfl) ?_
    rcases m_ite h with ⟨c10, h⟩ | ⟨c10, h⟩
    · refine m_R_1 (by decide) (m_opb_of (ins := .if_icmp .ne 4) (len := 3) (tag := 0) (a := 12) (b := 0) (c := 0) (q := 0) (by decide +kernel)) (if_pos c10) ?_
      exact ok_Land_shorten_11 X d F _ _ _ _ _ _ _ _ _ h
    · refine m_R_1 (by decide) (m_opb_of (ins := .if_icmp .ne 4) (len := 3) (tag := 0) (a := 12) (b := 0) (c := 0) (q := 0) (by decide +kernel)) (if_neg c10) ?_
      refine m_R_sg (by decide) [(.iload_n 2, 1, 0, 2, 0, 0, 0), (.iload_n 3, 1, 0, 3, 0, 0, 0), (.iadd, 1, 0, 0, 0, 0, 0), (.iload 4, 2, 0, 4, 0, 0, 0), (.iadd, 1, 0, 0, 0, 0, 0), (.istore 5, 2, 0, 5, 0, 0, 0), (.aload_n 0, 1, 0, 0, 0, 0, 0), (.getfield 9, 3, 0, 2, 0, 3, 231), (.iload_n 1, 1, 0, 1, 0, 0, 0)] (by decide +kernel) (show m_sgl X _ _ _ _ _ = some (25, [some (.ref 17), some (.int v1), some (.int v2), some (.int v3), some (.int v4), some (.int ((v2 + v3) + v4))], [.int v1, .ref 18], (SH, m.1, m.2)) from rfl) ?_
      obtain ⟨c11, h⟩ := m_ite_n h
      refine m_R_1 (by decide) (m_opb_of (ins := .iaload) (len := 1) (tag := 0) (a := 0) (b := 0) (c := 0) (q := 0) (by decide +kernel)) (m_s_iald sh_18 (by decide) c11) ?_
      refine m_R_sg (by decide) [(.iconst (-1), 1, 0, 1, 1, 0, 0)] (by decide +kernel) (show m_sgl X _ _ _ _ _ = some (27, [some (.ref 17), some (.int v1), some (.int v2), some (.int v3), some (.int v4), some (.int ((v2 + v3) + v4))], [.int (-1 : Int32), .int (m.1 18 v1.toNatClampNeg)], (SH, m.1, m.2)) from rfl) ?_
      rcases m_ite h with ⟨c12, h⟩ | ⟨c12, h⟩
      · refine m_R_1 (by decide) (m_opb_of (ins := .if_icmp .eq 14) (len := 3) (tag := 0) (a := 41) (b := 0) (c := 0) (q := 0) (by decide +kernel)) (if_pos c12) ?_
        exact ok_Land_shorten_41 X d F _ _ _ _ _ _ _ _ h
      · refine m_R_1 (by decide) (m_opb_of (ins := .if_icmp .eq 14) (len := 3) (tag := 0) (a := 41) (b := 0) (c := 0) (q := 0) (by decide +kernel)) (if_neg c12) ?_
        refine m_R_sg (by decide) [(.iload 5, 2, 0, 5, 0, 0, 0), (.aload_n 0, 1, 0, 0, 0, 0, 0), (.getfield 9, 3, 0, 2, 0, 3, 231), (.iload_n 1, 1, 0, 1, 0, 0, 0)] (by decide +kernel) (show m_sgl X _ _ _ _ _ = some (37, [some (.ref 17), some (.int v1), some (.int v2), some (.int v3), some (.int v4), some (.int ((v2 + v3) + v4))], [.int v1, .ref 18, .int ((v2 + v3) + v4)], (SH, m.1, m.2)) from rfl) ?_
        refine m_R_1 (by decide) (m_opb_of (ins := .iaload) (len := 1) (tag := 0) (a := 0) (b := 0) (c := 0) (q := 0) (by decide +kernel)) (m_s_iald sh_18 (by decide) c11) ?_
        rcases m_ite h with ⟨c13, h⟩ | ⟨c13, h⟩
        · refine m_R_1 (by decide) (m_opb_of (ins := .if_icmp .ge 11) (len := 3) (tag := 0) (a := 49) (b := 0) (c := 0) (q := 0) (by decide +kernel)) (if_pos c13) ?_
          exact ok_Land_shorten_49 X d F _ _ _ _ _ _ _ _ _ h
        · refine m_R_1 (by decide) (m_opb_of (ins := .if_icmp .ge 11) (len := 3) (tag := 0) (a := 49) (b := 0) (c := 0) (q := 0) (by decide +kernel)) (if_neg c13) ?_
          exact ok_Land_shorten_41 X d F _ _ _ _ _ _ _ _ h
def f_Land_addRoad_23 (F : Nat)  (k13 : Int32 → Int32 → Int32 → Int32 → mM → Option (Unit × mM)) : Nat → Int32 → Int32 → Int32 → Int32 → Int32 → mM → Option (Unit × mM)
  | 0, _, _, _, _, _, _ => none
  | n + 1, v1, v2, v3, v4, v5, m => (if (8 : Int32) ≤ v5 then k13 v1 v2 v3 (v4 + (1 : Int32)) m else (if ((v4 * (8 : Int32)) + v1) < 0 ∨ 64 ≤ ((v4 * (8 : Int32)) + v1).toNatClampNeg then none else (if ((v2 * (8 : Int32)) + v5) < 0 ∨ 64 ≤ ((v2 * (8 : Int32)) + v5).toNatClampNeg then none else ((f_Land_shorten F ((v4 * (8 : Int32)) + v5) (m.1 18 ((v4 * (8 : Int32)) + v1).toNatClampNeg) v3 (m.1 18 ((v2 * (8 : Int32)) + v5).toNatClampNeg) m).bind fun q1 => (if ((v4 * (8 : Int32)) + v2) < 0 ∨ 64 ≤ ((v4 * (8 : Int32)) + v2).toNatClampNeg then none else (if ((v1 * (8 : Int32)) + v5) < 0 ∨ 64 ≤ ((v1 * (8 : Int32)) + v5).toNatClampNeg then none else ((f_Land_shorten F ((v4 * (8 : Int32)) + v5) (q1.2.1 18 ((v4 * (8 : Int32)) + v2).toNatClampNeg) v3 (q1.2.1 18 ((v1 * (8 : Int32)) + v5).toNatClampNeg) q1.2).bind fun q2 => f_Land_addRoad_23 F k13 n v1 v2 v3 v4 (v5 + (1 : Int32)) q2.2)))))))
theorem ok_Land_addRoad_23 (X : mX) (d F : Nat) (k13 : Int32 → Int32 → Int32 → Int32 → mM → Option (Unit × mM)) (hk13 : ∀ (v1 : Int32) (v2 : Int32) (v3 : Int32) (v4 : Int32) (w5 : Option Value) (m : mM) (r : Unit) (m' : mM), k13 v1 v2 v3 v4 m = some (r, m') → m_R X (d + 1) 17 13 [some (.ref 17), some (.int v1), some (.int v2), some (.int v3), some (.int v4), w5] [] (SH, m) (none, (SH, m'))) : ∀ (n : Nat) (v1 : Int32) (v2 : Int32) (v3 : Int32) (v4 : Int32) (v5 : Int32)  (m : mM) (r : Unit) (m' : mM), f_Land_addRoad_23 F k13 n v1 v2 v3 v4 v5 m = some (r, m') → m_R X (d + 1) 17 23 [some (.ref 17), some (.int v1), some (.int v2), some (.int v3), some (.int v4), some (.int v5)] [] (SH, m) (none, (SH, m')) := by
  intro n
  induction n with
  | zero => intro v1 v2 v3 v4 v5 m r m' h; cases h
  | succ n ih =>
    intro v1 v2 v3 v4 v5 m r m' h
    simp only [f_Land_addRoad_23] at h
    refine m_R_sg (by decide) [(.iload 5, 2, 0, 5, 0, 0, 0), (.bipush 8, 2, 0, 8, 0, 0, 0)] (by decide +kernel) (show m_sgl X _ _ _ _ _ = some (27, [some (.ref 17), some (.int v1), some (.int v2), some (.int v3), some (.int v4), some (.int v5)], [.int (8 : Int32), .int v5], (SH, m.1, m.2)) from rfl) ?_
    rcases m_ite h with ⟨c14, h⟩ | ⟨c14, h⟩
    · refine m_R_1 (by decide) (m_opb_of (ins := .if_icmp .ge 83) (len := 3) (tag := 0) (a := 110) (b := 0) (c := 0) (q := 0) (by decide +kernel)) (if_pos c14) ?_
      refine m_R_sg (by decide) [(.iinc 4 1, 3, 0, 4, 1, 0, 0), (.goto (-100), 3, 0, 13, 0, 0, 0)] (by decide +kernel) (show m_sgl X _ _ _ _ _ = some (13, [some (.ref 17), some (.int v1), some (.int v2), some (.int v3), some (.int (v4 + (1 : Int32))), some (.int v5)], [], (SH, m.1, m.2)) from rfl) ?_
      exact hk13 _ _ _ _ _ _ _ _ h
    · refine m_R_1 (by decide) (m_opb_of (ins := .if_icmp .ge 83) (len := 3) (tag := 0) (a := 110) (b := 0) (c := 0) (q := 0) (by decide +kernel)) (if_neg c14) ?_
      refine m_R_sg (by decide) [(.aload_n 0, 1, 0, 0, 0, 0, 0), (.iload 4, 2, 0, 4, 0, 0, 0), (.bipush 8, 2, 0, 8, 0, 0, 0), (.imul, 1, 0, 0, 0, 0, 0), (.iload 5, 2, 0, 5, 0, 0, 0), (.iadd, 1, 0, 0, 0, 0, 0), (.aload_n 0, 1, 0, 0, 0, 0, 0), (.getfield 9, 3, 0, 2, 0, 3, 231), (.iload 4, 2, 0, 4, 0, 0, 0), (.bipush 8, 2, 0, 8, 0, 0, 0), (.imul, 1, 0, 0, 0, 0, 0), (.iload_n 1, 1, 0, 1, 0, 0, 0), (.iadd, 1, 0, 0, 0, 0, 0)] (by decide +kernel) (show m_sgl X _ _ _ _ _ = some (50, [some (.ref 17), some (.int v1), some (.int v2), some (.int v3), some (.int v4), some (.int v5)], [.int ((v4 * (8 : Int32)) + v1), .ref 18, .int ((v4 * (8 : Int32)) + v5), .ref 17], (SH, m.1, m.2)) from rfl) ?_
      obtain ⟨c15, h⟩ := m_ite_n h
      refine m_R_1 (by decide) (m_opb_of (ins := .iaload) (len := 1) (tag := 0) (a := 0) (b := 0) (c := 0) (q := 0) (by decide +kernel)) (m_s_iald sh_18 (by decide) c15) ?_
      refine m_R_sg (by decide) [(.iload_n 3, 1, 0, 3, 0, 0, 0), (.aload_n 0, 1, 0, 0, 0, 0, 0), (.getfield 9, 3, 0, 2, 0, 3, 231), (.iload_n 2, 1, 0, 2, 0, 0, 0), (.bipush 8, 2, 0, 8, 0, 0, 0), (.imul, 1, 0, 0, 0, 0, 0), (.iload 5, 2, 0, 5, 0, 0, 0), (.iadd, 1, 0, 0, 0, 0, 0)] (by decide +kernel) (show m_sgl X _ _ _ _ _ = some (63, [some (.ref 17), some (.int v1), some (.int v2), some (.int v3), some (.int v4), some (.int v5)], [.int ((v2 * (8 : Int32)) + v5), .ref 18, .int v3, .int (m.1 18 ((v4 * (8 : Int32)) + v1).toNatClampNeg), .int ((v4 * (8 : Int32)) + v5), .ref 17], (SH, m.1, m.2)) from rfl) ?_
      obtain ⟨c16, h⟩ := m_ite_n h
      refine m_R_1 (by decide) (m_opb_of (ins := .iaload) (len := 1) (tag := 0) (a := 0) (b := 0) (c := 0) (q := 0) (by decide +kernel)) (m_s_iald sh_18 (by decide) c16) ?_
      obtain ⟨q1, hc1, h⟩ := Option.bind_eq_some_iff.mp h
      refine m_R_cV (v := none) (h1 := (SH, q1.2)) (rest := []) (lo' := [some (.ref 17), some (.int ((v4 * (8 : Int32)) + v5)), some (.int (m.1 18 ((v4 * (8 : Int32)) + v1).toNatClampNeg)), some (.int v3), some (.int (m.1 18 ((v2 * (8 : Int32)) + v5).toNatClampNeg)), none]) (ml := 6) (k0 := 17) (by decide) (Or.inl rfl) (m_opb_of (ins := .invokevirtual 30) (len := 3) (tag := 5) (a := 18) (b := 4) (c := 0) (q := 687) (by decide +kernel)) (by decide +kernel) rfl (show m_isO 18 17 (SH, _) = true from m_isO_of (by decide +kernel)) (Nat.le_of_ble_eq_true rfl) rfl rfl (ok_Land_shorten X (d + 0) F _ _ _ _ _ _ _ hc1) ?_
      refine m_R_sg (by decide) [(.aload_n 0, 1, 0, 0, 0, 0, 0), (.iload 4, 2, 0, 4, 0, 0, 0), (.bipush 8, 2, 0, 8, 0, 0, 0), (.imul, 1, 0, 0, 0, 0, 0), (.iload 5, 2, 0, 5, 0, 0, 0), (.iadd, 1, 0, 0, 0, 0, 0), (.aload_n 0, 1, 0, 0, 0, 0, 0), (.getfield 9, 3, 0, 2, 0, 3, 231), (.iload 4, 2, 0, 4, 0, 0, 0), (.bipush 8, 2, 0, 8, 0, 0, 0), (.imul, 1, 0, 0, 0, 0, 0), (.iload_n 2, 1, 0, 2, 0, 0, 0), (.iadd, 1, 0, 0, 0, 0, 0)] (by decide +kernel) (show m_sgl X _ _ _ _ _ = some (87, [some (.ref 17), some (.int v1), some (.int v2), some (.int v3), some (.int v4), some (.int v5)], [.int ((v4 * (8 : Int32)) + v2), .ref 18, .int ((v4 * (8 : Int32)) + v5), .ref 17], (SH, q1.2.1, q1.2.2)) from rfl) ?_
      obtain ⟨c17, h⟩ := m_ite_n h
      refine m_R_1 (by decide) (m_opb_of (ins := .iaload) (len := 1) (tag := 0) (a := 0) (b := 0) (c := 0) (q := 0) (by decide +kernel)) (m_s_iald sh_18 (by decide) c17) ?_
      refine m_R_sg (by decide) [(.iload_n 3, 1, 0, 3, 0, 0, 0), (.aload_n 0, 1, 0, 0, 0, 0, 0), (.getfield 9, 3, 0, 2, 0, 3, 231), (.iload_n 1, 1, 0, 1, 0, 0, 0), (.bipush 8, 2, 0, 8, 0, 0, 0), (.imul, 1, 0, 0, 0, 0, 0), (.iload 5, 2, 0, 5, 0, 0, 0), (.iadd, 1, 0, 0, 0, 0, 0)] (by decide +kernel) (show m_sgl X _ _ _ _ _ = some (100, [some (.ref 17), some (.int v1), some (.int v2), some (.int v3), some (.int v4), some (.int v5)], [.int ((v1 * (8 : Int32)) + v5), .ref 18, .int v3, .int (q1.2.1 18 ((v4 * (8 : Int32)) + v2).toNatClampNeg), .int ((v4 * (8 : Int32)) + v5), .ref 17], (SH, q1.2.1, q1.2.2)) from rfl) ?_
      obtain ⟨c18, h⟩ := m_ite_n h
      refine m_R_1 (by decide) (m_opb_of (ins := .iaload) (len := 1) (tag := 0) (a := 0) (b := 0) (c := 0) (q := 0) (by decide +kernel)) (m_s_iald sh_18 (by decide) c18) ?_
      obtain ⟨q2, hc2, h⟩ := Option.bind_eq_some_iff.mp h
      refine m_R_cV (v := none) (h1 := (SH, q2.2)) (rest := []) (lo' := [some (.ref 17), some (.int ((v4 * (8 : Int32)) + v5)), some (.int (q1.2.1 18 ((v4 * (8 : Int32)) + v2).toNatClampNeg)), some (.int v3), some (.int (q1.2.1 18 ((v1 * (8 : Int32)) + v5).toNatClampNeg)), none]) (ml := 6) (k0 := 17) (by decide) (Or.inl rfl) (m_opb_of (ins := .invokevirtual 30) (len := 3) (tag := 5) (a := 18) (b := 4) (c := 0) (q := 687) (by decide +kernel)) (by decide +kernel) rfl (show m_isO 18 17 (SH, _) = true from m_isO_of (by decide +kernel)) (Nat.le_of_ble_eq_true rfl) rfl rfl (ok_Land_shorten X (d + 0) F _ _ _ _ _ _ _ hc2) ?_
      refine m_R_sg (by decide) [(.iinc 5 1, 3, 0, 5, 1, 0, 0), (.goto (-84), 3, 0, 23, 0, 0, 0)] (by decide +kernel) (show m_sgl X _ _ _ _ _ = some (23, [some (.ref 17), some (.int v1), some (.int v2), some (.int v3), some (.int v4), some (.int (v5 + (1 : Int32)))], [], (SH, q2.2.1, q2.2.2)) from rfl) ?_
      exact ih _ _ _ _ _ _ _ _ h
def f_Land_addRoad_13 (F : Nat)   : Nat → Int32 → Int32 → Int32 → Int32 → mM → Option (Unit × mM)
  | 0, _, _, _, _, _ => none
  | n + 1, v1, v2, v3, v4, m => (if (8 : Int32) ≤ v4 then some ((), m) else f_Land_addRoad_23 F (f_Land_addRoad_13 F n) F v1 v2 v3 v4 (0 : Int32) m)
theorem ok_Land_addRoad_13 (X : mX) (d F : Nat) : ∀ (n : Nat) (v1 : Int32) (v2 : Int32) (v3 : Int32) (v4 : Int32) (w5 : Option Value) (m : mM) (r : Unit) (m' : mM), f_Land_addRoad_13 F n v1 v2 v3 v4 m = some (r, m') → m_R X (d + 1) 17 13 [some (.ref 17), some (.int v1), some (.int v2), some (.int v3), some (.int v4), w5] [] (SH, m) (none, (SH, m')) := by
  intro n
  induction n with
  | zero => intro v1 v2 v3 v4 w5 m r m' h; cases h
  | succ n ih =>
    intro v1 v2 v3 v4 w5 m r m' h
    simp only [f_Land_addRoad_13] at h
    refine m_R_sg (by decide) [(.iload 4, 2, 0, 4, 0, 0, 0), (.bipush 8, 2, 0, 8, 0, 0, 0)] (by decide +kernel) (show m_sgl X _ _ _ _ _ = some (17, [some (.ref 17), some (.int v1), some (.int v2), some (.int v3), some (.int v4), w5], [.int (8 : Int32), .int v4], (SH, m.1, m.2)) from rfl) ?_
    rcases m_ite h with ⟨c19, h⟩ | ⟨c19, h⟩
    · refine m_R_1 (by decide) (m_opb_of (ins := .if_icmp .ge 99) (len := 3) (tag := 0) (a := 116) (b := 0) (c := 0) (q := 0) (by decide +kernel)) (if_pos c19) ?_
      cases h
      exact m_R_vret (by decide) (m_opb_of (ins := .return_) (len := 1) (tag := 3) (a := 0) (b := 0) (c := 0) (q := 0) (by decide +kernel))
    · refine m_R_1 (by decide) (m_opb_of (ins := .if_icmp .ge 99) (len := 3) (tag := 0) (a := 116) (b := 0) (c := 0) (q := 0) (by decide +kernel)) (if_neg c19) ?_
      refine m_R_sg (by decide) [(.iconst 0, 1, 0, 0, 0, 0, 0), (.istore 5, 2, 0, 5, 0, 0, 0)] (by decide +kernel) (show m_sgl X _ _ _ _ _ = some (23, [some (.ref 17), some (.int v1), some (.int v2), some (.int v3), some (.int v4), some (.int (0 : Int32))], [], (SH, m.1, m.2)) from rfl) ?_
      exact ok_Land_addRoad_23 X d F _ (fun a0 a1 a2 a3 a4 m r m' h => ih a0 a1 a2 a3 a4 m r m' h) F _ _ _ _ _ _ _ _ h
def f_Land_addRoad (F : Nat)   (v1 : Int32) (v2 : Int32) (v3 : Int32) (m : mM) : Option (Unit × mM) := f_Land_addRoad_13 F F v1 v2 v3 (0 : Int32) ((m_up m.1 17 2 ((m.1 17 2) + (1 : Int32))), m.2)
theorem ok_Land_addRoad (X : mX) (d F : Nat) : ∀ (v1 : Int32) (v2 : Int32) (v3 : Int32)  (m : mM) (r : Unit) (m' : mM), f_Land_addRoad F v1 v2 v3 m = some (r, m') → m_R X (d + 1) 17 0 [some (.ref 17), some (.int v1), some (.int v2), some (.int v3), none, none] [] (SH, m) (none, (SH, m')) := by
  intro v1 v2 v3 m r m' h
  unfold f_Land_addRoad at h
  refine m_R_sg (by decide) [(.aload_n 0, 1, 0, 0, 0, 0, 0), (.dup, 1, 0, 0, 0, 0, 0), (.getfield 23, 3, 0, 2, 2, 0, 234), (.iconst 1, 1, 0, 1, 0, 0, 0), (.iadd, 1, 0, 0, 0, 0, 0), (.putfield 23, 3, 0, 2, 2, 0, 234), (.iconst 0, 1, 0, 0, 0, 0, 0), (.istore 4, 2, 0, 4, 0, 0, 0)] (by decide +kernel) (show m_sgl X _ _ _ _ _ = some (13, [some (.ref 17), some (.int v1), some (.int v2), some (.int v3), some (.int (0 : Int32)), none], [], (SH, (m_up m.1 17 2 ((m.1 17 2) + (1 : Int32))), m.2)) from rfl) ?_
  exact ok_Land_addRoad_13 X d F F _ _ _ _ _ _ _ _ h
def f_x_road_27 (F : Nat)    (m : mM) : Option (Int32 × mM) := ((f_x_refuse F (-3 : Int32) m).bind fun q5 => some (q5.1, q5.2))
theorem ok_x_road_27 (X : mX) (d F : Nat) : ∀  (w1 : Option Value) (w2 : Option Value) (w3 : Option Value) (w4 : Option Value) (m : mM) (r : Int32) (m' : mM), f_x_road_27 F  m = some (r, m') → m_R X (d + 2) 15 27 [some (.ref 0), w1, w2, w3, w4] [] (SH, m) (some (.int r), (SH, m')) := by
  intro w1 w2 w3 w4 m r m' h
  unfold f_x_road_27 at h
  refine m_R_sg (by decide) [(.aload_n 0, 1, 0, 0, 0, 0, 0), (.bipush (-3), 2, 0, 3, 1, 0, 0)] (by decide +kernel) (show m_sgl X _ _ _ _ _ = some (30, [some (.ref 0), w1, w2, w3, w4], [.int (-3 : Int32), .ref 0], (SH, m.1, m.2)) from rfl) ?_
  obtain ⟨q5, hc5, h⟩ := Option.bind_eq_some_iff.mp h
  refine m_R_cV (v := (some (.int q5.1))) (h1 := (SH, q5.2)) (rest := []) (lo' := [some (.ref 0), some (.int (-3 : Int32))]) (ml := 2) (k0 := 0) (by decide) (Or.inl rfl) (m_opb_of (ins := .invokevirtual 76) (len := 3) (tag := 5) (a := 14) (b := 1) (c := 0) (q := 671) (by decide +kernel)) (by decide +kernel) rfl (show m_isO 14 0 (SH, _) = true from m_isO_of (by decide +kernel)) (Nat.le_of_ble_eq_true rfl) rfl rfl (ok_x_refuse X (d + 1) F _ _ _ _ hc5) ?_
  cases h
  exact m_R_iret (by decide) (m_opb_of (ins := .ireturn) (len := 1) (tag := 1) (a := 0) (b := 0) (c := 0) (q := 0) (by decide +kernel)) (Or.inl rfl)
def f_x_road_50 (F : Nat)    (m : mM) : Option (Int32 × mM) := ((f_x_refuse F (-7 : Int32) m).bind fun q6 => some (q6.1, q6.2))
theorem ok_x_road_50 (X : mX) (d F : Nat) : ∀  (w1 : Option Value) (w2 : Option Value) (w3 : Option Value) (w4 : Option Value) (m : mM) (r : Int32) (m' : mM), f_x_road_50 F  m = some (r, m') → m_R X (d + 2) 15 50 [some (.ref 0), w1, w2, w3, w4] [] (SH, m) (some (.int r), (SH, m')) := by
  intro w1 w2 w3 w4 m r m' h
  unfold f_x_road_50 at h
  refine m_R_sg (by decide) [(.aload_n 0, 1, 0, 0, 0, 0, 0), (.bipush (-7), 2, 0, 7, 1, 0, 0)] (by decide +kernel) (show m_sgl X _ _ _ _ _ = some (53, [some (.ref 0), w1, w2, w3, w4], [.int (-7 : Int32), .ref 0], (SH, m.1, m.2)) from rfl) ?_
  obtain ⟨q6, hc6, h⟩ := Option.bind_eq_some_iff.mp h
  refine m_R_cV (v := (some (.int q6.1))) (h1 := (SH, q6.2)) (rest := []) (lo' := [some (.ref 0), some (.int (-7 : Int32))]) (ml := 2) (k0 := 0) (by decide) (Or.inl rfl) (m_opb_of (ins := .invokevirtual 76) (len := 3) (tag := 5) (a := 14) (b := 1) (c := 0) (q := 671) (by decide +kernel)) (by decide +kernel) rfl (show m_isO 14 0 (SH, _) = true from m_isO_of (by decide +kernel)) (Nat.le_of_ble_eq_true rfl) rfl rfl (ok_x_refuse X (d + 1) F _ _ _ _ hc6) ?_
  cases h
  exact m_R_iret (by decide) (m_opb_of (ins := .ireturn) (len := 1) (tag := 1) (a := 0) (b := 0) (c := 0) (q := 0) (by decide +kernel)) (Or.inl rfl)
def f_x_road (F : Nat)   (v1 : Int32) (v2 : Int32) (v3 : Int32) (m : mM) : Option (Int32 × mM) := ((f_Land_isTown F v1 m).bind fun q1 => (if q1.1 = 0 then f_x_road_27 F q1.2 else ((f_Land_isTown F v2 q1.2).bind fun q2 => (if q2.1 = 0 then f_x_road_27 F q2.2 else (if v1 = v2 then f_x_road_50 F q2.2 else (if v3 < (1 : Int32) then f_x_road_50 F q2.2 else (if v3 ≤ (30 : Int32) then (if (q2.2.1 17 2) < (16 : Int32) then ((f_Land_addRoad F v1 v2 v3 q2.2).bind fun q3 => some ((q3.2.1 17 2), q3.2)) else ((f_x_refuse F (-8 : Int32) q2.2).bind fun q4 => some (q4.1, q4.2))) else f_x_road_50 F q2.2)))))))
theorem ok_x_road (X : mX) (d F : Nat) : ∀ (v1 : Int32) (v2 : Int32) (v3 : Int32)  (m : mM) (r : Int32) (m' : mM), f_x_road F v1 v2 v3 m = some (r, m') → m_R X (d + 2) 15 0 [some (.ref 0), some (.int v1), some (.int v2), some (.int v3), none] [] (SH, m) (some (.int r), (SH, m')) := by
  intro v1 v2 v3 m r m' h
  unfold f_x_road at h
  refine m_R_sg (by decide) [(.aload_n 0, 1, 0, 0, 0, 0, 0), (.getfield 28, 3, 0, 11, 2, 3, 632), (.getfield 67, 3, 0, 10, 0, 3, 504), (.astore 4, 2, 0, 4, 0, 0, 0), (.aload 4, 2, 0, 4, 0, 0, 0), (.iload_n 1, 1, 0, 1, 0, 0, 0)] (by decide +kernel) (show m_sgl X _ _ _ _ _ = some (12, [some (.ref 0), some (.int v1), some (.int v2), some (.int v3), some (.ref 17)], [.int v1, .ref 17], (SH, m.1, m.2)) from rfl) ?_
  obtain ⟨q1, hc1, h⟩ := Option.bind_eq_some_iff.mp h
  refine m_R_cV (v := (some (.int q1.1))) (h1 := (SH, q1.2)) (rest := []) (lo' := [some (.ref 17), some (.int v1)]) (ml := 2) (k0 := 17) (by decide) (Or.inl rfl) (m_opb_of (ins := .invokevirtual 80) (len := 3) (tag := 5) (a := 16) (b := 1) (c := 0) (q := 679) (by decide +kernel)) (by decide +kernel) rfl (show m_isO 16 17 (SH, _) = true from m_isO_of (by decide +kernel)) (Nat.le_of_ble_eq_true rfl) rfl rfl (ok_Land_isTown X (d + 1) F _ _ _ _ hc1) ?_
  rcases m_ite h with ⟨c20, h⟩ | ⟨c20, h⟩
  · refine m_R_1 (by decide) (m_opb_of (ins := .ifCond .eq 12) (len := 3) (tag := 0) (a := 27) (b := 0) (c := 0) (q := 0) (by decide +kernel)) (if_pos c20) ?_
    exact ok_x_road_27 X d F _ _ _ _ _ _ _ h
  · refine m_R_1 (by decide) (m_opb_of (ins := .ifCond .eq 12) (len := 3) (tag := 0) (a := 27) (b := 0) (c := 0) (q := 0) (by decide +kernel)) (if_neg c20) ?_
    refine m_R_sg (by decide) [(.aload 4, 2, 0, 4, 0, 0, 0), (.iload_n 2, 1, 0, 2, 0, 0, 0)] (by decide +kernel) (show m_sgl X _ _ _ _ _ = some (21, [some (.ref 0), some (.int v1), some (.int v2), some (.int v3), some (.ref 17)], [.int v2, .ref 17], (SH, q1.2.1, q1.2.2)) from rfl) ?_
    obtain ⟨q2, hc2, h⟩ := Option.bind_eq_some_iff.mp h
    refine m_R_cV (v := (some (.int q2.1))) (h1 := (SH, q2.2)) (rest := []) (lo' := [some (.ref 17), some (.int v2)]) (ml := 2) (k0 := 17) (by decide) (Or.inl rfl) (m_opb_of (ins := .invokevirtual 80) (len := 3) (tag := 5) (a := 16) (b := 1) (c := 0) (q := 679) (by decide +kernel)) (by decide +kernel) rfl (show m_isO 16 17 (SH, _) = true from m_isO_of (by decide +kernel)) (Nat.le_of_ble_eq_true rfl) rfl rfl (ok_Land_isTown X (d + 1) F _ _ _ _ hc2) ?_
    rcases m_ite h with ⟨c21, h⟩ | ⟨c21, h⟩
    · refine m_R_1 (by decide) (m_opb_of (ins := .ifCond .ne 10) (len := 3) (tag := 0) (a := 34) (b := 0) (c := 0) (q := 0) (by decide +kernel)) (if_pos c21) ?_
      exact ok_x_road_27 X d F _ _ _ _ _ _ _ h
    · refine m_R_1 (by decide) (m_opb_of (ins := .ifCond .ne 10) (len := 3) (tag := 0) (a := 34) (b := 0) (c := 0) (q := 0) (by decide +kernel)) (if_neg c21) ?_
      refine m_R_sg (by decide) [(.iload_n 1, 1, 0, 1, 0, 0, 0), (.iload_n 2, 1, 0, 2, 0, 0, 0)] (by decide +kernel) (show m_sgl X _ _ _ _ _ = some (36, [some (.ref 0), some (.int v1), some (.int v2), some (.int v3), some (.ref 17)], [.int v2, .int v1], (SH, q2.2.1, q2.2.2)) from rfl) ?_
      rcases m_ite h with ⟨c22, h⟩ | ⟨c22, h⟩
      · refine m_R_1 (by decide) (m_opb_of (ins := .if_icmp .eq 14) (len := 3) (tag := 0) (a := 50) (b := 0) (c := 0) (q := 0) (by decide +kernel)) (if_pos c22) ?_
        exact ok_x_road_50 X d F _ _ _ _ _ _ _ h
      · refine m_R_1 (by decide) (m_opb_of (ins := .if_icmp .eq 14) (len := 3) (tag := 0) (a := 50) (b := 0) (c := 0) (q := 0) (by decide +kernel)) (if_neg c22) ?_
        refine m_R_sg (by decide) [(.iload_n 3, 1, 0, 3, 0, 0, 0), (.iconst 1, 1, 0, 1, 0, 0, 0)] (by decide +kernel) (show m_sgl X _ _ _ _ _ = some (41, [some (.ref 0), some (.int v1), some (.int v2), some (.int v3), some (.ref 17)], [.int (1 : Int32), .int v3], (SH, q2.2.1, q2.2.2)) from rfl) ?_
        rcases m_ite h with ⟨c23, h⟩ | ⟨c23, h⟩
        · refine m_R_1 (by decide) (m_opb_of (ins := .if_icmp .lt 9) (len := 3) (tag := 0) (a := 50) (b := 0) (c := 0) (q := 0) (by decide +kernel)) (if_pos c23) ?_
          exact ok_x_road_50 X d F _ _ _ _ _ _ _ h
        · refine m_R_1 (by decide) (m_opb_of (ins := .if_icmp .lt 9) (len := 3) (tag := 0) (a := 50) (b := 0) (c := 0) (q := 0) (by decide +kernel)) (if_neg c23) ?_
          refine m_R_sg (by decide) [(.iload_n 3, 1, 0, 3, 0, 0, 0), (.bipush 30, 2, 0, 30, 0, 0, 0)] (by decide +kernel) (show m_sgl X _ _ _ _ _ = some (47, [some (.ref 0), some (.int v1), some (.int v2), some (.int v3), some (.ref 17)], [.int (30 : Int32), .int v3], (SH, q2.2.1, q2.2.2)) from rfl) ?_
          rcases m_ite h with ⟨c24, h⟩ | ⟨c24, h⟩
          · refine m_R_1 (by decide) (m_opb_of (ins := .if_icmp .le 10) (len := 3) (tag := 0) (a := 57) (b := 0) (c := 0) (q := 0) (by decide +kernel)) (if_pos c24) ?_
            refine m_R_sg (by decide) [(.aload 4, 2, 0, 4, 0, 0, 0), (.getfield 84, 3, 0, 2, 2, 0, 235), (.bipush 16, 2, 0, 16, 0, 0, 0)] (by decide +kernel) (show m_sgl X _ _ _ _ _ = some (64, [some (.ref 0), some (.int v1), some (.int v2), some (.int v3), some (.ref 17)], [.int (16 : Int32), .int (q2.2.1 17 2)], (SH, q2.2.1, q2.2.2)) from rfl) ?_
            rcases m_ite h with ⟨c25, h⟩ | ⟨c25, h⟩
            · refine m_R_1 (by decide) (m_opb_of (ins := .if_icmp .lt 10) (len := 3) (tag := 0) (a := 74) (b := 0) (c := 0) (q := 0) (by decide +kernel)) (if_pos c25) ?_
              refine m_R_sg (by decide) [(.aload 4, 2, 0, 4, 0, 0, 0), (.iload_n 1, 1, 0, 1, 0, 0, 0), (.iload_n 2, 1, 0, 2, 0, 0, 0), (.iload_n 3, 1, 0, 3, 0, 0, 0)] (by decide +kernel) (show m_sgl X _ _ _ _ _ = some (79, [some (.ref 0), some (.int v1), some (.int v2), some (.int v3), some (.ref 17)], [.int v3, .int v2, .int v1, .ref 17], (SH, q2.2.1, q2.2.2)) from rfl) ?_
              obtain ⟨q3, hc3, h⟩ := Option.bind_eq_some_iff.mp h
              refine m_R_cV (v := none) (h1 := (SH, q3.2)) (rest := []) (lo' := [some (.ref 17), some (.int v1), some (.int v2), some (.int v3), none, none]) (ml := 6) (k0 := 17) (by decide) (Or.inl rfl) (m_opb_of (ins := .invokevirtual 87) (len := 3) (tag := 5) (a := 17) (b := 3) (c := 0) (q := 683) (by decide +kernel)) (by decide +kernel) rfl (show m_isO 17 17 (SH, _) = true from m_isO_of (by decide +kernel)) (Nat.le_of_ble_eq_true rfl) rfl rfl (ok_Land_addRoad X (d + 0) F _ _ _ _ _ _ hc3) ?_
              refine m_R_sg (by decide) [(.aload 4, 2, 0, 4, 0, 0, 0), (.getfield 84, 3, 0, 2, 2, 0, 235)] (by decide +kernel) (show m_sgl X _ _ _ _ _ = some (87, [some (.ref 0), some (.int v1), some (.int v2), some (.int v3), some (.ref 17)], [.int (q3.2.1 17 2)], (SH, q3.2.1, q3.2.2)) from rfl) ?_
              cases h
              exact m_R_iret (by decide) (m_opb_of (ins := .ireturn) (len := 1) (tag := 1) (a := 0) (b := 0) (c := 0) (q := 0) (by decide +kernel)) (Or.inl rfl)
            · refine m_R_1 (by decide) (m_opb_of (ins := .if_icmp .lt 10) (len := 3) (tag := 0) (a := 74) (b := 0) (c := 0) (q := 0) (by decide +kernel)) (if_neg c25) ?_
              refine m_R_sg (by decide) [(.aload_n 0, 1, 0, 0, 0, 0, 0), (.bipush (-8), 2, 0, 8, 1, 0, 0)] (by decide +kernel) (show m_sgl X _ _ _ _ _ = some (70, [some (.ref 0), some (.int v1), some (.int v2), some (.int v3), some (.ref 17)], [.int (-8 : Int32), .ref 0], (SH, q2.2.1, q2.2.2)) from rfl) ?_
              obtain ⟨q4, hc4, h⟩ := Option.bind_eq_some_iff.mp h
              refine m_R_cV (v := (some (.int q4.1))) (h1 := (SH, q4.2)) (rest := []) (lo' := [some (.ref 0), some (.int (-8 : Int32))]) (ml := 2) (k0 := 0) (by decide) (Or.inl rfl) (m_opb_of (ins := .invokevirtual 76) (len := 3) (tag := 5) (a := 14) (b := 1) (c := 0) (q := 671) (by decide +kernel)) (by decide +kernel) rfl (show m_isO 14 0 (SH, _) = true from m_isO_of (by decide +kernel)) (Nat.le_of_ble_eq_true rfl) rfl rfl (ok_x_refuse X (d + 1) F _ _ _ _ hc4) ?_
              cases h
              exact m_R_iret (by decide) (m_opb_of (ins := .ireturn) (len := 1) (tag := 1) (a := 0) (b := 0) (c := 0) (q := 0) (by decide +kernel)) (Or.inl rfl)
          · refine m_R_1 (by decide) (m_opb_of (ins := .if_icmp .le 10) (len := 3) (tag := 0) (a := 57) (b := 0) (c := 0) (q := 0) (by decide +kernel)) (if_neg c24) ?_
            exact ok_x_road_50 X d F _ _ _ _ _ _ _ h
def f_m_in_15 (F : Nat)   (s0 : Int32) (m : mM) : Option (Int32 × mM) := (if s0 = 0 ∨ s0 = 1 then some (s0, m) else none)
theorem ok_m_in_15 (X : mX) (d F : Nat) : ∀ (s0 : Int32) (w0 : Option Value) (w1 : Option Value) (w2 : Option Value) (m : mM) (r : Int32) (m' : mM), f_m_in_15 F s0 m = some (r, m') → m_R X (d + 0) 201 15 [w0, w1, w2] [.int s0] (SH, m) (some (.int r), (SH, m')) := by
  intro s0 w0 w1 w2 m r m' h
  unfold f_m_in_15 at h
  obtain ⟨c0, h⟩ := m_ite_p h
  cases h
  exact m_R_iret (by decide) (m_opb_of (ins := .ireturn) (len := 1) (tag := 1) (a := 1) (b := 0) (c := 0) (q := 0) (by decide +kernel)) (Or.inr c0)
def f_m_in_14 (F : Nat)    (m : mM) : Option (Int32 × mM) := f_m_in_15 F (0 : Int32) m
theorem ok_m_in_14 (X : mX) (d F : Nat) : ∀  (w0 : Option Value) (w1 : Option Value) (w2 : Option Value) (m : mM) (r : Int32) (m' : mM), f_m_in_14 F  m = some (r, m') → m_R X (d + 0) 201 14 [w0, w1, w2] [] (SH, m) (some (.int r), (SH, m')) := by
  intro w0 w1 w2 m r m' h
  unfold f_m_in_14 at h
  refine m_R_sg (by decide) [(.iconst 0, 1, 0, 0, 0, 0, 0)] (by decide +kernel) (show m_sgl X _ _ _ _ _ = some (15, [w0, w1, w2], [.int (0 : Int32)], (SH, m.1, m.2)) from rfl) ?_
  exact ok_m_in_15 X d F _ _ _ _ _ _ _ h
def f_m_in (F : Nat)   (v0 : Int32) (v1 : Int32) (v2 : Int32) (m : mM) : Option (Int32 × mM) := (if v0 < v1 then f_m_in_14 F m else (if v2 < v0 then f_m_in_14 F m else f_m_in_15 F (1 : Int32) m))
theorem ok_m_in (X : mX) (d F : Nat) : ∀ (v0 : Int32) (v1 : Int32) (v2 : Int32)  (m : mM) (r : Int32) (m' : mM), f_m_in F v0 v1 v2 m = some (r, m') → m_R X (d + 0) 201 0 [some (.int v0), some (.int v1), some (.int v2)] [] (SH, m) (some (.int r), (SH, m')) := by
  intro v0 v1 v2 m r m' h
  unfold f_m_in at h
  refine m_R_sg (by decide) [(.iload_n 0, 1, 0, 0, 0, 0, 0), (.iload_n 1, 1, 0, 1, 0, 0, 0)] (by decide +kernel) (show m_sgl X _ _ _ _ _ = some (2, [some (.int v0), some (.int v1), some (.int v2)], [.int v1, .int v0], (SH, m.1, m.2)) from rfl) ?_
  rcases m_ite h with ⟨c26, h⟩ | ⟨c26, h⟩
  · refine m_R_1 (by decide) (m_opb_of (ins := .if_icmp .lt 12) (len := 3) (tag := 0) (a := 14) (b := 0) (c := 0) (q := 0) (by decide +kernel)) (if_pos c26) ?_
    exact ok_m_in_14 X d F _ _ _ _ _ _ h
  · refine m_R_1 (by decide) (m_opb_of (ins := .if_icmp .lt 12) (len := 3) (tag := 0) (a := 14) (b := 0) (c := 0) (q := 0) (by decide +kernel)) (if_neg c26) ?_
    refine m_R_sg (by decide) [(.iload_n 0, 1, 0, 0, 0, 0, 0), (.iload_n 2, 1, 0, 2, 0, 0, 0)] (by decide +kernel) (show m_sgl X _ _ _ _ _ = some (7, [some (.int v0), some (.int v1), some (.int v2)], [.int v2, .int v0], (SH, m.1, m.2)) from rfl) ?_
    rcases m_ite h with ⟨c27, h⟩ | ⟨c27, h⟩
    · refine m_R_1 (by decide) (m_opb_of (ins := .if_icmp .gt 7) (len := 3) (tag := 0) (a := 14) (b := 0) (c := 0) (q := 0) (by decide +kernel)) (if_pos c27) ?_
      exact ok_m_in_14 X d F _ _ _ _ _ _ h
    · refine m_R_1 (by decide) (m_opb_of (ins := .if_icmp .gt 7) (len := 3) (tag := 0) (a := 14) (b := 0) (c := 0) (q := 0) (by decide +kernel)) (if_neg c27) ?_
      refine m_R_sg (by decide) [(.iconst 1, 1, 0, 1, 0, 0, 0), (.goto 4, 3, 0, 15, 0, 0, 0)] (by decide +kernel) (show m_sgl X _ _ _ _ _ = some (15, [some (.int v0), some (.int v1), some (.int v2)], [.int (1 : Int32)], (SH, m.1, m.2)) from rfl) ?_
      exact ok_m_in_15 X d F _ _ _ _ _ _ _ h
def f_m_isTown (F : Nat)   (v1 : Int32) (m : mM) : Option (Int32 × mM) := ((f_m_in F v1 (0 : Int32) ((m.1 305 (1 : Int32).toNatClampNeg) - (1 : Int32)) m).bind fun q1 => (if q1.1 = 0 ∨ q1.1 = 1 then some (q1.1, q1.2) else none))
theorem ok_m_isTown (X : mX) (d F : Nat) : ∀ (v1 : Int32)  (m : mM) (r : Int32) (m' : mM), f_m_isTown F v1 m = some (r, m') → m_R X (d + 1) 205 0 [some (.ref 304), some (.int v1)] [] (SH, m) (some (.int r), (SH, m')) := by
  intro v1 m r m' h
  unfold f_m_isTown at h
  refine m_R_sg (by decide) [(.iload_n 1, 1, 0, 1, 0, 0, 0), (.iconst 0, 1, 0, 0, 0, 0, 0), (.aload_n 0, 1, 0, 0, 0, 0, 0), (.getfield 13, 3, 0, 12, 1, 3, 1496), (.iconst 1, 1, 0, 1, 0, 0, 0)] (by decide +kernel) (show m_sgl X _ _ _ _ _ = some (7, [some (.ref 304), some (.int v1)], [.int (1 : Int32), .ref 305, .int (0 : Int32), .int v1], (SH, m.1, m.2)) from rfl) ?_
  refine m_R_1 (by decide) (m_opb_of (ins := .iaload) (len := 1) (tag := 0) (a := 0) (b := 0) (c := 0) (q := 0) (by decide +kernel)) (m_s_iald sh_305 (by decide) (show ¬ ((1 : Int32) < 0 ∨ 9732 ≤ (1 : Int32).toNatClampNeg) by decide)) ?_
  refine m_R_sg (by decide) [(.iconst 1, 1, 0, 1, 0, 0, 0), (.isub, 1, 0, 0, 0, 0, 0)] (by decide +kernel) (show m_sgl X _ _ _ _ _ = some (10, [some (.ref 304), some (.int v1)], [.int ((m.1 305 (1 : Int32).toNatClampNeg) - (1 : Int32)), .int (0 : Int32), .int v1], (SH, m.1, m.2)) from rfl) ?_
  obtain ⟨q1, hc1, h⟩ := Option.bind_eq_some_iff.mp h
  refine m_R_cS (v := (some (.int q1.1))) (h1 := (SH, q1.2)) (rest := []) (lo' := [some (.int v1), some (.int (0 : Int32)), some (.int ((m.1 305 (1 : Int32).toNatClampNeg) - (1 : Int32)))]) (ml := 3) (by decide) (m_opb_of (ins := .invokestatic 57) (len := 3) (tag := 4) (a := 201) (b := 3) (c := 0) (q := 1593) (by decide +kernel)) (by decide +kernel) (Nat.le_of_ble_eq_true rfl) rfl (Nat.le_of_ble_eq_true rfl) rfl rfl (ok_m_in X (d + 0) F _ _ _ _ _ _ hc1) ?_
  obtain ⟨c0, h⟩ := m_ite_p h
  cases h
  exact m_R_iret (by decide) (m_opb_of (ins := .ireturn) (len := 1) (tag := 1) (a := 1) (b := 0) (c := 0) (q := 0) (by decide +kernel)) (Or.inr c0)
def f_m_measure_40 (F : Nat)  (k2 : Int32 → mM → Option (Unit × mM)) (k10 : Int32 → Int32 → mM → Option (Unit × mM)) (v1 : Int32) (v2 : Int32) (s1 : Int32) (s2 : Int32) (m : mM) : Option (Unit × mM) := (if s1 < 0 ∨ 9732 ≤ s1.toNatClampNeg then none else k10 v1 (v2 + (1 : Int32)) ((m_up m.1 305 s1.toNatClampNeg s2), m.2))
theorem ok_m_measure_40 (X : mX) (d F : Nat) (k2 : Int32 → mM → Option (Unit × mM)) (hk2 : ∀ (v1 : Int32) (w2 : Option Value) (w3 : Option Value) (w4 : Option Value) (m : mM) (r : Unit) (m' : mM), k2 v1 m = some (r, m') → m_R X (d + 0) 199 2 [some (.ref 304), some (.int v1), w2, w3, w4] [] (SH, m) (none, (SH, m'))) (k10 : Int32 → Int32 → mM → Option (Unit × mM)) (hk10 : ∀ (v1 : Int32) (v2 : Int32) (w3 : Option Value) (w4 : Option Value) (m : mM) (r : Unit) (m' : mM), k10 v1 v2 m = some (r, m') → m_R X (d + 0) 199 10 [some (.ref 304), some (.int v1), some (.int v2), w3, w4] [] (SH, m) (none, (SH, m'))) : ∀ (v1 : Int32) (v2 : Int32) (s1 : Int32) (s2 : Int32) (w3 : Option Value) (w4 : Option Value) (m : mM) (r : Unit) (m' : mM), f_m_measure_40 F k2 k10 v1 v2 s1 s2 m = some (r, m') → m_R X (d + 0) 199 40 [some (.ref 304), some (.int v1), some (.int v2), w3, w4] [.int s2, .int s1, .ref 305] (SH, m) (none, (SH, m')) := by
  intro v1 v2 s1 s2 w3 w4 m r m' h
  unfold f_m_measure_40 at h
  obtain ⟨c28, h⟩ := m_ite_n h
  refine m_R_1 (by decide) (m_opb_of (ins := .iastore) (len := 1) (tag := 0) (a := 0) (b := 0) (c := 0) (q := 0) (by decide +kernel)) (m_s_iast sh_305 c28) ?_
  refine m_R_sg (by decide) [(.iinc 2 1, 3, 0, 2, 1, 0, 0), (.goto (-34), 3, 0, 10, 0, 0, 0)] (by decide +kernel) (show m_sgl X _ _ _ _ _ = some (10, [some (.ref 304), some (.int v1), some (.int (v2 + (1 : Int32))), w3, w4], [], (SH, (m_up m.1 305 s1.toNatClampNeg s2), m.2)) from rfl) ?_
  exact hk10 _ _ _ _ _ _ _ h
def f_m_measure_10 (F : Nat)  (k2 : Int32 → mM → Option (Unit × mM)) : Nat → Int32 → Int32 → mM → Option (Unit × mM)
  | 0, _, _, _ => none
  | n + 1, v1, v2, m => (if (8 : Int32) ≤ v2 then k2 (v1 + (1 : Int32)) m else (if v1 = v2 then f_m_measure_40 F k2 (f_m_measure_10 F k2 n) v1 v2 (((64 : Int32) + ((8 : Int32) * v1)) + v2) (0 : Int32) m else f_m_measure_40 F k2 (f_m_measure_10 F k2 n) v1 v2 (((64 : Int32) + ((8 : Int32) * v1)) + v2) (999999 : Int32) m))
theorem ok_m_measure_10 (X : mX) (d F : Nat) (k2 : Int32 → mM → Option (Unit × mM)) (hk2 : ∀ (v1 : Int32) (w2 : Option Value) (w3 : Option Value) (w4 : Option Value) (m : mM) (r : Unit) (m' : mM), k2 v1 m = some (r, m') → m_R X (d + 0) 199 2 [some (.ref 304), some (.int v1), w2, w3, w4] [] (SH, m) (none, (SH, m'))) : ∀ (n : Nat) (v1 : Int32) (v2 : Int32) (w3 : Option Value) (w4 : Option Value) (m : mM) (r : Unit) (m' : mM), f_m_measure_10 F k2 n v1 v2 m = some (r, m') → m_R X (d + 0) 199 10 [some (.ref 304), some (.int v1), some (.int v2), w3, w4] [] (SH, m) (none, (SH, m')) := by
  intro n
  induction n with
  | zero => intro v1 v2 w3 w4 m r m' h; cases h
  | succ n ih =>
    intro v1 v2 w3 w4 m r m' h
    simp only [f_m_measure_10] at h
    refine m_R_sg (by decide) [(.iload_n 2, 1, 0, 2, 0, 0, 0), (.bipush 8, 2, 0, 8, 0, 0, 0)] (by decide +kernel) (show m_sgl X _ _ _ _ _ = some (13, [some (.ref 304), some (.int v1), some (.int v2), w3, w4], [.int (8 : Int32), .int v2], (SH, m.1, m.2)) from rfl) ?_
    rcases m_ite h with ⟨c29, h⟩ | ⟨c29, h⟩
    · refine m_R_1 (by decide) (m_opb_of (ins := .if_icmp .ge 34) (len := 3) (tag := 0) (a := 47) (b := 0) (c := 0) (q := 0) (by decide +kernel)) (if_pos c29) ?_
      refine m_R_sg (by decide) [(.iinc 1 1, 3, 0, 1, 1, 0, 0), (.goto (-48), 3, 0, 2, 0, 0, 0)] (by decide +kernel) (show m_sgl X _ _ _ _ _ = some (2, [some (.ref 304), some (.int (v1 + (1 : Int32))), some (.int v2), w3, w4], [], (SH, m.1, m.2)) from rfl) ?_
      exact hk2 _ _ _ _ _ _ _ h
    · refine m_R_1 (by decide) (m_opb_of (ins := .if_icmp .ge 34) (len := 3) (tag := 0) (a := 47) (b := 0) (c := 0) (q := 0) (by decide +kernel)) (if_neg c29) ?_
      refine m_R_sg (by decide) [(.aload_n 0, 1, 0, 0, 0, 0, 0), (.getfield 13, 3, 0, 12, 1, 3, 1496), (.bipush 64, 2, 0, 64, 0, 0, 0), (.bipush 8, 2, 0, 8, 0, 0, 0), (.iload_n 1, 1, 0, 1, 0, 0, 0), (.imul, 1, 0, 0, 0, 0, 0), (.iadd, 1, 0, 0, 0, 0, 0), (.iload_n 2, 1, 0, 2, 0, 0, 0), (.iadd, 1, 0, 0, 0, 0, 0), (.iload_n 1, 1, 0, 1, 0, 0, 0), (.iload_n 2, 1, 0, 2, 0, 0, 0)] (by decide +kernel) (show m_sgl X _ _ _ _ _ = some (31, [some (.ref 304), some (.int v1), some (.int v2), w3, w4], [.int v2, .int v1, .int (((64 : Int32) + ((8 : Int32) * v1)) + v2), .ref 305], (SH, m.1, m.2)) from rfl) ?_
      rcases m_ite h with ⟨c30, h⟩ | ⟨c30, h⟩
      · refine m_R_1 (by decide) (m_opb_of (ins := .if_icmp .ne 7) (len := 3) (tag := 0) (a := 38) (b := 0) (c := 0) (q := 0) (by decide +kernel)) (if_pos c30) ?_
        refine m_R_sg (by decide) [(.iconst 0, 1, 0, 0, 0, 0, 0), (.goto 5, 3, 0, 40, 0, 0, 0)] (by decide +kernel) (show m_sgl X _ _ _ _ _ = some (40, [some (.ref 304), some (.int v1), some (.int v2), w3, w4], [.int (0 : Int32), .int (((64 : Int32) + ((8 : Int32) * v1)) + v2), .ref 305], (SH, m.1, m.2)) from rfl) ?_
        exact ok_m_measure_40 X d F _ hk2 _ (fun a0 a1 a2 a3 m r m' h => ih a0 a1 a2 a3 m r m' h) _ _ _ _ _ _ _ _ _ h
      · refine m_R_1 (by decide) (m_opb_of (ins := .if_icmp .ne 7) (len := 3) (tag := 0) (a := 38) (b := 0) (c := 0) (q := 0) (by decide +kernel)) (if_neg c30) ?_
        refine m_R_sg (by decide) [(.ldc 69, 2, 0, 999999, 0, 0, 1495)] (by decide +kernel) (show m_sgl X _ _ _ _ _ = some (40, [some (.ref 304), some (.int v1), some (.int v2), w3, w4], [.int (999999 : Int32), .int (((64 : Int32) + ((8 : Int32) * v1)) + v2), .ref 305], (SH, m.1, m.2)) from rfl) ?_
        exact ok_m_measure_40 X d F _ hk2 _ (fun a0 a1 a2 a3 m r m' h => ih a0 a1 a2 a3 m r m' h) _ _ _ _ _ _ _ _ _ h
def f_m_measure_157 (F : Nat)  (k55 : Int32 → mM → Option (Unit × mM)) (v1 : Int32) (m : mM) : Option (Unit × mM) := k55 (v1 + (1 : Int32)) m
theorem ok_m_measure_157 (X : mX) (d F : Nat) (k55 : Int32 → mM → Option (Unit × mM)) (hk55 : ∀ (v1 : Int32) (w2 : Option Value) (w3 : Option Value) (w4 : Option Value) (m : mM) (r : Unit) (m' : mM), k55 v1 m = some (r, m') → m_R X (d + 0) 199 55 [some (.ref 304), some (.int v1), w2, w3, w4] [] (SH, m) (none, (SH, m'))) : ∀ (v1 : Int32) (w2 : Option Value) (w3 : Option Value) (w4 : Option Value) (m : mM) (r : Unit) (m' : mM), f_m_measure_157 F k55 v1 m = some (r, m') → m_R X (d + 0) 199 157 [some (.ref 304), some (.int v1), w2, w3, w4] [] (SH, m) (none, (SH, m')) := by
  intro v1 w2 w3 w4 m r m' h
  unfold f_m_measure_157 at h
  refine m_R_sg (by decide) [(.iinc 1 1, 3, 0, 1, 1, 0, 0), (.goto (-105), 3, 0, 55, 0, 0, 0)] (by decide +kernel) (show m_sgl X _ _ _ _ _ = some (55, [some (.ref 304), some (.int (v1 + (1 : Int32))), w2, w3, w4], [], (SH, m.1, m.2)) from rfl) ?_
  exact hk55 _ _ _ _ _ _ _ h
def f_m_measure_253 (F : Nat)  (k165 : Int32 → mM → Option (Unit × mM)) (k173 : Int32 → Int32 → mM → Option (Unit × mM)) (k181 : Int32 → Int32 → Int32 → mM → Option (Unit × mM)) (v1 : Int32) (v2 : Int32) (v3 : Int32) (m : mM) : Option (Unit × mM) := k181 v1 v2 (v3 + (1 : Int32)) m
theorem ok_m_measure_253 (X : mX) (d F : Nat) (k165 : Int32 → mM → Option (Unit × mM)) (hk165 : ∀ (v1 : Int32) (w2 : Option Value) (w3 : Option Value) (w4 : Option Value) (m : mM) (r : Unit) (m' : mM), k165 v1 m = some (r, m') → m_R X (d + 0) 199 165 [some (.ref 304), some (.int v1), w2, w3, w4] [] (SH, m) (none, (SH, m'))) (k173 : Int32 → Int32 → mM → Option (Unit × mM)) (hk173 : ∀ (v1 : Int32) (v2 : Int32) (w3 : Option Value) (w4 : Option Value) (m : mM) (r : Unit) (m' : mM), k173 v1 v2 m = some (r, m') → m_R X (d + 0) 199 173 [some (.ref 304), some (.int v1), some (.int v2), w3, w4] [] (SH, m) (none, (SH, m'))) (k181 : Int32 → Int32 → Int32 → mM → Option (Unit × mM)) (hk181 : ∀ (v1 : Int32) (v2 : Int32) (v3 : Int32) (w4 : Option Value) (m : mM) (r : Unit) (m' : mM), k181 v1 v2 v3 m = some (r, m') → m_R X (d + 0) 199 181 [some (.ref 304), some (.int v1), some (.int v2), some (.int v3), w4] [] (SH, m) (none, (SH, m'))) : ∀ (v1 : Int32) (v2 : Int32) (v3 : Int32) (w4 : Option Value) (m : mM) (r : Unit) (m' : mM), f_m_measure_253 F k165 k173 k181 v1 v2 v3 m = some (r, m') → m_R X (d + 0) 199 253 [some (.ref 304), some (.int v1), some (.int v2), some (.int v3), w4] [] (SH, m) (none, (SH, m')) := by
  intro v1 v2 v3 w4 m r m' h
  unfold f_m_measure_253 at h
  refine m_R_sg (by decide) [(.iinc 3 1, 3, 0, 3, 1, 0, 0), (.goto (-75), 3, 0, 181, 0, 0, 0)] (by decide +kernel) (show m_sgl X _ _ _ _ _ = some (181, [some (.ref 304), some (.int v1), some (.int v2), some (.int (v3 + (1 : Int32))), w4], [], (SH, m.1, m.2)) from rfl) ?_
  exact hk181 _ _ _ _ _ _ _ h
def f_m_measure_181 (F : Nat)  (k165 : Int32 → mM → Option (Unit × mM)) (k173 : Int32 → Int32 → mM → Option (Unit × mM)) : Nat → Int32 → Int32 → Int32 → mM → Option (Unit × mM)
  | 0, _, _, _, _ => none
  | n + 1, v1, v2, v3, m => (if (8 : Int32) ≤ v3 then k173 v1 (v2 + (1 : Int32)) m else (if (((64 : Int32) + ((8 : Int32) * v2)) + v1) < 0 ∨ 9732 ≤ (((64 : Int32) + ((8 : Int32) * v2)) + v1).toNatClampNeg then none else (if (((64 : Int32) + ((8 : Int32) * v1)) + v3) < 0 ∨ 9732 ≤ (((64 : Int32) + ((8 : Int32) * v1)) + v3).toNatClampNeg then none else (if (((64 : Int32) + ((8 : Int32) * v2)) + v3) < 0 ∨ 9732 ≤ (((64 : Int32) + ((8 : Int32) * v2)) + v3).toNatClampNeg then none else (if (m.1 305 (((64 : Int32) + ((8 : Int32) * v2)) + v3).toNatClampNeg) ≤ ((m.1 305 (((64 : Int32) + ((8 : Int32) * v2)) + v1).toNatClampNeg) + (m.1 305 (((64 : Int32) + ((8 : Int32) * v1)) + v3).toNatClampNeg)) then f_m_measure_253 F k165 k173 (f_m_measure_181 F k165 k173 n) v1 v2 v3 m else f_m_measure_253 F k165 k173 (f_m_measure_181 F k165 k173 n) v1 v2 v3 ((m_up m.1 305 (((64 : Int32) + ((8 : Int32) * v2)) + v3).toNatClampNeg ((m.1 305 (((64 : Int32) + ((8 : Int32) * v2)) + v1).toNatClampNeg) + (m.1 305 (((64 : Int32) + ((8 : Int32) * v1)) + v3).toNatClampNeg))), m.2))))))
theorem ok_m_measure_181 (X : mX) (d F : Nat) (k165 : Int32 → mM → Option (Unit × mM)) (hk165 : ∀ (v1 : Int32) (w2 : Option Value) (w3 : Option Value) (w4 : Option Value) (m : mM) (r : Unit) (m' : mM), k165 v1 m = some (r, m') → m_R X (d + 0) 199 165 [some (.ref 304), some (.int v1), w2, w3, w4] [] (SH, m) (none, (SH, m'))) (k173 : Int32 → Int32 → mM → Option (Unit × mM)) (hk173 : ∀ (v1 : Int32) (v2 : Int32) (w3 : Option Value) (w4 : Option Value) (m : mM) (r : Unit) (m' : mM), k173 v1 v2 m = some (r, m') → m_R X (d + 0) 199 173 [some (.ref 304), some (.int v1), some (.int v2), w3, w4] [] (SH, m) (none, (SH, m'))) : ∀ (n : Nat) (v1 : Int32) (v2 : Int32) (v3 : Int32) (w4 : Option Value) (m : mM) (r : Unit) (m' : mM), f_m_measure_181 F k165 k173 n v1 v2 v3 m = some (r, m') → m_R X (d + 0) 199 181 [some (.ref 304), some (.int v1), some (.int v2), some (.int v3), w4] [] (SH, m) (none, (SH, m')) := by
  intro n
  induction n with
  | zero => intro v1 v2 v3 w4 m r m' h; cases h
  | succ n ih =>
    intro v1 v2 v3 w4 m r m' h
    simp only [f_m_measure_181] at h
    refine m_R_sg (by decide) [(.iload_n 3, 1, 0, 3, 0, 0, 0), (.bipush 8, 2, 0, 8, 0, 0, 0)] (by decide +kernel) (show m_sgl X _ _ _ _ _ = some (184, [some (.ref 304), some (.int v1), some (.int v2), some (.int v3), w4], [.int (8 : Int32), .int v3], (SH, m.1, m.2)) from rfl) ?_
    rcases m_ite h with ⟨c31, h⟩ | ⟨c31, h⟩
    · refine m_R_1 (by decide) (m_opb_of (ins := .if_icmp .ge 75) (len := 3) (tag := 0) (a := 259) (b := 0) (c := 0) (q := 0) (by decide +kernel)) (if_pos c31) ?_
      refine m_R_sg (by decide) [(.iinc 2 1, 3, 0, 2, 1, 0, 0), (.goto (-89), 3, 0, 173, 0, 0, 0)] (by decide +kernel) (show m_sgl X _ _ _ _ _ = some (173, [some (.ref 304), some (.int v1), some (.int (v2 + (1 : Int32))), some (.int v3), w4], [], (SH, m.1, m.2)) from rfl) ?_
      exact hk173 _ _ _ _ _ _ _ h
    · refine m_R_1 (by decide) (m_opb_of (ins := .if_icmp .ge 75) (len := 3) (tag := 0) (a := 259) (b := 0) (c := 0) (q := 0) (by decide +kernel)) (if_neg c31) ?_
      refine m_R_sg (by decide) [(.aload_n 0, 1, 0, 0, 0, 0, 0), (.getfield 13, 3, 0, 12, 1, 3, 1496), (.bipush 64, 2, 0, 64, 0, 0, 0), (.bipush 8, 2, 0, 8, 0, 0, 0), (.iload_n 2, 1, 0, 2, 0, 0, 0), (.imul, 1, 0, 0, 0, 0, 0), (.iadd, 1, 0, 0, 0, 0, 0), (.iload_n 1, 1, 0, 1, 0, 0, 0), (.iadd, 1, 0, 0, 0, 0, 0)] (by decide +kernel) (show m_sgl X _ _ _ _ _ = some (200, [some (.ref 304), some (.int v1), some (.int v2), some (.int v3), w4], [.int (((64 : Int32) + ((8 : Int32) * v2)) + v1), .ref 305], (SH, m.1, m.2)) from rfl) ?_
      obtain ⟨c32, h⟩ := m_ite_n h
      refine m_R_1 (by decide) (m_opb_of (ins := .iaload) (len := 1) (tag := 0) (a := 0) (b := 0) (c := 0) (q := 0) (by decide +kernel)) (m_s_iald sh_305 (by decide) c32) ?_
      refine m_R_sg (by decide) [(.aload_n 0, 1, 0, 0, 0, 0, 0), (.getfield 13, 3, 0, 12, 1, 3, 1496), (.bipush 64, 2, 0, 64, 0, 0, 0), (.bipush 8, 2, 0, 8, 0, 0, 0), (.iload_n 1, 1, 0, 1, 0, 0, 0), (.imul, 1, 0, 0, 0, 0, 0), (.iadd, 1, 0, 0, 0, 0, 0), (.iload_n 3, 1, 0, 3, 0, 0, 0), (.iadd, 1, 0, 0, 0, 0, 0)] (by decide +kernel) (show m_sgl X _ _ _ _ _ = some (214, [some (.ref 304), some (.int v1), some (.int v2), some (.int v3), w4], [.int (((64 : Int32) + ((8 : Int32) * v1)) + v3), .ref 305, .int (m.1 305 (((64 : Int32) + ((8 : Int32) * v2)) + v1).toNatClampNeg)], (SH, m.1, m.2)) from rfl) ?_
      obtain ⟨c33, h⟩ := m_ite_n h
      refine m_R_1 (by decide) (m_opb_of (ins := .iaload) (len := 1) (tag := 0) (a := 0) (b := 0) (c := 0) (q := 0) (by decide +kernel)) (m_s_iald sh_305 (by decide) c33) ?_
      refine m_R_sg (by decide) [(.iadd, 1, 0, 0, 0, 0, 0), (.istore 4, 2, 0, 4, 0, 0, 0), (.iload 4, 2, 0, 4, 0, 0, 0), (.aload_n 0, 1, 0, 0, 0, 0, 0), (.getfield 13, 3, 0, 12, 1, 3, 1496), (.bipush 64, 2, 0, 64, 0, 0, 0), (.bipush 8, 2, 0, 8, 0, 0, 0), (.iload_n 2, 1, 0, 2, 0, 0, 0), (.imul, 1, 0, 0, 0, 0, 0), (.iadd, 1, 0, 0, 0, 0, 0), (.iload_n 3, 1, 0, 3, 0, 0, 0), (.iadd, 1, 0, 0, 0, 0, 0)] (by decide +kernel) (show m_sgl X _ _ _ _ _ = some (233, [some (.ref 304), some (.int v1), some (.int v2), some (.int v3), some (.int ((m.1 305 (((64 : Int32) + ((8 : Int32) * v2)) + v1).toNatClampNeg) + (m.1 305 (((64 : Int32) + ((8 : Int32) * v1)) + v3).toNatClampNeg)))], [.int (((64 : Int32) + ((8 : Int32) * v2)) + v3), .ref 305, .int ((m.1 305 (((64 : Int32) + ((8 : Int32) * v2)) + v1).toNatClampNeg) + (m.1 305 (((64 : Int32) + ((8 : Int32) * v1)) + v3).toNatClampNeg))], (SH, m.1, m.2)) from rfl) ?_
      obtain ⟨c34, h⟩ := m_ite_n h
      refine m_R_1 (by decide) (m_opb_of (ins := .iaload) (len := 1) (tag := 0) (a := 0) (b := 0) (c := 0) (q := 0) (by decide +kernel)) (m_s_iald sh_305 (by decide) c34) ?_
      rcases m_ite h with ⟨c35, h⟩ | ⟨c35, h⟩
      · refine m_R_1 (by decide) (m_opb_of (ins := .if_icmp .ge 19) (len := 3) (tag := 0) (a := 253) (b := 0) (c := 0) (q := 0) (by decide +kernel)) (if_pos c35) ?_
        exact ok_m_measure_253 X d F _ hk165 _ hk173 _ (fun a0 a1 a2 a3 m r m' h => ih a0 a1 a2 a3 m r m' h) _ _ _ _ _ _ _ h
      · refine m_R_1 (by decide) (m_opb_of (ins := .if_icmp .ge 19) (len := 3) (tag := 0) (a := 253) (b := 0) (c := 0) (q := 0) (by decide +kernel)) (if_neg c35) ?_
        refine m_R_sg (by decide) [(.aload_n 0, 1, 0, 0, 0, 0, 0), (.getfield 13, 3, 0, 12, 1, 3, 1496), (.bipush 64, 2, 0, 64, 0, 0, 0), (.bipush 8, 2, 0, 8, 0, 0, 0), (.iload_n 2, 1, 0, 2, 0, 0, 0), (.imul, 1, 0, 0, 0, 0, 0), (.iadd, 1, 0, 0, 0, 0, 0), (.iload_n 3, 1, 0, 3, 0, 0, 0), (.iadd, 1, 0, 0, 0, 0, 0), (.iload 4, 2, 0, 4, 0, 0, 0)] (by decide +kernel) (show m_sgl X _ _ _ _ _ = some (252, [some (.ref 304), some (.int v1), some (.int v2), some (.int v3), some (.int ((m.1 305 (((64 : Int32) + ((8 : Int32) * v2)) + v1).toNatClampNeg) + (m.1 305 (((64 : Int32) + ((8 : Int32) * v1)) + v3).toNatClampNeg)))], [.int ((m.1 305 (((64 : Int32) + ((8 : Int32) * v2)) + v1).toNatClampNeg) + (m.1 305 (((64 : Int32) + ((8 : Int32) * v1)) + v3).toNatClampNeg)), .int (((64 : Int32) + ((8 : Int32) * v2)) + v3), .ref 305], (SH, m.1, m.2)) from rfl) ?_
        refine m_R_1 (by decide) (m_opb_of (ins := .iastore) (len := 1) (tag := 0) (a := 0) (b := 0) (c := 0) (q := 0) (by decide +kernel)) (m_s_iast sh_305 c34) ?_
        exact ok_m_measure_253 X d F _ hk165 _ hk173 _ (fun a0 a1 a2 a3 m r m' h => ih a0 a1 a2 a3 m r m' h) _ _ _ _ _ _ _ h
def f_m_measure_173 (F : Nat)  (k165 : Int32 → mM → Option (Unit × mM)) : Nat → Int32 → Int32 → mM → Option (Unit × mM)
  | 0, _, _, _ => none
  | n + 1, v1, v2, m => (if (8 : Int32) ≤ v2 then k165 (v1 + (1 : Int32)) m else f_m_measure_181 F k165 (f_m_measure_173 F k165 n) F v1 v2 (0 : Int32) m)
theorem ok_m_measure_173 (X : mX) (d F : Nat) (k165 : Int32 → mM → Option (Unit × mM)) (hk165 : ∀ (v1 : Int32) (w2 : Option Value) (w3 : Option Value) (w4 : Option Value) (m : mM) (r : Unit) (m' : mM), k165 v1 m = some (r, m') → m_R X (d + 0) 199 165 [some (.ref 304), some (.int v1), w2, w3, w4] [] (SH, m) (none, (SH, m'))) : ∀ (n : Nat) (v1 : Int32) (v2 : Int32) (w3 : Option Value) (w4 : Option Value) (m : mM) (r : Unit) (m' : mM), f_m_measure_173 F k165 n v1 v2 m = some (r, m') → m_R X (d + 0) 199 173 [some (.ref 304), some (.int v1), some (.int v2), w3, w4] [] (SH, m) (none, (SH, m')) := by
  intro n
  induction n with
  | zero => intro v1 v2 w3 w4 m r m' h; cases h
  | succ n ih =>
    intro v1 v2 w3 w4 m r m' h
    simp only [f_m_measure_173] at h
    refine m_R_sg (by decide) [(.iload_n 2, 1, 0, 2, 0, 0, 0), (.bipush 8, 2, 0, 8, 0, 0, 0)] (by decide +kernel) (show m_sgl X _ _ _ _ _ = some (176, [some (.ref 304), some (.int v1), some (.int v2), w3, w4], [.int (8 : Int32), .int v2], (SH, m.1, m.2)) from rfl) ?_
    rcases m_ite h with ⟨c36, h⟩ | ⟨c36, h⟩
    · refine m_R_1 (by decide) (m_opb_of (ins := .if_icmp .ge 89) (len := 3) (tag := 0) (a := 265) (b := 0) (c := 0) (q := 0) (by decide +kernel)) (if_pos c36) ?_
      refine m_R_sg (by decide) [(.iinc 1 1, 3, 0, 1, 1, 0, 0), (.goto (-103), 3, 0, 165, 0, 0, 0)] (by decide +kernel) (show m_sgl X _ _ _ _ _ = some (165, [some (.ref 304), some (.int (v1 + (1 : Int32))), some (.int v2), w3, w4], [], (SH, m.1, m.2)) from rfl) ?_
      exact hk165 _ _ _ _ _ _ _ h
    · refine m_R_1 (by decide) (m_opb_of (ins := .if_icmp .ge 89) (len := 3) (tag := 0) (a := 265) (b := 0) (c := 0) (q := 0) (by decide +kernel)) (if_neg c36) ?_
      refine m_R_sg (by decide) [(.iconst 0, 1, 0, 0, 0, 0, 0), (.istore_n 3, 1, 0, 3, 0, 0, 0)] (by decide +kernel) (show m_sgl X _ _ _ _ _ = some (181, [some (.ref 304), some (.int v1), some (.int v2), some (.int (0 : Int32)), w4], [], (SH, m.1, m.2)) from rfl) ?_
      exact ok_m_measure_181 X d F _ hk165 _ (fun a0 a1 a2 a3 m r m' h => ih a0 a1 a2 a3 m r m' h) F _ _ _ _ _ _ _ h
def f_m_measure_165 (F : Nat)   : Nat → Int32 → mM → Option (Unit × mM)
  | 0, _, _ => none
  | n + 1, v1, m => (if (8 : Int32) ≤ v1 then some ((), m) else f_m_measure_173 F (f_m_measure_165 F n) F v1 (0 : Int32) m)
theorem ok_m_measure_165 (X : mX) (d F : Nat) : ∀ (n : Nat) (v1 : Int32) (w2 : Option Value) (w3 : Option Value) (w4 : Option Value) (m : mM) (r : Unit) (m' : mM), f_m_measure_165 F n v1 m = some (r, m') → m_R X (d + 0) 199 165 [some (.ref 304), some (.int v1), w2, w3, w4] [] (SH, m) (none, (SH, m')) := by
  intro n
  induction n with
  | zero => intro v1 w2 w3 w4 m r m' h; cases h
  | succ n ih =>
    intro v1 w2 w3 w4 m r m' h
    simp only [f_m_measure_165] at h
    refine m_R_sg (by decide) [(.iload_n 1, 1, 0, 1, 0, 0, 0), (.bipush 8, 2, 0, 8, 0, 0, 0)] (by decide +kernel) (show m_sgl X _ _ _ _ _ = some (168, [some (.ref 304), some (.int v1), w2, w3, w4], [.int (8 : Int32), .int v1], (SH, m.1, m.2)) from rfl) ?_
    rcases m_ite h with ⟨c37, h⟩ | ⟨c37, h⟩
    · refine m_R_1 (by decide) (m_opb_of (ins := .if_icmp .ge 103) (len := 3) (tag := 0) (a := 271) (b := 0) (c := 0) (q := 0) (by decide +kernel)) (if_pos c37) ?_
      cases h
      exact m_R_vret (by decide) (m_opb_of (ins := .return_) (len := 1) (tag := 3) (a := 0) (b := 0) (c := 0) (q := 0) (by decide +kernel))
    · refine m_R_1 (by decide) (m_opb_of (ins := .if_icmp .ge 103) (len := 3) (tag := 0) (a := 271) (b := 0) (c := 0) (q := 0) (by decide +kernel)) (if_neg c37) ?_
      refine m_R_sg (by decide) [(.iconst 0, 1, 0, 0, 0, 0, 0), (.istore_n 2, 1, 0, 2, 0, 0, 0)] (by decide +kernel) (show m_sgl X _ _ _ _ _ = some (173, [some (.ref 304), some (.int v1), some (.int (0 : Int32)), w3, w4], [], (SH, m.1, m.2)) from rfl) ?_
      exact ok_m_measure_173 X d F _ (fun a0 a1 a2 a3 m r m' h => ih a0 a1 a2 a3 m r m' h) F _ _ _ _ _ _ _ h
def f_m_measure_55 (F : Nat)   : Nat → Int32 → mM → Option (Unit × mM)
  | 0, _, _ => none
  | n + 1, v1, m => (if (m.1 305 (3 : Int32).toNatClampNeg) ≤ v1 then f_m_measure_165 F F (0 : Int32) m else (if ((16 : Int32) + ((3 : Int32) * v1)) < 0 ∨ 9732 ≤ ((16 : Int32) + ((3 : Int32) * v1)).toNatClampNeg then none else (if (((16 : Int32) + ((3 : Int32) * v1)) + (1 : Int32)) < 0 ∨ 9732 ≤ (((16 : Int32) + ((3 : Int32) * v1)) + (1 : Int32)).toNatClampNeg then none else (if (((16 : Int32) + ((3 : Int32) * v1)) + (2 : Int32)) < 0 ∨ 9732 ≤ (((16 : Int32) + ((3 : Int32) * v1)) + (2 : Int32)).toNatClampNeg then none else (if (((64 : Int32) + ((8 : Int32) * (m.1 305 ((16 : Int32) + ((3 : Int32) * v1)).toNatClampNeg))) + (m.1 305 (((16 : Int32) + ((3 : Int32) * v1)) + (1 : Int32)).toNatClampNeg)) < 0 ∨ 9732 ≤ (((64 : Int32) + ((8 : Int32) * (m.1 305 ((16 : Int32) + ((3 : Int32) * v1)).toNatClampNeg))) + (m.1 305 (((16 : Int32) + ((3 : Int32) * v1)) + (1 : Int32)).toNatClampNeg)).toNatClampNeg then none else (if (m.1 305 (((64 : Int32) + ((8 : Int32) * (m.1 305 ((16 : Int32) + ((3 : Int32) * v1)).toNatClampNeg))) + (m.1 305 (((16 : Int32) + ((3 : Int32) * v1)) + (1 : Int32)).toNatClampNeg)).toNatClampNeg) ≤ (m.1 305 (((16 : Int32) + ((3 : Int32) * v1)) + (2 : Int32)).toNatClampNeg) then f_m_measure_157 F (f_m_measure_55 F n) v1 m else (if (((64 : Int32) + ((8 : Int32) * (m.1 305 (((16 : Int32) + ((3 : Int32) * v1)) + (1 : Int32)).toNatClampNeg))) + (m.1 305 ((16 : Int32) + ((3 : Int32) * v1)).toNatClampNeg)) < 0 ∨ 9732 ≤ (((64 : Int32) + ((8 : Int32) * (m.1 305 (((16 : Int32) + ((3 : Int32) * v1)) + (1 : Int32)).toNatClampNeg))) + (m.1 305 ((16 : Int32) + ((3 : Int32) * v1)).toNatClampNeg)).toNatClampNeg then none else f_m_measure_157 F (f_m_measure_55 F n) v1 ((m_up (m_up m.1 305 (((64 : Int32) + ((8 : Int32) * (m.1 305 ((16 : Int32) + ((3 : Int32) * v1)).toNatClampNeg))) + (m.1 305 (((16 : Int32) + ((3 : Int32) * v1)) + (1 : Int32)).toNatClampNeg)).toNatClampNeg (m.1 305 (((16 : Int32) + ((3 : Int32) * v1)) + (2 : Int32)).toNatClampNeg)) 305 (((64 : Int32) + ((8 : Int32) * (m.1 305 (((16 : Int32) + ((3 : Int32) * v1)) + (1 : Int32)).toNatClampNeg))) + (m.1 305 ((16 : Int32) + ((3 : Int32) * v1)).toNatClampNeg)).toNatClampNeg (m.1 305 (((16 : Int32) + ((3 : Int32) * v1)) + (2 : Int32)).toNatClampNeg)), m.2))))))))
theorem ok_m_measure_55 (X : mX) (d F : Nat) : ∀ (n : Nat) (v1 : Int32) (w2 : Option Value) (w3 : Option Value) (w4 : Option Value) (m : mM) (r : Unit) (m' : mM), f_m_measure_55 F n v1 m = some (r, m') → m_R X (d + 0) 199 55 [some (.ref 304), some (.int v1), w2, w3, w4] [] (SH, m) (none, (SH, m')) := by
  intro n
  induction n with
  | zero => intro v1 w2 w3 w4 m r m' h; cases h
  | succ n ih =>
    intro v1 w2 w3 w4 m r m' h
    simp only [f_m_measure_55] at h
    refine m_R_sg (by decide) [(.iload_n 1, 1, 0, 1, 0, 0, 0), (.aload_n 0, 1, 0, 0, 0, 0, 0), (.getfield 13, 3, 0, 12, 1, 3, 1496), (.iconst 3, 1, 0, 3, 0, 0, 0)] (by decide +kernel) (show m_sgl X _ _ _ _ _ = some (61, [some (.ref 304), some (.int v1), w2, w3, w4], [.int (3 : Int32), .ref 305, .int v1], (SH, m.1, m.2)) from rfl) ?_
    refine m_R_1 (by decide) (m_opb_of (ins := .iaload) (len := 1) (tag := 0) (a := 0) (b := 0) (c := 0) (q := 0) (by decide +kernel)) (m_s_iald sh_305 (by decide) (show ¬ ((3 : Int32) < 0 ∨ 9732 ≤ (3 : Int32).toNatClampNeg) by decide)) ?_
    rcases m_ite h with ⟨c38, h⟩ | ⟨c38, h⟩
    · refine m_R_1 (by decide) (m_opb_of (ins := .if_icmp .ge 101) (len := 3) (tag := 0) (a := 163) (b := 0) (c := 0) (q := 0) (by decide +kernel)) (if_pos c38) ?_
      refine m_R_sg (by decide) [(.iconst 0, 1, 0, 0, 0, 0, 0), (.istore_n 1, 1, 0, 1, 0, 0, 0)] (by decide +kernel) (show m_sgl X _ _ _ _ _ = some (165, [some (.ref 304), some (.int (0 : Int32)), w2, w3, w4], [], (SH, m.1, m.2)) from rfl) ?_
      exact ok_m_measure_165 X d F F _ _ _ _ _ _ _ h
    · refine m_R_1 (by decide) (m_opb_of (ins := .if_icmp .ge 101) (len := 3) (tag := 0) (a := 163) (b := 0) (c := 0) (q := 0) (by decide +kernel)) (if_neg c38) ?_
      refine m_R_sg (by decide) [(.aload_n 0, 1, 0, 0, 0, 0, 0), (.getfield 13, 3, 0, 12, 1, 3, 1496), (.bipush 16, 2, 0, 16, 0, 0, 0), (.iconst 3, 1, 0, 3, 0, 0, 0), (.iload_n 1, 1, 0, 1, 0, 0, 0), (.imul, 1, 0, 0, 0, 0, 0), (.iadd, 1, 0, 0, 0, 0, 0)] (by decide +kernel) (show m_sgl X _ _ _ _ _ = some (75, [some (.ref 304), some (.int v1), w2, w3, w4], [.int ((16 : Int32) + ((3 : Int32) * v1)), .ref 305], (SH, m.1, m.2)) from rfl) ?_
      obtain ⟨c39, h⟩ := m_ite_n h
      refine m_R_1 (by decide) (m_opb_of (ins := .iaload) (len := 1) (tag := 0) (a := 0) (b := 0) (c := 0) (q := 0) (by decide +kernel)) (m_s_iald sh_305 (by decide) c39) ?_
      refine m_R_sg (by decide) [(.istore_n 2, 1, 0, 2, 0, 0, 0), (.aload_n 0, 1, 0, 0, 0, 0, 0), (.getfield 13, 3, 0, 12, 1, 3, 1496), (.bipush 16, 2, 0, 16, 0, 0, 0), (.iconst 3, 1, 0, 3, 0, 0, 0), (.iload_n 1, 1, 0, 1, 0, 0, 0), (.imul, 1, 0, 0, 0, 0, 0), (.iadd, 1, 0, 0, 0, 0, 0), (.iconst 1, 1, 0, 1, 0, 0, 0), (.iadd, 1, 0, 0, 0, 0, 0)] (by decide +kernel) (show m_sgl X _ _ _ _ _ = some (89, [some (.ref 304), some (.int v1), some (.int (m.1 305 ((16 : Int32) + ((3 : Int32) * v1)).toNatClampNeg)), w3, w4], [.int (((16 : Int32) + ((3 : Int32) * v1)) + (1 : Int32)), .ref 305], (SH, m.1, m.2)) from rfl) ?_
      obtain ⟨c40, h⟩ := m_ite_n h
      refine m_R_1 (by decide) (m_opb_of (ins := .iaload) (len := 1) (tag := 0) (a := 0) (b := 0) (c := 0) (q := 0) (by decide +kernel)) (m_s_iald sh_305 (by decide) c40) ?_
      refine m_R_sg (by decide) [(.istore_n 3, 1, 0, 3, 0, 0, 0), (.aload_n 0, 1, 0, 0, 0, 0, 0), (.getfield 13, 3, 0, 12, 1, 3, 1496), (.bipush 16, 2, 0, 16, 0, 0, 0), (.iconst 3, 1, 0, 3, 0, 0, 0), (.iload_n 1, 1, 0, 1, 0, 0, 0), (.imul, 1, 0, 0, 0, 0, 0), (.iadd, 1, 0, 0, 0, 0, 0), (.iconst 2, 1, 0, 2, 0, 0, 0), (.iadd, 1, 0, 0, 0, 0, 0)] (by decide +kernel) (show m_sgl X _ _ _ _ _ = some (103, [some (.ref 304), some (.int v1), some (.int (m.1 305 ((16 : Int32) + ((3 : Int32) * v1)).toNatClampNeg)), some (.int (m.1 305 (((16 : Int32) + ((3 : Int32) * v1)) + (1 : Int32)).toNatClampNeg)), w4], [.int (((16 : Int32) + ((3 : Int32) * v1)) + (2 : Int32)), .ref 305], (SH, m.1, m.2)) from rfl) ?_
      obtain ⟨c41, h⟩ := m_ite_n h
      refine m_R_1 (by decide) (m_opb_of (ins := .iaload) (len := 1) (tag := 0) (a := 0) (b := 0) (c := 0) (q := 0) (by decide +kernel)) (m_s_iald sh_305 (by decide) c41) ?_
      refine m_R_sg (by decide) [(.istore 4, 2, 0, 4, 0, 0, 0), (.iload 4, 2, 0, 4, 0, 0, 0), (.aload_n 0, 1, 0, 0, 0, 0, 0), (.getfield 13, 3, 0, 12, 1, 3, 1496), (.bipush 64, 2, 0, 64, 0, 0, 0), (.bipush 8, 2, 0, 8, 0, 0, 0), (.iload_n 2, 1, 0, 2, 0, 0, 0), (.imul, 1, 0, 0, 0, 0, 0), (.iadd, 1, 0, 0, 0, 0, 0), (.iload_n 3, 1, 0, 3, 0, 0, 0), (.iadd, 1, 0, 0, 0, 0, 0)] (by decide +kernel) (show m_sgl X _ _ _ _ _ = some (121, [some (.ref 304), some (.int v1), some (.int (m.1 305 ((16 : Int32) + ((3 : Int32) * v1)).toNatClampNeg)), some (.int (m.1 305 (((16 : Int32) + ((3 : Int32) * v1)) + (1 : Int32)).toNatClampNeg)), some (.int (m.1 305 (((16 : Int32) + ((3 : Int32) * v1)) + (2 : Int32)).toNatClampNeg))], [.int (((64 : Int32) + ((8 : Int32) * (m.1 305 ((16 : Int32) + ((3 : Int32) * v1)).toNatClampNeg))) + (m.1 305 (((16 : Int32) + ((3 : Int32) * v1)) + (1 : Int32)).toNatClampNeg)), .ref 305, .int (m.1 305 (((16 : Int32) + ((3 : Int32) * v1)) + (2 : Int32)).toNatClampNeg)], (SH, m.1, m.2)) from rfl) ?_
      obtain ⟨c42, h⟩ := m_ite_n h
      refine m_R_1 (by decide) (m_opb_of (ins := .iaload) (len := 1) (tag := 0) (a := 0) (b := 0) (c := 0) (q := 0) (by decide +kernel)) (m_s_iald sh_305 (by decide) c42) ?_
      rcases m_ite h with ⟨c43, h⟩ | ⟨c43, h⟩
      · refine m_R_1 (by decide) (m_opb_of (ins := .if_icmp .ge 35) (len := 3) (tag := 0) (a := 157) (b := 0) (c := 0) (q := 0) (by decide +kernel)) (if_pos c43) ?_
        exact ok_m_measure_157 X d F _ (fun a0 a1 a2 a3 m r m' h => ih a0 a1 a2 a3 m r m' h) _ _ _ _ _ _ _ h
      · refine m_R_1 (by decide) (m_opb_of (ins := .if_icmp .ge 35) (len := 3) (tag := 0) (a := 157) (b := 0) (c := 0) (q := 0) (by decide +kernel)) (if_neg c43) ?_
        refine m_R_sg (by decide) [(.aload_n 0, 1, 0, 0, 0, 0, 0), (.getfield 13, 3, 0, 12, 1, 3, 1496), (.bipush 64, 2, 0, 64, 0, 0, 0), (.bipush 8, 2, 0, 8, 0, 0, 0), (.iload_n 2, 1, 0, 2, 0, 0, 0), (.imul, 1, 0, 0, 0, 0, 0), (.iadd, 1, 0, 0, 0, 0, 0), (.iload_n 3, 1, 0, 3, 0, 0, 0), (.iadd, 1, 0, 0, 0, 0, 0), (.iload 4, 2, 0, 4, 0, 0, 0)] (by decide +kernel) (show m_sgl X _ _ _ _ _ = some (140, [some (.ref 304), some (.int v1), some (.int (m.1 305 ((16 : Int32) + ((3 : Int32) * v1)).toNatClampNeg)), some (.int (m.1 305 (((16 : Int32) + ((3 : Int32) * v1)) + (1 : Int32)).toNatClampNeg)), some (.int (m.1 305 (((16 : Int32) + ((3 : Int32) * v1)) + (2 : Int32)).toNatClampNeg))], [.int (m.1 305 (((16 : Int32) + ((3 : Int32) * v1)) + (2 : Int32)).toNatClampNeg), .int (((64 : Int32) + ((8 : Int32) * (m.1 305 ((16 : Int32) + ((3 : Int32) * v1)).toNatClampNeg))) + (m.1 305 (((16 : Int32) + ((3 : Int32) * v1)) + (1 : Int32)).toNatClampNeg)), .ref 305], (SH, m.1, m.2)) from rfl) ?_
        refine m_R_1 (by decide) (m_opb_of (ins := .iastore) (len := 1) (tag := 0) (a := 0) (b := 0) (c := 0) (q := 0) (by decide +kernel)) (m_s_iast sh_305 c42) ?_
        refine m_R_sg (by decide) [(.aload_n 0, 1, 0, 0, 0, 0, 0), (.getfield 13, 3, 0, 12, 1, 3, 1496), (.bipush 64, 2, 0, 64, 0, 0, 0), (.bipush 8, 2, 0, 8, 0, 0, 0), (.iload_n 3, 1, 0, 3, 0, 0, 0), (.imul, 1, 0, 0, 0, 0, 0), (.iadd, 1, 0, 0, 0, 0, 0), (.iload_n 2, 1, 0, 2, 0, 0, 0), (.iadd, 1, 0, 0, 0, 0, 0), (.iload 4, 2, 0, 4, 0, 0, 0)] (by decide +kernel) (show m_sgl X _ _ _ _ _ = some (156, [some (.ref 304), some (.int v1), some (.int (m.1 305 ((16 : Int32) + ((3 : Int32) * v1)).toNatClampNeg)), some (.int (m.1 305 (((16 : Int32) + ((3 : Int32) * v1)) + (1 : Int32)).toNatClampNeg)), some (.int (m.1 305 (((16 : Int32) + ((3 : Int32) * v1)) + (2 : Int32)).toNatClampNeg))], [.int (m.1 305 (((16 : Int32) + ((3 : Int32) * v1)) + (2 : Int32)).toNatClampNeg), .int (((64 : Int32) + ((8 : Int32) * (m.1 305 (((16 : Int32) + ((3 : Int32) * v1)) + (1 : Int32)).toNatClampNeg))) + (m.1 305 ((16 : Int32) + ((3 : Int32) * v1)).toNatClampNeg)), .ref 305], (SH, (m_up m.1 305 (((64 : Int32) + ((8 : Int32) * (m.1 305 ((16 : Int32) + ((3 : Int32) * v1)).toNatClampNeg))) + (m.1 305 (((16 : Int32) + ((3 : Int32) * v1)) + (1 : Int32)).toNatClampNeg)).toNatClampNeg (m.1 305 (((16 : Int32) + ((3 : Int32) * v1)) + (2 : Int32)).toNatClampNeg)), m.2)) from rfl) ?_
        obtain ⟨c44, h⟩ := m_ite_n h
        refine m_R_1 (by decide) (m_opb_of (ins := .iastore) (len := 1) (tag := 0) (a := 0) (b := 0) (c := 0) (q := 0) (by decide +kernel)) (m_s_iast sh_305 c44) ?_
        exact ok_m_measure_157 X d F _ (fun a0 a1 a2 a3 m r m' h => ih a0 a1 a2 a3 m r m' h) _ _ _ _ _ _ _ h
def f_m_measure_2 (F : Nat)   : Nat → Int32 → mM → Option (Unit × mM)
  | 0, _, _ => none
  | n + 1, v1, m => (if (8 : Int32) ≤ v1 then f_m_measure_55 F F (0 : Int32) m else f_m_measure_10 F (f_m_measure_2 F n) F v1 (0 : Int32) m)
theorem ok_m_measure_2 (X : mX) (d F : Nat) : ∀ (n : Nat) (v1 : Int32) (w2 : Option Value) (w3 : Option Value) (w4 : Option Value) (m : mM) (r : Unit) (m' : mM), f_m_measure_2 F n v1 m = some (r, m') → m_R X (d + 0) 199 2 [some (.ref 304), some (.int v1), w2, w3, w4] [] (SH, m) (none, (SH, m')) := by
  intro n
  induction n with
  | zero => intro v1 w2 w3 w4 m r m' h; cases h
  | succ n ih =>
    intro v1 w2 w3 w4 m r m' h
    simp only [f_m_measure_2] at h
    refine m_R_sg (by decide) [(.iload_n 1, 1, 0, 1, 0, 0, 0), (.bipush 8, 2, 0, 8, 0, 0, 0)] (by decide +kernel) (show m_sgl X _ _ _ _ _ = some (5, [some (.ref 304), some (.int v1), w2, w3, w4], [.int (8 : Int32), .int v1], (SH, m.1, m.2)) from rfl) ?_
    rcases m_ite h with ⟨c45, h⟩ | ⟨c45, h⟩
    · refine m_R_1 (by decide) (m_opb_of (ins := .if_icmp .ge 48) (len := 3) (tag := 0) (a := 53) (b := 0) (c := 0) (q := 0) (by decide +kernel)) (if_pos c45) ?_
      refine m_R_sg (by decide) [(.iconst 0, 1, 0, 0, 0, 0, 0), (.istore_n 1, 1, 0, 1, 0, 0, 0)] (by decide +kernel) (show m_sgl X _ _ _ _ _ = some (55, [some (.ref 304), some (.int (0 : Int32)), w2, w3, w4], [], (SH, m.1, m.2)) from rfl) ?_
      exact ok_m_measure_55 X d F F _ _ _ _ _ _ _ h
    · refine m_R_1 (by decide) (m_opb_of (ins := .if_icmp .ge 48) (len := 3) (tag := 0) (a := 53) (b := 0) (c := 0) (q := 0) (by decide +kernel)) (if_neg c45) ?_
      refine m_R_sg (by decide) [(.iconst 0, 1, 0, 0, 0, 0, 0), (.istore_n 2, 1, 0, 2, 0, 0, 0)] (by decide +kernel) (show m_sgl X _ _ _ _ _ = some (10, [some (.ref 304), some (.int v1), some (.int (0 : Int32)), w3, w4], [], (SH, m.1, m.2)) from rfl) ?_
      exact ok_m_measure_10 X d F _ (fun a0 a1 a2 a3 m r m' h => ih a0 a1 a2 a3 m r m' h) F _ _ _ _ _ _ _ h
def f_m_measure (F : Nat)    (m : mM) : Option (Unit × mM) := f_m_measure_2 F F (0 : Int32) m
theorem ok_m_measure (X : mX) (d F : Nat) : ∀   (m : mM) (r : Unit) (m' : mM), f_m_measure F  m = some (r, m') → m_R X (d + 0) 199 0 [some (.ref 304), none, none, none, none] [] (SH, m) (none, (SH, m')) := by
  intro m r m' h
  unfold f_m_measure at h
  refine m_R_sg (by decide) [(.iconst 0, 1, 0, 0, 0, 0, 0), (.istore_n 1, 1, 0, 1, 0, 0, 0)] (by decide +kernel) (show m_sgl X _ _ _ _ _ = some (2, [some (.ref 304), some (.int (0 : Int32)), none, none, none], [], (SH, m.1, m.2)) from rfl) ?_
  exact ok_m_measure_2 X d F F _ _ _ _ _ _ _ h
def f_m_road_16 (F : Nat)    (m : mM) : Option (Int32 × mM) := ((f_m_refuse F (-3 : Int32) m).bind fun q6 => some (q6.1, q6.2))
theorem ok_m_road_16 (X : mX) (d F : Nat) : ∀  (w1 : Option Value) (w2 : Option Value) (w3 : Option Value) (w4 : Option Value) (m : mM) (r : Int32) (m' : mM), f_m_road_16 F  m = some (r, m') → m_R X (d + 2) 204 16 [some (.ref 304), w1, w2, w3, w4] [] (SH, m) (some (.int r), (SH, m')) := by
  intro w1 w2 w3 w4 m r m' h
  unfold f_m_road_16 at h
  refine m_R_sg (by decide) [(.aload_n 0, 1, 0, 0, 0, 0, 0), (.bipush (-3), 2, 0, 3, 1, 0, 0)] (by decide +kernel) (show m_sgl X _ _ _ _ _ = some (19, [some (.ref 304), w1, w2, w3, w4], [.int (-3 : Int32), .ref 304], (SH, m.1, m.2)) from rfl) ?_
  obtain ⟨q6, hc6, h⟩ := Option.bind_eq_some_iff.mp h
  refine m_R_cV (v := (some (.int q6.1))) (h1 := (SH, q6.2)) (rest := []) (lo' := [some (.ref 304), some (.int (-3 : Int32))]) (ml := 2) (k0 := 304) (by decide) (Or.inl rfl) (m_opb_of (ins := .invokevirtual 61) (len := 3) (tag := 5) (a := 202) (b := 1) (c := 0) (q := 1596) (by decide +kernel)) (by decide +kernel) rfl (show m_isO 202 304 (SH, _) = true from m_isO_of (by decide +kernel)) (Nat.le_of_ble_eq_true rfl) rfl rfl (ok_m_refuse X (d + 1) F _ _ _ _ hc6) ?_
  cases h
  exact m_R_iret (by decide) (m_opb_of (ins := .ireturn) (len := 1) (tag := 1) (a := 0) (b := 0) (c := 0) (q := 0) (by decide +kernel)) (Or.inl rfl)
def f_m_road_38 (F : Nat)    (m : mM) : Option (Int32 × mM) := ((f_m_refuse F (-7 : Int32) m).bind fun q7 => some (q7.1, q7.2))
theorem ok_m_road_38 (X : mX) (d F : Nat) : ∀  (w1 : Option Value) (w2 : Option Value) (w3 : Option Value) (w4 : Option Value) (m : mM) (r : Int32) (m' : mM), f_m_road_38 F  m = some (r, m') → m_R X (d + 2) 204 38 [some (.ref 304), w1, w2, w3, w4] [] (SH, m) (some (.int r), (SH, m')) := by
  intro w1 w2 w3 w4 m r m' h
  unfold f_m_road_38 at h
  refine m_R_sg (by decide) [(.aload_n 0, 1, 0, 0, 0, 0, 0), (.bipush (-7), 2, 0, 7, 1, 0, 0)] (by decide +kernel) (show m_sgl X _ _ _ _ _ = some (41, [some (.ref 304), w1, w2, w3, w4], [.int (-7 : Int32), .ref 304], (SH, m.1, m.2)) from rfl) ?_
  obtain ⟨q7, hc7, h⟩ := Option.bind_eq_some_iff.mp h
  refine m_R_cV (v := (some (.int q7.1))) (h1 := (SH, q7.2)) (rest := []) (lo' := [some (.ref 304), some (.int (-7 : Int32))]) (ml := 2) (k0 := 304) (by decide) (Or.inl rfl) (m_opb_of (ins := .invokevirtual 61) (len := 3) (tag := 5) (a := 202) (b := 1) (c := 0) (q := 1596) (by decide +kernel)) (by decide +kernel) rfl (show m_isO 202 304 (SH, _) = true from m_isO_of (by decide +kernel)) (Nat.le_of_ble_eq_true rfl) rfl rfl (ok_m_refuse X (d + 1) F _ _ _ _ hc7) ?_
  cases h
  exact m_R_iret (by decide) (m_opb_of (ins := .ireturn) (len := 1) (tag := 1) (a := 0) (b := 0) (c := 0) (q := 0) (by decide +kernel)) (Or.inl rfl)
def f_m_road (F : Nat)   (v1 : Int32) (v2 : Int32) (v3 : Int32) (m : mM) : Option (Int32 × mM) := ((f_m_isTown F v1 m).bind fun q1 => (if q1.1 = 0 then f_m_road_16 F q1.2 else ((f_m_isTown F v2 q1.2).bind fun q2 => (if q2.1 = 0 then f_m_road_16 F q2.2 else (if v1 = v2 then f_m_road_38 F q2.2 else ((f_m_in F v3 (1 : Int32) (30 : Int32) q2.2).bind fun q3 => (if q3.1 = 0 then f_m_road_38 F q3.2 else (if (q3.2.1 305 (3 : Int32).toNatClampNeg) = (16 : Int32) then ((f_m_refuse F (-8 : Int32) q3.2).bind fun q4 => some (q4.1, q4.2)) else (if ((16 : Int32) + ((3 : Int32) * (q3.2.1 305 (3 : Int32).toNatClampNeg))) < 0 ∨ 9732 ≤ ((16 : Int32) + ((3 : Int32) * (q3.2.1 305 (3 : Int32).toNatClampNeg))).toNatClampNeg then none else (if (((16 : Int32) + ((3 : Int32) * (q3.2.1 305 (3 : Int32).toNatClampNeg))) + (1 : Int32)) < 0 ∨ 9732 ≤ (((16 : Int32) + ((3 : Int32) * (q3.2.1 305 (3 : Int32).toNatClampNeg))) + (1 : Int32)).toNatClampNeg then none else (if (((16 : Int32) + ((3 : Int32) * (q3.2.1 305 (3 : Int32).toNatClampNeg))) + (2 : Int32)) < 0 ∨ 9732 ≤ (((16 : Int32) + ((3 : Int32) * (q3.2.1 305 (3 : Int32).toNatClampNeg))) + (2 : Int32)).toNatClampNeg then none else ((f_m_measure F ((m_up (m_up (m_up (m_up q3.2.1 305 ((16 : Int32) + ((3 : Int32) * (q3.2.1 305 (3 : Int32).toNatClampNeg))).toNatClampNeg v1) 305 (((16 : Int32) + ((3 : Int32) * (q3.2.1 305 (3 : Int32).toNatClampNeg))) + (1 : Int32)).toNatClampNeg v2) 305 (((16 : Int32) + ((3 : Int32) * (q3.2.1 305 (3 : Int32).toNatClampNeg))) + (2 : Int32)).toNatClampNeg v3) 305 (3 : Int32).toNatClampNeg (((m_up (m_up (m_up q3.2.1 305 ((16 : Int32) + ((3 : Int32) * (q3.2.1 305 (3 : Int32).toNatClampNeg))).toNatClampNeg v1) 305 (((16 : Int32) + ((3 : Int32) * (q3.2.1 305 (3 : Int32).toNatClampNeg))) + (1 : Int32)).toNatClampNeg v2) 305 (((16 : Int32) + ((3 : Int32) * (q3.2.1 305 (3 : Int32).toNatClampNeg))) + (2 : Int32)).toNatClampNeg v3) 305 (3 : Int32).toNatClampNeg) + (1 : Int32))), q3.2.2)).bind fun q5 => some ((q5.2.1 305 (3 : Int32).toNatClampNeg), q5.2)))))))))))))
theorem ok_m_road (X : mX) (d F : Nat) : ∀ (v1 : Int32) (v2 : Int32) (v3 : Int32)  (m : mM) (r : Int32) (m' : mM), f_m_road F v1 v2 v3 m = some (r, m') → m_R X (d + 2) 204 0 [some (.ref 304), some (.int v1), some (.int v2), some (.int v3), none] [] (SH, m) (some (.int r), (SH, m')) := by
  intro v1 v2 v3 m r m' h
  unfold f_m_road at h
  refine m_R_sg (by decide) [(.aload_n 0, 1, 0, 0, 0, 0, 0), (.iload_n 1, 1, 0, 1, 0, 0, 0)] (by decide +kernel) (show m_sgl X _ _ _ _ _ = some (2, [some (.ref 304), some (.int v1), some (.int v2), some (.int v3), none], [.int v1, .ref 304], (SH, m.1, m.2)) from rfl) ?_
  obtain ⟨q1, hc1, h⟩ := Option.bind_eq_some_iff.mp h
  refine m_R_cV (v := (some (.int q1.1))) (h1 := (SH, q1.2)) (rest := []) (lo' := [some (.ref 304), some (.int v1)]) (ml := 2) (k0 := 304) (by decide) (Or.inl rfl) (m_opb_of (ins := .invokevirtual 70) (len := 3) (tag := 5) (a := 205) (b := 1) (c := 0) (q := 1608) (by decide +kernel)) (by decide +kernel) rfl (show m_isO 205 304 (SH, _) = true from m_isO_of (by decide +kernel)) (Nat.le_of_ble_eq_true rfl) rfl rfl (ok_m_isTown X (d + 0) F _ _ _ _ hc1) ?_
  rcases m_ite h with ⟨c46, h⟩ | ⟨c46, h⟩
  · refine m_R_1 (by decide) (m_opb_of (ins := .ifCond .eq 11) (len := 3) (tag := 0) (a := 16) (b := 0) (c := 0) (q := 0) (by decide +kernel)) (if_pos c46) ?_
    exact ok_m_road_16 X d F _ _ _ _ _ _ _ h
  · refine m_R_1 (by decide) (m_opb_of (ins := .ifCond .eq 11) (len := 3) (tag := 0) (a := 16) (b := 0) (c := 0) (q := 0) (by decide +kernel)) (if_neg c46) ?_
    refine m_R_sg (by decide) [(.aload_n 0, 1, 0, 0, 0, 0, 0), (.iload_n 2, 1, 0, 2, 0, 0, 0)] (by decide +kernel) (show m_sgl X _ _ _ _ _ = some (10, [some (.ref 304), some (.int v1), some (.int v2), some (.int v3), none], [.int v2, .ref 304], (SH, q1.2.1, q1.2.2)) from rfl) ?_
    obtain ⟨q2, hc2, h⟩ := Option.bind_eq_some_iff.mp h
    refine m_R_cV (v := (some (.int q2.1))) (h1 := (SH, q2.2)) (rest := []) (lo' := [some (.ref 304), some (.int v2)]) (ml := 2) (k0 := 304) (by decide) (Or.inl rfl) (m_opb_of (ins := .invokevirtual 70) (len := 3) (tag := 5) (a := 205) (b := 1) (c := 0) (q := 1608) (by decide +kernel)) (by decide +kernel) rfl (show m_isO 205 304 (SH, _) = true from m_isO_of (by decide +kernel)) (Nat.le_of_ble_eq_true rfl) rfl rfl (ok_m_isTown X (d + 0) F _ _ _ _ hc2) ?_
    rcases m_ite h with ⟨c47, h⟩ | ⟨c47, h⟩
    · refine m_R_1 (by decide) (m_opb_of (ins := .ifCond .ne 10) (len := 3) (tag := 0) (a := 23) (b := 0) (c := 0) (q := 0) (by decide +kernel)) (if_pos c47) ?_
      exact ok_m_road_16 X d F _ _ _ _ _ _ _ h
    · refine m_R_1 (by decide) (m_opb_of (ins := .ifCond .ne 10) (len := 3) (tag := 0) (a := 23) (b := 0) (c := 0) (q := 0) (by decide +kernel)) (if_neg c47) ?_
      refine m_R_sg (by decide) [(.iload_n 1, 1, 0, 1, 0, 0, 0), (.iload_n 2, 1, 0, 2, 0, 0, 0)] (by decide +kernel) (show m_sgl X _ _ _ _ _ = some (25, [some (.ref 304), some (.int v1), some (.int v2), some (.int v3), none], [.int v2, .int v1], (SH, q2.2.1, q2.2.2)) from rfl) ?_
      rcases m_ite h with ⟨c48, h⟩ | ⟨c48, h⟩
      · refine m_R_1 (by decide) (m_opb_of (ins := .if_icmp .eq 13) (len := 3) (tag := 0) (a := 38) (b := 0) (c := 0) (q := 0) (by decide +kernel)) (if_pos c48) ?_
        exact ok_m_road_38 X d F _ _ _ _ _ _ _ h
      · refine m_R_1 (by decide) (m_opb_of (ins := .if_icmp .eq 13) (len := 3) (tag := 0) (a := 38) (b := 0) (c := 0) (q := 0) (by decide +kernel)) (if_neg c48) ?_
        refine m_R_sg (by decide) [(.iload_n 3, 1, 0, 3, 0, 0, 0), (.iconst 1, 1, 0, 1, 0, 0, 0), (.bipush 30, 2, 0, 30, 0, 0, 0)] (by decide +kernel) (show m_sgl X _ _ _ _ _ = some (32, [some (.ref 304), some (.int v1), some (.int v2), some (.int v3), none], [.int (30 : Int32), .int (1 : Int32), .int v3], (SH, q2.2.1, q2.2.2)) from rfl) ?_
        obtain ⟨q3, hc3, h⟩ := Option.bind_eq_some_iff.mp h
        refine m_R_cS (v := (some (.int q3.1))) (h1 := (SH, q3.2)) (rest := []) (lo' := [some (.int v3), some (.int (1 : Int32)), some (.int (30 : Int32))]) (ml := 3) (by decide) (m_opb_of (ins := .invokestatic 57) (len := 3) (tag := 4) (a := 201) (b := 3) (c := 0) (q := 1593) (by decide +kernel)) (by decide +kernel) (Nat.le_of_ble_eq_true rfl) rfl (Nat.le_of_ble_eq_true rfl) rfl rfl (ok_m_in X (d + 1) F _ _ _ _ _ _ hc3) ?_
        rcases m_ite h with ⟨c49, h⟩ | ⟨c49, h⟩
        · refine m_R_1 (by decide) (m_opb_of (ins := .ifCond .ne 10) (len := 3) (tag := 0) (a := 45) (b := 0) (c := 0) (q := 0) (by decide +kernel)) (if_pos c49) ?_
          exact ok_m_road_38 X d F _ _ _ _ _ _ _ h
        · refine m_R_1 (by decide) (m_opb_of (ins := .ifCond .ne 10) (len := 3) (tag := 0) (a := 45) (b := 0) (c := 0) (q := 0) (by decide +kernel)) (if_neg c49) ?_
          refine m_R_sg (by decide) [(.aload_n 0, 1, 0, 0, 0, 0, 0), (.getfield 13, 3, 0, 12, 1, 3, 1496), (.iconst 3, 1, 0, 3, 0, 0, 0)] (by decide +kernel) (show m_sgl X _ _ _ _ _ = some (50, [some (.ref 304), some (.int v1), some (.int v2), some (.int v3), none], [.int (3 : Int32), .ref 305], (SH, q3.2.1, q3.2.2)) from rfl) ?_
          refine m_R_1 (by decide) (m_opb_of (ins := .iaload) (len := 1) (tag := 0) (a := 0) (b := 0) (c := 0) (q := 0) (by decide +kernel)) (m_s_iald sh_305 (by decide) (show ¬ ((3 : Int32) < 0 ∨ 9732 ≤ (3 : Int32).toNatClampNeg) by decide)) ?_
          refine m_R_sg (by decide) [(.bipush 16, 2, 0, 16, 0, 0, 0)] (by decide +kernel) (show m_sgl X _ _ _ _ _ = some (53, [some (.ref 304), some (.int v1), some (.int v2), some (.int v3), none], [.int (16 : Int32), .int (q3.2.1 305 (3 : Int32).toNatClampNeg)], (SH, q3.2.1, q3.2.2)) from rfl) ?_
          rcases m_ite h with ⟨c50, h⟩ | ⟨c50, h⟩
          · refine m_R_1 (by decide) (m_opb_of (ins := .if_icmp .ne 10) (len := 3) (tag := 0) (a := 63) (b := 0) (c := 0) (q := 0) (by decide +kernel)) (if_pos c50) ?_
            refine m_R_sg (by decide) [(.aload_n 0, 1, 0, 0, 0, 0, 0), (.bipush (-8), 2, 0, 8, 1, 0, 0)] (by decide +kernel) (show m_sgl X _ _ _ _ _ = some (59, [some (.ref 304), some (.int v1), some (.int v2), some (.int v3), none], [.int (-8 : Int32), .ref 304], (SH, q3.2.1, q3.2.2)) from rfl) ?_
            obtain ⟨q4, hc4, h⟩ := Option.bind_eq_some_iff.mp h
            refine m_R_cV (v := (some (.int q4.1))) (h1 := (SH, q4.2)) (rest := []) (lo' := [some (.ref 304), some (.int (-8 : Int32))]) (ml := 2) (k0 := 304) (by decide) (Or.inl rfl) (m_opb_of (ins := .invokevirtual 61) (len := 3) (tag := 5) (a := 202) (b := 1) (c := 0) (q := 1596) (by decide +kernel)) (by decide +kernel) rfl (show m_isO 202 304 (SH, _) = true from m_isO_of (by decide +kernel)) (Nat.le_of_ble_eq_true rfl) rfl rfl (ok_m_refuse X (d + 1) F _ _ _ _ hc4) ?_
            cases h
            exact m_R_iret (by decide) (m_opb_of (ins := .ireturn) (len := 1) (tag := 1) (a := 0) (b := 0) (c := 0) (q := 0) (by decide +kernel)) (Or.inl rfl)
          · refine m_R_1 (by decide) (m_opb_of (ins := .if_icmp .ne 10) (len := 3) (tag := 0) (a := 63) (b := 0) (c := 0) (q := 0) (by decide +kernel)) (if_neg c50) ?_
            refine m_R_sg (by decide) [(.bipush 16, 2, 0, 16, 0, 0, 0), (.iconst 3, 1, 0, 3, 0, 0, 0), (.aload_n 0, 1, 0, 0, 0, 0, 0), (.getfield 13, 3, 0, 12, 1, 3, 1496), (.iconst 3, 1, 0, 3, 0, 0, 0)] (by decide +kernel) (show m_sgl X _ _ _ _ _ = some (71, [some (.ref 304), some (.int v1), some (.int v2), some (.int v3), none], [.int (3 : Int32), .ref 305, .int (3 : Int32), .int (16 : Int32)], (SH, q3.2.1, q3.2.2)) from rfl) ?_
            refine m_R_1 (by decide) (m_opb_of (ins := .iaload) (len := 1) (tag := 0) (a := 0) (b := 0) (c := 0) (q := 0) (by decide +kernel)) (m_s_iald sh_305 (by decide) (show ¬ ((3 : Int32) < 0 ∨ 9732 ≤ (3 : Int32).toNatClampNeg) by decide)) ?_
            refine m_R_sg (by decide) [(.imul, 1, 0, 0, 0, 0, 0), (.iadd, 1, 0, 0, 0, 0, 0), (.istore 4, 2, 0, 4, 0, 0, 0), (.aload_n 0, 1, 0, 0, 0, 0, 0), (.getfield 13, 3, 0, 12, 1, 3, 1496), (.iload 4, 2, 0, 4, 0, 0, 0), (.iload_n 1, 1, 0, 1, 0, 0, 0)] (by decide +kernel) (show m_sgl X _ _ _ _ _ = some (83, [some (.ref 304), some (.int v1), some (.int v2), some (.int v3), some (.int ((16 : Int32) + ((3 : Int32) * (q3.2.1 305 (3 : Int32).toNatClampNeg))))], [.int v1, .int ((16 : Int32) + ((3 : Int32) * (q3.2.1 305 (3 : Int32).toNatClampNeg))), .ref 305], (SH, q3.2.1, q3.2.2)) from rfl) ?_
            obtain ⟨c51, h⟩ := m_ite_n h
            refine m_R_1 (by decide) (m_opb_of (ins := .iastore) (len := 1) (tag := 0) (a := 0) (b := 0) (c := 0) (q := 0) (by decide +kernel)) (m_s_iast sh_305 c51) ?_
            refine m_R_sg (by decide) [(.aload_n 0, 1, 0, 0, 0, 0, 0), (.getfield 13, 3, 0, 12, 1, 3, 1496), (.iload 4, 2, 0, 4, 0, 0, 0), (.iconst 1, 1, 0, 1, 0, 0, 0), (.iadd, 1, 0, 0, 0, 0, 0), (.iload_n 2, 1, 0, 2, 0, 0, 0)] (by decide +kernel) (show m_sgl X _ _ _ _ _ = some (93, [some (.ref 304), some (.int v1), some (.int v2), some (.int v3), some (.int ((16 : Int32) + ((3 : Int32) * (q3.2.1 305 (3 : Int32).toNatClampNeg))))], [.int v2, .int (((16 : Int32) + ((3 : Int32) * (q3.2.1 305 (3 : Int32).toNatClampNeg))) + (1 : Int32)), .ref 305], (SH, (m_up q3.2.1 305 ((16 : Int32) + ((3 : Int32) * (q3.2.1 305 (3 : Int32).toNatClampNeg))).toNatClampNeg v1), q3.2.2)) from rfl) ?_
            obtain ⟨c52, h⟩ := m_ite_n h
            refine m_R_1 (by decide) (m_opb_of (ins := .iastore) (len := 1) (tag := 0) (a := 0) (b := 0) (c := 0) (q := 0) (by decide +kernel)) (m_s_iast sh_305 c52) ?_
            refine m_R_sg (by decide) [(.aload_n 0, 1, 0, 0, 0, 0, 0), (.getfield 13, 3, 0, 12, 1, 3, 1496), (.iload 4, 2, 0, 4, 0, 0, 0), (.iconst 2, 1, 0, 2, 0, 0, 0), (.iadd, 1, 0, 0, 0, 0, 0), (.iload_n 3, 1, 0, 3, 0, 0, 0)] (by decide +kernel) (show m_sgl X _ _ _ _ _ = some (103, [some (.ref 304), some (.int v1), some (.int v2), some (.int v3), some (.int ((16 : Int32) + ((3 : Int32) * (q3.2.1 305 (3 : Int32).toNatClampNeg))))], [.int v3, .int (((16 : Int32) + ((3 : Int32) * (q3.2.1 305 (3 : Int32).toNatClampNeg))) + (2 : Int32)), .ref 305], (SH, (m_up (m_up q3.2.1 305 ((16 : Int32) + ((3 : Int32) * (q3.2.1 305 (3 : Int32).toNatClampNeg))).toNatClampNeg v1) 305 (((16 : Int32) + ((3 : Int32) * (q3.2.1 305 (3 : Int32).toNatClampNeg))) + (1 : Int32)).toNatClampNeg v2), q3.2.2)) from rfl) ?_
            obtain ⟨c53, h⟩ := m_ite_n h
            refine m_R_1 (by decide) (m_opb_of (ins := .iastore) (len := 1) (tag := 0) (a := 0) (b := 0) (c := 0) (q := 0) (by decide +kernel)) (m_s_iast sh_305 c53) ?_
            refine m_R_sg (by decide) [(.aload_n 0, 1, 0, 0, 0, 0, 0), (.getfield 13, 3, 0, 12, 1, 3, 1496), (.iconst 3, 1, 0, 3, 0, 0, 0), (.dup2, 1, 0, 0, 0, 0, 0)] (by decide +kernel) (show m_sgl X _ _ _ _ _ = some (110, [some (.ref 304), some (.int v1), some (.int v2), some (.int v3), some (.int ((16 : Int32) + ((3 : Int32) * (q3.2.1 305 (3 : Int32).toNatClampNeg))))], [.int (3 : Int32), .ref 305, .int (3 : Int32), .ref 305], (SH, (m_up (m_up (m_up q3.2.1 305 ((16 : Int32) + ((3 : Int32) * (q3.2.1 305 (3 : Int32).toNatClampNeg))).toNatClampNeg v1) 305 (((16 : Int32) + ((3 : Int32) * (q3.2.1 305 (3 : Int32).toNatClampNeg))) + (1 : Int32)).toNatClampNeg v2) 305 (((16 : Int32) + ((3 : Int32) * (q3.2.1 305 (3 : Int32).toNatClampNeg))) + (2 : Int32)).toNatClampNeg v3), q3.2.2)) from rfl) ?_
            refine m_R_1 (by decide) (m_opb_of (ins := .iaload) (len := 1) (tag := 0) (a := 0) (b := 0) (c := 0) (q := 0) (by decide +kernel)) (m_s_iald sh_305 (by decide) (show ¬ ((3 : Int32) < 0 ∨ 9732 ≤ (3 : Int32).toNatClampNeg) by decide)) ?_
            refine m_R_sg (by decide) [(.iconst 1, 1, 0, 1, 0, 0, 0), (.iadd, 1, 0, 0, 0, 0, 0)] (by decide +kernel) (show m_sgl X _ _ _ _ _ = some (113, [some (.ref 304), some (.int v1), some (.int v2), some (.int v3), some (.int ((16 : Int32) + ((3 : Int32) * (q3.2.1 305 (3 : Int32).toNatClampNeg))))], [.int (((m_up (m_up (m_up q3.2.1 305 ((16 : Int32) + ((3 : Int32) * (q3.2.1 305 (3 : Int32).toNatClampNeg))).toNatClampNeg v1) 305 (((16 : Int32) + ((3 : Int32) * (q3.2.1 305 (3 : Int32).toNatClampNeg))) + (1 : Int32)).toNatClampNeg v2) 305 (((16 : Int32) + ((3 : Int32) * (q3.2.1 305 (3 : Int32).toNatClampNeg))) + (2 : Int32)).toNatClampNeg v3) 305 (3 : Int32).toNatClampNeg) + (1 : Int32)), .int (3 : Int32), .ref 305], (SH, (m_up (m_up (m_up q3.2.1 305 ((16 : Int32) + ((3 : Int32) * (q3.2.1 305 (3 : Int32).toNatClampNeg))).toNatClampNeg v1) 305 (((16 : Int32) + ((3 : Int32) * (q3.2.1 305 (3 : Int32).toNatClampNeg))) + (1 : Int32)).toNatClampNeg v2) 305 (((16 : Int32) + ((3 : Int32) * (q3.2.1 305 (3 : Int32).toNatClampNeg))) + (2 : Int32)).toNatClampNeg v3), q3.2.2)) from rfl) ?_
            refine m_R_1 (by decide) (m_opb_of (ins := .iastore) (len := 1) (tag := 0) (a := 0) (b := 0) (c := 0) (q := 0) (by decide +kernel)) (m_s_iast sh_305 (show ¬ ((3 : Int32) < 0 ∨ 9732 ≤ (3 : Int32).toNatClampNeg) by decide)) ?_
            refine m_R_sg (by decide) [(.aload_n 0, 1, 0, 0, 0, 0, 0)] (by decide +kernel) (show m_sgl X _ _ _ _ _ = some (115, [some (.ref 304), some (.int v1), some (.int v2), some (.int v3), some (.int ((16 : Int32) + ((3 : Int32) * (q3.2.1 305 (3 : Int32).toNatClampNeg))))], [.ref 304], (SH, (m_up (m_up (m_up (m_up q3.2.1 305 ((16 : Int32) + ((3 : Int32) * (q3.2.1 305 (3 : Int32).toNatClampNeg))).toNatClampNeg v1) 305 (((16 : Int32) + ((3 : Int32) * (q3.2.1 305 (3 : Int32).toNatClampNeg))) + (1 : Int32)).toNatClampNeg v2) 305 (((16 : Int32) + ((3 : Int32) * (q3.2.1 305 (3 : Int32).toNatClampNeg))) + (2 : Int32)).toNatClampNeg v3) 305 (3 : Int32).toNatClampNeg (((m_up (m_up (m_up q3.2.1 305 ((16 : Int32) + ((3 : Int32) * (q3.2.1 305 (3 : Int32).toNatClampNeg))).toNatClampNeg v1) 305 (((16 : Int32) + ((3 : Int32) * (q3.2.1 305 (3 : Int32).toNatClampNeg))) + (1 : Int32)).toNatClampNeg v2) 305 (((16 : Int32) + ((3 : Int32) * (q3.2.1 305 (3 : Int32).toNatClampNeg))) + (2 : Int32)).toNatClampNeg v3) 305 (3 : Int32).toNatClampNeg) + (1 : Int32))), q3.2.2)) from rfl) ?_
            obtain ⟨q5, hc5, h⟩ := Option.bind_eq_some_iff.mp h
            refine m_R_cV (v := none) (h1 := (SH, q5.2)) (rest := []) (lo' := [some (.ref 304), none, none, none, none]) (ml := 5) (k0 := 304) (by decide) (Or.inl rfl) (m_opb_of (ins := .invokevirtual 54) (len := 3) (tag := 5) (a := 199) (b := 0) (c := 0) (q := 1491) (by decide +kernel)) (by decide +kernel) rfl (show m_isO 199 304 (SH, _) = true from m_isO_of (by decide +kernel)) (Nat.le_of_ble_eq_true rfl) rfl rfl (ok_m_measure X (d + 1) F _ _ _ hc5) ?_
            refine m_R_sg (by decide) [(.aload_n 0, 1, 0, 0, 0, 0, 0), (.getfield 13, 3, 0, 12, 1, 3, 1496), (.iconst 3, 1, 0, 3, 0, 0, 0)] (by decide +kernel) (show m_sgl X _ _ _ _ _ = some (123, [some (.ref 304), some (.int v1), some (.int v2), some (.int v3), some (.int ((16 : Int32) + ((3 : Int32) * (q3.2.1 305 (3 : Int32).toNatClampNeg))))], [.int (3 : Int32), .ref 305], (SH, q5.2.1, q5.2.2)) from rfl) ?_
            refine m_R_1 (by decide) (m_opb_of (ins := .iaload) (len := 1) (tag := 0) (a := 0) (b := 0) (c := 0) (q := 0) (by decide +kernel)) (m_s_iald sh_305 (by decide) (show ¬ ((3 : Int32) < 0 ∨ 9732 ≤ (3 : Int32).toNatClampNeg) by decide)) ?_
            cases h
            exact m_R_iret (by decide) (m_opb_of (ins := .ireturn) (len := 1) (tag := 1) (a := 0) (b := 0) (c := 0) (q := 0) (by decide +kernel)) (Or.inl rfl)
def f_Land_between_31 (F : Nat)   (s0 : Int32) (m : mM) : Option (Int32 × mM) := some (s0, m)
theorem ok_Land_between_31 (X : mX) (d F : Nat) : ∀ (s0 : Int32) (w0 : Option Value) (w1 : Option Value) (w2 : Option Value) (m : mM) (r : Int32) (m' : mM), f_Land_between_31 F s0 m = some (r, m') → m_R X (d + 1) 20 31 [w0, w1, w2] [.int s0] (SH, m) (some (.int r), (SH, m')) := by
  intro s0 w0 w1 w2 m r m' h
  unfold f_Land_between_31 at h
  cases h
  exact m_R_iret (by decide) (m_opb_of (ins := .ireturn) (len := 1) (tag := 1) (a := 0) (b := 0) (c := 0) (q := 0) (by decide +kernel)) (Or.inl rfl)
def f_Land_between_30 (F : Nat)    (m : mM) : Option (Int32 × mM) := f_Land_between_31 F (-1 : Int32) m
theorem ok_Land_between_30 (X : mX) (d F : Nat) : ∀  (w0 : Option Value) (w1 : Option Value) (w2 : Option Value) (m : mM) (r : Int32) (m' : mM), f_Land_between_30 F  m = some (r, m') → m_R X (d + 1) 20 30 [w0, w1, w2] [] (SH, m) (some (.int r), (SH, m')) := by
  intro w0 w1 w2 m r m' h
  unfold f_Land_between_30 at h
  refine m_R_sg (by decide) [(.iconst (-1), 1, 0, 1, 1, 0, 0)] (by decide +kernel) (show m_sgl X _ _ _ _ _ = some (31, [w0, w1, w2], [.int (-1 : Int32)], (SH, m.1, m.2)) from rfl) ?_
  exact ok_Land_between_31 X d F _ _ _ _ _ _ _ h
def f_Land_between (F : Nat)   (v1 : Int32) (v2 : Int32) (m : mM) : Option (Int32 × mM) := ((f_Land_isTown F v1 m).bind fun q1 => (if q1.1 = 0 then f_Land_between_30 F q1.2 else ((f_Land_isTown F v2 q1.2).bind fun q2 => (if q2.1 = 0 then f_Land_between_30 F q2.2 else (if ((v1 * (8 : Int32)) + v2) < 0 ∨ 64 ≤ ((v1 * (8 : Int32)) + v2).toNatClampNeg then none else f_Land_between_31 F (q2.2.1 18 ((v1 * (8 : Int32)) + v2).toNatClampNeg) q2.2)))))
theorem ok_Land_between (X : mX) (d F : Nat) : ∀ (v1 : Int32) (v2 : Int32)  (m : mM) (r : Int32) (m' : mM), f_Land_between F v1 v2 m = some (r, m') → m_R X (d + 1) 20 0 [some (.ref 17), some (.int v1), some (.int v2)] [] (SH, m) (some (.int r), (SH, m')) := by
  intro v1 v2 m r m' h
  unfold f_Land_between at h
  refine m_R_sg (by decide) [(.aload_n 0, 1, 0, 0, 0, 0, 0), (.iload_n 1, 1, 0, 1, 0, 0, 0)] (by decide +kernel) (show m_sgl X _ _ _ _ _ = some (2, [some (.ref 17), some (.int v1), some (.int v2)], [.int v1, .ref 17], (SH, m.1, m.2)) from rfl) ?_
  obtain ⟨q1, hc1, h⟩ := Option.bind_eq_some_iff.mp h
  refine m_R_cV (v := (some (.int q1.1))) (h1 := (SH, q1.2)) (rest := []) (lo' := [some (.ref 17), some (.int v1)]) (ml := 2) (k0 := 17) (by decide) (Or.inl rfl) (m_opb_of (ins := .invokevirtual 26) (len := 3) (tag := 5) (a := 16) (b := 1) (c := 0) (q := 699) (by decide +kernel)) (by decide +kernel) rfl (show m_isO 16 17 (SH, _) = true from m_isO_of (by decide +kernel)) (Nat.le_of_ble_eq_true rfl) rfl rfl (ok_Land_isTown X (d + 0) F _ _ _ _ hc1) ?_
  rcases m_ite h with ⟨c54, h⟩ | ⟨c54, h⟩
  · refine m_R_1 (by decide) (m_opb_of (ins := .ifCond .eq 25) (len := 3) (tag := 0) (a := 30) (b := 0) (c := 0) (q := 0) (by decide +kernel)) (if_pos c54) ?_
    exact ok_Land_between_30 X d F _ _ _ _ _ _ h
  · refine m_R_1 (by decide) (m_opb_of (ins := .ifCond .eq 25) (len := 3) (tag := 0) (a := 30) (b := 0) (c := 0) (q := 0) (by decide +kernel)) (if_neg c54) ?_
    refine m_R_sg (by decide) [(.aload_n 0, 1, 0, 0, 0, 0, 0), (.iload_n 2, 1, 0, 2, 0, 0, 0)] (by decide +kernel) (show m_sgl X _ _ _ _ _ = some (10, [some (.ref 17), some (.int v1), some (.int v2)], [.int v2, .ref 17], (SH, q1.2.1, q1.2.2)) from rfl) ?_
    obtain ⟨q2, hc2, h⟩ := Option.bind_eq_some_iff.mp h
    refine m_R_cV (v := (some (.int q2.1))) (h1 := (SH, q2.2)) (rest := []) (lo' := [some (.ref 17), some (.int v2)]) (ml := 2) (k0 := 17) (by decide) (Or.inl rfl) (m_opb_of (ins := .invokevirtual 26) (len := 3) (tag := 5) (a := 16) (b := 1) (c := 0) (q := 699) (by decide +kernel)) (by decide +kernel) rfl (show m_isO 16 17 (SH, _) = true from m_isO_of (by decide +kernel)) (Nat.le_of_ble_eq_true rfl) rfl rfl (ok_Land_isTown X (d + 0) F _ _ _ _ hc2) ?_
    rcases m_ite h with ⟨c55, h⟩ | ⟨c55, h⟩
    · refine m_R_1 (by decide) (m_opb_of (ins := .ifCond .eq 17) (len := 3) (tag := 0) (a := 30) (b := 0) (c := 0) (q := 0) (by decide +kernel)) (if_pos c55) ?_
      exact ok_Land_between_30 X d F _ _ _ _ _ _ h
    · refine m_R_1 (by decide) (m_opb_of (ins := .ifCond .eq 17) (len := 3) (tag := 0) (a := 30) (b := 0) (c := 0) (q := 0) (by decide +kernel)) (if_neg c55) ?_
      refine m_R_sg (by decide) [(.aload_n 0, 1, 0, 0, 0, 0, 0), (.getfield 9, 3, 0, 2, 0, 3, 231), (.iload_n 1, 1, 0, 1, 0, 0, 0), (.bipush 8, 2, 0, 8, 0, 0, 0), (.imul, 1, 0, 0, 0, 0, 0), (.iload_n 2, 1, 0, 2, 0, 0, 0), (.iadd, 1, 0, 0, 0, 0, 0)] (by decide +kernel) (show m_sgl X _ _ _ _ _ = some (26, [some (.ref 17), some (.int v1), some (.int v2)], [.int ((v1 * (8 : Int32)) + v2), .ref 18], (SH, q2.2.1, q2.2.2)) from rfl) ?_
      obtain ⟨c56, h⟩ := m_ite_n h
      refine m_R_1 (by decide) (m_opb_of (ins := .iaload) (len := 1) (tag := 0) (a := 0) (b := 0) (c := 0) (q := 0) (by decide +kernel)) (m_s_iald sh_18 (by decide) c56) ?_
      refine m_R_sg (by decide) [(.goto 4, 3, 0, 31, 0, 0, 0)] (by decide +kernel) (show m_sgl X _ _ _ _ _ = some (31, [some (.ref 17), some (.int v1), some (.int v2)], [.int (q2.2.1 18 ((v1 * (8 : Int32)) + v2).toNatClampNeg)], (SH, q2.2.1, q2.2.2)) from rfl) ?_
      exact ok_Land_between_31 X d F _ _ _ _ _ _ _ h
def f_x_far_28 (F : Nat)    (m : mM) : Option (Int32 × mM) := ((f_x_refuse F (-3 : Int32) m).bind fun q4 => some (q4.1, q4.2))
theorem ok_x_far_28 (X : mX) (d F : Nat) : ∀  (w1 : Option Value) (w2 : Option Value) (m : mM) (r : Int32) (m' : mM), f_x_far_28 F  m = some (r, m') → m_R X (d + 2) 19 28 [some (.ref 0), w1, w2] [] (SH, m) (some (.int r), (SH, m')) := by
  intro w1 w2 m r m' h
  unfold f_x_far_28 at h
  refine m_R_sg (by decide) [(.aload_n 0, 1, 0, 0, 0, 0, 0), (.bipush (-3), 2, 0, 3, 1, 0, 0)] (by decide +kernel) (show m_sgl X _ _ _ _ _ = some (31, [some (.ref 0), w1, w2], [.int (-3 : Int32), .ref 0], (SH, m.1, m.2)) from rfl) ?_
  obtain ⟨q4, hc4, h⟩ := Option.bind_eq_some_iff.mp h
  refine m_R_cV (v := (some (.int q4.1))) (h1 := (SH, q4.2)) (rest := []) (lo' := [some (.ref 0), some (.int (-3 : Int32))]) (ml := 2) (k0 := 0) (by decide) (Or.inl rfl) (m_opb_of (ins := .invokevirtual 76) (len := 3) (tag := 5) (a := 14) (b := 1) (c := 0) (q := 671) (by decide +kernel)) (by decide +kernel) rfl (show m_isO 14 0 (SH, _) = true from m_isO_of (by decide +kernel)) (Nat.le_of_ble_eq_true rfl) rfl rfl (ok_x_refuse X (d + 1) F _ _ _ _ hc4) ?_
  cases h
  exact m_R_iret (by decide) (m_opb_of (ins := .ireturn) (len := 1) (tag := 1) (a := 0) (b := 0) (c := 0) (q := 0) (by decide +kernel)) (Or.inl rfl)
def f_x_far (F : Nat)   (v1 : Int32) (v2 : Int32) (m : mM) : Option (Int32 × mM) := ((f_Land_isTown F v1 m).bind fun q1 => (if q1.1 = 0 then f_x_far_28 F q1.2 else ((f_Land_isTown F v2 q1.2).bind fun q2 => (if q2.1 = 0 then f_x_far_28 F q2.2 else ((f_Land_between F v1 v2 q2.2).bind fun q3 => some (q3.1, q3.2))))))
theorem ok_x_far (X : mX) (d F : Nat) : ∀ (v1 : Int32) (v2 : Int32)  (m : mM) (r : Int32) (m' : mM), f_x_far F v1 v2 m = some (r, m') → m_R X (d + 2) 19 0 [some (.ref 0), some (.int v1), some (.int v2)] [] (SH, m) (some (.int r), (SH, m')) := by
  intro v1 v2 m r m' h
  unfold f_x_far at h
  refine m_R_sg (by decide) [(.aload_n 0, 1, 0, 0, 0, 0, 0), (.getfield 28, 3, 0, 11, 2, 3, 632), (.getfield 67, 3, 0, 10, 0, 3, 504), (.iload_n 1, 1, 0, 1, 0, 0, 0)] (by decide +kernel) (show m_sgl X _ _ _ _ _ = some (8, [some (.ref 0), some (.int v1), some (.int v2)], [.int v1, .ref 17], (SH, m.1, m.2)) from rfl) ?_
  obtain ⟨q1, hc1, h⟩ := Option.bind_eq_some_iff.mp h
  refine m_R_cV (v := (some (.int q1.1))) (h1 := (SH, q1.2)) (rest := []) (lo' := [some (.ref 17), some (.int v1)]) (ml := 2) (k0 := 17) (by decide) (Or.inl rfl) (m_opb_of (ins := .invokevirtual 80) (len := 3) (tag := 5) (a := 16) (b := 1) (c := 0) (q := 679) (by decide +kernel)) (by decide +kernel) rfl (show m_isO 16 17 (SH, _) = true from m_isO_of (by decide +kernel)) (Nat.le_of_ble_eq_true rfl) rfl rfl (ok_Land_isTown X (d + 1) F _ _ _ _ hc1) ?_
  rcases m_ite h with ⟨c57, h⟩ | ⟨c57, h⟩
  · refine m_R_1 (by decide) (m_opb_of (ins := .ifCond .eq 17) (len := 3) (tag := 0) (a := 28) (b := 0) (c := 0) (q := 0) (by decide +kernel)) (if_pos c57) ?_
    exact ok_x_far_28 X d F _ _ _ _ _ h
  · refine m_R_1 (by decide) (m_opb_of (ins := .ifCond .eq 17) (len := 3) (tag := 0) (a := 28) (b := 0) (c := 0) (q := 0) (by decide +kernel)) (if_neg c57) ?_
    refine m_R_sg (by decide) [(.aload_n 0, 1, 0, 0, 0, 0, 0), (.getfield 28, 3, 0, 11, 2, 3, 632), (.getfield 67, 3, 0, 10, 0, 3, 504), (.iload_n 2, 1, 0, 2, 0, 0, 0)] (by decide +kernel) (show m_sgl X _ _ _ _ _ = some (22, [some (.ref 0), some (.int v1), some (.int v2)], [.int v2, .ref 17], (SH, q1.2.1, q1.2.2)) from rfl) ?_
    obtain ⟨q2, hc2, h⟩ := Option.bind_eq_some_iff.mp h
    refine m_R_cV (v := (some (.int q2.1))) (h1 := (SH, q2.2)) (rest := []) (lo' := [some (.ref 17), some (.int v2)]) (ml := 2) (k0 := 17) (by decide) (Or.inl rfl) (m_opb_of (ins := .invokevirtual 80) (len := 3) (tag := 5) (a := 16) (b := 1) (c := 0) (q := 679) (by decide +kernel)) (by decide +kernel) rfl (show m_isO 16 17 (SH, _) = true from m_isO_of (by decide +kernel)) (Nat.le_of_ble_eq_true rfl) rfl rfl (ok_Land_isTown X (d + 1) F _ _ _ _ hc2) ?_
    rcases m_ite h with ⟨c58, h⟩ | ⟨c58, h⟩
    · refine m_R_1 (by decide) (m_opb_of (ins := .ifCond .ne 10) (len := 3) (tag := 0) (a := 35) (b := 0) (c := 0) (q := 0) (by decide +kernel)) (if_pos c58) ?_
      exact ok_x_far_28 X d F _ _ _ _ _ h
    · refine m_R_1 (by decide) (m_opb_of (ins := .ifCond .ne 10) (len := 3) (tag := 0) (a := 35) (b := 0) (c := 0) (q := 0) (by decide +kernel)) (if_neg c58) ?_
      refine m_R_sg (by decide) [(.aload_n 0, 1, 0, 0, 0, 0, 0), (.getfield 28, 3, 0, 11, 2, 3, 632), (.getfield 67, 3, 0, 10, 0, 3, 504), (.iload_n 1, 1, 0, 1, 0, 0, 0), (.iload_n 2, 1, 0, 2, 0, 0, 0)] (by decide +kernel) (show m_sgl X _ _ _ _ _ = some (44, [some (.ref 0), some (.int v1), some (.int v2)], [.int v2, .int v1, .ref 17], (SH, q2.2.1, q2.2.2)) from rfl) ?_
      obtain ⟨q3, hc3, h⟩ := Option.bind_eq_some_iff.mp h
      refine m_R_cV (v := (some (.int q3.1))) (h1 := (SH, q3.2)) (rest := []) (lo' := [some (.ref 17), some (.int v1), some (.int v2)]) (ml := 3) (k0 := 17) (by decide) (Or.inl rfl) (m_opb_of (ins := .invokevirtual 91) (len := 3) (tag := 5) (a := 20) (b := 2) (c := 0) (q := 695) (by decide +kernel)) (by decide +kernel) rfl (show m_isO 20 17 (SH, _) = true from m_isO_of (by decide +kernel)) (Nat.le_of_ble_eq_true rfl) rfl rfl (ok_Land_between X (d + 0) F _ _ _ _ _ hc3) ?_
      cases h
      exact m_R_iret (by decide) (m_opb_of (ins := .ireturn) (len := 1) (tag := 1) (a := 0) (b := 0) (c := 0) (q := 0) (by decide +kernel)) (Or.inl rfl)
def f_Houses_isHouse_17 (F : Nat)   (s0 : Int32) (m : mM) : Option (Int32 × mM) := (if s0 = 0 ∨ s0 = 1 then some (s0, m) else none)
theorem ok_Houses_isHouse_17 (X : mX) (d F : Nat) : ∀ (s0 : Int32) (w0 : Option Value) (w1 : Option Value) (m : mM) (r : Int32) (m' : mM), f_Houses_isHouse_17 F s0 m = some (r, m') → m_R X (d + 0) 24 17 [w0, w1] [.int s0] (SH, m) (some (.int r), (SH, m')) := by
  intro s0 w0 w1 m r m' h
  unfold f_Houses_isHouse_17 at h
  obtain ⟨c0, h⟩ := m_ite_p h
  cases h
  exact m_R_iret (by decide) (m_opb_of (ins := .ireturn) (len := 1) (tag := 1) (a := 1) (b := 0) (c := 0) (q := 0) (by decide +kernel)) (Or.inr c0)
def f_Houses_isHouse_16 (F : Nat)    (m : mM) : Option (Int32 × mM) := f_Houses_isHouse_17 F (0 : Int32) m
theorem ok_Houses_isHouse_16 (X : mX) (d F : Nat) : ∀  (w0 : Option Value) (w1 : Option Value) (m : mM) (r : Int32) (m' : mM), f_Houses_isHouse_16 F  m = some (r, m') → m_R X (d + 0) 24 16 [w0, w1] [] (SH, m) (some (.int r), (SH, m')) := by
  intro w0 w1 m r m' h
  unfold f_Houses_isHouse_16 at h
  refine m_R_sg (by decide) [(.iconst 0, 1, 0, 0, 0, 0, 0)] (by decide +kernel) (show m_sgl X _ _ _ _ _ = some (17, [w0, w1], [.int (0 : Int32)], (SH, m.1, m.2)) from rfl) ?_
  exact ok_Houses_isHouse_17 X d F _ _ _ _ _ _ h
def f_Houses_isHouse (F : Nat)   (v1 : Int32) (m : mM) : Option (Int32 × mM) := (if v1 < 0 then f_Houses_isHouse_16 F m else (if (m.1 19 11) ≤ v1 then f_Houses_isHouse_16 F m else f_Houses_isHouse_17 F (1 : Int32) m))
theorem ok_Houses_isHouse (X : mX) (d F : Nat) : ∀ (v1 : Int32)  (m : mM) (r : Int32) (m' : mM), f_Houses_isHouse F v1 m = some (r, m') → m_R X (d + 0) 24 0 [some (.ref 19), some (.int v1)] [] (SH, m) (some (.int r), (SH, m')) := by
  intro v1 m r m' h
  unfold f_Houses_isHouse at h
  refine m_R_sg (by decide) [(.iload_n 1, 1, 0, 1, 0, 0, 0)] (by decide +kernel) (show m_sgl X _ _ _ _ _ = some (1, [some (.ref 19), some (.int v1)], [.int v1], (SH, m.1, m.2)) from rfl) ?_
  rcases m_ite h with ⟨c59, h⟩ | ⟨c59, h⟩
  · refine m_R_1 (by decide) (m_opb_of (ins := .ifCond .lt 15) (len := 3) (tag := 0) (a := 16) (b := 0) (c := 0) (q := 0) (by decide +kernel)) (if_pos c59) ?_
    exact ok_Houses_isHouse_16 X d F _ _ _ _ _ h
  · refine m_R_1 (by decide) (m_opb_of (ins := .ifCond .lt 15) (len := 3) (tag := 0) (a := 16) (b := 0) (c := 0) (q := 0) (by decide +kernel)) (if_neg c59) ?_
    refine m_R_sg (by decide) [(.iload_n 1, 1, 0, 1, 0, 0, 0), (.aload_n 0, 1, 0, 0, 0, 0, 0), (.getfield 45, 3, 0, 1, 11, 0, 278)] (by decide +kernel) (show m_sgl X _ _ _ _ _ = some (9, [some (.ref 19), some (.int v1)], [.int (m.1 19 11), .int v1], (SH, m.1, m.2)) from rfl) ?_
    rcases m_ite h with ⟨c60, h⟩ | ⟨c60, h⟩
    · refine m_R_1 (by decide) (m_opb_of (ins := .if_icmp .ge 7) (len := 3) (tag := 0) (a := 16) (b := 0) (c := 0) (q := 0) (by decide +kernel)) (if_pos c60) ?_
      exact ok_Houses_isHouse_16 X d F _ _ _ _ _ h
    · refine m_R_1 (by decide) (m_opb_of (ins := .if_icmp .ge 7) (len := 3) (tag := 0) (a := 16) (b := 0) (c := 0) (q := 0) (by decide +kernel)) (if_neg c60) ?_
      refine m_R_sg (by decide) [(.iconst 1, 1, 0, 1, 0, 0, 0), (.goto 4, 3, 0, 17, 0, 0, 0)] (by decide +kernel) (show m_sgl X _ _ _ _ _ = some (17, [some (.ref 19), some (.int v1)], [.int (1 : Int32)], (SH, m.1, m.2)) from rfl) ?_
      exact ok_Houses_isHouse_17 X d F _ _ _ _ _ _ h
def f_Houses_isUp_23 (F : Nat)   (s0 : Int32) (m : mM) : Option (Int32 × mM) := (if s0 = 0 ∨ s0 = 1 then some (s0, m) else none)
theorem ok_Houses_isUp_23 (X : mX) (d F : Nat) : ∀ (s0 : Int32) (w0 : Option Value) (w1 : Option Value) (m : mM) (r : Int32) (m' : mM), f_Houses_isUp_23 F s0 m = some (r, m') → m_R X (d + 1) 25 23 [w0, w1] [.int s0] (SH, m) (some (.int r), (SH, m')) := by
  intro s0 w0 w1 m r m' h
  unfold f_Houses_isUp_23 at h
  obtain ⟨c0, h⟩ := m_ite_p h
  cases h
  exact m_R_iret (by decide) (m_opb_of (ins := .ireturn) (len := 1) (tag := 1) (a := 1) (b := 0) (c := 0) (q := 0) (by decide +kernel)) (Or.inr c0)
def f_Houses_isUp_22 (F : Nat)    (m : mM) : Option (Int32 × mM) := f_Houses_isUp_23 F (0 : Int32) m
theorem ok_Houses_isUp_22 (X : mX) (d F : Nat) : ∀  (w0 : Option Value) (w1 : Option Value) (m : mM) (r : Int32) (m' : mM), f_Houses_isUp_22 F  m = some (r, m') → m_R X (d + 1) 25 22 [w0, w1] [] (SH, m) (some (.int r), (SH, m')) := by
  intro w0 w1 m r m' h
  unfold f_Houses_isUp_22 at h
  refine m_R_sg (by decide) [(.iconst 0, 1, 0, 0, 0, 0, 0)] (by decide +kernel) (show m_sgl X _ _ _ _ _ = some (23, [w0, w1], [.int (0 : Int32)], (SH, m.1, m.2)) from rfl) ?_
  exact ok_Houses_isUp_23 X d F _ _ _ _ _ _ h
def f_Houses_isUp (F : Nat)   (v1 : Int32) (m : mM) : Option (Int32 × mM) := ((f_Houses_isHouse F v1 m).bind fun q1 => (if q1.1 = 0 then f_Houses_isUp_22 F q1.2 else (if v1 < 0 ∨ 16 ≤ v1.toNatClampNeg then none else (if (q1.2.1 27 v1.toNatClampNeg) = (-1 : Int32) then f_Houses_isUp_23 F (1 : Int32) q1.2 else f_Houses_isUp_22 F q1.2))))
theorem ok_Houses_isUp (X : mX) (d F : Nat) : ∀ (v1 : Int32)  (m : mM) (r : Int32) (m' : mM), f_Houses_isUp F v1 m = some (r, m') → m_R X (d + 1) 25 0 [some (.ref 19), some (.int v1)] [] (SH, m) (some (.int r), (SH, m')) := by
  intro v1 m r m' h
  unfold f_Houses_isUp at h
  refine m_R_sg (by decide) [(.aload_n 0, 1, 0, 0, 0, 0, 0), (.iload_n 1, 1, 0, 1, 0, 0, 0)] (by decide +kernel) (show m_sgl X _ _ _ _ _ = some (2, [some (.ref 19), some (.int v1)], [.int v1, .ref 19], (SH, m.1, m.2)) from rfl) ?_
  obtain ⟨q1, hc1, h⟩ := Option.bind_eq_some_iff.mp h
  refine m_R_cV (v := (some (.int q1.1))) (h1 := (SH, q1.2)) (rest := []) (lo' := [some (.ref 19), some (.int v1)]) (ml := 2) (k0 := 19) (by decide) (Or.inl rfl) (m_opb_of (ins := .invokevirtual 56) (len := 3) (tag := 5) (a := 24) (b := 1) (c := 0) (q := 720) (by decide +kernel)) (by decide +kernel) rfl (show m_isO 24 19 (SH, _) = true from m_isO_of (by decide +kernel)) (Nat.le_of_ble_eq_true rfl) rfl rfl (ok_Houses_isHouse X (d + 0) F _ _ _ _ hc1) ?_
  rcases m_ite h with ⟨c61, h⟩ | ⟨c61, h⟩
  · refine m_R_1 (by decide) (m_opb_of (ins := .ifCond .eq 17) (len := 3) (tag := 0) (a := 22) (b := 0) (c := 0) (q := 0) (by decide +kernel)) (if_pos c61) ?_
    exact ok_Houses_isUp_22 X d F _ _ _ _ _ h
  · refine m_R_1 (by decide) (m_opb_of (ins := .ifCond .eq 17) (len := 3) (tag := 0) (a := 22) (b := 0) (c := 0) (q := 0) (by decide +kernel)) (if_neg c61) ?_
    refine m_R_sg (by decide) [(.aload_n 0, 1, 0, 0, 0, 0, 0), (.getfield 33, 3, 0, 1, 7, 3, 269), (.iload_n 1, 1, 0, 1, 0, 0, 0)] (by decide +kernel) (show m_sgl X _ _ _ _ _ = some (13, [some (.ref 19), some (.int v1)], [.int v1, .ref 27], (SH, q1.2.1, q1.2.2)) from rfl) ?_
    obtain ⟨c62, h⟩ := m_ite_n h
    refine m_R_1 (by decide) (m_opb_of (ins := .iaload) (len := 1) (tag := 0) (a := 0) (b := 0) (c := 0) (q := 0) (by decide +kernel)) (m_s_iald sh_27 (by decide) c62) ?_
    refine m_R_sg (by decide) [(.iconst (-1), 1, 0, 1, 1, 0, 0)] (by decide +kernel) (show m_sgl X _ _ _ _ _ = some (15, [some (.ref 19), some (.int v1)], [.int (-1 : Int32), .int (q1.2.1 27 v1.toNatClampNeg)], (SH, q1.2.1, q1.2.2)) from rfl) ?_
    rcases m_ite h with ⟨c63, h⟩ | ⟨c63, h⟩
    · refine m_R_1 (by decide) (m_opb_of (ins := .if_icmp .ne 7) (len := 3) (tag := 0) (a := 22) (b := 0) (c := 0) (q := 0) (by decide +kernel)) (if_pos c63) ?_
      refine m_R_sg (by decide) [(.iconst 1, 1, 0, 1, 0, 0, 0), (.goto 4, 3, 0, 23, 0, 0, 0)] (by decide +kernel) (show m_sgl X _ _ _ _ _ = some (23, [some (.ref 19), some (.int v1)], [.int (1 : Int32)], (SH, q1.2.1, q1.2.2)) from rfl) ?_
      exact ok_Houses_isUp_23 X d F _ _ _ _ _ _ h
    · refine m_R_1 (by decide) (m_opb_of (ins := .if_icmp .ne 7) (len := 3) (tag := 0) (a := 22) (b := 0) (c := 0) (q := 0) (by decide +kernel)) (if_neg c63) ?_
      exact ok_Houses_isUp_22 X d F _ _ _ _ _ h
def f_m_isHouse (F : Nat)   (v1 : Int32) (m : mM) : Option (Int32 × mM) := ((f_m_in F v1 (0 : Int32) ((m.1 305 (2 : Int32).toNatClampNeg) - (1 : Int32)) m).bind fun q1 => (if q1.1 = 0 ∨ q1.1 = 1 then some (q1.1, q1.2) else none))
theorem ok_m_isHouse (X : mX) (d F : Nat) : ∀ (v1 : Int32)  (m : mM) (r : Int32) (m' : mM), f_m_isHouse F v1 m = some (r, m') → m_R X (d + 1) 210 0 [some (.ref 304), some (.int v1)] [] (SH, m) (some (.int r), (SH, m')) := by
  intro v1 m r m' h
  unfold f_m_isHouse at h
  refine m_R_sg (by decide) [(.iload_n 1, 1, 0, 1, 0, 0, 0), (.iconst 0, 1, 0, 0, 0, 0, 0), (.aload_n 0, 1, 0, 0, 0, 0, 0), (.getfield 13, 3, 0, 12, 1, 3, 1496), (.iconst 2, 1, 0, 2, 0, 0, 0)] (by decide +kernel) (show m_sgl X _ _ _ _ _ = some (7, [some (.ref 304), some (.int v1)], [.int (2 : Int32), .ref 305, .int (0 : Int32), .int v1], (SH, m.1, m.2)) from rfl) ?_
  refine m_R_1 (by decide) (m_opb_of (ins := .iaload) (len := 1) (tag := 0) (a := 0) (b := 0) (c := 0) (q := 0) (by decide +kernel)) (m_s_iald sh_305 (by decide) (show ¬ ((2 : Int32) < 0 ∨ 9732 ≤ (2 : Int32).toNatClampNeg) by decide)) ?_
  refine m_R_sg (by decide) [(.iconst 1, 1, 0, 1, 0, 0, 0), (.isub, 1, 0, 0, 0, 0, 0)] (by decide +kernel) (show m_sgl X _ _ _ _ _ = some (10, [some (.ref 304), some (.int v1)], [.int ((m.1 305 (2 : Int32).toNatClampNeg) - (1 : Int32)), .int (0 : Int32), .int v1], (SH, m.1, m.2)) from rfl) ?_
  obtain ⟨q1, hc1, h⟩ := Option.bind_eq_some_iff.mp h
  refine m_R_cS (v := (some (.int q1.1))) (h1 := (SH, q1.2)) (rest := []) (lo' := [some (.int v1), some (.int (0 : Int32)), some (.int ((m.1 305 (2 : Int32).toNatClampNeg) - (1 : Int32)))]) (ml := 3) (by decide) (m_opb_of (ins := .invokestatic 57) (len := 3) (tag := 4) (a := 201) (b := 3) (c := 0) (q := 1593) (by decide +kernel)) (by decide +kernel) (Nat.le_of_ble_eq_true rfl) rfl (Nat.le_of_ble_eq_true rfl) rfl rfl (ok_m_in X (d + 0) F _ _ _ _ _ _ hc1) ?_
  obtain ⟨c0, h⟩ := m_ite_p h
  cases h
  exact m_R_iret (by decide) (m_opb_of (ins := .ireturn) (len := 1) (tag := 1) (a := 1) (b := 0) (c := 0) (q := 0) (by decide +kernel)) (Or.inr c0)
def f_m_hs (F : Nat)   (v1 : Int32) (v2 : Int32) (m : mM) : Option (Int32 × mM) := (if (((128 : Int32) + ((12 : Int32) * v1)) + v2) < 0 ∨ 9732 ≤ (((128 : Int32) + ((12 : Int32) * v1)) + v2).toNatClampNeg then none else some ((m.1 305 (((128 : Int32) + ((12 : Int32) * v1)) + v2).toNatClampNeg), m))
theorem ok_m_hs (X : mX) (d F : Nat) : ∀ (v1 : Int32) (v2 : Int32)  (m : mM) (r : Int32) (m' : mM), f_m_hs F v1 v2 m = some (r, m') → m_R X (d + 0) 212 0 [some (.ref 304), some (.int v1), some (.int v2)] [] (SH, m) (some (.int r), (SH, m')) := by
  intro v1 v2 m r m' h
  unfold f_m_hs at h
  refine m_R_sg (by decide) [(.aload_n 0, 1, 0, 0, 0, 0, 0), (.getfield 13, 3, 0, 12, 1, 3, 1496), (.sipush 128, 3, 0, 128, 0, 0, 0), (.bipush 12, 2, 0, 12, 0, 0, 0), (.iload_n 1, 1, 0, 1, 0, 0, 0), (.imul, 1, 0, 0, 0, 0, 0), (.iadd, 1, 0, 0, 0, 0, 0), (.iload_n 2, 1, 0, 2, 0, 0, 0), (.iadd, 1, 0, 0, 0, 0, 0)] (by decide +kernel) (show m_sgl X _ _ _ _ _ = some (14, [some (.ref 304), some (.int v1), some (.int v2)], [.int (((128 : Int32) + ((12 : Int32) * v1)) + v2), .ref 305], (SH, m.1, m.2)) from rfl) ?_
  obtain ⟨c64, h⟩ := m_ite_n h
  refine m_R_1 (by decide) (m_opb_of (ins := .iaload) (len := 1) (tag := 0) (a := 0) (b := 0) (c := 0) (q := 0) (by decide +kernel)) (m_s_iald sh_305 (by decide) c64) ?_
  cases h
  exact m_R_iret (by decide) (m_opb_of (ins := .ireturn) (len := 1) (tag := 1) (a := 0) (b := 0) (c := 0) (q := 0) (by decide +kernel)) (Or.inl rfl)
def f_World_coin (F : Nat)   (v1 : Int32) (m : mM) : Option (Int32 × mM) := (if v1 < 0 ∨ 16 ≤ v1.toNatClampNeg then none else some (((m.1 22 v1.toNatClampNeg) + ((10 : Int32) * (m.1 61 v1.toNatClampNeg))), m))
theorem ok_World_coin (X : mX) (d F : Nat) : ∀ (v1 : Int32)  (m : mM) (r : Int32) (m' : mM), f_World_coin F v1 m = some (r, m') → m_R X (d + 0) 29 0 [some (.ref 16), some (.int v1)] [] (SH, m) (some (.int r), (SH, m')) := by
  intro v1 m r m' h
  unfold f_World_coin at h
  refine m_R_sg (by decide) [(.aload_n 0, 1, 0, 0, 0, 0, 0), (.getfield 21, 3, 0, 10, 1, 3, 505), (.getfield 107, 3, 0, 1, 2, 3, 255), (.iload_n 1, 1, 0, 1, 0, 0, 0)] (by decide +kernel) (show m_sgl X _ _ _ _ _ = some (8, [some (.ref 16), some (.int v1)], [.int v1, .ref 22], (SH, m.1, m.2)) from rfl) ?_
  obtain ⟨c65, h⟩ := m_ite_n h
  refine m_R_1 (by decide) (m_opb_of (ins := .iaload) (len := 1) (tag := 0) (a := 0) (b := 0) (c := 0) (q := 0) (by decide +kernel)) (m_s_iald sh_22 (by decide) c65) ?_
  refine m_R_sg (by decide) [(.bipush 10, 2, 0, 10, 0, 0, 0), (.aload_n 0, 1, 0, 0, 0, 0, 0), (.getfield 72, 3, 0, 10, 8, 3, 518), (.getfield 110, 3, 0, 3, 6, 3, 461), (.iload_n 1, 1, 0, 1, 0, 0, 0)] (by decide +kernel) (show m_sgl X _ _ _ _ _ = some (19, [some (.ref 16), some (.int v1)], [.int v1, .ref 61, .int (10 : Int32), .int (m.1 22 v1.toNatClampNeg)], (SH, m.1, m.2)) from rfl) ?_
  refine m_R_1 (by decide) (m_opb_of (ins := .iaload) (len := 1) (tag := 0) (a := 0) (b := 0) (c := 0) (q := 0) (by decide +kernel)) (m_s_iald sh_61 (by decide) c65) ?_
  refine m_R_sg (by decide) [(.imul, 1, 0, 0, 0, 0, 0), (.iadd, 1, 0, 0, 0, 0, 0)] (by decide +kernel) (show m_sgl X _ _ _ _ _ = some (22, [some (.ref 16), some (.int v1)], [.int ((m.1 22 v1.toNatClampNeg) + ((10 : Int32) * (m.1 61 v1.toNatClampNeg)))], (SH, m.1, m.2)) from rfl) ?_
  cases h
  exact m_R_iret (by decide) (m_opb_of (ins := .ireturn) (len := 1) (tag := 1) (a := 0) (b := 0) (c := 0) (q := 0) (by decide +kernel)) (Or.inl rfl)
def f_Papers_heldBy_38 (F : Nat)  (k4 : Int32 → Int32 → Int32 → mM → Option (Int32 × mM)) (v1 : Int32) (v3 : Int32) (s0 : Int32) (s1 : Int32) (m : mM) : Option (Int32 × mM) := k4 v1 (s0 + s1) (v3 + (1 : Int32)) m
theorem ok_Papers_heldBy_38 (X : mX) (d F : Nat) (k4 : Int32 → Int32 → Int32 → mM → Option (Int32 × mM)) (hk4 : ∀ (v1 : Int32) (v2 : Int32) (v3 : Int32) (m : mM) (r : Int32) (m' : mM), k4 v1 v2 v3 m = some (r, m') → m_R X (d + 0) 30 4 [some (.ref 31), some (.int v1), some (.int v2), some (.int v3)] [] (SH, m) (some (.int r), (SH, m'))) : ∀ (v1 : Int32) (v3 : Int32) (s0 : Int32) (s1 : Int32) (w2 : Option Value) (m : mM) (r : Int32) (m' : mM), f_Papers_heldBy_38 F k4 v1 v3 s0 s1 m = some (r, m') → m_R X (d + 0) 30 38 [some (.ref 31), some (.int v1), w2, some (.int v3)] [.int s1, .int s0] (SH, m) (some (.int r), (SH, m')) := by
  intro v1 v3 s0 s1 w2 m r m' h
  unfold f_Papers_heldBy_38 at h
  refine m_R_sg (by decide) [(.iadd, 1, 0, 0, 0, 0, 0), (.istore_n 2, 1, 0, 2, 0, 0, 0), (.iinc 3 1, 3, 0, 3, 1, 0, 0), (.goto (-39), 3, 0, 4, 0, 0, 0)] (by decide +kernel) (show m_sgl X _ _ _ _ _ = some (4, [some (.ref 31), some (.int v1), some (.int (s0 + s1)), some (.int (v3 + (1 : Int32)))], [], (SH, m.1, m.2)) from rfl) ?_
  exact hk4 _ _ _ _ _ _ h
def f_Papers_heldBy_37 (F : Nat)  (k4 : Int32 → Int32 → Int32 → mM → Option (Int32 × mM)) (v1 : Int32) (v3 : Int32) (s0 : Int32) (m : mM) : Option (Int32 × mM) := f_Papers_heldBy_38 F k4 v1 v3 s0 (0 : Int32) m
theorem ok_Papers_heldBy_37 (X : mX) (d F : Nat) (k4 : Int32 → Int32 → Int32 → mM → Option (Int32 × mM)) (hk4 : ∀ (v1 : Int32) (v2 : Int32) (v3 : Int32) (m : mM) (r : Int32) (m' : mM), k4 v1 v2 v3 m = some (r, m') → m_R X (d + 0) 30 4 [some (.ref 31), some (.int v1), some (.int v2), some (.int v3)] [] (SH, m) (some (.int r), (SH, m'))) : ∀ (v1 : Int32) (v3 : Int32) (s0 : Int32) (w2 : Option Value) (m : mM) (r : Int32) (m' : mM), f_Papers_heldBy_37 F k4 v1 v3 s0 m = some (r, m') → m_R X (d + 0) 30 37 [some (.ref 31), some (.int v1), w2, some (.int v3)] [.int s0] (SH, m) (some (.int r), (SH, m')) := by
  intro v1 v3 s0 w2 m r m' h
  unfold f_Papers_heldBy_37 at h
  refine m_R_sg (by decide) [(.iconst 0, 1, 0, 0, 0, 0, 0)] (by decide +kernel) (show m_sgl X _ _ _ _ _ = some (38, [some (.ref 31), some (.int v1), w2, some (.int v3)], [.int (0 : Int32), .int s0], (SH, m.1, m.2)) from rfl) ?_
  exact ok_Papers_heldBy_38 X d F _ hk4 _ _ _ _ _ _ _ _ h
def f_Papers_heldBy_4 (F : Nat)   : Nat → Int32 → Int32 → Int32 → mM → Option (Int32 × mM)
  | 0, _, _, _, _ => none
  | n + 1, v1, v2, v3, m => (if (m.1 31 15) ≤ v3 then some (v2, m) else (if v3 < 0 ∨ 60 ≤ v3.toNatClampNeg then none else (if (m.1 32 v3.toNatClampNeg) = (-1 : Int32) then f_Papers_heldBy_37 F (f_Papers_heldBy_4 F n) v1 v3 v2 m else (if (m.1 35 v3.toNatClampNeg) = v1 then f_Papers_heldBy_38 F (f_Papers_heldBy_4 F n) v1 v3 v2 (1 : Int32) m else f_Papers_heldBy_37 F (f_Papers_heldBy_4 F n) v1 v3 v2 m))))
theorem ok_Papers_heldBy_4 (X : mX) (d F : Nat) : ∀ (n : Nat) (v1 : Int32) (v2 : Int32) (v3 : Int32)  (m : mM) (r : Int32) (m' : mM), f_Papers_heldBy_4 F n v1 v2 v3 m = some (r, m') → m_R X (d + 0) 30 4 [some (.ref 31), some (.int v1), some (.int v2), some (.int v3)] [] (SH, m) (some (.int r), (SH, m')) := by
  intro n
  induction n with
  | zero => intro v1 v2 v3 m r m' h; cases h
  | succ n ih =>
    intro v1 v2 v3 m r m' h
    simp only [f_Papers_heldBy_4] at h
    refine m_R_sg (by decide) [(.iload_n 3, 1, 0, 3, 0, 0, 0), (.aload_n 0, 1, 0, 0, 0, 0, 0), (.getfield 63, 3, 0, 4, 15, 0, 363)] (by decide +kernel) (show m_sgl X _ _ _ _ _ = some (9, [some (.ref 31), some (.int v1), some (.int v2), some (.int v3)], [.int (m.1 31 15), .int v3], (SH, m.1, m.2)) from rfl) ?_
    rcases m_ite h with ⟨c66, h⟩ | ⟨c66, h⟩
    · refine m_R_1 (by decide) (m_opb_of (ins := .if_icmp .ge 37) (len := 3) (tag := 0) (a := 46) (b := 0) (c := 0) (q := 0) (by decide +kernel)) (if_pos c66) ?_
      refine m_R_sg (by decide) [(.iload_n 2, 1, 0, 2, 0, 0, 0)] (by decide +kernel) (show m_sgl X _ _ _ _ _ = some (47, [some (.ref 31), some (.int v1), some (.int v2), some (.int v3)], [.int v2], (SH, m.1, m.2)) from rfl) ?_
      cases h
      exact m_R_iret (by decide) (m_opb_of (ins := .ireturn) (len := 1) (tag := 1) (a := 0) (b := 0) (c := 0) (q := 0) (by decide +kernel)) (Or.inl rfl)
    · refine m_R_1 (by decide) (m_opb_of (ins := .if_icmp .ge 37) (len := 3) (tag := 0) (a := 46) (b := 0) (c := 0) (q := 0) (by decide +kernel)) (if_neg c66) ?_
      refine m_R_sg (by decide) [(.iload_n 2, 1, 0, 2, 0, 0, 0), (.aload_n 0, 1, 0, 0, 0, 0, 0), (.getfield 9, 3, 0, 4, 0, 3, 317), (.iload_n 3, 1, 0, 3, 0, 0, 0)] (by decide +kernel) (show m_sgl X _ _ _ _ _ = some (18, [some (.ref 31), some (.int v1), some (.int v2), some (.int v3)], [.int v3, .ref 32, .int v2], (SH, m.1, m.2)) from rfl) ?_
      obtain ⟨c67, h⟩ := m_ite_n h
      refine m_R_1 (by decide) (m_opb_of (ins := .iaload) (len := 1) (tag := 0) (a := 0) (b := 0) (c := 0) (q := 0) (by decide +kernel)) (m_s_iald sh_32 (by decide) c67) ?_
      refine m_R_sg (by decide) [(.iconst (-1), 1, 0, 1, 1, 0, 0)] (by decide +kernel) (show m_sgl X _ _ _ _ _ = some (20, [some (.ref 31), some (.int v1), some (.int v2), some (.int v3)], [.int (-1 : Int32), .int (m.1 32 v3.toNatClampNeg), .int v2], (SH, m.1, m.2)) from rfl) ?_
      rcases m_ite h with ⟨c68, h⟩ | ⟨c68, h⟩
      · refine m_R_1 (by decide) (m_opb_of (ins := .if_icmp .eq 17) (len := 3) (tag := 0) (a := 37) (b := 0) (c := 0) (q := 0) (by decide +kernel)) (if_pos c68) ?_
        exact ok_Papers_heldBy_37 X d F _ (fun a0 a1 a2 m r m' h => ih a0 a1 a2 m r m' h) _ _ _ _ _ _ _ h
      · refine m_R_1 (by decide) (m_opb_of (ins := .if_icmp .eq 17) (len := 3) (tag := 0) (a := 37) (b := 0) (c := 0) (q := 0) (by decide +kernel)) (if_neg c68) ?_
        refine m_R_sg (by decide) [(.aload_n 0, 1, 0, 0, 0, 0, 0), (.getfield 21, 3, 0, 4, 3, 3, 329), (.iload_n 3, 1, 0, 3, 0, 0, 0)] (by decide +kernel) (show m_sgl X _ _ _ _ _ = some (28, [some (.ref 31), some (.int v1), some (.int v2), some (.int v3)], [.int v3, .ref 35, .int v2], (SH, m.1, m.2)) from rfl) ?_
        refine m_R_1 (by decide) (m_opb_of (ins := .iaload) (len := 1) (tag := 0) (a := 0) (b := 0) (c := 0) (q := 0) (by decide +kernel)) (m_s_iald sh_35 (by decide) c67) ?_
        refine m_R_sg (by decide) [(.iload_n 1, 1, 0, 1, 0, 0, 0)] (by decide +kernel) (show m_sgl X _ _ _ _ _ = some (30, [some (.ref 31), some (.int v1), some (.int v2), some (.int v3)], [.int v1, .int (m.1 35 v3.toNatClampNeg), .int v2], (SH, m.1, m.2)) from rfl) ?_
        rcases m_ite h with ⟨c69, h⟩ | ⟨c69, h⟩
        · refine m_R_1 (by decide) (m_opb_of (ins := .if_icmp .ne 7) (len := 3) (tag := 0) (a := 37) (b := 0) (c := 0) (q := 0) (by decide +kernel)) (if_pos c69) ?_
          refine m_R_sg (by decide) [(.iconst 1, 1, 0, 1, 0, 0, 0), (.goto 4, 3, 0, 38, 0, 0, 0)] (by decide +kernel) (show m_sgl X _ _ _ _ _ = some (38, [some (.ref 31), some (.int v1), some (.int v2), some (.int v3)], [.int (1 : Int32), .int v2], (SH, m.1, m.2)) from rfl) ?_
          exact ok_Papers_heldBy_38 X d F _ (fun a0 a1 a2 m r m' h => ih a0 a1 a2 m r m' h) _ _ _ _ _ _ _ _ h
        · refine m_R_1 (by decide) (m_opb_of (ins := .if_icmp .ne 7) (len := 3) (tag := 0) (a := 37) (b := 0) (c := 0) (q := 0) (by decide +kernel)) (if_neg c69) ?_
          exact ok_Papers_heldBy_37 X d F _ (fun a0 a1 a2 m r m' h => ih a0 a1 a2 m r m' h) _ _ _ _ _ _ _ h
def f_Papers_heldBy (F : Nat)   (v1 : Int32) (m : mM) : Option (Int32 × mM) := f_Papers_heldBy_4 F F v1 (0 : Int32) (0 : Int32) m
theorem ok_Papers_heldBy (X : mX) (d F : Nat) : ∀ (v1 : Int32)  (m : mM) (r : Int32) (m' : mM), f_Papers_heldBy F v1 m = some (r, m') → m_R X (d + 0) 30 0 [some (.ref 31), some (.int v1), none, none] [] (SH, m) (some (.int r), (SH, m')) := by
  intro v1 m r m' h
  unfold f_Papers_heldBy at h
  refine m_R_sg (by decide) [(.iconst 0, 1, 0, 0, 0, 0, 0), (.istore_n 2, 1, 0, 2, 0, 0, 0), (.iconst 0, 1, 0, 0, 0, 0, 0), (.istore_n 3, 1, 0, 3, 0, 0, 0)] (by decide +kernel) (show m_sgl X _ _ _ _ _ = some (4, [some (.ref 31), some (.int v1), some (.int (0 : Int32)), some (.int (0 : Int32))], [], (SH, m.1, m.2)) from rfl) ?_
  exact ok_Papers_heldBy_4 X d F F _ _ _ _ _ _ h
def f_Papers_owedBy_38 (F : Nat)  (k4 : Int32 → Int32 → Int32 → mM → Option (Int32 × mM)) (v1 : Int32) (v3 : Int32) (s0 : Int32) (s1 : Int32) (m : mM) : Option (Int32 × mM) := k4 v1 (s0 + s1) (v3 + (1 : Int32)) m
theorem ok_Papers_owedBy_38 (X : mX) (d F : Nat) (k4 : Int32 → Int32 → Int32 → mM → Option (Int32 × mM)) (hk4 : ∀ (v1 : Int32) (v2 : Int32) (v3 : Int32) (m : mM) (r : Int32) (m' : mM), k4 v1 v2 v3 m = some (r, m') → m_R X (d + 0) 31 4 [some (.ref 31), some (.int v1), some (.int v2), some (.int v3)] [] (SH, m) (some (.int r), (SH, m'))) : ∀ (v1 : Int32) (v3 : Int32) (s0 : Int32) (s1 : Int32) (w2 : Option Value) (m : mM) (r : Int32) (m' : mM), f_Papers_owedBy_38 F k4 v1 v3 s0 s1 m = some (r, m') → m_R X (d + 0) 31 38 [some (.ref 31), some (.int v1), w2, some (.int v3)] [.int s1, .int s0] (SH, m) (some (.int r), (SH, m')) := by
  intro v1 v3 s0 s1 w2 m r m' h
  unfold f_Papers_owedBy_38 at h
  refine m_R_sg (by decide) [(.iadd, 1, 0, 0, 0, 0, 0), (.istore_n 2, 1, 0, 2, 0, 0, 0), (.iinc 3 1, 3, 0, 3, 1, 0, 0), (.goto (-39), 3, 0, 4, 0, 0, 0)] (by decide +kernel) (show m_sgl X _ _ _ _ _ = some (4, [some (.ref 31), some (.int v1), some (.int (s0 + s1)), some (.int (v3 + (1 : Int32)))], [], (SH, m.1, m.2)) from rfl) ?_
  exact hk4 _ _ _ _ _ _ h
def f_Papers_owedBy_37 (F : Nat)  (k4 : Int32 → Int32 → Int32 → mM → Option (Int32 × mM)) (v1 : Int32) (v3 : Int32) (s0 : Int32) (m : mM) : Option (Int32 × mM) := f_Papers_owedBy_38 F k4 v1 v3 s0 (0 : Int32) m
theorem ok_Papers_owedBy_37 (X : mX) (d F : Nat) (k4 : Int32 → Int32 → Int32 → mM → Option (Int32 × mM)) (hk4 : ∀ (v1 : Int32) (v2 : Int32) (v3 : Int32) (m : mM) (r : Int32) (m' : mM), k4 v1 v2 v3 m = some (r, m') → m_R X (d + 0) 31 4 [some (.ref 31), some (.int v1), some (.int v2), some (.int v3)] [] (SH, m) (some (.int r), (SH, m'))) : ∀ (v1 : Int32) (v3 : Int32) (s0 : Int32) (w2 : Option Value) (m : mM) (r : Int32) (m' : mM), f_Papers_owedBy_37 F k4 v1 v3 s0 m = some (r, m') → m_R X (d + 0) 31 37 [some (.ref 31), some (.int v1), w2, some (.int v3)] [.int s0] (SH, m) (some (.int r), (SH, m')) := by
  intro v1 v3 s0 w2 m r m' h
  unfold f_Papers_owedBy_37 at h
  refine m_R_sg (by decide) [(.iconst 0, 1, 0, 0, 0, 0, 0)] (by decide +kernel) (show m_sgl X _ _ _ _ _ = some (38, [some (.ref 31), some (.int v1), w2, some (.int v3)], [.int (0 : Int32), .int s0], (SH, m.1, m.2)) from rfl) ?_
  exact ok_Papers_owedBy_38 X d F _ hk4 _ _ _ _ _ _ _ _ h
def f_Papers_owedBy_4 (F : Nat)   : Nat → Int32 → Int32 → Int32 → mM → Option (Int32 × mM)
  | 0, _, _, _, _ => none
  | n + 1, v1, v2, v3, m => (if (m.1 31 15) ≤ v3 then some (v2, m) else (if v3 < 0 ∨ 60 ≤ v3.toNatClampNeg then none else (if (m.1 32 v3.toNatClampNeg) = (-1 : Int32) then f_Papers_owedBy_37 F (f_Papers_owedBy_4 F n) v1 v3 v2 m else (if (m.1 34 v3.toNatClampNeg) = v1 then f_Papers_owedBy_38 F (f_Papers_owedBy_4 F n) v1 v3 v2 (1 : Int32) m else f_Papers_owedBy_37 F (f_Papers_owedBy_4 F n) v1 v3 v2 m))))
theorem ok_Papers_owedBy_4 (X : mX) (d F : Nat) : ∀ (n : Nat) (v1 : Int32) (v2 : Int32) (v3 : Int32)  (m : mM) (r : Int32) (m' : mM), f_Papers_owedBy_4 F n v1 v2 v3 m = some (r, m') → m_R X (d + 0) 31 4 [some (.ref 31), some (.int v1), some (.int v2), some (.int v3)] [] (SH, m) (some (.int r), (SH, m')) := by
  intro n
  induction n with
  | zero => intro v1 v2 v3 m r m' h; cases h
  | succ n ih =>
    intro v1 v2 v3 m r m' h
    simp only [f_Papers_owedBy_4] at h
    refine m_R_sg (by decide) [(.iload_n 3, 1, 0, 3, 0, 0, 0), (.aload_n 0, 1, 0, 0, 0, 0, 0), (.getfield 63, 3, 0, 4, 15, 0, 363)] (by decide +kernel) (show m_sgl X _ _ _ _ _ = some (9, [some (.ref 31), some (.int v1), some (.int v2), some (.int v3)], [.int (m.1 31 15), .int v3], (SH, m.1, m.2)) from rfl) ?_
    rcases m_ite h with ⟨c70, h⟩ | ⟨c70, h⟩
    · refine m_R_1 (by decide) (m_opb_of (ins := .if_icmp .ge 37) (len := 3) (tag := 0) (a := 46) (b := 0) (c := 0) (q := 0) (by decide +kernel)) (if_pos c70) ?_
      refine m_R_sg (by decide) [(.iload_n 2, 1, 0, 2, 0, 0, 0)] (by decide +kernel) (show m_sgl X _ _ _ _ _ = some (47, [some (.ref 31), some (.int v1), some (.int v2), some (.int v3)], [.int v2], (SH, m.1, m.2)) from rfl) ?_
      cases h
      exact m_R_iret (by decide) (m_opb_of (ins := .ireturn) (len := 1) (tag := 1) (a := 0) (b := 0) (c := 0) (q := 0) (by decide +kernel)) (Or.inl rfl)
    · refine m_R_1 (by decide) (m_opb_of (ins := .if_icmp .ge 37) (len := 3) (tag := 0) (a := 46) (b := 0) (c := 0) (q := 0) (by decide +kernel)) (if_neg c70) ?_
      refine m_R_sg (by decide) [(.iload_n 2, 1, 0, 2, 0, 0, 0), (.aload_n 0, 1, 0, 0, 0, 0, 0), (.getfield 9, 3, 0, 4, 0, 3, 317), (.iload_n 3, 1, 0, 3, 0, 0, 0)] (by decide +kernel) (show m_sgl X _ _ _ _ _ = some (18, [some (.ref 31), some (.int v1), some (.int v2), some (.int v3)], [.int v3, .ref 32, .int v2], (SH, m.1, m.2)) from rfl) ?_
      obtain ⟨c71, h⟩ := m_ite_n h
      refine m_R_1 (by decide) (m_opb_of (ins := .iaload) (len := 1) (tag := 0) (a := 0) (b := 0) (c := 0) (q := 0) (by decide +kernel)) (m_s_iald sh_32 (by decide) c71) ?_
      refine m_R_sg (by decide) [(.iconst (-1), 1, 0, 1, 1, 0, 0)] (by decide +kernel) (show m_sgl X _ _ _ _ _ = some (20, [some (.ref 31), some (.int v1), some (.int v2), some (.int v3)], [.int (-1 : Int32), .int (m.1 32 v3.toNatClampNeg), .int v2], (SH, m.1, m.2)) from rfl) ?_
      rcases m_ite h with ⟨c72, h⟩ | ⟨c72, h⟩
      · refine m_R_1 (by decide) (m_opb_of (ins := .if_icmp .eq 17) (len := 3) (tag := 0) (a := 37) (b := 0) (c := 0) (q := 0) (by decide +kernel)) (if_pos c72) ?_
        exact ok_Papers_owedBy_37 X d F _ (fun a0 a1 a2 m r m' h => ih a0 a1 a2 m r m' h) _ _ _ _ _ _ _ h
      · refine m_R_1 (by decide) (m_opb_of (ins := .if_icmp .eq 17) (len := 3) (tag := 0) (a := 37) (b := 0) (c := 0) (q := 0) (by decide +kernel)) (if_neg c72) ?_
        refine m_R_sg (by decide) [(.aload_n 0, 1, 0, 0, 0, 0, 0), (.getfield 18, 3, 0, 4, 2, 3, 325), (.iload_n 3, 1, 0, 3, 0, 0, 0)] (by decide +kernel) (show m_sgl X _ _ _ _ _ = some (28, [some (.ref 31), some (.int v1), some (.int v2), some (.int v3)], [.int v3, .ref 34, .int v2], (SH, m.1, m.2)) from rfl) ?_
        refine m_R_1 (by decide) (m_opb_of (ins := .iaload) (len := 1) (tag := 0) (a := 0) (b := 0) (c := 0) (q := 0) (by decide +kernel)) (m_s_iald sh_34 (by decide) c71) ?_
        refine m_R_sg (by decide) [(.iload_n 1, 1, 0, 1, 0, 0, 0)] (by decide +kernel) (show m_sgl X _ _ _ _ _ = some (30, [some (.ref 31), some (.int v1), some (.int v2), some (.int v3)], [.int v1, .int (m.1 34 v3.toNatClampNeg), .int v2], (SH, m.1, m.2)) from rfl) ?_
        rcases m_ite h with ⟨c73, h⟩ | ⟨c73, h⟩
        · refine m_R_1 (by decide) (m_opb_of (ins := .if_icmp .ne 7) (len := 3) (tag := 0) (a := 37) (b := 0) (c := 0) (q := 0) (by decide +kernel)) (if_pos c73) ?_
          refine m_R_sg (by decide) [(.iconst 1, 1, 0, 1, 0, 0, 0), (.goto 4, 3, 0, 38, 0, 0, 0)] (by decide +kernel) (show m_sgl X _ _ _ _ _ = some (38, [some (.ref 31), some (.int v1), some (.int v2), some (.int v3)], [.int (1 : Int32), .int v2], (SH, m.1, m.2)) from rfl) ?_
          exact ok_Papers_owedBy_38 X d F _ (fun a0 a1 a2 m r m' h => ih a0 a1 a2 m r m' h) _ _ _ _ _ _ _ _ h
        · refine m_R_1 (by decide) (m_opb_of (ins := .if_icmp .ne 7) (len := 3) (tag := 0) (a := 37) (b := 0) (c := 0) (q := 0) (by decide +kernel)) (if_neg c73) ?_
          exact ok_Papers_owedBy_37 X d F _ (fun a0 a1 a2 m r m' h => ih a0 a1 a2 m r m' h) _ _ _ _ _ _ _ h
def f_Papers_owedBy (F : Nat)   (v1 : Int32) (m : mM) : Option (Int32 × mM) := f_Papers_owedBy_4 F F v1 (0 : Int32) (0 : Int32) m
theorem ok_Papers_owedBy (X : mX) (d F : Nat) : ∀ (v1 : Int32)  (m : mM) (r : Int32) (m' : mM), f_Papers_owedBy F v1 m = some (r, m') → m_R X (d + 0) 31 0 [some (.ref 31), some (.int v1), none, none] [] (SH, m) (some (.int r), (SH, m')) := by
  intro v1 m r m' h
  unfold f_Papers_owedBy at h
  refine m_R_sg (by decide) [(.iconst 0, 1, 0, 0, 0, 0, 0), (.istore_n 2, 1, 0, 2, 0, 0, 0), (.iconst 0, 1, 0, 0, 0, 0, 0), (.istore_n 3, 1, 0, 3, 0, 0, 0)] (by decide +kernel) (show m_sgl X _ _ _ _ _ = some (4, [some (.ref 31), some (.int v1), some (.int (0 : Int32)), some (.int (0 : Int32))], [], (SH, m.1, m.2)) from rfl) ?_
  exact ok_Papers_owedBy_4 X d F F _ _ _ _ _ _ h
def f_x_look_127 (F : Nat)   (s0 : Int32) (m : mM) : Option (Int32 × mM) := some (s0, m)
theorem ok_x_look_127 (X : mX) (d F : Nat) : ∀ (s0 : Int32) (w0 : Option Value) (w1 : Option Value) (w2 : Option Value) (w3 : Option Value) (m : mM) (r : Int32) (m' : mM), f_x_look_127 F s0 m = some (r, m') → m_R X (d + 2) 28 127 [w0, w1, w2, w3] [.int s0] (SH, m) (some (.int r), (SH, m')) := by
  intro s0 w0 w1 w2 w3 m r m' h
  unfold f_x_look_127 at h
  cases h
  exact m_R_iret (by decide) (m_opb_of (ins := .ireturn) (len := 1) (tag := 1) (a := 0) (b := 0) (c := 0) (q := 0) (by decide +kernel)) (Or.inl rfl)
def f_x_look (F : Nat)   (v1 : Int32) (v2 : Int32) (m : mM) : Option (Int32 × mM) := ((f_Houses_isHouse F v1 m).bind fun q1 => (if q1.1 = 0 then ((f_x_refuse F (-3 : Int32) q1.2).bind fun q2 => some (q2.1, q2.2)) else (if v2 = (0 : Int32) then (if v1 < 0 ∨ 16 ≤ v1.toNatClampNeg then none else some ((q1.2.1 20 v1.toNatClampNeg), q1.2)) else (if v2 = (1 : Int32) then (if v1 < 0 ∨ 16 ≤ v1.toNatClampNeg then none else some ((q1.2.1 21 v1.toNatClampNeg), q1.2)) else (if v2 = (2 : Int32) then (if v1 < 0 ∨ 16 ≤ v1.toNatClampNeg then none else some ((q1.2.1 22 v1.toNatClampNeg), q1.2)) else (if v2 = (3 : Int32) then (if v1 < 0 ∨ 16 ≤ v1.toNatClampNeg then none else some ((q1.2.1 61 v1.toNatClampNeg), q1.2)) else (if v2 = (4 : Int32) then ((f_Houses_isUp F v1 q1.2).bind fun q3 => (if q3.1 = 0 then f_x_look_127 F (0 : Int32) q3.2 else f_x_look_127 F (1 : Int32) q3.2)) else (if v2 = (5 : Int32) then (if v1 < 0 ∨ 16 ≤ v1.toNatClampNeg then none else some ((q1.2.1 23 v1.toNatClampNeg), q1.2)) else (if v2 = (6 : Int32) then (if v1 < 0 ∨ 16 ≤ v1.toNatClampNeg then none else some ((q1.2.1 24 v1.toNatClampNeg), q1.2)) else (if v2 = (7 : Int32) then ((f_World_coin F v1 q1.2).bind fun q4 => some (q4.1, q4.2)) else (if v2 = (8 : Int32) then ((f_Papers_heldBy F v1 q1.2).bind fun q5 => some (q5.1, q5.2)) else (if v2 = (9 : Int32) then ((f_Papers_owedBy F v1 q1.2).bind fun q6 => some (q6.1, q6.2)) else ((f_x_refuse F (-7 : Int32) q1.2).bind fun q7 => some (q7.1, q7.2))))))))))))))
theorem ok_x_look (X : mX) (d F : Nat) : ∀ (v1 : Int32) (v2 : Int32)  (m : mM) (r : Int32) (m' : mM), f_x_look F v1 v2 m = some (r, m') → m_R X (d + 2) 28 0 [some (.ref 0), some (.int v1), some (.int v2), none] [] (SH, m) (some (.int r), (SH, m')) := by
  intro v1 v2 m r m' h
  unfold f_x_look at h
  refine m_R_sg (by decide) [(.aload_n 0, 1, 0, 0, 0, 0, 0), (.getfield 28, 3, 0, 11, 2, 3, 632), (.getfield 95, 3, 0, 10, 1, 3, 507), (.astore_n 3, 1, 0, 3, 0, 0, 0), (.aload_n 3, 1, 0, 3, 0, 0, 0), (.iload_n 1, 1, 0, 1, 0, 0, 0)] (by decide +kernel) (show m_sgl X _ _ _ _ _ = some (10, [some (.ref 0), some (.int v1), some (.int v2), some (.ref 19)], [.int v1, .ref 19], (SH, m.1, m.2)) from rfl) ?_
  obtain ⟨q1, hc1, h⟩ := Option.bind_eq_some_iff.mp h
  refine m_R_cV (v := (some (.int q1.1))) (h1 := (SH, q1.2)) (rest := []) (lo' := [some (.ref 19), some (.int v1)]) (ml := 2) (k0 := 19) (by decide) (Or.inl rfl) (m_opb_of (ins := .invokevirtual 107) (len := 3) (tag := 5) (a := 24) (b := 1) (c := 0) (q := 712) (by decide +kernel)) (by decide +kernel) rfl (show m_isO 24 19 (SH, _) = true from m_isO_of (by decide +kernel)) (Nat.le_of_ble_eq_true rfl) rfl rfl (ok_Houses_isHouse X (d + 1) F _ _ _ _ hc1) ?_
  rcases m_ite h with ⟨c74, h⟩ | ⟨c74, h⟩
  · refine m_R_1 (by decide) (m_opb_of (ins := .ifCond .ne 10) (len := 3) (tag := 0) (a := 23) (b := 0) (c := 0) (q := 0) (by decide +kernel)) (if_pos c74) ?_
    refine m_R_sg (by decide) [(.aload_n 0, 1, 0, 0, 0, 0, 0), (.bipush (-3), 2, 0, 3, 1, 0, 0)] (by decide +kernel) (show m_sgl X _ _ _ _ _ = some (19, [some (.ref 0), some (.int v1), some (.int v2), some (.ref 19)], [.int (-3 : Int32), .ref 0], (SH, q1.2.1, q1.2.2)) from rfl) ?_
    obtain ⟨q2, hc2, h⟩ := Option.bind_eq_some_iff.mp h
    refine m_R_cV (v := (some (.int q2.1))) (h1 := (SH, q2.2)) (rest := []) (lo' := [some (.ref 0), some (.int (-3 : Int32))]) (ml := 2) (k0 := 0) (by decide) (Or.inl rfl) (m_opb_of (ins := .invokevirtual 76) (len := 3) (tag := 5) (a := 14) (b := 1) (c := 0) (q := 671) (by decide +kernel)) (by decide +kernel) rfl (show m_isO 14 0 (SH, _) = true from m_isO_of (by decide +kernel)) (Nat.le_of_ble_eq_true rfl) rfl rfl (ok_x_refuse X (d + 1) F _ _ _ _ hc2) ?_
    cases h
    exact m_R_iret (by decide) (m_opb_of (ins := .ireturn) (len := 1) (tag := 1) (a := 0) (b := 0) (c := 0) (q := 0) (by decide +kernel)) (Or.inl rfl)
  · refine m_R_1 (by decide) (m_opb_of (ins := .ifCond .ne 10) (len := 3) (tag := 0) (a := 23) (b := 0) (c := 0) (q := 0) (by decide +kernel)) (if_neg c74) ?_
    refine m_R_sg (by decide) [(.iload_n 2, 1, 0, 2, 0, 0, 0)] (by decide +kernel) (show m_sgl X _ _ _ _ _ = some (24, [some (.ref 0), some (.int v1), some (.int v2), some (.ref 19)], [.int v2], (SH, q1.2.1, q1.2.2)) from rfl) ?_
    rcases m_ite h with ⟨c0, h⟩ | ⟨d0, h⟩
    · refine m_R_1 (by decide) (m_opb_of (ins := .tableswitch 151 0 9 #[56, 63, 70, 77, 90, 104, 111, 118, 127, 139]) (len := 56) (tag := 0) (a := 0) (b := 0) (c := 0) (q := 0) (by decide +kernel)) (m_s_sw (by rw [c0]; decide) (by rw [c0]; rfl) (by decide) (t := 80) rfl) ?_
      refine m_R_sg (by decide) [(.aload_n 3, 1, 0, 3, 0, 0, 0), (.getfield 116, 3, 0, 1, 0, 3, 250), (.iload_n 1, 1, 0, 1, 0, 0, 0)] (by decide +kernel) (show m_sgl X _ _ _ _ _ = some (85, [some (.ref 0), some (.int v1), some (.int v2), some (.ref 19)], [.int v1, .ref 20], (SH, q1.2.1, q1.2.2)) from rfl) ?_
      obtain ⟨c75, h⟩ := m_ite_n h
      refine m_R_1 (by decide) (m_opb_of (ins := .iaload) (len := 1) (tag := 0) (a := 0) (b := 0) (c := 0) (q := 0) (by decide +kernel)) (m_s_iald sh_20 (by decide) c75) ?_
      cases h
      exact m_R_iret (by decide) (m_opb_of (ins := .ireturn) (len := 1) (tag := 1) (a := 0) (b := 0) (c := 0) (q := 0) (by decide +kernel)) (Or.inl rfl)
    rcases m_ite h with ⟨c0, h⟩ | ⟨d1, h⟩
    · refine m_R_1 (by decide) (m_opb_of (ins := .tableswitch 151 0 9 #[56, 63, 70, 77, 90, 104, 111, 118, 127, 139]) (len := 56) (tag := 0) (a := 0) (b := 0) (c := 0) (q := 0) (by decide +kernel)) (m_s_sw (by rw [c0]; decide) (by rw [c0]; rfl) (by decide) (t := 87) rfl) ?_
      refine m_R_sg (by decide) [(.aload_n 3, 1, 0, 3, 0, 0, 0), (.getfield 131, 3, 0, 1, 1, 3, 253), (.iload_n 1, 1, 0, 1, 0, 0, 0)] (by decide +kernel) (show m_sgl X _ _ _ _ _ = some (92, [some (.ref 0), some (.int v1), some (.int v2), some (.ref 19)], [.int v1, .ref 21], (SH, q1.2.1, q1.2.2)) from rfl) ?_
      obtain ⟨c76, h⟩ := m_ite_n h
      refine m_R_1 (by decide) (m_opb_of (ins := .iaload) (len := 1) (tag := 0) (a := 0) (b := 0) (c := 0) (q := 0) (by decide +kernel)) (m_s_iald sh_21 (by decide) c76) ?_
      cases h
      exact m_R_iret (by decide) (m_opb_of (ins := .ireturn) (len := 1) (tag := 1) (a := 0) (b := 0) (c := 0) (q := 0) (by decide +kernel)) (Or.inl rfl)
    rcases m_ite h with ⟨c0, h⟩ | ⟨d2, h⟩
    · refine m_R_1 (by decide) (m_opb_of (ins := .tableswitch 151 0 9 #[56, 63, 70, 77, 90, 104, 111, 118, 127, 139]) (len := 56) (tag := 0) (a := 0) (b := 0) (c := 0) (q := 0) (by decide +kernel)) (m_s_sw (by rw [c0]; decide) (by rw [c0]; rfl) (by decide) (t := 94) rfl) ?_
      refine m_R_sg (by decide) [(.aload_n 3, 1, 0, 3, 0, 0, 0), (.getfield 113, 3, 0, 1, 2, 3, 256), (.iload_n 1, 1, 0, 1, 0, 0, 0)] (by decide +kernel) (show m_sgl X _ _ _ _ _ = some (99, [some (.ref 0), some (.int v1), some (.int v2), some (.ref 19)], [.int v1, .ref 22], (SH, q1.2.1, q1.2.2)) from rfl) ?_
      obtain ⟨c77, h⟩ := m_ite_n h
      refine m_R_1 (by decide) (m_opb_of (ins := .iaload) (len := 1) (tag := 0) (a := 0) (b := 0) (c := 0) (q := 0) (by decide +kernel)) (m_s_iald sh_22 (by decide) c77) ?_
      cases h
      exact m_R_iret (by decide) (m_opb_of (ins := .ireturn) (len := 1) (tag := 1) (a := 0) (b := 0) (c := 0) (q := 0) (by decide +kernel)) (Or.inl rfl)
    rcases m_ite h with ⟨c0, h⟩ | ⟨d3, h⟩
    · refine m_R_1 (by decide) (m_opb_of (ins := .tableswitch 151 0 9 #[56, 63, 70, 77, 90, 104, 111, 118, 127, 139]) (len := 56) (tag := 0) (a := 0) (b := 0) (c := 0) (q := 0) (by decide +kernel)) (m_s_sw (by rw [c0]; decide) (by rw [c0]; rfl) (by decide) (t := 101) rfl) ?_
      refine m_R_sg (by decide) [(.aload_n 0, 1, 0, 0, 0, 0, 0), (.getfield 28, 3, 0, 11, 2, 3, 632), (.getfield 134, 3, 0, 10, 8, 3, 519), (.getfield 138, 3, 0, 3, 6, 3, 462), (.iload_n 1, 1, 0, 1, 0, 0, 0)] (by decide +kernel) (show m_sgl X _ _ _ _ _ = some (112, [some (.ref 0), some (.int v1), some (.int v2), some (.ref 19)], [.int v1, .ref 61], (SH, q1.2.1, q1.2.2)) from rfl) ?_
      obtain ⟨c78, h⟩ := m_ite_n h
      refine m_R_1 (by decide) (m_opb_of (ins := .iaload) (len := 1) (tag := 0) (a := 0) (b := 0) (c := 0) (q := 0) (by decide +kernel)) (m_s_iald sh_61 (by decide) c78) ?_
      cases h
      exact m_R_iret (by decide) (m_opb_of (ins := .ireturn) (len := 1) (tag := 1) (a := 0) (b := 0) (c := 0) (q := 0) (by decide +kernel)) (Or.inl rfl)
    rcases m_ite h with ⟨c0, h⟩ | ⟨d4, h⟩
    · refine m_R_1 (by decide) (m_opb_of (ins := .tableswitch 151 0 9 #[56, 63, 70, 77, 90, 104, 111, 118, 127, 139]) (len := 56) (tag := 0) (a := 0) (b := 0) (c := 0) (q := 0) (by decide +kernel)) (m_s_sw (by rw [c0]; decide) (by rw [c0]; rfl) (by decide) (t := 114) rfl) ?_
      refine m_R_sg (by decide) [(.aload_n 3, 1, 0, 3, 0, 0, 0), (.iload_n 1, 1, 0, 1, 0, 0, 0)] (by decide +kernel) (show m_sgl X _ _ _ _ _ = some (116, [some (.ref 0), some (.int v1), some (.int v2), some (.ref 19)], [.int v1, .ref 19], (SH, q1.2.1, q1.2.2)) from rfl) ?_
      obtain ⟨q3, hc3, h⟩ := Option.bind_eq_some_iff.mp h
      refine m_R_cV (v := (some (.int q3.1))) (h1 := (SH, q3.2)) (rest := []) (lo' := [some (.ref 19), some (.int v1)]) (ml := 2) (k0 := 19) (by decide) (Or.inl rfl) (m_opb_of (ins := .invokevirtual 110) (len := 3) (tag := 5) (a := 25) (b := 1) (c := 0) (q := 716) (by decide +kernel)) (by decide +kernel) rfl (show m_isO 25 19 (SH, _) = true from m_isO_of (by decide +kernel)) (Nat.le_of_ble_eq_true rfl) rfl rfl (ok_Houses_isUp X (d + 0) F _ _ _ _ hc3) ?_
      rcases m_ite h with ⟨c79, h⟩ | ⟨c79, h⟩
      · refine m_R_1 (by decide) (m_opb_of (ins := .ifCond .eq 7) (len := 3) (tag := 0) (a := 126) (b := 0) (c := 0) (q := 0) (by decide +kernel)) (if_pos c79) ?_
        refine m_R_sg (by decide) [(.iconst 0, 1, 0, 0, 0, 0, 0)] (by decide +kernel) (show m_sgl X _ _ _ _ _ = some (127, [some (.ref 0), some (.int v1), some (.int v2), some (.ref 19)], [.int (0 : Int32)], (SH, q3.2.1, q3.2.2)) from rfl) ?_
        exact ok_x_look_127 X d F _ _ _ _ _ _ _ _ h
      · refine m_R_1 (by decide) (m_opb_of (ins := .ifCond .eq 7) (len := 3) (tag := 0) (a := 126) (b := 0) (c := 0) (q := 0) (by decide +kernel)) (if_neg c79) ?_
        refine m_R_sg (by decide) [(.iconst 1, 1, 0, 1, 0, 0, 0), (.goto 4, 3, 0, 127, 0, 0, 0)] (by decide +kernel) (show m_sgl X _ _ _ _ _ = some (127, [some (.ref 0), some (.int v1), some (.int v2), some (.ref 19)], [.int (1 : Int32)], (SH, q3.2.1, q3.2.2)) from rfl) ?_
        exact ok_x_look_127 X d F _ _ _ _ _ _ _ _ h
    rcases m_ite h with ⟨c0, h⟩ | ⟨d5, h⟩
    · refine m_R_1 (by decide) (m_opb_of (ins := .tableswitch 151 0 9 #[56, 63, 70, 77, 90, 104, 111, 118, 127, 139]) (len := 56) (tag := 0) (a := 0) (b := 0) (c := 0) (q := 0) (by decide +kernel)) (m_s_sw (by rw [c0]; decide) (by rw [c0]; rfl) (by decide) (t := 128) rfl) ?_
      refine m_R_sg (by decide) [(.aload_n 3, 1, 0, 3, 0, 0, 0), (.getfield 119, 3, 0, 1, 3, 3, 258), (.iload_n 1, 1, 0, 1, 0, 0, 0)] (by decide +kernel) (show m_sgl X _ _ _ _ _ = some (133, [some (.ref 0), some (.int v1), some (.int v2), some (.ref 19)], [.int v1, .ref 23], (SH, q1.2.1, q1.2.2)) from rfl) ?_
      obtain ⟨c80, h⟩ := m_ite_n h
      refine m_R_1 (by decide) (m_opb_of (ins := .iaload) (len := 1) (tag := 0) (a := 0) (b := 0) (c := 0) (q := 0) (by decide +kernel)) (m_s_iald sh_23 (by decide) c80) ?_
      cases h
      exact m_R_iret (by decide) (m_opb_of (ins := .ireturn) (len := 1) (tag := 1) (a := 0) (b := 0) (c := 0) (q := 0) (by decide +kernel)) (Or.inl rfl)
    rcases m_ite h with ⟨c0, h⟩ | ⟨d6, h⟩
    · refine m_R_1 (by decide) (m_opb_of (ins := .tableswitch 151 0 9 #[56, 63, 70, 77, 90, 104, 111, 118, 127, 139]) (len := 56) (tag := 0) (a := 0) (b := 0) (c := 0) (q := 0) (by decide +kernel)) (m_s_sw (by rw [c0]; decide) (by rw [c0]; rfl) (by decide) (t := 135) rfl) ?_
      refine m_R_sg (by decide) [(.aload_n 3, 1, 0, 3, 0, 0, 0), (.getfield 122, 3, 0, 1, 4, 3, 261), (.iload_n 1, 1, 0, 1, 0, 0, 0)] (by decide +kernel) (show m_sgl X _ _ _ _ _ = some (140, [some (.ref 0), some (.int v1), some (.int v2), some (.ref 19)], [.int v1, .ref 24], (SH, q1.2.1, q1.2.2)) from rfl) ?_
      obtain ⟨c81, h⟩ := m_ite_n h
      refine m_R_1 (by decide) (m_opb_of (ins := .iaload) (len := 1) (tag := 0) (a := 0) (b := 0) (c := 0) (q := 0) (by decide +kernel)) (m_s_iald sh_24 (by decide) c81) ?_
      cases h
      exact m_R_iret (by decide) (m_opb_of (ins := .ireturn) (len := 1) (tag := 1) (a := 0) (b := 0) (c := 0) (q := 0) (by decide +kernel)) (Or.inl rfl)
    rcases m_ite h with ⟨c0, h⟩ | ⟨d7, h⟩
    · refine m_R_1 (by decide) (m_opb_of (ins := .tableswitch 151 0 9 #[56, 63, 70, 77, 90, 104, 111, 118, 127, 139]) (len := 56) (tag := 0) (a := 0) (b := 0) (c := 0) (q := 0) (by decide +kernel)) (m_s_sw (by rw [c0]; decide) (by rw [c0]; rfl) (by decide) (t := 142) rfl) ?_
      refine m_R_sg (by decide) [(.aload_n 0, 1, 0, 0, 0, 0, 0), (.getfield 28, 3, 0, 11, 2, 3, 632), (.iload_n 1, 1, 0, 1, 0, 0, 0)] (by decide +kernel) (show m_sgl X _ _ _ _ _ = some (147, [some (.ref 0), some (.int v1), some (.int v2), some (.ref 19)], [.int v1, .ref 16], (SH, q1.2.1, q1.2.2)) from rfl) ?_
      obtain ⟨q4, hc4, h⟩ := Option.bind_eq_some_iff.mp h
      refine m_R_cV (v := (some (.int q4.1))) (h1 := (SH, q4.2)) (rest := []) (lo' := [some (.ref 16), some (.int v1)]) (ml := 2) (k0 := 16) (by decide) (Or.inl rfl) (m_opb_of (ins := .invokevirtual 143) (len := 3) (tag := 5) (a := 29) (b := 1) (c := 0) (q := 733) (by decide +kernel)) (by decide +kernel) rfl (show m_isO 29 16 (SH, _) = true from m_isO_of (by decide +kernel)) (Nat.le_of_ble_eq_true rfl) rfl rfl (ok_World_coin X (d + 1) F _ _ _ _ hc4) ?_
      cases h
      exact m_R_iret (by decide) (m_opb_of (ins := .ireturn) (len := 1) (tag := 1) (a := 0) (b := 0) (c := 0) (q := 0) (by decide +kernel)) (Or.inl rfl)
    rcases m_ite h with ⟨c0, h⟩ | ⟨d8, h⟩
    · refine m_R_1 (by decide) (m_opb_of (ins := .tableswitch 151 0 9 #[56, 63, 70, 77, 90, 104, 111, 118, 127, 139]) (len := 56) (tag := 0) (a := 0) (b := 0) (c := 0) (q := 0) (by decide +kernel)) (m_s_sw (by rw [c0]; decide) (by rw [c0]; rfl) (by decide) (t := 151) rfl) ?_
      refine m_R_sg (by decide) [(.aload_n 0, 1, 0, 0, 0, 0, 0), (.getfield 28, 3, 0, 11, 2, 3, 632), (.getfield 146, 3, 0, 10, 2, 3, 510), (.iload_n 1, 1, 0, 1, 0, 0, 0)] (by decide +kernel) (show m_sgl X _ _ _ _ _ = some (159, [some (.ref 0), some (.int v1), some (.int v2), some (.ref 19)], [.int v1, .ref 31], (SH, q1.2.1, q1.2.2)) from rfl) ?_
      obtain ⟨q5, hc5, h⟩ := Option.bind_eq_some_iff.mp h
      refine m_R_cV (v := (some (.int q5.1))) (h1 := (SH, q5.2)) (rest := []) (lo' := [some (.ref 31), some (.int v1), none, none]) (ml := 4) (k0 := 31) (by decide) (Or.inl rfl) (m_opb_of (ins := .invokevirtual 150) (len := 3) (tag := 5) (a := 30) (b := 1) (c := 0) (q := 737) (by decide +kernel)) (by decide +kernel) rfl (show m_isO 30 31 (SH, _) = true from m_isO_of (by decide +kernel)) (Nat.le_of_ble_eq_true rfl) rfl rfl (ok_Papers_heldBy X (d + 1) F _ _ _ _ hc5) ?_
      cases h
      exact m_R_iret (by decide) (m_opb_of (ins := .ireturn) (len := 1) (tag := 1) (a := 0) (b := 0) (c := 0) (q := 0) (by decide +kernel)) (Or.inl rfl)
    rcases m_ite h with ⟨c0, h⟩ | ⟨d9, h⟩
    · refine m_R_1 (by decide) (m_opb_of (ins := .tableswitch 151 0 9 #[56, 63, 70, 77, 90, 104, 111, 118, 127, 139]) (len := 56) (tag := 0) (a := 0) (b := 0) (c := 0) (q := 0) (by decide +kernel)) (m_s_sw (by rw [c0]; decide) (by rw [c0]; rfl) (by decide) (t := 163) rfl) ?_
      refine m_R_sg (by decide) [(.aload_n 0, 1, 0, 0, 0, 0, 0), (.getfield 28, 3, 0, 11, 2, 3, 632), (.getfield 146, 3, 0, 10, 2, 3, 510), (.iload_n 1, 1, 0, 1, 0, 0, 0)] (by decide +kernel) (show m_sgl X _ _ _ _ _ = some (171, [some (.ref 0), some (.int v1), some (.int v2), some (.ref 19)], [.int v1, .ref 31], (SH, q1.2.1, q1.2.2)) from rfl) ?_
      obtain ⟨q6, hc6, h⟩ := Option.bind_eq_some_iff.mp h
      refine m_R_cV (v := (some (.int q6.1))) (h1 := (SH, q6.2)) (rest := []) (lo' := [some (.ref 31), some (.int v1), none, none]) (ml := 4) (k0 := 31) (by decide) (Or.inl rfl) (m_opb_of (ins := .invokevirtual 155) (len := 3) (tag := 5) (a := 31) (b := 1) (c := 0) (q := 741) (by decide +kernel)) (by decide +kernel) rfl (show m_isO 31 31 (SH, _) = true from m_isO_of (by decide +kernel)) (Nat.le_of_ble_eq_true rfl) rfl rfl (ok_Papers_owedBy X (d + 1) F _ _ _ _ hc6) ?_
      cases h
      exact m_R_iret (by decide) (m_opb_of (ins := .ireturn) (len := 1) (tag := 1) (a := 0) (b := 0) (c := 0) (q := 0) (by decide +kernel)) (Or.inl rfl)
    refine m_R_1 (by decide) (m_opb_of (ins := .tableswitch 151 0 9 #[56, 63, 70, 77, 90, 104, 111, 118, 127, 139]) (len := 56) (tag := 0) (a := 0) (b := 0) (c := 0) (q := 0) (by decide +kernel)) (m_s_swd (m_swx 10 (fun j hj => match j, hj with | 0, _ => fun e => d0 (e.trans (by decide)) | 1, _ => fun e => d1 (e.trans (by decide)) | 2, _ => fun e => d2 (e.trans (by decide)) | 3, _ => fun e => d3 (e.trans (by decide)) | 4, _ => fun e => d4 (e.trans (by decide)) | 5, _ => fun e => d5 (e.trans (by decide)) | 6, _ => fun e => d6 (e.trans (by decide)) | 7, _ => fun e => d7 (e.trans (by decide)) | 8, _ => fun e => d8 (e.trans (by decide)) | 9, _ => fun e => d9 (e.trans (by decide)) | j + 10, hj => absurd hj (by omega))) (by decide) (t := 175) rfl) ?_
    refine m_R_sg (by decide) [(.aload_n 0, 1, 0, 0, 0, 0, 0), (.bipush (-7), 2, 0, 7, 1, 0, 0)] (by decide +kernel) (show m_sgl X _ _ _ _ _ = some (178, [some (.ref 0), some (.int v1), some (.int v2), some (.ref 19)], [.int (-7 : Int32), .ref 0], (SH, q1.2.1, q1.2.2)) from rfl) ?_
    obtain ⟨q7, hc7, h⟩ := Option.bind_eq_some_iff.mp h
    refine m_R_cV (v := (some (.int q7.1))) (h1 := (SH, q7.2)) (rest := []) (lo' := [some (.ref 0), some (.int (-7 : Int32))]) (ml := 2) (k0 := 0) (by decide) (Or.inl rfl) (m_opb_of (ins := .invokevirtual 76) (len := 3) (tag := 5) (a := 14) (b := 1) (c := 0) (q := 671) (by decide +kernel)) (by decide +kernel) rfl (show m_isO 14 0 (SH, _) = true from m_isO_of (by decide +kernel)) (Nat.le_of_ble_eq_true rfl) rfl rfl (ok_x_refuse X (d + 1) F _ _ _ _ hc7) ?_
    cases h
    exact m_R_iret (by decide) (m_opb_of (ins := .ireturn) (len := 1) (tag := 1) (a := 0) (b := 0) (c := 0) (q := 0) (by decide +kernel)) (Or.inl rfl)
def f_m_notesOf_44 (F : Nat)  (k4 : Int32 → Int32 → Int32 → mM → Option (Int32 × mM)) (v1 : Int32) (v3 : Int32) (s0 : Int32) (s1 : Int32) (m : mM) : Option (Int32 × mM) := k4 v1 (s0 + s1) (v3 + (1 : Int32)) m
theorem ok_m_notesOf_44 (X : mX) (d F : Nat) (k4 : Int32 → Int32 → Int32 → mM → Option (Int32 × mM)) (hk4 : ∀ (v1 : Int32) (v2 : Int32) (v3 : Int32) (m : mM) (r : Int32) (m' : mM), k4 v1 v2 v3 m = some (r, m') → m_R X (d + 0) 216 4 [some (.ref 304), some (.int v1), some (.int v2), some (.int v3)] [] (SH, m) (some (.int r), (SH, m'))) : ∀ (v1 : Int32) (v3 : Int32) (s0 : Int32) (s1 : Int32) (w2 : Option Value) (m : mM) (r : Int32) (m' : mM), f_m_notesOf_44 F k4 v1 v3 s0 s1 m = some (r, m') → m_R X (d + 0) 216 44 [some (.ref 304), some (.int v1), w2, some (.int v3)] [.int s1, .int s0] (SH, m) (some (.int r), (SH, m')) := by
  intro v1 v3 s0 s1 w2 m r m' h
  unfold f_m_notesOf_44 at h
  refine m_R_sg (by decide) [(.iadd, 1, 0, 0, 0, 0, 0), (.istore_n 2, 1, 0, 2, 0, 0, 0), (.iinc 3 1, 3, 0, 3, 1, 0, 0), (.goto (-45), 3, 0, 4, 0, 0, 0)] (by decide +kernel) (show m_sgl X _ _ _ _ _ = some (4, [some (.ref 304), some (.int v1), some (.int (s0 + s1)), some (.int (v3 + (1 : Int32)))], [], (SH, m.1, m.2)) from rfl) ?_
  exact hk4 _ _ _ _ _ _ h
def f_m_notesOf_52 (F : Nat)   (v2 : Int32) (m : mM) : Option (Int32 × mM) := some (v2, m)
theorem ok_m_notesOf_52 (X : mX) (d F : Nat) : ∀ (v2 : Int32) (w0 : Option Value) (w1 : Option Value) (w3 : Option Value) (m : mM) (r : Int32) (m' : mM), f_m_notesOf_52 F v2 m = some (r, m') → m_R X (d + 0) 216 52 [w0, w1, some (.int v2), w3] [] (SH, m) (some (.int r), (SH, m')) := by
  intro v2 w0 w1 w3 m r m' h
  unfold f_m_notesOf_52 at h
  refine m_R_sg (by decide) [(.iload_n 2, 1, 0, 2, 0, 0, 0)] (by decide +kernel) (show m_sgl X _ _ _ _ _ = some (53, [w0, w1, some (.int v2), w3], [.int v2], (SH, m.1, m.2)) from rfl) ?_
  cases h
  exact m_R_iret (by decide) (m_opb_of (ins := .ireturn) (len := 1) (tag := 1) (a := 0) (b := 0) (c := 0) (q := 0) (by decide +kernel)) (Or.inl rfl)
def f_m_notesOf_4 (F : Nat)   : Nat → Int32 → Int32 → Int32 → mM → Option (Int32 × mM)
  | 0, _, _, _, _ => none
  | n + 1, v1, v2, v3, m => (if (m.1 305 (6 : Int32).toNatClampNeg) ≤ v3 then f_m_notesOf_52 F v2 m else (if v1 ≤ 0 then f_m_notesOf_52 F v2 m else (if (((1220 : Int32) + ((12 : Int32) * v3)) + (2 : Int32)) < 0 ∨ 9732 ≤ (((1220 : Int32) + ((12 : Int32) * v3)) + (2 : Int32)).toNatClampNeg then none else (if (m.1 305 (((1220 : Int32) + ((12 : Int32) * v3)) + (2 : Int32)).toNatClampNeg) = v1 then f_m_notesOf_44 F (f_m_notesOf_4 F n) v1 v3 v2 (1 : Int32) m else f_m_notesOf_44 F (f_m_notesOf_4 F n) v1 v3 v2 (0 : Int32) m))))
theorem ok_m_notesOf_4 (X : mX) (d F : Nat) : ∀ (n : Nat) (v1 : Int32) (v2 : Int32) (v3 : Int32)  (m : mM) (r : Int32) (m' : mM), f_m_notesOf_4 F n v1 v2 v3 m = some (r, m') → m_R X (d + 0) 216 4 [some (.ref 304), some (.int v1), some (.int v2), some (.int v3)] [] (SH, m) (some (.int r), (SH, m')) := by
  intro n
  induction n with
  | zero => intro v1 v2 v3 m r m' h; cases h
  | succ n ih =>
    intro v1 v2 v3 m r m' h
    simp only [f_m_notesOf_4] at h
    refine m_R_sg (by decide) [(.iload_n 3, 1, 0, 3, 0, 0, 0), (.aload_n 0, 1, 0, 0, 0, 0, 0), (.getfield 13, 3, 0, 12, 1, 3, 1496), (.bipush 6, 2, 0, 6, 0, 0, 0)] (by decide +kernel) (show m_sgl X _ _ _ _ _ = some (11, [some (.ref 304), some (.int v1), some (.int v2), some (.int v3)], [.int (6 : Int32), .ref 305, .int v3], (SH, m.1, m.2)) from rfl) ?_
    refine m_R_1 (by decide) (m_opb_of (ins := .iaload) (len := 1) (tag := 0) (a := 0) (b := 0) (c := 0) (q := 0) (by decide +kernel)) (m_s_iald sh_305 (by decide) (show ¬ ((6 : Int32) < 0 ∨ 9732 ≤ (6 : Int32).toNatClampNeg) by decide)) ?_
    rcases m_ite h with ⟨c82, h⟩ | ⟨c82, h⟩
    · refine m_R_1 (by decide) (m_opb_of (ins := .if_icmp .ge 40) (len := 3) (tag := 0) (a := 52) (b := 0) (c := 0) (q := 0) (by decide +kernel)) (if_pos c82) ?_
      exact ok_m_notesOf_52 X d F _ _ _ _ _ _ _ h
    · refine m_R_1 (by decide) (m_opb_of (ins := .if_icmp .ge 40) (len := 3) (tag := 0) (a := 52) (b := 0) (c := 0) (q := 0) (by decide +kernel)) (if_neg c82) ?_
      refine m_R_sg (by decide) [(.iload_n 1, 1, 0, 1, 0, 0, 0)] (by decide +kernel) (show m_sgl X _ _ _ _ _ = some (16, [some (.ref 304), some (.int v1), some (.int v2), some (.int v3)], [.int v1], (SH, m.1, m.2)) from rfl) ?_
      rcases m_ite h with ⟨c83, h⟩ | ⟨c83, h⟩
      · refine m_R_1 (by decide) (m_opb_of (ins := .ifCond .le 36) (len := 3) (tag := 0) (a := 52) (b := 0) (c := 0) (q := 0) (by decide +kernel)) (if_pos c83) ?_
        exact ok_m_notesOf_52 X d F _ _ _ _ _ _ _ h
      · refine m_R_1 (by decide) (m_opb_of (ins := .ifCond .le 36) (len := 3) (tag := 0) (a := 52) (b := 0) (c := 0) (q := 0) (by decide +kernel)) (if_neg c83) ?_
        refine m_R_sg (by decide) [(.iload_n 2, 1, 0, 2, 0, 0, 0), (.aload_n 0, 1, 0, 0, 0, 0, 0), (.getfield 13, 3, 0, 12, 1, 3, 1496), (.sipush 1220, 3, 0, 1220, 0, 0, 0), (.bipush 12, 2, 0, 12, 0, 0, 0), (.iload_n 3, 1, 0, 3, 0, 0, 0), (.imul, 1, 0, 0, 0, 0, 0), (.iadd, 1, 0, 0, 0, 0, 0), (.iconst 2, 1, 0, 2, 0, 0, 0), (.iadd, 1, 0, 0, 0, 0, 0)] (by decide +kernel) (show m_sgl X _ _ _ _ _ = some (34, [some (.ref 304), some (.int v1), some (.int v2), some (.int v3)], [.int (((1220 : Int32) + ((12 : Int32) * v3)) + (2 : Int32)), .ref 305, .int v2], (SH, m.1, m.2)) from rfl) ?_
        obtain ⟨c84, h⟩ := m_ite_n h
        refine m_R_1 (by decide) (m_opb_of (ins := .iaload) (len := 1) (tag := 0) (a := 0) (b := 0) (c := 0) (q := 0) (by decide +kernel)) (m_s_iald sh_305 (by decide) c84) ?_
        refine m_R_sg (by decide) [(.iload_n 1, 1, 0, 1, 0, 0, 0)] (by decide +kernel) (show m_sgl X _ _ _ _ _ = some (36, [some (.ref 304), some (.int v1), some (.int v2), some (.int v3)], [.int v1, .int (m.1 305 (((1220 : Int32) + ((12 : Int32) * v3)) + (2 : Int32)).toNatClampNeg), .int v2], (SH, m.1, m.2)) from rfl) ?_
        rcases m_ite h with ⟨c85, h⟩ | ⟨c85, h⟩
        · refine m_R_1 (by decide) (m_opb_of (ins := .if_icmp .ne 7) (len := 3) (tag := 0) (a := 43) (b := 0) (c := 0) (q := 0) (by decide +kernel)) (if_pos c85) ?_
          refine m_R_sg (by decide) [(.iconst 1, 1, 0, 1, 0, 0, 0), (.goto 4, 3, 0, 44, 0, 0, 0)] (by decide +kernel) (show m_sgl X _ _ _ _ _ = some (44, [some (.ref 304), some (.int v1), some (.int v2), some (.int v3)], [.int (1 : Int32), .int v2], (SH, m.1, m.2)) from rfl) ?_
          exact ok_m_notesOf_44 X d F _ (fun a0 a1 a2 m r m' h => ih a0 a1 a2 m r m' h) _ _ _ _ _ _ _ _ h
        · refine m_R_1 (by decide) (m_opb_of (ins := .if_icmp .ne 7) (len := 3) (tag := 0) (a := 43) (b := 0) (c := 0) (q := 0) (by decide +kernel)) (if_neg c85) ?_
          refine m_R_sg (by decide) [(.iconst 0, 1, 0, 0, 0, 0, 0)] (by decide +kernel) (show m_sgl X _ _ _ _ _ = some (44, [some (.ref 304), some (.int v1), some (.int v2), some (.int v3)], [.int (0 : Int32), .int v2], (SH, m.1, m.2)) from rfl) ?_
          exact ok_m_notesOf_44 X d F _ (fun a0 a1 a2 m r m' h => ih a0 a1 a2 m r m' h) _ _ _ _ _ _ _ _ h
def f_m_notesOf (F : Nat)   (v1 : Int32) (m : mM) : Option (Int32 × mM) := f_m_notesOf_4 F F v1 (0 : Int32) (0 : Int32) m
theorem ok_m_notesOf (X : mX) (d F : Nat) : ∀ (v1 : Int32)  (m : mM) (r : Int32) (m' : mM), f_m_notesOf F v1 m = some (r, m') → m_R X (d + 0) 216 0 [some (.ref 304), some (.int v1), none, none] [] (SH, m) (some (.int r), (SH, m')) := by
  intro v1 m r m' h
  unfold f_m_notesOf at h
  refine m_R_sg (by decide) [(.iconst 0, 1, 0, 0, 0, 0, 0), (.istore_n 2, 1, 0, 2, 0, 0, 0), (.iconst 0, 1, 0, 0, 0, 0, 0), (.istore_n 3, 1, 0, 3, 0, 0, 0)] (by decide +kernel) (show m_sgl X _ _ _ _ _ = some (4, [some (.ref 304), some (.int v1), some (.int (0 : Int32)), some (.int (0 : Int32))], [], (SH, m.1, m.2)) from rfl) ?_
  exact ok_m_notesOf_4 X d F F _ _ _ _ _ _ h
def f_m_coinOf (F : Nat)   (v1 : Int32) (m : mM) : Option (Int32 × mM) := ((f_m_hs F v1 (2 : Int32) m).bind fun q1 => ((f_m_notesOf F v1 q1.2).bind fun q2 => some ((q1.1 + ((10 : Int32) * q2.1)), q2.2)))
theorem ok_m_coinOf (X : mX) (d F : Nat) : ∀ (v1 : Int32)  (m : mM) (r : Int32) (m' : mM), f_m_coinOf F v1 m = some (r, m') → m_R X (d + 1) 217 0 [some (.ref 304), some (.int v1)] [] (SH, m) (some (.int r), (SH, m')) := by
  intro v1 m r m' h
  unfold f_m_coinOf at h
  refine m_R_sg (by decide) [(.aload_n 0, 1, 0, 0, 0, 0, 0), (.iload_n 1, 1, 0, 1, 0, 0, 0), (.iconst 2, 1, 0, 2, 0, 0, 0)] (by decide +kernel) (show m_sgl X _ _ _ _ _ = some (3, [some (.ref 304), some (.int v1)], [.int (2 : Int32), .int v1, .ref 304], (SH, m.1, m.2)) from rfl) ?_
  obtain ⟨q1, hc1, h⟩ := Option.bind_eq_some_iff.mp h
  refine m_R_cV (v := (some (.int q1.1))) (h1 := (SH, q1.2)) (rest := []) (lo' := [some (.ref 304), some (.int v1), some (.int (2 : Int32))]) (ml := 3) (k0 := 304) (by decide) (Or.inl rfl) (m_opb_of (ins := .invokevirtual 65) (len := 3) (tag := 5) (a := 212) (b := 2) (c := 0) (q := 1636) (by decide +kernel)) (by decide +kernel) rfl (show m_isO 212 304 (SH, _) = true from m_isO_of (by decide +kernel)) (Nat.le_of_ble_eq_true rfl) rfl rfl (ok_m_hs X (d + 0) F _ _ _ _ _ hc1) ?_
  refine m_R_sg (by decide) [(.bipush 10, 2, 0, 10, 0, 0, 0), (.aload_n 0, 1, 0, 0, 0, 0, 0), (.iload_n 1, 1, 0, 1, 0, 0, 0)] (by decide +kernel) (show m_sgl X _ _ _ _ _ = some (10, [some (.ref 304), some (.int v1)], [.int v1, .ref 304, .int (10 : Int32), .int q1.1], (SH, q1.2.1, q1.2.2)) from rfl) ?_
  obtain ⟨q2, hc2, h⟩ := Option.bind_eq_some_iff.mp h
  refine m_R_cV (v := (some (.int q2.1))) (h1 := (SH, q2.2)) (rest := [.int (10 : Int32), .int q1.1]) (lo' := [some (.ref 304), some (.int v1), none, none]) (ml := 4) (k0 := 304) (by decide) (Or.inl rfl) (m_opb_of (ins := .invokevirtual 83) (len := 3) (tag := 5) (a := 216) (b := 1) (c := 0) (q := 1652) (by decide +kernel)) (by decide +kernel) rfl (show m_isO 216 304 (SH, _) = true from m_isO_of (by decide +kernel)) (Nat.le_of_ble_eq_true rfl) rfl rfl (ok_m_notesOf X (d + 0) F _ _ _ _ hc2) ?_
  refine m_R_sg (by decide) [(.imul, 1, 0, 0, 0, 0, 0), (.iadd, 1, 0, 0, 0, 0, 0)] (by decide +kernel) (show m_sgl X _ _ _ _ _ = some (15, [some (.ref 304), some (.int v1)], [.int (q1.1 + ((10 : Int32) * q2.1))], (SH, q2.2.1, q2.2.2)) from rfl) ?_
  cases h
  exact m_R_iret (by decide) (m_opb_of (ins := .ireturn) (len := 1) (tag := 1) (a := 0) (b := 0) (c := 0) (q := 0) (by decide +kernel)) (Or.inl rfl)
def f_m_papersOf_56 (F : Nat)  (k5 : Int32 → Int32 → Int32 → Int32 → mM → Option (Int32 × mM)) (v1 : Int32) (v2 : Int32) (v4 : Int32) (s0 : Int32) (s1 : Int32) (m : mM) : Option (Int32 × mM) := k5 v1 v2 (s0 + s1) (v4 + (1 : Int32)) m
theorem ok_m_papersOf_56 (X : mX) (d F : Nat) (k5 : Int32 → Int32 → Int32 → Int32 → mM → Option (Int32 × mM)) (hk5 : ∀ (v1 : Int32) (v2 : Int32) (v3 : Int32) (v4 : Int32) (m : mM) (r : Int32) (m' : mM), k5 v1 v2 v3 v4 m = some (r, m') → m_R X (d + 0) 218 5 [some (.ref 304), some (.int v1), some (.int v2), some (.int v3), some (.int v4)] [] (SH, m) (some (.int r), (SH, m'))) : ∀ (v1 : Int32) (v2 : Int32) (v4 : Int32) (s0 : Int32) (s1 : Int32) (w3 : Option Value) (m : mM) (r : Int32) (m' : mM), f_m_papersOf_56 F k5 v1 v2 v4 s0 s1 m = some (r, m') → m_R X (d + 0) 218 56 [some (.ref 304), some (.int v1), some (.int v2), w3, some (.int v4)] [.int s1, .int s0] (SH, m) (some (.int r), (SH, m')) := by
  intro v1 v2 v4 s0 s1 w3 m r m' h
  unfold f_m_papersOf_56 at h
  refine m_R_sg (by decide) [(.iadd, 1, 0, 0, 0, 0, 0), (.istore_n 3, 1, 0, 3, 0, 0, 0), (.iinc 4 1, 3, 0, 4, 1, 0, 0), (.goto (-56), 3, 0, 5, 0, 0, 0)] (by decide +kernel) (show m_sgl X _ _ _ _ _ = some (5, [some (.ref 304), some (.int v1), some (.int v2), some (.int (s0 + s1)), some (.int (v4 + (1 : Int32)))], [], (SH, m.1, m.2)) from rfl) ?_
  exact hk5 _ _ _ _ _ _ _ h
def f_m_papersOf_55 (F : Nat)  (k5 : Int32 → Int32 → Int32 → Int32 → mM → Option (Int32 × mM)) (v1 : Int32) (v2 : Int32) (v4 : Int32) (s0 : Int32) (m : mM) : Option (Int32 × mM) := f_m_papersOf_56 F k5 v1 v2 v4 s0 (0 : Int32) m
theorem ok_m_papersOf_55 (X : mX) (d F : Nat) (k5 : Int32 → Int32 → Int32 → Int32 → mM → Option (Int32 × mM)) (hk5 : ∀ (v1 : Int32) (v2 : Int32) (v3 : Int32) (v4 : Int32) (m : mM) (r : Int32) (m' : mM), k5 v1 v2 v3 v4 m = some (r, m') → m_R X (d + 0) 218 5 [some (.ref 304), some (.int v1), some (.int v2), some (.int v3), some (.int v4)] [] (SH, m) (some (.int r), (SH, m'))) : ∀ (v1 : Int32) (v2 : Int32) (v4 : Int32) (s0 : Int32) (w3 : Option Value) (m : mM) (r : Int32) (m' : mM), f_m_papersOf_55 F k5 v1 v2 v4 s0 m = some (r, m') → m_R X (d + 0) 218 55 [some (.ref 304), some (.int v1), some (.int v2), w3, some (.int v4)] [.int s0] (SH, m) (some (.int r), (SH, m')) := by
  intro v1 v2 v4 s0 w3 m r m' h
  unfold f_m_papersOf_55 at h
  refine m_R_sg (by decide) [(.iconst 0, 1, 0, 0, 0, 0, 0)] (by decide +kernel) (show m_sgl X _ _ _ _ _ = some (56, [some (.ref 304), some (.int v1), some (.int v2), w3, some (.int v4)], [.int (0 : Int32), .int s0], (SH, m.1, m.2)) from rfl) ?_
  exact ok_m_papersOf_56 X d F _ hk5 _ _ _ _ _ _ _ _ _ h
def f_m_papersOf_5 (F : Nat)   : Nat → Int32 → Int32 → Int32 → Int32 → mM → Option (Int32 × mM)
  | 0, _, _, _, _, _ => none
  | n + 1, v1, v2, v3, v4, m => (if (60 : Int32) ≤ v4 then some (v3, m) else (if ((6200 : Int32) + ((20 : Int32) * v4)) < 0 ∨ 9732 ≤ ((6200 : Int32) + ((20 : Int32) * v4)).toNatClampNeg then none else (if (m.1 305 ((6200 : Int32) + ((20 : Int32) * v4)).toNatClampNeg) = (1 : Int32) then (if (((6200 : Int32) + ((20 : Int32) * v4)) + v2) < 0 ∨ 9732 ≤ (((6200 : Int32) + ((20 : Int32) * v4)) + v2).toNatClampNeg then none else (if (m.1 305 (((6200 : Int32) + ((20 : Int32) * v4)) + v2).toNatClampNeg) = v1 then f_m_papersOf_56 F (f_m_papersOf_5 F n) v1 v2 v4 v3 (1 : Int32) m else f_m_papersOf_55 F (f_m_papersOf_5 F n) v1 v2 v4 v3 m)) else f_m_papersOf_55 F (f_m_papersOf_5 F n) v1 v2 v4 v3 m)))
theorem ok_m_papersOf_5 (X : mX) (d F : Nat) : ∀ (n : Nat) (v1 : Int32) (v2 : Int32) (v3 : Int32) (v4 : Int32)  (m : mM) (r : Int32) (m' : mM), f_m_papersOf_5 F n v1 v2 v3 v4 m = some (r, m') → m_R X (d + 0) 218 5 [some (.ref 304), some (.int v1), some (.int v2), some (.int v3), some (.int v4)] [] (SH, m) (some (.int r), (SH, m')) := by
  intro n
  induction n with
  | zero => intro v1 v2 v3 v4 m r m' h; cases h
  | succ n ih =>
    intro v1 v2 v3 v4 m r m' h
    simp only [f_m_papersOf_5] at h
    refine m_R_sg (by decide) [(.iload 4, 2, 0, 4, 0, 0, 0), (.bipush 60, 2, 0, 60, 0, 0, 0)] (by decide +kernel) (show m_sgl X _ _ _ _ _ = some (9, [some (.ref 304), some (.int v1), some (.int v2), some (.int v3), some (.int v4)], [.int (60 : Int32), .int v4], (SH, m.1, m.2)) from rfl) ?_
    rcases m_ite h with ⟨c86, h⟩ | ⟨c86, h⟩
    · refine m_R_1 (by decide) (m_opb_of (ins := .if_icmp .ge 55) (len := 3) (tag := 0) (a := 64) (b := 0) (c := 0) (q := 0) (by decide +kernel)) (if_pos c86) ?_
      refine m_R_sg (by decide) [(.iload_n 3, 1, 0, 3, 0, 0, 0)] (by decide +kernel) (show m_sgl X _ _ _ _ _ = some (65, [some (.ref 304), some (.int v1), some (.int v2), some (.int v3), some (.int v4)], [.int v3], (SH, m.1, m.2)) from rfl) ?_
      cases h
      exact m_R_iret (by decide) (m_opb_of (ins := .ireturn) (len := 1) (tag := 1) (a := 0) (b := 0) (c := 0) (q := 0) (by decide +kernel)) (Or.inl rfl)
    · refine m_R_1 (by decide) (m_opb_of (ins := .if_icmp .ge 55) (len := 3) (tag := 0) (a := 64) (b := 0) (c := 0) (q := 0) (by decide +kernel)) (if_neg c86) ?_
      refine m_R_sg (by decide) [(.iload_n 3, 1, 0, 3, 0, 0, 0), (.aload_n 0, 1, 0, 0, 0, 0, 0), (.getfield 13, 3, 0, 12, 1, 3, 1496), (.sipush 6200, 3, 0, 6200, 0, 0, 0), (.bipush 20, 2, 0, 20, 0, 0, 0), (.iload 4, 2, 0, 4, 0, 0, 0), (.imul, 1, 0, 0, 0, 0, 0), (.iadd, 1, 0, 0, 0, 0, 0)] (by decide +kernel) (show m_sgl X _ _ _ _ _ = some (26, [some (.ref 304), some (.int v1), some (.int v2), some (.int v3), some (.int v4)], [.int ((6200 : Int32) + ((20 : Int32) * v4)), .ref 305, .int v3], (SH, m.1, m.2)) from rfl) ?_
      obtain ⟨c87, h⟩ := m_ite_n h
      refine m_R_1 (by decide) (m_opb_of (ins := .iaload) (len := 1) (tag := 0) (a := 0) (b := 0) (c := 0) (q := 0) (by decide +kernel)) (m_s_iald sh_305 (by decide) c87) ?_
      refine m_R_sg (by decide) [(.iconst 1, 1, 0, 1, 0, 0, 0)] (by decide +kernel) (show m_sgl X _ _ _ _ _ = some (28, [some (.ref 304), some (.int v1), some (.int v2), some (.int v3), some (.int v4)], [.int (1 : Int32), .int (m.1 305 ((6200 : Int32) + ((20 : Int32) * v4)).toNatClampNeg), .int v3], (SH, m.1, m.2)) from rfl) ?_
      rcases m_ite h with ⟨c88, h⟩ | ⟨c88, h⟩
      · refine m_R_1 (by decide) (m_opb_of (ins := .if_icmp .ne 27) (len := 3) (tag := 0) (a := 55) (b := 0) (c := 0) (q := 0) (by decide +kernel)) (if_pos c88) ?_
        refine m_R_sg (by decide) [(.aload_n 0, 1, 0, 0, 0, 0, 0), (.getfield 13, 3, 0, 12, 1, 3, 1496), (.sipush 6200, 3, 0, 6200, 0, 0, 0), (.bipush 20, 2, 0, 20, 0, 0, 0), (.iload 4, 2, 0, 4, 0, 0, 0), (.imul, 1, 0, 0, 0, 0, 0), (.iadd, 1, 0, 0, 0, 0, 0), (.iload_n 2, 1, 0, 2, 0, 0, 0), (.iadd, 1, 0, 0, 0, 0, 0)] (by decide +kernel) (show m_sgl X _ _ _ _ _ = some (46, [some (.ref 304), some (.int v1), some (.int v2), some (.int v3), some (.int v4)], [.int (((6200 : Int32) + ((20 : Int32) * v4)) + v2), .ref 305, .int v3], (SH, m.1, m.2)) from rfl) ?_
        obtain ⟨c89, h⟩ := m_ite_n h
        refine m_R_1 (by decide) (m_opb_of (ins := .iaload) (len := 1) (tag := 0) (a := 0) (b := 0) (c := 0) (q := 0) (by decide +kernel)) (m_s_iald sh_305 (by decide) c89) ?_
        refine m_R_sg (by decide) [(.iload_n 1, 1, 0, 1, 0, 0, 0)] (by decide +kernel) (show m_sgl X _ _ _ _ _ = some (48, [some (.ref 304), some (.int v1), some (.int v2), some (.int v3), some (.int v4)], [.int v1, .int (m.1 305 (((6200 : Int32) + ((20 : Int32) * v4)) + v2).toNatClampNeg), .int v3], (SH, m.1, m.2)) from rfl) ?_
        rcases m_ite h with ⟨c90, h⟩ | ⟨c90, h⟩
        · refine m_R_1 (by decide) (m_opb_of (ins := .if_icmp .ne 7) (len := 3) (tag := 0) (a := 55) (b := 0) (c := 0) (q := 0) (by decide +kernel)) (if_pos c90) ?_
          refine m_R_sg (by decide) [(.iconst 1, 1, 0, 1, 0, 0, 0), (.goto 4, 3, 0, 56, 0, 0, 0)] (by decide +kernel) (show m_sgl X _ _ _ _ _ = some (56, [some (.ref 304), some (.int v1), some (.int v2), some (.int v3), some (.int v4)], [.int (1 : Int32), .int v3], (SH, m.1, m.2)) from rfl) ?_
          exact ok_m_papersOf_56 X d F _ (fun a0 a1 a2 a3 m r m' h => ih a0 a1 a2 a3 m r m' h) _ _ _ _ _ _ _ _ _ h
        · refine m_R_1 (by decide) (m_opb_of (ins := .if_icmp .ne 7) (len := 3) (tag := 0) (a := 55) (b := 0) (c := 0) (q := 0) (by decide +kernel)) (if_neg c90) ?_
          exact ok_m_papersOf_55 X d F _ (fun a0 a1 a2 a3 m r m' h => ih a0 a1 a2 a3 m r m' h) _ _ _ _ _ _ _ _ h
      · refine m_R_1 (by decide) (m_opb_of (ins := .if_icmp .ne 27) (len := 3) (tag := 0) (a := 55) (b := 0) (c := 0) (q := 0) (by decide +kernel)) (if_neg c88) ?_
        exact ok_m_papersOf_55 X d F _ (fun a0 a1 a2 a3 m r m' h => ih a0 a1 a2 a3 m r m' h) _ _ _ _ _ _ _ _ h
def f_m_papersOf (F : Nat)   (v1 : Int32) (v2 : Int32) (m : mM) : Option (Int32 × mM) := f_m_papersOf_5 F F v1 v2 (0 : Int32) (0 : Int32) m
theorem ok_m_papersOf (X : mX) (d F : Nat) : ∀ (v1 : Int32) (v2 : Int32)  (m : mM) (r : Int32) (m' : mM), f_m_papersOf F v1 v2 m = some (r, m') → m_R X (d + 0) 218 0 [some (.ref 304), some (.int v1), some (.int v2), none, none] [] (SH, m) (some (.int r), (SH, m')) := by
  intro v1 v2 m r m' h
  unfold f_m_papersOf at h
  refine m_R_sg (by decide) [(.iconst 0, 1, 0, 0, 0, 0, 0), (.istore_n 3, 1, 0, 3, 0, 0, 0), (.iconst 0, 1, 0, 0, 0, 0, 0), (.istore 4, 2, 0, 4, 0, 0, 0)] (by decide +kernel) (show m_sgl X _ _ _ _ _ = some (5, [some (.ref 304), some (.int v1), some (.int v2), some (.int (0 : Int32)), some (.int (0 : Int32))], [], (SH, m.1, m.2)) from rfl) ?_
  exact ok_m_papersOf_5 X d F F _ _ _ _ _ _ _ h
def f_m_look (F : Nat)   (v1 : Int32) (v2 : Int32) (m : mM) : Option (Int32 × mM) := ((f_m_isHouse F v1 m).bind fun q1 => (if q1.1 = 0 then ((f_m_refuse F (-3 : Int32) q1.2).bind fun q2 => some (q2.1, q2.2)) else (if v2 = (0 : Int32) then ((f_m_hs F v1 (0 : Int32) q1.2).bind fun q3 => some (q3.1, q3.2)) else (if v2 = (1 : Int32) then ((f_m_hs F v1 (1 : Int32) q1.2).bind fun q4 => some (q4.1, q4.2)) else (if v2 = (2 : Int32) then ((f_m_hs F v1 (2 : Int32) q1.2).bind fun q5 => some (q5.1, q5.2)) else (if v2 = (3 : Int32) then ((f_m_notesOf F v1 q1.2).bind fun q6 => some (q6.1, q6.2)) else (if v2 = (4 : Int32) then ((f_m_hs F v1 (3 : Int32) q1.2).bind fun q7 => some (q7.1, q7.2)) else (if v2 = (5 : Int32) then ((f_m_hs F v1 (4 : Int32) q1.2).bind fun q8 => some (q8.1, q8.2)) else (if v2 = (6 : Int32) then ((f_m_hs F v1 (5 : Int32) q1.2).bind fun q9 => some (q9.1, q9.2)) else (if v2 = (7 : Int32) then ((f_m_coinOf F v1 q1.2).bind fun q10 => some (q10.1, q10.2)) else (if v2 = (8 : Int32) then ((f_m_papersOf F v1 (4 : Int32) q1.2).bind fun q11 => some (q11.1, q11.2)) else (if v2 = (9 : Int32) then ((f_m_papersOf F v1 (3 : Int32) q1.2).bind fun q12 => some (q12.1, q12.2)) else ((f_m_refuse F (-7 : Int32) q1.2).bind fun q13 => some (q13.1, q13.2))))))))))))))
theorem ok_m_look (X : mX) (d F : Nat) : ∀ (v1 : Int32) (v2 : Int32)  (m : mM) (r : Int32) (m' : mM), f_m_look F v1 v2 m = some (r, m') → m_R X (d + 2) 215 0 [some (.ref 304), some (.int v1), some (.int v2)] [] (SH, m) (some (.int r), (SH, m')) := by
  intro v1 v2 m r m' h
  unfold f_m_look at h
  refine m_R_sg (by decide) [(.aload_n 0, 1, 0, 0, 0, 0, 0), (.iload_n 1, 1, 0, 1, 0, 0, 0)] (by decide +kernel) (show m_sgl X _ _ _ _ _ = some (2, [some (.ref 304), some (.int v1), some (.int v2)], [.int v1, .ref 304], (SH, m.1, m.2)) from rfl) ?_
  obtain ⟨q1, hc1, h⟩ := Option.bind_eq_some_iff.mp h
  refine m_R_cV (v := (some (.int q1.1))) (h1 := (SH, q1.2)) (rest := []) (lo' := [some (.ref 304), some (.int v1)]) (ml := 2) (k0 := 304) (by decide) (Or.inl rfl) (m_opb_of (ins := .invokevirtual 77) (len := 3) (tag := 5) (a := 210) (b := 1) (c := 0) (q := 1628) (by decide +kernel)) (by decide +kernel) rfl (show m_isO 210 304 (SH, _) = true from m_isO_of (by decide +kernel)) (Nat.le_of_ble_eq_true rfl) rfl rfl (ok_m_isHouse X (d + 0) F _ _ _ _ hc1) ?_
  rcases m_ite h with ⟨c91, h⟩ | ⟨c91, h⟩
  · refine m_R_1 (by decide) (m_opb_of (ins := .ifCond .ne 10) (len := 3) (tag := 0) (a := 15) (b := 0) (c := 0) (q := 0) (by decide +kernel)) (if_pos c91) ?_
    refine m_R_sg (by decide) [(.aload_n 0, 1, 0, 0, 0, 0, 0), (.bipush (-3), 2, 0, 3, 1, 0, 0)] (by decide +kernel) (show m_sgl X _ _ _ _ _ = some (11, [some (.ref 304), some (.int v1), some (.int v2)], [.int (-3 : Int32), .ref 304], (SH, q1.2.1, q1.2.2)) from rfl) ?_
    obtain ⟨q2, hc2, h⟩ := Option.bind_eq_some_iff.mp h
    refine m_R_cV (v := (some (.int q2.1))) (h1 := (SH, q2.2)) (rest := []) (lo' := [some (.ref 304), some (.int (-3 : Int32))]) (ml := 2) (k0 := 304) (by decide) (Or.inl rfl) (m_opb_of (ins := .invokevirtual 61) (len := 3) (tag := 5) (a := 202) (b := 1) (c := 0) (q := 1596) (by decide +kernel)) (by decide +kernel) rfl (show m_isO 202 304 (SH, _) = true from m_isO_of (by decide +kernel)) (Nat.le_of_ble_eq_true rfl) rfl rfl (ok_m_refuse X (d + 1) F _ _ _ _ hc2) ?_
    cases h
    exact m_R_iret (by decide) (m_opb_of (ins := .ireturn) (len := 1) (tag := 1) (a := 0) (b := 0) (c := 0) (q := 0) (by decide +kernel)) (Or.inl rfl)
  · refine m_R_1 (by decide) (m_opb_of (ins := .ifCond .ne 10) (len := 3) (tag := 0) (a := 15) (b := 0) (c := 0) (q := 0) (by decide +kernel)) (if_neg c91) ?_
    refine m_R_sg (by decide) [(.iload_n 2, 1, 0, 2, 0, 0, 0)] (by decide +kernel) (show m_sgl X _ _ _ _ _ = some (16, [some (.ref 304), some (.int v1), some (.int v2)], [.int v2], (SH, q1.2.1, q1.2.2)) from rfl) ?_
    rcases m_ite h with ⟨c0, h⟩ | ⟨d0, h⟩
    · refine m_R_1 (by decide) (m_opb_of (ins := .tableswitch 124 0 9 #[56, 63, 70, 77, 83, 90, 97, 104, 110, 117]) (len := 56) (tag := 0) (a := 0) (b := 0) (c := 0) (q := 0) (by decide +kernel)) (m_s_sw (by rw [c0]; decide) (by rw [c0]; rfl) (by decide) (t := 72) rfl) ?_
      refine m_R_sg (by decide) [(.aload_n 0, 1, 0, 0, 0, 0, 0), (.iload_n 1, 1, 0, 1, 0, 0, 0), (.iconst 0, 1, 0, 0, 0, 0, 0)] (by decide +kernel) (show m_sgl X _ _ _ _ _ = some (75, [some (.ref 304), some (.int v1), some (.int v2)], [.int (0 : Int32), .int v1, .ref 304], (SH, q1.2.1, q1.2.2)) from rfl) ?_
      obtain ⟨q3, hc3, h⟩ := Option.bind_eq_some_iff.mp h
      refine m_R_cV (v := (some (.int q3.1))) (h1 := (SH, q3.2)) (rest := []) (lo' := [some (.ref 304), some (.int v1), some (.int (0 : Int32))]) (ml := 3) (k0 := 304) (by decide) (Or.inl rfl) (m_opb_of (ins := .invokevirtual 65) (len := 3) (tag := 5) (a := 212) (b := 2) (c := 0) (q := 1636) (by decide +kernel)) (by decide +kernel) rfl (show m_isO 212 304 (SH, _) = true from m_isO_of (by decide +kernel)) (Nat.le_of_ble_eq_true rfl) rfl rfl (ok_m_hs X (d + 1) F _ _ _ _ _ hc3) ?_
      cases h
      exact m_R_iret (by decide) (m_opb_of (ins := .ireturn) (len := 1) (tag := 1) (a := 0) (b := 0) (c := 0) (q := 0) (by decide +kernel)) (Or.inl rfl)
    rcases m_ite h with ⟨c0, h⟩ | ⟨d1, h⟩
    · refine m_R_1 (by decide) (m_opb_of (ins := .tableswitch 124 0 9 #[56, 63, 70, 77, 83, 90, 97, 104, 110, 117]) (len := 56) (tag := 0) (a := 0) (b := 0) (c := 0) (q := 0) (by decide +kernel)) (m_s_sw (by rw [c0]; decide) (by rw [c0]; rfl) (by decide) (t := 79) rfl) ?_
      refine m_R_sg (by decide) [(.aload_n 0, 1, 0, 0, 0, 0, 0), (.iload_n 1, 1, 0, 1, 0, 0, 0), (.iconst 1, 1, 0, 1, 0, 0, 0)] (by decide +kernel) (show m_sgl X _ _ _ _ _ = some (82, [some (.ref 304), some (.int v1), some (.int v2)], [.int (1 : Int32), .int v1, .ref 304], (SH, q1.2.1, q1.2.2)) from rfl) ?_
      obtain ⟨q4, hc4, h⟩ := Option.bind_eq_some_iff.mp h
      refine m_R_cV (v := (some (.int q4.1))) (h1 := (SH, q4.2)) (rest := []) (lo' := [some (.ref 304), some (.int v1), some (.int (1 : Int32))]) (ml := 3) (k0 := 304) (by decide) (Or.inl rfl) (m_opb_of (ins := .invokevirtual 65) (len := 3) (tag := 5) (a := 212) (b := 2) (c := 0) (q := 1636) (by decide +kernel)) (by decide +kernel) rfl (show m_isO 212 304 (SH, _) = true from m_isO_of (by decide +kernel)) (Nat.le_of_ble_eq_true rfl) rfl rfl (ok_m_hs X (d + 1) F _ _ _ _ _ hc4) ?_
      cases h
      exact m_R_iret (by decide) (m_opb_of (ins := .ireturn) (len := 1) (tag := 1) (a := 0) (b := 0) (c := 0) (q := 0) (by decide +kernel)) (Or.inl rfl)
    rcases m_ite h with ⟨c0, h⟩ | ⟨d2, h⟩
    · refine m_R_1 (by decide) (m_opb_of (ins := .tableswitch 124 0 9 #[56, 63, 70, 77, 83, 90, 97, 104, 110, 117]) (len := 56) (tag := 0) (a := 0) (b := 0) (c := 0) (q := 0) (by decide +kernel)) (m_s_sw (by rw [c0]; decide) (by rw [c0]; rfl) (by decide) (t := 86) rfl) ?_
      refine m_R_sg (by decide) [(.aload_n 0, 1, 0, 0, 0, 0, 0), (.iload_n 1, 1, 0, 1, 0, 0, 0), (.iconst 2, 1, 0, 2, 0, 0, 0)] (by decide +kernel) (show m_sgl X _ _ _ _ _ = some (89, [some (.ref 304), some (.int v1), some (.int v2)], [.int (2 : Int32), .int v1, .ref 304], (SH, q1.2.1, q1.2.2)) from rfl) ?_
      obtain ⟨q5, hc5, h⟩ := Option.bind_eq_some_iff.mp h
      refine m_R_cV (v := (some (.int q5.1))) (h1 := (SH, q5.2)) (rest := []) (lo' := [some (.ref 304), some (.int v1), some (.int (2 : Int32))]) (ml := 3) (k0 := 304) (by decide) (Or.inl rfl) (m_opb_of (ins := .invokevirtual 65) (len := 3) (tag := 5) (a := 212) (b := 2) (c := 0) (q := 1636) (by decide +kernel)) (by decide +kernel) rfl (show m_isO 212 304 (SH, _) = true from m_isO_of (by decide +kernel)) (Nat.le_of_ble_eq_true rfl) rfl rfl (ok_m_hs X (d + 1) F _ _ _ _ _ hc5) ?_
      cases h
      exact m_R_iret (by decide) (m_opb_of (ins := .ireturn) (len := 1) (tag := 1) (a := 0) (b := 0) (c := 0) (q := 0) (by decide +kernel)) (Or.inl rfl)
    rcases m_ite h with ⟨c0, h⟩ | ⟨d3, h⟩
    · refine m_R_1 (by decide) (m_opb_of (ins := .tableswitch 124 0 9 #[56, 63, 70, 77, 83, 90, 97, 104, 110, 117]) (len := 56) (tag := 0) (a := 0) (b := 0) (c := 0) (q := 0) (by decide +kernel)) (m_s_sw (by rw [c0]; decide) (by rw [c0]; rfl) (by decide) (t := 93) rfl) ?_
      refine m_R_sg (by decide) [(.aload_n 0, 1, 0, 0, 0, 0, 0), (.iload_n 1, 1, 0, 1, 0, 0, 0)] (by decide +kernel) (show m_sgl X _ _ _ _ _ = some (95, [some (.ref 304), some (.int v1), some (.int v2)], [.int v1, .ref 304], (SH, q1.2.1, q1.2.2)) from rfl) ?_
      obtain ⟨q6, hc6, h⟩ := Option.bind_eq_some_iff.mp h
      refine m_R_cV (v := (some (.int q6.1))) (h1 := (SH, q6.2)) (rest := []) (lo' := [some (.ref 304), some (.int v1), none, none]) (ml := 4) (k0 := 304) (by decide) (Or.inl rfl) (m_opb_of (ins := .invokevirtual 83) (len := 3) (tag := 5) (a := 216) (b := 1) (c := 0) (q := 1652) (by decide +kernel)) (by decide +kernel) rfl (show m_isO 216 304 (SH, _) = true from m_isO_of (by decide +kernel)) (Nat.le_of_ble_eq_true rfl) rfl rfl (ok_m_notesOf X (d + 1) F _ _ _ _ hc6) ?_
      cases h
      exact m_R_iret (by decide) (m_opb_of (ins := .ireturn) (len := 1) (tag := 1) (a := 0) (b := 0) (c := 0) (q := 0) (by decide +kernel)) (Or.inl rfl)
    rcases m_ite h with ⟨c0, h⟩ | ⟨d4, h⟩
    · refine m_R_1 (by decide) (m_opb_of (ins := .tableswitch 124 0 9 #[56, 63, 70, 77, 83, 90, 97, 104, 110, 117]) (len := 56) (tag := 0) (a := 0) (b := 0) (c := 0) (q := 0) (by decide +kernel)) (m_s_sw (by rw [c0]; decide) (by rw [c0]; rfl) (by decide) (t := 99) rfl) ?_
      refine m_R_sg (by decide) [(.aload_n 0, 1, 0, 0, 0, 0, 0), (.iload_n 1, 1, 0, 1, 0, 0, 0), (.iconst 3, 1, 0, 3, 0, 0, 0)] (by decide +kernel) (show m_sgl X _ _ _ _ _ = some (102, [some (.ref 304), some (.int v1), some (.int v2)], [.int (3 : Int32), .int v1, .ref 304], (SH, q1.2.1, q1.2.2)) from rfl) ?_
      obtain ⟨q7, hc7, h⟩ := Option.bind_eq_some_iff.mp h
      refine m_R_cV (v := (some (.int q7.1))) (h1 := (SH, q7.2)) (rest := []) (lo' := [some (.ref 304), some (.int v1), some (.int (3 : Int32))]) (ml := 3) (k0 := 304) (by decide) (Or.inl rfl) (m_opb_of (ins := .invokevirtual 65) (len := 3) (tag := 5) (a := 212) (b := 2) (c := 0) (q := 1636) (by decide +kernel)) (by decide +kernel) rfl (show m_isO 212 304 (SH, _) = true from m_isO_of (by decide +kernel)) (Nat.le_of_ble_eq_true rfl) rfl rfl (ok_m_hs X (d + 1) F _ _ _ _ _ hc7) ?_
      cases h
      exact m_R_iret (by decide) (m_opb_of (ins := .ireturn) (len := 1) (tag := 1) (a := 0) (b := 0) (c := 0) (q := 0) (by decide +kernel)) (Or.inl rfl)
    rcases m_ite h with ⟨c0, h⟩ | ⟨d5, h⟩
    · refine m_R_1 (by decide) (m_opb_of (ins := .tableswitch 124 0 9 #[56, 63, 70, 77, 83, 90, 97, 104, 110, 117]) (len := 56) (tag := 0) (a := 0) (b := 0) (c := 0) (q := 0) (by decide +kernel)) (m_s_sw (by rw [c0]; decide) (by rw [c0]; rfl) (by decide) (t := 106) rfl) ?_
      refine m_R_sg (by decide) [(.aload_n 0, 1, 0, 0, 0, 0, 0), (.iload_n 1, 1, 0, 1, 0, 0, 0), (.iconst 4, 1, 0, 4, 0, 0, 0)] (by decide +kernel) (show m_sgl X _ _ _ _ _ = some (109, [some (.ref 304), some (.int v1), some (.int v2)], [.int (4 : Int32), .int v1, .ref 304], (SH, q1.2.1, q1.2.2)) from rfl) ?_
      obtain ⟨q8, hc8, h⟩ := Option.bind_eq_some_iff.mp h
      refine m_R_cV (v := (some (.int q8.1))) (h1 := (SH, q8.2)) (rest := []) (lo' := [some (.ref 304), some (.int v1), some (.int (4 : Int32))]) (ml := 3) (k0 := 304) (by decide) (Or.inl rfl) (m_opb_of (ins := .invokevirtual 65) (len := 3) (tag := 5) (a := 212) (b := 2) (c := 0) (q := 1636) (by decide +kernel)) (by decide +kernel) rfl (show m_isO 212 304 (SH, _) = true from m_isO_of (by decide +kernel)) (Nat.le_of_ble_eq_true rfl) rfl rfl (ok_m_hs X (d + 1) F _ _ _ _ _ hc8) ?_
      cases h
      exact m_R_iret (by decide) (m_opb_of (ins := .ireturn) (len := 1) (tag := 1) (a := 0) (b := 0) (c := 0) (q := 0) (by decide +kernel)) (Or.inl rfl)
    rcases m_ite h with ⟨c0, h⟩ | ⟨d6, h⟩
    · refine m_R_1 (by decide) (m_opb_of (ins := .tableswitch 124 0 9 #[56, 63, 70, 77, 83, 90, 97, 104, 110, 117]) (len := 56) (tag := 0) (a := 0) (b := 0) (c := 0) (q := 0) (by decide +kernel)) (m_s_sw (by rw [c0]; decide) (by rw [c0]; rfl) (by decide) (t := 113) rfl) ?_
      refine m_R_sg (by decide) [(.aload_n 0, 1, 0, 0, 0, 0, 0), (.iload_n 1, 1, 0, 1, 0, 0, 0), (.iconst 5, 1, 0, 5, 0, 0, 0)] (by decide +kernel) (show m_sgl X _ _ _ _ _ = some (116, [some (.ref 304), some (.int v1), some (.int v2)], [.int (5 : Int32), .int v1, .ref 304], (SH, q1.2.1, q1.2.2)) from rfl) ?_
      obtain ⟨q9, hc9, h⟩ := Option.bind_eq_some_iff.mp h
      refine m_R_cV (v := (some (.int q9.1))) (h1 := (SH, q9.2)) (rest := []) (lo' := [some (.ref 304), some (.int v1), some (.int (5 : Int32))]) (ml := 3) (k0 := 304) (by decide) (Or.inl rfl) (m_opb_of (ins := .invokevirtual 65) (len := 3) (tag := 5) (a := 212) (b := 2) (c := 0) (q := 1636) (by decide +kernel)) (by decide +kernel) rfl (show m_isO 212 304 (SH, _) = true from m_isO_of (by decide +kernel)) (Nat.le_of_ble_eq_true rfl) rfl rfl (ok_m_hs X (d + 1) F _ _ _ _ _ hc9) ?_
      cases h
      exact m_R_iret (by decide) (m_opb_of (ins := .ireturn) (len := 1) (tag := 1) (a := 0) (b := 0) (c := 0) (q := 0) (by decide +kernel)) (Or.inl rfl)
    rcases m_ite h with ⟨c0, h⟩ | ⟨d7, h⟩
    · refine m_R_1 (by decide) (m_opb_of (ins := .tableswitch 124 0 9 #[56, 63, 70, 77, 83, 90, 97, 104, 110, 117]) (len := 56) (tag := 0) (a := 0) (b := 0) (c := 0) (q := 0) (by decide +kernel)) (m_s_sw (by rw [c0]; decide) (by rw [c0]; rfl) (by decide) (t := 120) rfl) ?_
      refine m_R_sg (by decide) [(.aload_n 0, 1, 0, 0, 0, 0, 0), (.iload_n 1, 1, 0, 1, 0, 0, 0)] (by decide +kernel) (show m_sgl X _ _ _ _ _ = some (122, [some (.ref 304), some (.int v1), some (.int v2)], [.int v1, .ref 304], (SH, q1.2.1, q1.2.2)) from rfl) ?_
      obtain ⟨q10, hc10, h⟩ := Option.bind_eq_some_iff.mp h
      refine m_R_cV (v := (some (.int q10.1))) (h1 := (SH, q10.2)) (rest := []) (lo' := [some (.ref 304), some (.int v1)]) (ml := 2) (k0 := 304) (by decide) (Or.inl rfl) (m_opb_of (ins := .invokevirtual 86) (len := 3) (tag := 5) (a := 217) (b := 1) (c := 0) (q := 1656) (by decide +kernel)) (by decide +kernel) rfl (show m_isO 217 304 (SH, _) = true from m_isO_of (by decide +kernel)) (Nat.le_of_ble_eq_true rfl) rfl rfl (ok_m_coinOf X (d + 0) F _ _ _ _ hc10) ?_
      cases h
      exact m_R_iret (by decide) (m_opb_of (ins := .ireturn) (len := 1) (tag := 1) (a := 0) (b := 0) (c := 0) (q := 0) (by decide +kernel)) (Or.inl rfl)
    rcases m_ite h with ⟨c0, h⟩ | ⟨d8, h⟩
    · refine m_R_1 (by decide) (m_opb_of (ins := .tableswitch 124 0 9 #[56, 63, 70, 77, 83, 90, 97, 104, 110, 117]) (len := 56) (tag := 0) (a := 0) (b := 0) (c := 0) (q := 0) (by decide +kernel)) (m_s_sw (by rw [c0]; decide) (by rw [c0]; rfl) (by decide) (t := 126) rfl) ?_
      refine m_R_sg (by decide) [(.aload_n 0, 1, 0, 0, 0, 0, 0), (.iload_n 1, 1, 0, 1, 0, 0, 0), (.iconst 4, 1, 0, 4, 0, 0, 0)] (by decide +kernel) (show m_sgl X _ _ _ _ _ = some (129, [some (.ref 304), some (.int v1), some (.int v2)], [.int (4 : Int32), .int v1, .ref 304], (SH, q1.2.1, q1.2.2)) from rfl) ?_
      obtain ⟨q11, hc11, h⟩ := Option.bind_eq_some_iff.mp h
      refine m_R_cV (v := (some (.int q11.1))) (h1 := (SH, q11.2)) (rest := []) (lo' := [some (.ref 304), some (.int v1), some (.int (4 : Int32)), none, none]) (ml := 5) (k0 := 304) (by decide) (Or.inl rfl) (m_opb_of (ins := .invokevirtual 89) (len := 3) (tag := 5) (a := 218) (b := 2) (c := 0) (q := 1660) (by decide +kernel)) (by decide +kernel) rfl (show m_isO 218 304 (SH, _) = true from m_isO_of (by decide +kernel)) (Nat.le_of_ble_eq_true rfl) rfl rfl (ok_m_papersOf X (d + 1) F _ _ _ _ _ hc11) ?_
      cases h
      exact m_R_iret (by decide) (m_opb_of (ins := .ireturn) (len := 1) (tag := 1) (a := 0) (b := 0) (c := 0) (q := 0) (by decide +kernel)) (Or.inl rfl)
    rcases m_ite h with ⟨c0, h⟩ | ⟨d9, h⟩
    · refine m_R_1 (by decide) (m_opb_of (ins := .tableswitch 124 0 9 #[56, 63, 70, 77, 83, 90, 97, 104, 110, 117]) (len := 56) (tag := 0) (a := 0) (b := 0) (c := 0) (q := 0) (by decide +kernel)) (m_s_sw (by rw [c0]; decide) (by rw [c0]; rfl) (by decide) (t := 133) rfl) ?_
      refine m_R_sg (by decide) [(.aload_n 0, 1, 0, 0, 0, 0, 0), (.iload_n 1, 1, 0, 1, 0, 0, 0), (.iconst 3, 1, 0, 3, 0, 0, 0)] (by decide +kernel) (show m_sgl X _ _ _ _ _ = some (136, [some (.ref 304), some (.int v1), some (.int v2)], [.int (3 : Int32), .int v1, .ref 304], (SH, q1.2.1, q1.2.2)) from rfl) ?_
      obtain ⟨q12, hc12, h⟩ := Option.bind_eq_some_iff.mp h
      refine m_R_cV (v := (some (.int q12.1))) (h1 := (SH, q12.2)) (rest := []) (lo' := [some (.ref 304), some (.int v1), some (.int (3 : Int32)), none, none]) (ml := 5) (k0 := 304) (by decide) (Or.inl rfl) (m_opb_of (ins := .invokevirtual 89) (len := 3) (tag := 5) (a := 218) (b := 2) (c := 0) (q := 1660) (by decide +kernel)) (by decide +kernel) rfl (show m_isO 218 304 (SH, _) = true from m_isO_of (by decide +kernel)) (Nat.le_of_ble_eq_true rfl) rfl rfl (ok_m_papersOf X (d + 1) F _ _ _ _ _ hc12) ?_
      cases h
      exact m_R_iret (by decide) (m_opb_of (ins := .ireturn) (len := 1) (tag := 1) (a := 0) (b := 0) (c := 0) (q := 0) (by decide +kernel)) (Or.inl rfl)
    refine m_R_1 (by decide) (m_opb_of (ins := .tableswitch 124 0 9 #[56, 63, 70, 77, 83, 90, 97, 104, 110, 117]) (len := 56) (tag := 0) (a := 0) (b := 0) (c := 0) (q := 0) (by decide +kernel)) (m_s_swd (m_swx 10 (fun j hj => match j, hj with | 0, _ => fun e => d0 (e.trans (by decide)) | 1, _ => fun e => d1 (e.trans (by decide)) | 2, _ => fun e => d2 (e.trans (by decide)) | 3, _ => fun e => d3 (e.trans (by decide)) | 4, _ => fun e => d4 (e.trans (by decide)) | 5, _ => fun e => d5 (e.trans (by decide)) | 6, _ => fun e => d6 (e.trans (by decide)) | 7, _ => fun e => d7 (e.trans (by decide)) | 8, _ => fun e => d8 (e.trans (by decide)) | 9, _ => fun e => d9 (e.trans (by decide)) | j + 10, hj => absurd hj (by omega))) (by decide) (t := 140) rfl) ?_
    refine m_R_sg (by decide) [(.aload_n 0, 1, 0, 0, 0, 0, 0), (.bipush (-7), 2, 0, 7, 1, 0, 0)] (by decide +kernel) (show m_sgl X _ _ _ _ _ = some (143, [some (.ref 304), some (.int v1), some (.int v2)], [.int (-7 : Int32), .ref 304], (SH, q1.2.1, q1.2.2)) from rfl) ?_
    obtain ⟨q13, hc13, h⟩ := Option.bind_eq_some_iff.mp h
    refine m_R_cV (v := (some (.int q13.1))) (h1 := (SH, q13.2)) (rest := []) (lo' := [some (.ref 304), some (.int (-7 : Int32))]) (ml := 2) (k0 := 304) (by decide) (Or.inl rfl) (m_opb_of (ins := .invokevirtual 61) (len := 3) (tag := 5) (a := 202) (b := 1) (c := 0) (q := 1596) (by decide +kernel)) (by decide +kernel) rfl (show m_isO 202 304 (SH, _) = true from m_isO_of (by decide +kernel)) (Nat.le_of_ble_eq_true rfl) rfl rfl (ok_m_refuse X (d + 1) F _ _ _ _ hc13) ?_
    cases h
    exact m_R_iret (by decide) (m_opb_of (ins := .ireturn) (len := 1) (tag := 1) (a := 0) (b := 0) (c := 0) (q := 0) (by decide +kernel)) (Or.inl rfl)
def f_x_isSum_17 (F : Nat)   (s0 : Int32) (m : mM) : Option (Int32 × mM) := (if s0 = 0 ∨ s0 = 1 then some (s0, m) else none)
theorem ok_x_isSum_17 (X : mX) (d F : Nat) : ∀ (s0 : Int32) (w0 : Option Value) (m : mM) (r : Int32) (m' : mM), f_x_isSum_17 F s0 m = some (r, m') → m_R X (d + 0) 34 17 [w0] [.int s0] (SH, m) (some (.int r), (SH, m')) := by
  intro s0 w0 m r m' h
  unfold f_x_isSum_17 at h
  obtain ⟨c0, h⟩ := m_ite_p h
  cases h
  exact m_R_iret (by decide) (m_opb_of (ins := .ireturn) (len := 1) (tag := 1) (a := 1) (b := 0) (c := 0) (q := 0) (by decide +kernel)) (Or.inr c0)
def f_x_isSum_16 (F : Nat)    (m : mM) : Option (Int32 × mM) := f_x_isSum_17 F (0 : Int32) m
theorem ok_x_isSum_16 (X : mX) (d F : Nat) : ∀  (w0 : Option Value) (m : mM) (r : Int32) (m' : mM), f_x_isSum_16 F  m = some (r, m') → m_R X (d + 0) 34 16 [w0] [] (SH, m) (some (.int r), (SH, m')) := by
  intro w0 m r m' h
  unfold f_x_isSum_16 at h
  refine m_R_sg (by decide) [(.iconst 0, 1, 0, 0, 0, 0, 0)] (by decide +kernel) (show m_sgl X _ _ _ _ _ = some (17, [w0], [.int (0 : Int32)], (SH, m.1, m.2)) from rfl) ?_
  exact ok_x_isSum_17 X d F _ _ _ _ _ h
def f_x_isSum (F : Nat)   (v0 : Int32) (m : mM) : Option (Int32 × mM) := (if v0 < (1 : Int32) then f_x_isSum_16 F m else (if (9999 : Int32) < v0 then f_x_isSum_16 F m else f_x_isSum_17 F (1 : Int32) m))
theorem ok_x_isSum (X : mX) (d F : Nat) : ∀ (v0 : Int32)  (m : mM) (r : Int32) (m' : mM), f_x_isSum F v0 m = some (r, m') → m_R X (d + 0) 34 0 [some (.int v0)] [] (SH, m) (some (.int r), (SH, m')) := by
  intro v0 m r m' h
  unfold f_x_isSum at h
  refine m_R_sg (by decide) [(.iload_n 0, 1, 0, 0, 0, 0, 0), (.iconst 1, 1, 0, 1, 0, 0, 0)] (by decide +kernel) (show m_sgl X _ _ _ _ _ = some (2, [some (.int v0)], [.int (1 : Int32), .int v0], (SH, m.1, m.2)) from rfl) ?_
  rcases m_ite h with ⟨c92, h⟩ | ⟨c92, h⟩
  · refine m_R_1 (by decide) (m_opb_of (ins := .if_icmp .lt 14) (len := 3) (tag := 0) (a := 16) (b := 0) (c := 0) (q := 0) (by decide +kernel)) (if_pos c92) ?_
    exact ok_x_isSum_16 X d F _ _ _ _ h
  · refine m_R_1 (by decide) (m_opb_of (ins := .if_icmp .lt 14) (len := 3) (tag := 0) (a := 16) (b := 0) (c := 0) (q := 0) (by decide +kernel)) (if_neg c92) ?_
    refine m_R_sg (by decide) [(.iload_n 0, 1, 0, 0, 0, 0, 0), (.sipush 9999, 3, 0, 9999, 0, 0, 0)] (by decide +kernel) (show m_sgl X _ _ _ _ _ = some (9, [some (.int v0)], [.int (9999 : Int32), .int v0], (SH, m.1, m.2)) from rfl) ?_
    rcases m_ite h with ⟨c93, h⟩ | ⟨c93, h⟩
    · refine m_R_1 (by decide) (m_opb_of (ins := .if_icmp .gt 7) (len := 3) (tag := 0) (a := 16) (b := 0) (c := 0) (q := 0) (by decide +kernel)) (if_pos c93) ?_
      exact ok_x_isSum_16 X d F _ _ _ _ h
    · refine m_R_1 (by decide) (m_opb_of (ins := .if_icmp .gt 7) (len := 3) (tag := 0) (a := 16) (b := 0) (c := 0) (q := 0) (by decide +kernel)) (if_neg c93) ?_
      refine m_R_sg (by decide) [(.iconst 1, 1, 0, 1, 0, 0, 0), (.goto 4, 3, 0, 17, 0, 0, 0)] (by decide +kernel) (show m_sgl X _ _ _ _ _ = some (17, [some (.int v0)], [.int (1 : Int32)], (SH, m.1, m.2)) from rfl) ?_
      exact ok_x_isSum_17 X d F _ _ _ _ _ h
def f_Math_max_10 (F : Nat)   (s0 : Int32) (m : mM) : Option (Int32 × mM) := some (s0, m)
theorem ok_Math_max_10 (X : mX) (d F : Nat) : ∀ (s0 : Int32) (w0 : Option Value) (w1 : Option Value) (m : mM) (r : Int32) (m' : mM), f_Math_max_10 F s0 m = some (r, m') → m_R X (d + 0) 38 10 [w0, w1] [.int s0] (SH, m) (some (.int r), (SH, m')) := by
  intro s0 w0 w1 m r m' h
  unfold f_Math_max_10 at h
  cases h
  exact m_R_iret (by decide) (m_opb_of (ins := .ireturn) (len := 1) (tag := 1) (a := 0) (b := 0) (c := 0) (q := 0) (by decide +kernel)) (Or.inl rfl)
def f_Math_max (F : Nat)   (v0 : Int32) (v1 : Int32) (m : mM) : Option (Int32 × mM) := (if v0 < v1 then f_Math_max_10 F v1 m else f_Math_max_10 F v0 m)
theorem ok_Math_max (X : mX) (d F : Nat) : ∀ (v0 : Int32) (v1 : Int32)  (m : mM) (r : Int32) (m' : mM), f_Math_max F v0 v1 m = some (r, m') → m_R X (d + 0) 38 0 [some (.int v0), some (.int v1)] [] (SH, m) (some (.int r), (SH, m')) := by
  intro v0 v1 m r m' h
  unfold f_Math_max at h
  refine m_R_sg (by decide) [(.iload_n 0, 1, 0, 0, 0, 0, 0), (.iload_n 1, 1, 0, 1, 0, 0, 0)] (by decide +kernel) (show m_sgl X _ _ _ _ _ = some (2, [some (.int v0), some (.int v1)], [.int v1, .int v0], (SH, m.1, m.2)) from rfl) ?_
  rcases m_ite h with ⟨c94, h⟩ | ⟨c94, h⟩
  · refine m_R_1 (by decide) (m_opb_of (ins := .if_icmp .lt 7) (len := 3) (tag := 0) (a := 9) (b := 0) (c := 0) (q := 0) (by decide +kernel)) (if_pos c94) ?_
    refine m_R_sg (by decide) [(.iload_n 1, 1, 0, 1, 0, 0, 0)] (by decide +kernel) (show m_sgl X _ _ _ _ _ = some (10, [some (.int v0), some (.int v1)], [.int v1], (SH, m.1, m.2)) from rfl) ?_
    exact ok_Math_max_10 X d F _ _ _ _ _ _ h
  · refine m_R_1 (by decide) (m_opb_of (ins := .if_icmp .lt 7) (len := 3) (tag := 0) (a := 9) (b := 0) (c := 0) (q := 0) (by decide +kernel)) (if_neg c94) ?_
    refine m_R_sg (by decide) [(.iload_n 0, 1, 0, 0, 0, 0, 0), (.goto 4, 3, 0, 10, 0, 0, 0)] (by decide +kernel) (show m_sgl X _ _ _ _ _ = some (10, [some (.int v0), some (.int v1)], [.int v0], (SH, m.1, m.2)) from rfl) ?_
    exact ok_Math_max_10 X d F _ _ _ _ _ _ h
def f_Notes_canIssue_40 (F : Nat)   (s0 : Int32) (m : mM) : Option (Int32 × mM) := (if s0 = 0 ∨ s0 = 1 then some (s0, m) else none)
theorem ok_Notes_canIssue_40 (X : mX) (d F : Nat) : ∀ (s0 : Int32) (w0 : Option Value) (w1 : Option Value) (w2 : Option Value) (m : mM) (r : Int32) (m' : mM), f_Notes_canIssue_40 F s0 m = some (r, m') → m_R X (d + 1) 37 40 [w0, w1, w2] [.int s0] (SH, m) (some (.int r), (SH, m')) := by
  intro s0 w0 w1 w2 m r m' h
  unfold f_Notes_canIssue_40 at h
  obtain ⟨c0, h⟩ := m_ite_p h
  cases h
  exact m_R_iret (by decide) (m_opb_of (ins := .ireturn) (len := 1) (tag := 1) (a := 1) (b := 0) (c := 0) (q := 0) (by decide +kernel)) (Or.inr c0)
def f_Notes_canIssue_39 (F : Nat)    (m : mM) : Option (Int32 × mM) := f_Notes_canIssue_40 F (0 : Int32) m
theorem ok_Notes_canIssue_39 (X : mX) (d F : Nat) : ∀  (w0 : Option Value) (w1 : Option Value) (w2 : Option Value) (m : mM) (r : Int32) (m' : mM), f_Notes_canIssue_39 F  m = some (r, m') → m_R X (d + 1) 37 39 [w0, w1, w2] [] (SH, m) (some (.int r), (SH, m')) := by
  intro w0 w1 w2 m r m' h
  unfold f_Notes_canIssue_39 at h
  refine m_R_sg (by decide) [(.iconst 0, 1, 0, 0, 0, 0, 0)] (by decide +kernel) (show m_sgl X _ _ _ _ _ = some (40, [w0, w1, w2], [.int (0 : Int32)], (SH, m.1, m.2)) from rfl) ?_
  exact ok_Notes_canIssue_40 X d F _ _ _ _ _ _ _ h
def f_Notes_canIssue (F : Nat)   (v1 : Int32) (m : mM) : Option (Int32 × mM) := ((f_Math_max F (0 : Int32) (v1 - (m.1 55 10)) m).bind fun q1 => (if ((300 : Int32) - (q1.2.1 55 8)) < q1.1 then f_Notes_canIssue_39 F q1.2 else (if ((400 : Int32) - (q1.2.1 55 7)) < q1.1 then f_Notes_canIssue_39 F q1.2 else f_Notes_canIssue_40 F (1 : Int32) q1.2)))
theorem ok_Notes_canIssue (X : mX) (d F : Nat) : ∀ (v1 : Int32)  (m : mM) (r : Int32) (m' : mM), f_Notes_canIssue F v1 m = some (r, m') → m_R X (d + 1) 37 0 [some (.ref 55), some (.int v1), none] [] (SH, m) (some (.int r), (SH, m')) := by
  intro v1 m r m' h
  unfold f_Notes_canIssue at h
  refine m_R_sg (by decide) [(.iconst 0, 1, 0, 0, 0, 0, 0), (.iload_n 1, 1, 0, 1, 0, 0, 0), (.aload_n 0, 1, 0, 0, 0, 0, 0), (.getfield 48, 3, 0, 3, 10, 0, 470), (.isub, 1, 0, 0, 0, 0, 0)] (by decide +kernel) (show m_sgl X _ _ _ _ _ = some (7, [some (.ref 55), some (.int v1), none], [.int (v1 - (m.1 55 10)), .int (0 : Int32)], (SH, m.1, m.2)) from rfl) ?_
  obtain ⟨q1, hc1, h⟩ := Option.bind_eq_some_iff.mp h
  refine m_R_cS (v := (some (.int q1.1))) (h1 := (SH, q1.2)) (rest := []) (lo' := [some (.int (0 : Int32)), some (.int (v1 - (m.1 55 10)))]) (ml := 2) (by decide) (m_opb_of (ins := .invokestatic 57) (len := 3) (tag := 4) (a := 38) (b := 2) (c := 0) (q := 768) (by decide +kernel)) (by decide +kernel) (Nat.le_of_ble_eq_true rfl) rfl (Nat.le_of_ble_eq_true rfl) rfl rfl (ok_Math_max X (d + 0) F _ _ _ _ _ hc1) ?_
  refine m_R_sg (by decide) [(.istore_n 2, 1, 0, 2, 0, 0, 0), (.iload_n 2, 1, 0, 2, 0, 0, 0), (.sipush 300, 3, 0, 300, 0, 0, 0), (.aload_n 0, 1, 0, 0, 0, 0, 0), (.getfield 42, 3, 0, 3, 8, 0, 466), (.isub, 1, 0, 0, 0, 0, 0)] (by decide +kernel) (show m_sgl X _ _ _ _ _ = some (20, [some (.ref 55), some (.int v1), some (.int q1.1)], [.int ((300 : Int32) - (q1.2.1 55 8)), .int q1.1], (SH, q1.2.1, q1.2.2)) from rfl) ?_
  rcases m_ite h with ⟨c95, h⟩ | ⟨c95, h⟩
  · refine m_R_1 (by decide) (m_opb_of (ins := .if_icmp .gt 19) (len := 3) (tag := 0) (a := 39) (b := 0) (c := 0) (q := 0) (by decide +kernel)) (if_pos c95) ?_
    exact ok_Notes_canIssue_39 X d F _ _ _ _ _ _ h
  · refine m_R_1 (by decide) (m_opb_of (ins := .if_icmp .gt 19) (len := 3) (tag := 0) (a := 39) (b := 0) (c := 0) (q := 0) (by decide +kernel)) (if_neg c95) ?_
    refine m_R_sg (by decide) [(.iload_n 2, 1, 0, 2, 0, 0, 0), (.sipush 400, 3, 0, 400, 0, 0, 0), (.aload_n 0, 1, 0, 0, 0, 0, 0), (.getfield 38, 3, 0, 3, 7, 0, 463), (.isub, 1, 0, 0, 0, 0, 0)] (by decide +kernel) (show m_sgl X _ _ _ _ _ = some (32, [some (.ref 55), some (.int v1), some (.int q1.1)], [.int ((400 : Int32) - (q1.2.1 55 7)), .int q1.1], (SH, q1.2.1, q1.2.2)) from rfl) ?_
    rcases m_ite h with ⟨c96, h⟩ | ⟨c96, h⟩
    · refine m_R_1 (by decide) (m_opb_of (ins := .if_icmp .gt 7) (len := 3) (tag := 0) (a := 39) (b := 0) (c := 0) (q := 0) (by decide +kernel)) (if_pos c96) ?_
      exact ok_Notes_canIssue_39 X d F _ _ _ _ _ _ h
    · refine m_R_1 (by decide) (m_opb_of (ins := .if_icmp .gt 7) (len := 3) (tag := 0) (a := 39) (b := 0) (c := 0) (q := 0) (by decide +kernel)) (if_neg c96) ?_
      refine m_R_sg (by decide) [(.iconst 1, 1, 0, 1, 0, 0, 0), (.goto 4, 3, 0, 40, 0, 0, 0)] (by decide +kernel) (show m_sgl X _ _ _ _ _ = some (40, [some (.ref 55), some (.int v1), some (.int q1.1)], [.int (1 : Int32)], (SH, q1.2.1, q1.2.2)) from rfl) ?_
      exact ok_Notes_canIssue_40 X d F _ _ _ _ _ _ _ h
def f_Papers_isPaper_25 (F : Nat)   (s0 : Int32) (m : mM) : Option (Int32 × mM) := (if s0 = 0 ∨ s0 = 1 then some (s0, m) else none)
theorem ok_Papers_isPaper_25 (X : mX) (d F : Nat) : ∀ (s0 : Int32) (w0 : Option Value) (w1 : Option Value) (m : mM) (r : Int32) (m' : mM), f_Papers_isPaper_25 F s0 m = some (r, m') → m_R X (d + 0) 41 25 [w0, w1] [.int s0] (SH, m) (some (.int r), (SH, m')) := by
  intro s0 w0 w1 m r m' h
  unfold f_Papers_isPaper_25 at h
  obtain ⟨c0, h⟩ := m_ite_p h
  cases h
  exact m_R_iret (by decide) (m_opb_of (ins := .ireturn) (len := 1) (tag := 1) (a := 1) (b := 0) (c := 0) (q := 0) (by decide +kernel)) (Or.inr c0)
def f_Papers_isPaper_24 (F : Nat)    (m : mM) : Option (Int32 × mM) := f_Papers_isPaper_25 F (0 : Int32) m
theorem ok_Papers_isPaper_24 (X : mX) (d F : Nat) : ∀  (w0 : Option Value) (w1 : Option Value) (m : mM) (r : Int32) (m' : mM), f_Papers_isPaper_24 F  m = some (r, m') → m_R X (d + 0) 41 24 [w0, w1] [] (SH, m) (some (.int r), (SH, m')) := by
  intro w0 w1 m r m' h
  unfold f_Papers_isPaper_24 at h
  refine m_R_sg (by decide) [(.iconst 0, 1, 0, 0, 0, 0, 0)] (by decide +kernel) (show m_sgl X _ _ _ _ _ = some (25, [w0, w1], [.int (0 : Int32)], (SH, m.1, m.2)) from rfl) ?_
  exact ok_Papers_isPaper_25 X d F _ _ _ _ _ _ h
def f_Papers_isPaper (F : Nat)   (v1 : Int32) (m : mM) : Option (Int32 × mM) := (if v1 < 0 then f_Papers_isPaper_24 F m else (if (60 : Int32) ≤ v1 then f_Papers_isPaper_24 F m else (if v1 < 0 ∨ 60 ≤ v1.toNatClampNeg then none else (if (m.1 32 v1.toNatClampNeg) = (-1 : Int32) then f_Papers_isPaper_24 F m else f_Papers_isPaper_25 F (1 : Int32) m))))
theorem ok_Papers_isPaper (X : mX) (d F : Nat) : ∀ (v1 : Int32)  (m : mM) (r : Int32) (m' : mM), f_Papers_isPaper F v1 m = some (r, m') → m_R X (d + 0) 41 0 [some (.ref 31), some (.int v1)] [] (SH, m) (some (.int r), (SH, m')) := by
  intro v1 m r m' h
  unfold f_Papers_isPaper at h
  refine m_R_sg (by decide) [(.iload_n 1, 1, 0, 1, 0, 0, 0)] (by decide +kernel) (show m_sgl X _ _ _ _ _ = some (1, [some (.ref 31), some (.int v1)], [.int v1], (SH, m.1, m.2)) from rfl) ?_
  rcases m_ite h with ⟨c97, h⟩ | ⟨c97, h⟩
  · refine m_R_1 (by decide) (m_opb_of (ins := .ifCond .lt 23) (len := 3) (tag := 0) (a := 24) (b := 0) (c := 0) (q := 0) (by decide +kernel)) (if_pos c97) ?_
    exact ok_Papers_isPaper_24 X d F _ _ _ _ _ h
  · refine m_R_1 (by decide) (m_opb_of (ins := .ifCond .lt 23) (len := 3) (tag := 0) (a := 24) (b := 0) (c := 0) (q := 0) (by decide +kernel)) (if_neg c97) ?_
    refine m_R_sg (by decide) [(.iload_n 1, 1, 0, 1, 0, 0, 0), (.bipush 60, 2, 0, 60, 0, 0, 0)] (by decide +kernel) (show m_sgl X _ _ _ _ _ = some (7, [some (.ref 31), some (.int v1)], [.int (60 : Int32), .int v1], (SH, m.1, m.2)) from rfl) ?_
    rcases m_ite h with ⟨c98, h⟩ | ⟨c98, h⟩
    · refine m_R_1 (by decide) (m_opb_of (ins := .if_icmp .ge 17) (len := 3) (tag := 0) (a := 24) (b := 0) (c := 0) (q := 0) (by decide +kernel)) (if_pos c98) ?_
      exact ok_Papers_isPaper_24 X d F _ _ _ _ _ h
    · refine m_R_1 (by decide) (m_opb_of (ins := .if_icmp .ge 17) (len := 3) (tag := 0) (a := 24) (b := 0) (c := 0) (q := 0) (by decide +kernel)) (if_neg c98) ?_
      refine m_R_sg (by decide) [(.aload_n 0, 1, 0, 0, 0, 0, 0), (.getfield 9, 3, 0, 4, 0, 3, 317), (.iload_n 1, 1, 0, 1, 0, 0, 0)] (by decide +kernel) (show m_sgl X _ _ _ _ _ = some (15, [some (.ref 31), some (.int v1)], [.int v1, .ref 32], (SH, m.1, m.2)) from rfl) ?_
      obtain ⟨c99, h⟩ := m_ite_n h
      refine m_R_1 (by decide) (m_opb_of (ins := .iaload) (len := 1) (tag := 0) (a := 0) (b := 0) (c := 0) (q := 0) (by decide +kernel)) (m_s_iald sh_32 (by decide) c99) ?_
      refine m_R_sg (by decide) [(.iconst (-1), 1, 0, 1, 1, 0, 0)] (by decide +kernel) (show m_sgl X _ _ _ _ _ = some (17, [some (.ref 31), some (.int v1)], [.int (-1 : Int32), .int (m.1 32 v1.toNatClampNeg)], (SH, m.1, m.2)) from rfl) ?_
      rcases m_ite h with ⟨c100, h⟩ | ⟨c100, h⟩
      · refine m_R_1 (by decide) (m_opb_of (ins := .if_icmp .eq 7) (len := 3) (tag := 0) (a := 24) (b := 0) (c := 0) (q := 0) (by decide +kernel)) (if_pos c100) ?_
        exact ok_Papers_isPaper_24 X d F _ _ _ _ _ h
      · refine m_R_1 (by decide) (m_opb_of (ins := .if_icmp .eq 7) (len := 3) (tag := 0) (a := 24) (b := 0) (c := 0) (q := 0) (by decide +kernel)) (if_neg c100) ?_
        refine m_R_sg (by decide) [(.iconst 1, 1, 0, 1, 0, 0, 0), (.goto 4, 3, 0, 25, 0, 0, 0)] (by decide +kernel) (show m_sgl X _ _ _ _ _ = some (25, [some (.ref 31), some (.int v1)], [.int (1 : Int32)], (SH, m.1, m.2)) from rfl) ?_
        exact ok_Papers_isPaper_25 X d F _ _ _ _ _ _ h
def f_Math_min_JJ_11 (F : Nat)   (s0 : Int64) (m : mM) : Option (Int64 × mM) := some (s0, m)
theorem ok_Math_min_JJ_11 (X : mX) (d F : Nat) : ∀ (s0 : Int64) (w0 : Option Value) (w1 : Option Value) (w2 : Option Value) (w3 : Option Value) (m : mM) (r : Int64) (m' : mM), f_Math_min_JJ_11 F s0 m = some (r, m') → m_R X (d + 0) 43 11 [w0, w1, w2, w3] [.long s0] (SH, m) (some (.long r), (SH, m')) := by
  intro s0 w0 w1 w2 w3 m r m' h
  unfold f_Math_min_JJ_11 at h
  cases h
  exact m_R_lret (by decide) (m_opb_of (ins := .lreturn) (len := 1) (tag := 2) (a := 0) (b := 0) (c := 0) (q := 0) (by decide +kernel))
def f_Math_min_JJ (F : Nat)   (v0 : Int64) (v2 : Int64) (m : mM) : Option (Int64 × mM) := (if 0 < (lg_cmp v0 v2) then f_Math_min_JJ_11 F v2 m else f_Math_min_JJ_11 F v0 m)
theorem ok_Math_min_JJ (X : mX) (d F : Nat) : ∀ (v0 : Int64) (v2 : Int64)  (m : mM) (r : Int64) (m' : mM), f_Math_min_JJ F v0 v2 m = some (r, m') → m_R X (d + 0) 43 0 [some (.long v0), none, some (.long v2), none] [] (SH, m) (some (.long r), (SH, m')) := by
  intro v0 v2 m r m' h
  unfold f_Math_min_JJ at h
  refine m_R_sg (by decide) [(.lload_n 0, 1, 0, 0, 0, 0, 0), (.lload_n 2, 1, 0, 2, 0, 0, 0), (.lcmp, 1, 0, 0, 0, 0, 0)] (by decide +kernel) (show m_sgl X _ _ _ _ _ = some (3, [some (.long v0), none, some (.long v2), none], [.int (lg_cmp v0 v2)], (SH, m.1, m.2)) from rfl) ?_
  rcases m_ite h with ⟨c101, h⟩ | ⟨c101, h⟩
  · refine m_R_1 (by decide) (m_opb_of (ins := .ifCond .gt 7) (len := 3) (tag := 0) (a := 10) (b := 0) (c := 0) (q := 0) (by decide +kernel)) (if_pos c101) ?_
    refine m_R_sg (by decide) [(.lload_n 2, 1, 0, 2, 0, 0, 0)] (by decide +kernel) (show m_sgl X _ _ _ _ _ = some (11, [some (.long v0), none, some (.long v2), none], [.long v2], (SH, m.1, m.2)) from rfl) ?_
    exact ok_Math_min_JJ_11 X d F _ _ _ _ _ _ _ _ h
  · refine m_R_1 (by decide) (m_opb_of (ins := .ifCond .gt 7) (len := 3) (tag := 0) (a := 10) (b := 0) (c := 0) (q := 0) (by decide +kernel)) (if_neg c101) ?_
    refine m_R_sg (by decide) [(.lload_n 0, 1, 0, 0, 0, 0, 0), (.goto 4, 3, 0, 11, 0, 0, 0)] (by decide +kernel) (show m_sgl X _ _ _ _ _ = some (11, [some (.long v0), none, some (.long v2), none], [.long v0], (SH, m.1, m.2)) from rfl) ?_
    exact ok_Math_min_JJ_11 X d F _ _ _ _ _ _ _ _ h
def f_World_reserve (F : Nat)    (m : mM) : Option (Int32 × mM) := (if ((10 : Int32) * (m.1 55 9)) = 0 then some ((999 : Int32), m) else (if ((10 : Int32) * (m.1 55 9)).toInt64 = 0 then none else ((f_Math_min_JJ F (999 : Int64) (((100 : Int64) * (m.1 22 (0 : Int32).toNatClampNeg).toInt64) / ((10 : Int32) * (m.1 55 9)).toInt64) m).bind fun q1 => some (q1.1.toInt32, q1.2))))
theorem ok_World_reserve (X : mX) (d F : Nat) : ∀   (m : mM) (r : Int32) (m' : mM), f_World_reserve F  m = some (r, m') → m_R X (d + 1) 42 0 [some (.ref 16), none] [] (SH, m) (some (.int r), (SH, m')) := by
  intro m r m' h
  unfold f_World_reserve at h
  refine m_R_sg (by decide) [(.bipush 10, 2, 0, 10, 0, 0, 0), (.aload_n 0, 1, 0, 0, 0, 0, 0), (.getfield 72, 3, 0, 10, 8, 3, 518), (.getfield 120, 3, 0, 3, 9, 0, 468), (.imul, 1, 0, 0, 0, 0, 0), (.istore_n 1, 1, 0, 1, 0, 0, 0), (.iload_n 1, 1, 0, 1, 0, 0, 0)] (by decide +kernel) (show m_sgl X _ _ _ _ _ = some (12, [some (.ref 16), some (.int ((10 : Int32) * (m.1 55 9)))], [.int ((10 : Int32) * (m.1 55 9))], (SH, m.1, m.2)) from rfl) ?_
  rcases m_ite h with ⟨c102, h⟩ | ⟨c102, h⟩
  · refine m_R_1 (by decide) (m_opb_of (ins := .ifCond .ne 7) (len := 3) (tag := 0) (a := 19) (b := 0) (c := 0) (q := 0) (by decide +kernel)) (if_pos c102) ?_
    refine m_R_sg (by decide) [(.sipush 999, 3, 0, 999, 0, 0, 0)] (by decide +kernel) (show m_sgl X _ _ _ _ _ = some (18, [some (.ref 16), some (.int ((10 : Int32) * (m.1 55 9)))], [.int (999 : Int32)], (SH, m.1, m.2)) from rfl) ?_
    cases h
    exact m_R_iret (by decide) (m_opb_of (ins := .ireturn) (len := 1) (tag := 1) (a := 0) (b := 0) (c := 0) (q := 0) (by decide +kernel)) (Or.inl rfl)
  · refine m_R_1 (by decide) (m_opb_of (ins := .ifCond .ne 7) (len := 3) (tag := 0) (a := 19) (b := 0) (c := 0) (q := 0) (by decide +kernel)) (if_neg c102) ?_
    refine m_R_sg (by decide) [(.ldc2_w 123, 3, 0, 999, 0, 0, 787), (.ldc2_w 125, 3, 0, 100, 0, 0, 788), (.aload_n 0, 1, 0, 0, 0, 0, 0), (.getfield 21, 3, 0, 10, 1, 3, 505), (.getfield 107, 3, 0, 1, 2, 3, 255), (.iconst 0, 1, 0, 0, 0, 0, 0)] (by decide +kernel) (show m_sgl X _ _ _ _ _ = some (33, [some (.ref 16), some (.int ((10 : Int32) * (m.1 55 9)))], [.int (0 : Int32), .ref 22, .long (100 : Int64), .long (999 : Int64)], (SH, m.1, m.2)) from rfl) ?_
    refine m_R_1 (by decide) (m_opb_of (ins := .iaload) (len := 1) (tag := 0) (a := 0) (b := 0) (c := 0) (q := 0) (by decide +kernel)) (m_s_iald sh_22 (by decide) (show ¬ ((0 : Int32) < 0 ∨ 16 ≤ (0 : Int32).toNatClampNeg) by decide)) ?_
    refine m_R_sg (by decide) [(.i2l, 1, 0, 0, 0, 0, 0), (.lmul, 1, 0, 0, 0, 0, 0), (.iload_n 1, 1, 0, 1, 0, 0, 0), (.i2l, 1, 0, 0, 0, 0, 0)] (by decide +kernel) (show m_sgl X _ _ _ _ _ = some (38, [some (.ref 16), some (.int ((10 : Int32) * (m.1 55 9)))], [.long ((10 : Int32) * (m.1 55 9)).toInt64, .long ((100 : Int64) * (m.1 22 (0 : Int32).toNatClampNeg).toInt64), .long (999 : Int64)], (SH, m.1, m.2)) from rfl) ?_
    obtain ⟨c103, h⟩ := m_ite_n h
    refine m_R_1 (by decide) (m_opb_of (ins := .ldiv) (len := 1) (tag := 0) (a := 0) (b := 0) (c := 0) (q := 0) (by decide +kernel)) (m_s_ldiv c103) ?_
    obtain ⟨q1, hc1, h⟩ := Option.bind_eq_some_iff.mp h
    refine m_R_cS (v := (some (.long q1.1))) (h1 := (SH, q1.2)) (rest := []) (lo' := [some (.long (999 : Int64)), none, some (.long (((100 : Int64) * (m.1 22 (0 : Int32).toNatClampNeg).toInt64) / ((10 : Int32) * (m.1 55 9)).toInt64)), none]) (ml := 4) (by decide) (m_opb_of (ins := .invokestatic 127) (len := 3) (tag := 4) (a := 43) (b := 2) (c := 0) (q := 789) (by decide +kernel)) (by decide +kernel) (Nat.le_of_ble_eq_true rfl) rfl (Nat.le_of_ble_eq_true rfl) rfl rfl (ok_Math_min_JJ X (d + 0) F _ _ _ _ _ hc1) ?_
    refine m_R_sg (by decide) [(.l2i, 1, 0, 0, 0, 0, 0)] (by decide +kernel) (show m_sgl X _ _ _ _ _ = some (43, [some (.ref 16), some (.int ((10 : Int32) * (m.1 55 9)))], [.int q1.1.toInt32], (SH, q1.2.1, q1.2.2)) from rfl) ?_
    cases h
    exact m_R_iret (by decide) (m_opb_of (ins := .ireturn) (len := 1) (tag := 1) (a := 0) (b := 0) (c := 0) (q := 0) (by decide +kernel)) (Or.inl rfl)
def f_World_gatherFacts_191 (F : Nat)   (s1 : Int32) (s2 : Int32) (m : mM) : Option (Unit × mM) := (if s1 < 0 ∨ 10 ≤ s1.toNatClampNeg then none else some ((), ((m_up m.1 54 s1.toNatClampNeg s2), m.2)))
theorem ok_World_gatherFacts_191 (X : mX) (d F : Nat) : ∀ (s1 : Int32) (s2 : Int32) (w0 : Option Value) (w1 : Option Value) (w2 : Option Value) (m : mM) (r : Unit) (m' : mM), f_World_gatherFacts_191 F s1 s2 m = some (r, m') → m_R X (d + 2) 40 191 [w0, w1, w2] [.int s2, .int s1, .ref 54] (SH, m) (none, (SH, m')) := by
  intro s1 s2 w0 w1 w2 m r m' h
  unfold f_World_gatherFacts_191 at h
  obtain ⟨c104, h⟩ := m_ite_n h
  refine m_R_1 (by decide) (m_opb_of (ins := .iastore) (len := 1) (tag := 0) (a := 0) (b := 0) (c := 0) (q := 0) (by decide +kernel)) (m_s_iast sh_54 c104) ?_
  cases h
  exact m_R_vret (by decide) (m_opb_of (ins := .return_) (len := 1) (tag := 3) (a := 0) (b := 0) (c := 0) (q := 0) (by decide +kernel))
def f_World_gatherFacts_159 (F : Nat)   (v1 : Int32) (v2 : Int32) (s1 : Int32) (s2 : Int32) (m : mM) : Option (Unit × mM) := (if s1 < 0 ∨ 10 ≤ s1.toNatClampNeg then none else (if v2 = 0 then f_World_gatherFacts_191 F (9 : Int32) (0 : Int32) ((m_up m.1 54 s1.toNatClampNeg s2), m.2) else (if v1 < 0 ∨ 60 ≤ v1.toNatClampNeg then none else (if ((m_up m.1 54 s1.toNatClampNeg s2) 34 v1.toNatClampNeg) < 0 ∨ 16 ≤ ((m_up m.1 54 s1.toNatClampNeg s2) 34 v1.toNatClampNeg).toNatClampNeg then none else f_World_gatherFacts_191 F (9 : Int32) ((m_up m.1 54 s1.toNatClampNeg s2) 21 ((m_up m.1 54 s1.toNatClampNeg s2) 34 v1.toNatClampNeg).toNatClampNeg) ((m_up m.1 54 s1.toNatClampNeg s2), m.2)))))
theorem ok_World_gatherFacts_159 (X : mX) (d F : Nat) : ∀ (v1 : Int32) (v2 : Int32) (s1 : Int32) (s2 : Int32)  (m : mM) (r : Unit) (m' : mM), f_World_gatherFacts_159 F v1 v2 s1 s2 m = some (r, m') → m_R X (d + 2) 40 159 [some (.ref 16), some (.int v1), some (.int v2)] [.int s2, .int s1, .ref 54] (SH, m) (none, (SH, m')) := by
  intro v1 v2 s1 s2 m r m' h
  unfold f_World_gatherFacts_159 at h
  obtain ⟨c105, h⟩ := m_ite_n h
  refine m_R_1 (by decide) (m_opb_of (ins := .iastore) (len := 1) (tag := 0) (a := 0) (b := 0) (c := 0) (q := 0) (by decide +kernel)) (m_s_iast sh_54 c105) ?_
  refine m_R_sg (by decide) [(.aload_n 0, 1, 0, 0, 0, 0, 0), (.getfield 48, 3, 0, 10, 5, 3, 515), (.bipush 9, 2, 0, 9, 0, 0, 0), (.iload_n 2, 1, 0, 2, 0, 0, 0)] (by decide +kernel) (show m_sgl X _ _ _ _ _ = some (167, [some (.ref 16), some (.int v1), some (.int v2)], [.int v2, .int (9 : Int32), .ref 54], (SH, (m_up m.1 54 s1.toNatClampNeg s2), m.2)) from rfl) ?_
  rcases m_ite h with ⟨c106, h⟩ | ⟨c106, h⟩
  · refine m_R_1 (by decide) (m_opb_of (ins := .ifCond .eq 23) (len := 3) (tag := 0) (a := 190) (b := 0) (c := 0) (q := 0) (by decide +kernel)) (if_pos c106) ?_
    refine m_R_sg (by decide) [(.iconst 0, 1, 0, 0, 0, 0, 0)] (by decide +kernel) (show m_sgl X _ _ _ _ _ = some (191, [some (.ref 16), some (.int v1), some (.int v2)], [.int (0 : Int32), .int (9 : Int32), .ref 54], (SH, (m_up m.1 54 s1.toNatClampNeg s2), m.2)) from rfl) ?_
    exact ok_World_gatherFacts_191 X d F _ _ _ _ _ _ _ _ h
  · refine m_R_1 (by decide) (m_opb_of (ins := .ifCond .eq 23) (len := 3) (tag := 0) (a := 190) (b := 0) (c := 0) (q := 0) (by decide +kernel)) (if_neg c106) ?_
    refine m_R_sg (by decide) [(.aload_n 0, 1, 0, 0, 0, 0, 0), (.getfield 21, 3, 0, 10, 1, 3, 505), (.getfield 113, 3, 0, 1, 1, 3, 252), (.aload_n 0, 1, 0, 0, 0, 0, 0), (.getfield 28, 3, 0, 10, 2, 3, 508), (.getfield 150, 3, 0, 4, 2, 3, 327), (.iload_n 1, 1, 0, 1, 0, 0, 0)] (by decide +kernel) (show m_sgl X _ _ _ _ _ = some (185, [some (.ref 16), some (.int v1), some (.int v2)], [.int v1, .ref 34, .ref 21, .int (9 : Int32), .ref 54], (SH, (m_up m.1 54 s1.toNatClampNeg s2), m.2)) from rfl) ?_
    obtain ⟨c107, h⟩ := m_ite_n h
    refine m_R_1 (by decide) (m_opb_of (ins := .iaload) (len := 1) (tag := 0) (a := 0) (b := 0) (c := 0) (q := 0) (by decide +kernel)) (m_s_iald sh_34 (by decide) c107) ?_
    obtain ⟨c108, h⟩ := m_ite_n h
    refine m_R_1 (by decide) (m_opb_of (ins := .iaload) (len := 1) (tag := 0) (a := 0) (b := 0) (c := 0) (q := 0) (by decide +kernel)) (m_s_iald sh_21 (by decide) c108) ?_
    refine m_R_sg (by decide) [(.goto 4, 3, 0, 191, 0, 0, 0)] (by decide +kernel) (show m_sgl X _ _ _ _ _ = some (191, [some (.ref 16), some (.int v1), some (.int v2)], [.int ((m_up m.1 54 s1.toNatClampNeg s2) 21 ((m_up m.1 54 s1.toNatClampNeg s2) 34 v1.toNatClampNeg).toNatClampNeg), .int (9 : Int32), .ref 54], (SH, (m_up m.1 54 s1.toNatClampNeg s2), m.2)) from rfl) ?_
    exact ok_World_gatherFacts_191 X d F _ _ _ _ _ _ _ _ h
def f_World_gatherFacts_135 (F : Nat)   (v1 : Int32) (v2 : Int32) (s1 : Int32) (s2 : Int32) (m : mM) : Option (Unit × mM) := (if s1 < 0 ∨ 10 ≤ s1.toNatClampNeg then none else (if v2 = 0 then f_World_gatherFacts_159 F v1 v2 (8 : Int32) (0 : Int32) ((m_up m.1 54 s1.toNatClampNeg s2), m.2) else (if v1 < 0 ∨ 60 ≤ v1.toNatClampNeg then none else f_World_gatherFacts_159 F v1 v2 (8 : Int32) ((m_up m.1 54 s1.toNatClampNeg s2) 39 v1.toNatClampNeg) ((m_up m.1 54 s1.toNatClampNeg s2), m.2))))
theorem ok_World_gatherFacts_135 (X : mX) (d F : Nat) : ∀ (v1 : Int32) (v2 : Int32) (s1 : Int32) (s2 : Int32)  (m : mM) (r : Unit) (m' : mM), f_World_gatherFacts_135 F v1 v2 s1 s2 m = some (r, m') → m_R X (d + 2) 40 135 [some (.ref 16), some (.int v1), some (.int v2)] [.int s2, .int s1, .ref 54] (SH, m) (none, (SH, m')) := by
  intro v1 v2 s1 s2 m r m' h
  unfold f_World_gatherFacts_135 at h
  obtain ⟨c109, h⟩ := m_ite_n h
  refine m_R_1 (by decide) (m_opb_of (ins := .iastore) (len := 1) (tag := 0) (a := 0) (b := 0) (c := 0) (q := 0) (by decide +kernel)) (m_s_iast sh_54 c109) ?_
  refine m_R_sg (by decide) [(.aload_n 0, 1, 0, 0, 0, 0, 0), (.getfield 48, 3, 0, 10, 5, 3, 515), (.bipush 8, 2, 0, 8, 0, 0, 0), (.iload_n 2, 1, 0, 2, 0, 0, 0)] (by decide +kernel) (show m_sgl X _ _ _ _ _ = some (143, [some (.ref 16), some (.int v1), some (.int v2)], [.int v2, .int (8 : Int32), .ref 54], (SH, (m_up m.1 54 s1.toNatClampNeg s2), m.2)) from rfl) ?_
  rcases m_ite h with ⟨c110, h⟩ | ⟨c110, h⟩
  · refine m_R_1 (by decide) (m_opb_of (ins := .ifCond .eq 15) (len := 3) (tag := 0) (a := 158) (b := 0) (c := 0) (q := 0) (by decide +kernel)) (if_pos c110) ?_
    refine m_R_sg (by decide) [(.iconst 0, 1, 0, 0, 0, 0, 0)] (by decide +kernel) (show m_sgl X _ _ _ _ _ = some (159, [some (.ref 16), some (.int v1), some (.int v2)], [.int (0 : Int32), .int (8 : Int32), .ref 54], (SH, (m_up m.1 54 s1.toNatClampNeg s2), m.2)) from rfl) ?_
    exact ok_World_gatherFacts_159 X d F _ _ _ _ _ _ _ h
  · refine m_R_1 (by decide) (m_opb_of (ins := .ifCond .eq 15) (len := 3) (tag := 0) (a := 158) (b := 0) (c := 0) (q := 0) (by decide +kernel)) (if_neg c110) ?_
    refine m_R_sg (by decide) [(.aload_n 0, 1, 0, 0, 0, 0, 0), (.getfield 28, 3, 0, 10, 2, 3, 508), (.getfield 147, 3, 0, 4, 7, 3, 343), (.iload_n 1, 1, 0, 1, 0, 0, 0)] (by decide +kernel) (show m_sgl X _ _ _ _ _ = some (154, [some (.ref 16), some (.int v1), some (.int v2)], [.int v1, .ref 39, .int (8 : Int32), .ref 54], (SH, (m_up m.1 54 s1.toNatClampNeg s2), m.2)) from rfl) ?_
    obtain ⟨c111, h⟩ := m_ite_n h
    refine m_R_1 (by decide) (m_opb_of (ins := .iaload) (len := 1) (tag := 0) (a := 0) (b := 0) (c := 0) (q := 0) (by decide +kernel)) (m_s_iald sh_39 (by decide) c111) ?_
    refine m_R_sg (by decide) [(.goto 4, 3, 0, 159, 0, 0, 0)] (by decide +kernel) (show m_sgl X _ _ _ _ _ = some (159, [some (.ref 16), some (.int v1), some (.int v2)], [.int ((m_up m.1 54 s1.toNatClampNeg s2) 39 v1.toNatClampNeg), .int (8 : Int32), .ref 54], (SH, (m_up m.1 54 s1.toNatClampNeg s2), m.2)) from rfl) ?_
    exact ok_World_gatherFacts_159 X d F _ _ _ _ _ _ _ h
def f_World_gatherFacts_106 (F : Nat)   (v1 : Int32) (v2 : Int32) (s1 : Int32) (s2 : Int32) (m : mM) : Option (Unit × mM) := (if s1 < 0 ∨ 10 ≤ s1.toNatClampNeg then none else (if v2 = 0 then f_World_gatherFacts_135 F v1 v2 (7 : Int32) (0 : Int32) ((m_up m.1 54 s1.toNatClampNeg s2), m.2) else (if v1 < 0 ∨ 60 ≤ v1.toNatClampNeg then none else f_World_gatherFacts_135 F v1 v2 (7 : Int32) (((m_up m.1 54 s1.toNatClampNeg s2) 36 v1.toNatClampNeg) - ((m_up m.1 54 s1.toNatClampNeg s2) 16 9)) ((m_up m.1 54 s1.toNatClampNeg s2), m.2))))
theorem ok_World_gatherFacts_106 (X : mX) (d F : Nat) : ∀ (v1 : Int32) (v2 : Int32) (s1 : Int32) (s2 : Int32)  (m : mM) (r : Unit) (m' : mM), f_World_gatherFacts_106 F v1 v2 s1 s2 m = some (r, m') → m_R X (d + 2) 40 106 [some (.ref 16), some (.int v1), some (.int v2)] [.int s2, .int s1, .ref 54] (SH, m) (none, (SH, m')) := by
  intro v1 v2 s1 s2 m r m' h
  unfold f_World_gatherFacts_106 at h
  obtain ⟨c112, h⟩ := m_ite_n h
  refine m_R_1 (by decide) (m_opb_of (ins := .iastore) (len := 1) (tag := 0) (a := 0) (b := 0) (c := 0) (q := 0) (by decide +kernel)) (m_s_iast sh_54 c112) ?_
  refine m_R_sg (by decide) [(.aload_n 0, 1, 0, 0, 0, 0, 0), (.getfield 48, 3, 0, 10, 5, 3, 515), (.bipush 7, 2, 0, 7, 0, 0, 0), (.iload_n 2, 1, 0, 2, 0, 0, 0)] (by decide +kernel) (show m_sgl X _ _ _ _ _ = some (114, [some (.ref 16), some (.int v1), some (.int v2)], [.int v2, .int (7 : Int32), .ref 54], (SH, (m_up m.1 54 s1.toNatClampNeg s2), m.2)) from rfl) ?_
  rcases m_ite h with ⟨c113, h⟩ | ⟨c113, h⟩
  · refine m_R_1 (by decide) (m_opb_of (ins := .ifCond .eq 20) (len := 3) (tag := 0) (a := 134) (b := 0) (c := 0) (q := 0) (by decide +kernel)) (if_pos c113) ?_
    refine m_R_sg (by decide) [(.iconst 0, 1, 0, 0, 0, 0, 0)] (by decide +kernel) (show m_sgl X _ _ _ _ _ = some (135, [some (.ref 16), some (.int v1), some (.int v2)], [.int (0 : Int32), .int (7 : Int32), .ref 54], (SH, (m_up m.1 54 s1.toNatClampNeg s2), m.2)) from rfl) ?_
    exact ok_World_gatherFacts_135 X d F _ _ _ _ _ _ _ h
  · refine m_R_1 (by decide) (m_opb_of (ins := .ifCond .eq 20) (len := 3) (tag := 0) (a := 134) (b := 0) (c := 0) (q := 0) (by decide +kernel)) (if_neg c113) ?_
    refine m_R_sg (by decide) [(.aload_n 0, 1, 0, 0, 0, 0, 0), (.getfield 28, 3, 0, 10, 2, 3, 508), (.getfield 144, 3, 0, 4, 4, 3, 334), (.iload_n 1, 1, 0, 1, 0, 0, 0)] (by decide +kernel) (show m_sgl X _ _ _ _ _ = some (125, [some (.ref 16), some (.int v1), some (.int v2)], [.int v1, .ref 36, .int (7 : Int32), .ref 54], (SH, (m_up m.1 54 s1.toNatClampNeg s2), m.2)) from rfl) ?_
    obtain ⟨c114, h⟩ := m_ite_n h
    refine m_R_1 (by decide) (m_opb_of (ins := .iaload) (len := 1) (tag := 0) (a := 0) (b := 0) (c := 0) (q := 0) (by decide +kernel)) (m_s_iald sh_36 (by decide) c114) ?_
    refine m_R_sg (by decide) [(.aload_n 0, 1, 0, 0, 0, 0, 0), (.getfield 95, 3, 0, 10, 9, 0, 520), (.isub, 1, 0, 0, 0, 0, 0), (.goto 4, 3, 0, 135, 0, 0, 0)] (by decide +kernel) (show m_sgl X _ _ _ _ _ = some (135, [some (.ref 16), some (.int v1), some (.int v2)], [.int (((m_up m.1 54 s1.toNatClampNeg s2) 36 v1.toNatClampNeg) - ((m_up m.1 54 s1.toNatClampNeg s2) 16 9)), .int (7 : Int32), .ref 54], (SH, (m_up m.1 54 s1.toNatClampNeg s2), m.2)) from rfl) ?_
    exact ok_World_gatherFacts_135 X d F _ _ _ _ _ _ _ h
def f_World_gatherFacts (F : Nat)   (v1 : Int32) (m : mM) : Option (Unit × mM) := ((f_Papers_isPaper F v1 m).bind fun q1 => ((f_World_reserve F ((m_up (m_up q1.2.1 54 (0 : Int32).toNatClampNeg (q1.2.1 22 (0 : Int32).toNatClampNeg)) 54 (1 : Int32).toNatClampNeg ((10 : Int32) * ((m_up q1.2.1 54 (0 : Int32).toNatClampNeg (q1.2.1 22 (0 : Int32).toNatClampNeg)) 55 9))), q1.2.2)).bind fun q2 => (if q1.1 = 0 then f_World_gatherFacts_106 F v1 q1.1 (6 : Int32) (0 : Int32) ((m_up (m_up (m_up (m_up q2.2.1 54 (2 : Int32).toNatClampNeg q2.1) 54 (3 : Int32).toNatClampNeg (((m_up q2.2.1 54 (2 : Int32).toNatClampNeg q2.1) 16 9) / (7 : Int32))) 54 (4 : Int32).toNatClampNeg ((m_up (m_up q2.2.1 54 (2 : Int32).toNatClampNeg q2.1) 54 (3 : Int32).toNatClampNeg (((m_up q2.2.1 54 (2 : Int32).toNatClampNeg q2.1) 16 9) / (7 : Int32))) 16 9)) 54 (5 : Int32).toNatClampNeg ((m_up (m_up (m_up q2.2.1 54 (2 : Int32).toNatClampNeg q2.1) 54 (3 : Int32).toNatClampNeg (((m_up q2.2.1 54 (2 : Int32).toNatClampNeg q2.1) 16 9) / (7 : Int32))) 54 (4 : Int32).toNatClampNeg ((m_up (m_up q2.2.1 54 (2 : Int32).toNatClampNeg q2.1) 54 (3 : Int32).toNatClampNeg (((m_up q2.2.1 54 (2 : Int32).toNatClampNeg q2.1) 16 9) / (7 : Int32))) 16 9)) 16 10)), q2.2.2) else (if v1 < 0 ∨ 60 ≤ v1.toNatClampNeg then none else f_World_gatherFacts_106 F v1 q1.1 (6 : Int32) ((m_up (m_up (m_up (m_up q2.2.1 54 (2 : Int32).toNatClampNeg q2.1) 54 (3 : Int32).toNatClampNeg (((m_up q2.2.1 54 (2 : Int32).toNatClampNeg q2.1) 16 9) / (7 : Int32))) 54 (4 : Int32).toNatClampNeg ((m_up (m_up q2.2.1 54 (2 : Int32).toNatClampNeg q2.1) 54 (3 : Int32).toNatClampNeg (((m_up q2.2.1 54 (2 : Int32).toNatClampNeg q2.1) 16 9) / (7 : Int32))) 16 9)) 54 (5 : Int32).toNatClampNeg ((m_up (m_up (m_up q2.2.1 54 (2 : Int32).toNatClampNeg q2.1) 54 (3 : Int32).toNatClampNeg (((m_up q2.2.1 54 (2 : Int32).toNatClampNeg q2.1) 16 9) / (7 : Int32))) 54 (4 : Int32).toNatClampNeg ((m_up (m_up q2.2.1 54 (2 : Int32).toNatClampNeg q2.1) 54 (3 : Int32).toNatClampNeg (((m_up q2.2.1 54 (2 : Int32).toNatClampNeg q2.1) 16 9) / (7 : Int32))) 16 9)) 16 10)) 33 v1.toNatClampNeg) ((m_up (m_up (m_up (m_up q2.2.1 54 (2 : Int32).toNatClampNeg q2.1) 54 (3 : Int32).toNatClampNeg (((m_up q2.2.1 54 (2 : Int32).toNatClampNeg q2.1) 16 9) / (7 : Int32))) 54 (4 : Int32).toNatClampNeg ((m_up (m_up q2.2.1 54 (2 : Int32).toNatClampNeg q2.1) 54 (3 : Int32).toNatClampNeg (((m_up q2.2.1 54 (2 : Int32).toNatClampNeg q2.1) 16 9) / (7 : Int32))) 16 9)) 54 (5 : Int32).toNatClampNeg ((m_up (m_up (m_up q2.2.1 54 (2 : Int32).toNatClampNeg q2.1) 54 (3 : Int32).toNatClampNeg (((m_up q2.2.1 54 (2 : Int32).toNatClampNeg q2.1) 16 9) / (7 : Int32))) 54 (4 : Int32).toNatClampNeg ((m_up (m_up q2.2.1 54 (2 : Int32).toNatClampNeg q2.1) 54 (3 : Int32).toNatClampNeg (((m_up q2.2.1 54 (2 : Int32).toNatClampNeg q2.1) 16 9) / (7 : Int32))) 16 9)) 16 10)), q2.2.2)))))
theorem ok_World_gatherFacts (X : mX) (d F : Nat) : ∀ (v1 : Int32)  (m : mM) (r : Unit) (m' : mM), f_World_gatherFacts F v1 m = some (r, m') → m_R X (d + 2) 40 0 [some (.ref 16), some (.int v1), none] [] (SH, m) (none, (SH, m')) := by
  intro v1 m r m' h
  unfold f_World_gatherFacts at h
  refine m_R_sg (by decide) [(.aload_n 0, 1, 0, 0, 0, 0, 0), (.getfield 28, 3, 0, 10, 2, 3, 508), (.iload_n 1, 1, 0, 1, 0, 0, 0)] (by decide +kernel) (show m_sgl X _ _ _ _ _ = some (5, [some (.ref 16), some (.int v1), none], [.int v1, .ref 31], (SH, m.1, m.2)) from rfl) ?_
  obtain ⟨q1, hc1, h⟩ := Option.bind_eq_some_iff.mp h
  refine m_R_cV (v := (some (.int q1.1))) (h1 := (SH, q1.2)) (rest := []) (lo' := [some (.ref 31), some (.int v1)]) (ml := 2) (k0 := 31) (by decide) (Or.inl rfl) (m_opb_of (ins := .invokevirtual 133) (len := 3) (tag := 5) (a := 41) (b := 1) (c := 0) (q := 779) (by decide +kernel)) (by decide +kernel) rfl (show m_isO 41 31 (SH, _) = true from m_isO_of (by decide +kernel)) (Nat.le_of_ble_eq_true rfl) rfl rfl (ok_Papers_isPaper X (d + 1) F _ _ _ _ hc1) ?_
  refine m_R_sg (by decide) [(.istore_n 2, 1, 0, 2, 0, 0, 0), (.aload_n 0, 1, 0, 0, 0, 0, 0), (.getfield 48, 3, 0, 10, 5, 3, 515), (.iconst 0, 1, 0, 0, 0, 0, 0), (.aload_n 0, 1, 0, 0, 0, 0, 0), (.getfield 21, 3, 0, 10, 1, 3, 505), (.getfield 107, 3, 0, 1, 2, 3, 255), (.iconst 0, 1, 0, 0, 0, 0, 0)] (by decide +kernel) (show m_sgl X _ _ _ _ _ = some (22, [some (.ref 16), some (.int v1), some (.int q1.1)], [.int (0 : Int32), .ref 22, .int (0 : Int32), .ref 54], (SH, q1.2.1, q1.2.2)) from rfl) ?_
  refine m_R_1 (by decide) (m_opb_of (ins := .iaload) (len := 1) (tag := 0) (a := 0) (b := 0) (c := 0) (q := 0) (by decide +kernel)) (m_s_iald sh_22 (by decide) (show ¬ ((0 : Int32) < 0 ∨ 16 ≤ (0 : Int32).toNatClampNeg) by decide)) ?_
  refine m_R_1 (by decide) (m_opb_of (ins := .iastore) (len := 1) (tag := 0) (a := 0) (b := 0) (c := 0) (q := 0) (by decide +kernel)) (m_s_iast sh_54 (show ¬ ((0 : Int32) < 0 ∨ 10 ≤ (0 : Int32).toNatClampNeg) by decide)) ?_
  refine m_R_sg (by decide) [(.aload_n 0, 1, 0, 0, 0, 0, 0), (.getfield 48, 3, 0, 10, 5, 3, 515), (.iconst 1, 1, 0, 1, 0, 0, 0), (.bipush 10, 2, 0, 10, 0, 0, 0), (.aload_n 0, 1, 0, 0, 0, 0, 0), (.getfield 72, 3, 0, 10, 8, 3, 518), (.getfield 120, 3, 0, 3, 9, 0, 468), (.imul, 1, 0, 0, 0, 0, 0)] (by decide +kernel) (show m_sgl X _ _ _ _ _ = some (39, [some (.ref 16), some (.int v1), some (.int q1.1)], [.int ((10 : Int32) * ((m_up q1.2.1 54 (0 : Int32).toNatClampNeg (q1.2.1 22 (0 : Int32).toNatClampNeg)) 55 9)), .int (1 : Int32), .ref 54], (SH, (m_up q1.2.1 54 (0 : Int32).toNatClampNeg (q1.2.1 22 (0 : Int32).toNatClampNeg)), q1.2.2)) from rfl) ?_
  refine m_R_1 (by decide) (m_opb_of (ins := .iastore) (len := 1) (tag := 0) (a := 0) (b := 0) (c := 0) (q := 0) (by decide +kernel)) (m_s_iast sh_54 (show ¬ ((1 : Int32) < 0 ∨ 10 ≤ (1 : Int32).toNatClampNeg) by decide)) ?_
  refine m_R_sg (by decide) [(.aload_n 0, 1, 0, 0, 0, 0, 0), (.getfield 48, 3, 0, 10, 5, 3, 515), (.iconst 2, 1, 0, 2, 0, 0, 0), (.aload_n 0, 1, 0, 0, 0, 0, 0)] (by decide +kernel) (show m_sgl X _ _ _ _ _ = some (46, [some (.ref 16), some (.int v1), some (.int q1.1)], [.ref 16, .int (2 : Int32), .ref 54], (SH, (m_up (m_up q1.2.1 54 (0 : Int32).toNatClampNeg (q1.2.1 22 (0 : Int32).toNatClampNeg)) 54 (1 : Int32).toNatClampNeg ((10 : Int32) * ((m_up q1.2.1 54 (0 : Int32).toNatClampNeg (q1.2.1 22 (0 : Int32).toNatClampNeg)) 55 9))), q1.2.2)) from rfl) ?_
  obtain ⟨q2, hc2, h⟩ := Option.bind_eq_some_iff.mp h
  refine m_R_cV (v := (some (.int q2.1))) (h1 := (SH, q2.2)) (rest := [.int (2 : Int32), .ref 54]) (lo' := [some (.ref 16), none]) (ml := 2) (k0 := 16) (by decide) (Or.inl rfl) (m_opb_of (ins := .invokevirtual 137) (len := 3) (tag := 5) (a := 42) (b := 0) (c := 0) (q := 783) (by decide +kernel)) (by decide +kernel) rfl (show m_isO 42 16 (SH, _) = true from m_isO_of (by decide +kernel)) (Nat.le_of_ble_eq_true rfl) rfl rfl (ok_World_reserve X (d + 0) F _ _ _ hc2) ?_
  refine m_R_1 (by decide) (m_opb_of (ins := .iastore) (len := 1) (tag := 0) (a := 0) (b := 0) (c := 0) (q := 0) (by decide +kernel)) (m_s_iast sh_54 (show ¬ ((2 : Int32) < 0 ∨ 10 ≤ (2 : Int32).toNatClampNeg) by decide)) ?_
  refine m_R_sg (by decide) [(.aload_n 0, 1, 0, 0, 0, 0, 0), (.getfield 48, 3, 0, 10, 5, 3, 515), (.iconst 3, 1, 0, 3, 0, 0, 0), (.aload_n 0, 1, 0, 0, 0, 0, 0), (.getfield 95, 3, 0, 10, 9, 0, 520), (.bipush 7, 2, 0, 7, 0, 0, 0)] (by decide +kernel) (show m_sgl X _ _ _ _ _ = some (61, [some (.ref 16), some (.int v1), some (.int q1.1)], [.int (7 : Int32), .int ((m_up q2.2.1 54 (2 : Int32).toNatClampNeg q2.1) 16 9), .int (3 : Int32), .ref 54], (SH, (m_up q2.2.1 54 (2 : Int32).toNatClampNeg q2.1), q2.2.2)) from rfl) ?_
  refine m_R_1 (by decide) (m_opb_of (ins := .idiv) (len := 1) (tag := 0) (a := 0) (b := 0) (c := 0) (q := 0) (by decide +kernel)) (m_s_idiv (by decide)) ?_
  refine m_R_1 (by decide) (m_opb_of (ins := .iastore) (len := 1) (tag := 0) (a := 0) (b := 0) (c := 0) (q := 0) (by decide +kernel)) (m_s_iast sh_54 (show ¬ ((3 : Int32) < 0 ∨ 10 ≤ (3 : Int32).toNatClampNeg) by decide)) ?_
  refine m_R_sg (by decide) [(.aload_n 0, 1, 0, 0, 0, 0, 0), (.getfield 48, 3, 0, 10, 5, 3, 515), (.iconst 4, 1, 0, 4, 0, 0, 0), (.aload_n 0, 1, 0, 0, 0, 0, 0), (.getfield 95, 3, 0, 10, 9, 0, 520)] (by decide +kernel) (show m_sgl X _ _ _ _ _ = some (72, [some (.ref 16), some (.int v1), some (.int q1.1)], [.int ((m_up (m_up q2.2.1 54 (2 : Int32).toNatClampNeg q2.1) 54 (3 : Int32).toNatClampNeg (((m_up q2.2.1 54 (2 : Int32).toNatClampNeg q2.1) 16 9) / (7 : Int32))) 16 9), .int (4 : Int32), .ref 54], (SH, (m_up (m_up q2.2.1 54 (2 : Int32).toNatClampNeg q2.1) 54 (3 : Int32).toNatClampNeg (((m_up q2.2.1 54 (2 : Int32).toNatClampNeg q2.1) 16 9) / (7 : Int32))), q2.2.2)) from rfl) ?_
  refine m_R_1 (by decide) (m_opb_of (ins := .iastore) (len := 1) (tag := 0) (a := 0) (b := 0) (c := 0) (q := 0) (by decide +kernel)) (m_s_iast sh_54 (show ¬ ((4 : Int32) < 0 ∨ 10 ≤ (4 : Int32).toNatClampNeg) by decide)) ?_
  refine m_R_sg (by decide) [(.aload_n 0, 1, 0, 0, 0, 0, 0), (.getfield 48, 3, 0, 10, 5, 3, 515), (.iconst 5, 1, 0, 5, 0, 0, 0), (.aload_n 0, 1, 0, 0, 0, 0, 0), (.getfield 52, 3, 0, 10, 10, 0, 522)] (by decide +kernel) (show m_sgl X _ _ _ _ _ = some (82, [some (.ref 16), some (.int v1), some (.int q1.1)], [.int ((m_up (m_up (m_up q2.2.1 54 (2 : Int32).toNatClampNeg q2.1) 54 (3 : Int32).toNatClampNeg (((m_up q2.2.1 54 (2 : Int32).toNatClampNeg q2.1) 16 9) / (7 : Int32))) 54 (4 : Int32).toNatClampNeg ((m_up (m_up q2.2.1 54 (2 : Int32).toNatClampNeg q2.1) 54 (3 : Int32).toNatClampNeg (((m_up q2.2.1 54 (2 : Int32).toNatClampNeg q2.1) 16 9) / (7 : Int32))) 16 9)) 16 10), .int (5 : Int32), .ref 54], (SH, (m_up (m_up (m_up q2.2.1 54 (2 : Int32).toNatClampNeg q2.1) 54 (3 : Int32).toNatClampNeg (((m_up q2.2.1 54 (2 : Int32).toNatClampNeg q2.1) 16 9) / (7 : Int32))) 54 (4 : Int32).toNatClampNeg ((m_up (m_up q2.2.1 54 (2 : Int32).toNatClampNeg q2.1) 54 (3 : Int32).toNatClampNeg (((m_up q2.2.1 54 (2 : Int32).toNatClampNeg q2.1) 16 9) / (7 : Int32))) 16 9)), q2.2.2)) from rfl) ?_
  refine m_R_1 (by decide) (m_opb_of (ins := .iastore) (len := 1) (tag := 0) (a := 0) (b := 0) (c := 0) (q := 0) (by decide +kernel)) (m_s_iast sh_54 (show ¬ ((5 : Int32) < 0 ∨ 10 ≤ (5 : Int32).toNatClampNeg) by decide)) ?_
  refine m_R_sg (by decide) [(.aload_n 0, 1, 0, 0, 0, 0, 0), (.getfield 48, 3, 0, 10, 5, 3, 515), (.bipush 6, 2, 0, 6, 0, 0, 0), (.iload_n 2, 1, 0, 2, 0, 0, 0)] (by decide +kernel) (show m_sgl X _ _ _ _ _ = some (90, [some (.ref 16), some (.int v1), some (.int q1.1)], [.int q1.1, .int (6 : Int32), .ref 54], (SH, (m_up (m_up (m_up (m_up q2.2.1 54 (2 : Int32).toNatClampNeg q2.1) 54 (3 : Int32).toNatClampNeg (((m_up q2.2.1 54 (2 : Int32).toNatClampNeg q2.1) 16 9) / (7 : Int32))) 54 (4 : Int32).toNatClampNeg ((m_up (m_up q2.2.1 54 (2 : Int32).toNatClampNeg q2.1) 54 (3 : Int32).toNatClampNeg (((m_up q2.2.1 54 (2 : Int32).toNatClampNeg q2.1) 16 9) / (7 : Int32))) 16 9)) 54 (5 : Int32).toNatClampNeg ((m_up (m_up (m_up q2.2.1 54 (2 : Int32).toNatClampNeg q2.1) 54 (3 : Int32).toNatClampNeg (((m_up q2.2.1 54 (2 : Int32).toNatClampNeg q2.1) 16 9) / (7 : Int32))) 54 (4 : Int32).toNatClampNeg ((m_up (m_up q2.2.1 54 (2 : Int32).toNatClampNeg q2.1) 54 (3 : Int32).toNatClampNeg (((m_up q2.2.1 54 (2 : Int32).toNatClampNeg q2.1) 16 9) / (7 : Int32))) 16 9)) 16 10)), q2.2.2)) from rfl) ?_
  rcases m_ite h with ⟨c115, h⟩ | ⟨c115, h⟩
  · refine m_R_1 (by decide) (m_opb_of (ins := .ifCond .eq 15) (len := 3) (tag := 0) (a := 105) (b := 0) (c := 0) (q := 0) (by decide +kernel)) (if_pos c115) ?_
    refine m_R_sg (by decide) [(.iconst 0, 1, 0, 0, 0, 0, 0)] (by decide +kernel) (show m_sgl X _ _ _ _ _ = some (106, [some (.ref 16), some (.int v1), some (.int q1.1)], [.int (0 : Int32), .int (6 : Int32), .ref 54], (SH, (m_up (m_up (m_up (m_up q2.2.1 54 (2 : Int32).toNatClampNeg q2.1) 54 (3 : Int32).toNatClampNeg (((m_up q2.2.1 54 (2 : Int32).toNatClampNeg q2.1) 16 9) / (7 : Int32))) 54 (4 : Int32).toNatClampNeg ((m_up (m_up q2.2.1 54 (2 : Int32).toNatClampNeg q2.1) 54 (3 : Int32).toNatClampNeg (((m_up q2.2.1 54 (2 : Int32).toNatClampNeg q2.1) 16 9) / (7 : Int32))) 16 9)) 54 (5 : Int32).toNatClampNeg ((m_up (m_up (m_up q2.2.1 54 (2 : Int32).toNatClampNeg q2.1) 54 (3 : Int32).toNatClampNeg (((m_up q2.2.1 54 (2 : Int32).toNatClampNeg q2.1) 16 9) / (7 : Int32))) 54 (4 : Int32).toNatClampNeg ((m_up (m_up q2.2.1 54 (2 : Int32).toNatClampNeg q2.1) 54 (3 : Int32).toNatClampNeg (((m_up q2.2.1 54 (2 : Int32).toNatClampNeg q2.1) 16 9) / (7 : Int32))) 16 9)) 16 10)), q2.2.2)) from rfl) ?_
    exact ok_World_gatherFacts_106 X d F _ _ _ _ _ _ _ h
  · refine m_R_1 (by decide) (m_opb_of (ins := .ifCond .eq 15) (len := 3) (tag := 0) (a := 105) (b := 0) (c := 0) (q := 0) (by decide +kernel)) (if_neg c115) ?_
    refine m_R_sg (by decide) [(.aload_n 0, 1, 0, 0, 0, 0, 0), (.getfield 28, 3, 0, 10, 2, 3, 508), (.getfield 141, 3, 0, 4, 1, 3, 323), (.iload_n 1, 1, 0, 1, 0, 0, 0)] (by decide +kernel) (show m_sgl X _ _ _ _ _ = some (101, [some (.ref 16), some (.int v1), some (.int q1.1)], [.int v1, .ref 33, .int (6 : Int32), .ref 54], (SH, (m_up (m_up (m_up (m_up q2.2.1 54 (2 : Int32).toNatClampNeg q2.1) 54 (3 : Int32).toNatClampNeg (((m_up q2.2.1 54 (2 : Int32).toNatClampNeg q2.1) 16 9) / (7 : Int32))) 54 (4 : Int32).toNatClampNeg ((m_up (m_up q2.2.1 54 (2 : Int32).toNatClampNeg q2.1) 54 (3 : Int32).toNatClampNeg (((m_up q2.2.1 54 (2 : Int32).toNatClampNeg q2.1) 16 9) / (7 : Int32))) 16 9)) 54 (5 : Int32).toNatClampNeg ((m_up (m_up (m_up q2.2.1 54 (2 : Int32).toNatClampNeg q2.1) 54 (3 : Int32).toNatClampNeg (((m_up q2.2.1 54 (2 : Int32).toNatClampNeg q2.1) 16 9) / (7 : Int32))) 54 (4 : Int32).toNatClampNeg ((m_up (m_up q2.2.1 54 (2 : Int32).toNatClampNeg q2.1) 54 (3 : Int32).toNatClampNeg (((m_up q2.2.1 54 (2 : Int32).toNatClampNeg q2.1) 16 9) / (7 : Int32))) 16 9)) 16 10)), q2.2.2)) from rfl) ?_
    obtain ⟨c116, h⟩ := m_ite_n h
    refine m_R_1 (by decide) (m_opb_of (ins := .iaload) (len := 1) (tag := 0) (a := 0) (b := 0) (c := 0) (q := 0) (by decide +kernel)) (m_s_iald sh_33 (by decide) c116) ?_
    refine m_R_sg (by decide) [(.goto 4, 3, 0, 106, 0, 0, 0)] (by decide +kernel) (show m_sgl X _ _ _ _ _ = some (106, [some (.ref 16), some (.int v1), some (.int q1.1)], [.int ((m_up (m_up (m_up (m_up q2.2.1 54 (2 : Int32).toNatClampNeg q2.1) 54 (3 : Int32).toNatClampNeg (((m_up q2.2.1 54 (2 : Int32).toNatClampNeg q2.1) 16 9) / (7 : Int32))) 54 (4 : Int32).toNatClampNeg ((m_up (m_up q2.2.1 54 (2 : Int32).toNatClampNeg q2.1) 54 (3 : Int32).toNatClampNeg (((m_up q2.2.1 54 (2 : Int32).toNatClampNeg q2.1) 16 9) / (7 : Int32))) 16 9)) 54 (5 : Int32).toNatClampNeg ((m_up (m_up (m_up q2.2.1 54 (2 : Int32).toNatClampNeg q2.1) 54 (3 : Int32).toNatClampNeg (((m_up q2.2.1 54 (2 : Int32).toNatClampNeg q2.1) 16 9) / (7 : Int32))) 54 (4 : Int32).toNatClampNeg ((m_up (m_up q2.2.1 54 (2 : Int32).toNatClampNeg q2.1) 54 (3 : Int32).toNatClampNeg (((m_up q2.2.1 54 (2 : Int32).toNatClampNeg q2.1) 16 9) / (7 : Int32))) 16 9)) 16 10)) 33 v1.toNatClampNeg), .int (6 : Int32), .ref 54], (SH, (m_up (m_up (m_up (m_up q2.2.1 54 (2 : Int32).toNatClampNeg q2.1) 54 (3 : Int32).toNatClampNeg (((m_up q2.2.1 54 (2 : Int32).toNatClampNeg q2.1) 16 9) / (7 : Int32))) 54 (4 : Int32).toNatClampNeg ((m_up (m_up q2.2.1 54 (2 : Int32).toNatClampNeg q2.1) 54 (3 : Int32).toNatClampNeg (((m_up q2.2.1 54 (2 : Int32).toNatClampNeg q2.1) 16 9) / (7 : Int32))) 16 9)) 54 (5 : Int32).toNatClampNeg ((m_up (m_up (m_up q2.2.1 54 (2 : Int32).toNatClampNeg q2.1) 54 (3 : Int32).toNatClampNeg (((m_up q2.2.1 54 (2 : Int32).toNatClampNeg q2.1) 16 9) / (7 : Int32))) 54 (4 : Int32).toNatClampNeg ((m_up (m_up q2.2.1 54 (2 : Int32).toNatClampNeg q2.1) 54 (3 : Int32).toNatClampNeg (((m_up q2.2.1 54 (2 : Int32).toNatClampNeg q2.1) 16 9) / (7 : Int32))) 16 9)) 16 10)), q2.2.2)) from rfl) ?_
    exact ok_World_gatherFacts_106 X d F _ _ _ _ _ _ _ h
def f_Texts_isInForce_35 (F : Nat)   (s0 : Int32) (m : mM) : Option (Int32 × mM) := (if s0 = 0 ∨ s0 = 1 then some (s0, m) else none)
theorem ok_Texts_isInForce_35 (X : mX) (d F : Nat) : ∀ (s0 : Int32) (w0 : Option Value) (w1 : Option Value) (w2 : Option Value) (w3 : Option Value) (m : mM) (r : Int32) (m' : mM), f_Texts_isInForce_35 F s0 m = some (r, m') → m_R X (d + 0) 45 35 [w0, w1, w2, w3] [.int s0] (SH, m) (some (.int r), (SH, m')) := by
  intro s0 w0 w1 w2 w3 m r m' h
  unfold f_Texts_isInForce_35 at h
  obtain ⟨c0, h⟩ := m_ite_p h
  cases h
  exact m_R_iret (by decide) (m_opb_of (ins := .ireturn) (len := 1) (tag := 1) (a := 1) (b := 0) (c := 0) (q := 0) (by decide +kernel)) (Or.inr c0)
def f_Texts_isInForce_34 (F : Nat)    (m : mM) : Option (Int32 × mM) := f_Texts_isInForce_35 F (0 : Int32) m
theorem ok_Texts_isInForce_34 (X : mX) (d F : Nat) : ∀  (w0 : Option Value) (w1 : Option Value) (w2 : Option Value) (w3 : Option Value) (m : mM) (r : Int32) (m' : mM), f_Texts_isInForce_34 F  m = some (r, m') → m_R X (d + 0) 45 34 [w0, w1, w2, w3] [] (SH, m) (some (.int r), (SH, m')) := by
  intro w0 w1 w2 w3 m r m' h
  unfold f_Texts_isInForce_34 at h
  refine m_R_sg (by decide) [(.iconst 0, 1, 0, 0, 0, 0, 0)] (by decide +kernel) (show m_sgl X _ _ _ _ _ = some (35, [w0, w1, w2, w3], [.int (0 : Int32)], (SH, m.1, m.2)) from rfl) ?_
  exact ok_Texts_isInForce_35 X d F _ _ _ _ _ _ _ _ h
def f_Texts_isInForce (F : Nat)   (v1 : Int32) (v2 : Int32) (v3 : Int32) (m : mM) : Option (Int32 × mM) := (if v1 < 0 ∨ 12 ≤ v1.toNatClampNeg then none else (if (m.1 9 v1.toNatClampNeg) = v2 then (if v3 < (m.1 10 v1.toNatClampNeg) then f_Texts_isInForce_34 F m else (if (m.1 11 v1.toNatClampNeg) ≤ v3 then f_Texts_isInForce_34 F m else f_Texts_isInForce_35 F (1 : Int32) m)) else f_Texts_isInForce_34 F m))
theorem ok_Texts_isInForce (X : mX) (d F : Nat) : ∀ (v1 : Int32) (v2 : Int32) (v3 : Int32)  (m : mM) (r : Int32) (m' : mM), f_Texts_isInForce F v1 v2 v3 m = some (r, m') → m_R X (d + 0) 45 0 [some (.ref 8), some (.int v1), some (.int v2), some (.int v3)] [] (SH, m) (some (.int r), (SH, m')) := by
  intro v1 v2 v3 m r m' h
  unfold f_Texts_isInForce at h
  refine m_R_sg (by decide) [(.aload_n 0, 1, 0, 0, 0, 0, 0), (.getfield 9, 3, 0, 8, 0, 3, 197), (.iload_n 1, 1, 0, 1, 0, 0, 0)] (by decide +kernel) (show m_sgl X _ _ _ _ _ = some (5, [some (.ref 8), some (.int v1), some (.int v2), some (.int v3)], [.int v1, .ref 9], (SH, m.1, m.2)) from rfl) ?_
  obtain ⟨c117, h⟩ := m_ite_n h
  refine m_R_1 (by decide) (m_opb_of (ins := .iaload) (len := 1) (tag := 0) (a := 0) (b := 0) (c := 0) (q := 0) (by decide +kernel)) (m_s_iald sh_9 (by decide) c117) ?_
  refine m_R_sg (by decide) [(.iload_n 2, 1, 0, 2, 0, 0, 0)] (by decide +kernel) (show m_sgl X _ _ _ _ _ = some (7, [some (.ref 8), some (.int v1), some (.int v2), some (.int v3)], [.int v2, .int (m.1 9 v1.toNatClampNeg)], (SH, m.1, m.2)) from rfl) ?_
  rcases m_ite h with ⟨c118, h⟩ | ⟨c118, h⟩
  · refine m_R_1 (by decide) (m_opb_of (ins := .if_icmp .ne 27) (len := 3) (tag := 0) (a := 34) (b := 0) (c := 0) (q := 0) (by decide +kernel)) (if_pos c118) ?_
    refine m_R_sg (by decide) [(.aload_n 0, 1, 0, 0, 0, 0, 0), (.getfield 15, 3, 0, 8, 1, 3, 198), (.iload_n 1, 1, 0, 1, 0, 0, 0)] (by decide +kernel) (show m_sgl X _ _ _ _ _ = some (15, [some (.ref 8), some (.int v1), some (.int v2), some (.int v3)], [.int v1, .ref 10], (SH, m.1, m.2)) from rfl) ?_
    refine m_R_1 (by decide) (m_opb_of (ins := .iaload) (len := 1) (tag := 0) (a := 0) (b := 0) (c := 0) (q := 0) (by decide +kernel)) (m_s_iald sh_10 (by decide) c117) ?_
    refine m_R_sg (by decide) [(.iload_n 3, 1, 0, 3, 0, 0, 0)] (by decide +kernel) (show m_sgl X _ _ _ _ _ = some (17, [some (.ref 8), some (.int v1), some (.int v2), some (.int v3)], [.int v3, .int (m.1 10 v1.toNatClampNeg)], (SH, m.1, m.2)) from rfl) ?_
    rcases m_ite h with ⟨c119, h⟩ | ⟨c119, h⟩
    · refine m_R_1 (by decide) (m_opb_of (ins := .if_icmp .gt 17) (len := 3) (tag := 0) (a := 34) (b := 0) (c := 0) (q := 0) (by decide +kernel)) (if_pos c119) ?_
      exact ok_Texts_isInForce_34 X d F _ _ _ _ _ _ _ h
    · refine m_R_1 (by decide) (m_opb_of (ins := .if_icmp .gt 17) (len := 3) (tag := 0) (a := 34) (b := 0) (c := 0) (q := 0) (by decide +kernel)) (if_neg c119) ?_
      refine m_R_sg (by decide) [(.iload_n 3, 1, 0, 3, 0, 0, 0), (.aload_n 0, 1, 0, 0, 0, 0, 0), (.getfield 18, 3, 0, 8, 2, 3, 199), (.iload_n 1, 1, 0, 1, 0, 0, 0)] (by decide +kernel) (show m_sgl X _ _ _ _ _ = some (26, [some (.ref 8), some (.int v1), some (.int v2), some (.int v3)], [.int v1, .ref 11, .int v3], (SH, m.1, m.2)) from rfl) ?_
      refine m_R_1 (by decide) (m_opb_of (ins := .iaload) (len := 1) (tag := 0) (a := 0) (b := 0) (c := 0) (q := 0) (by decide +kernel)) (m_s_iald sh_11 (by decide) c117) ?_
      rcases m_ite h with ⟨c120, h⟩ | ⟨c120, h⟩
      · refine m_R_1 (by decide) (m_opb_of (ins := .if_icmp .ge 7) (len := 3) (tag := 0) (a := 34) (b := 0) (c := 0) (q := 0) (by decide +kernel)) (if_pos c120) ?_
        exact ok_Texts_isInForce_34 X d F _ _ _ _ _ _ _ h
      · refine m_R_1 (by decide) (m_opb_of (ins := .if_icmp .ge 7) (len := 3) (tag := 0) (a := 34) (b := 0) (c := 0) (q := 0) (by decide +kernel)) (if_neg c120) ?_
        refine m_R_sg (by decide) [(.iconst 1, 1, 0, 1, 0, 0, 0), (.goto 4, 3, 0, 35, 0, 0, 0)] (by decide +kernel) (show m_sgl X _ _ _ _ _ = some (35, [some (.ref 8), some (.int v1), some (.int v2), some (.int v3)], [.int (1 : Int32)], (SH, m.1, m.2)) from rfl) ?_
        exact ok_Texts_isInForce_35 X d F _ _ _ _ _ _ _ _ h
  · refine m_R_1 (by decide) (m_opb_of (ins := .if_icmp .ne 27) (len := 3) (tag := 0) (a := 34) (b := 0) (c := 0) (q := 0) (by decide +kernel)) (if_neg c118) ?_
    exact ok_Texts_isInForce_34 X d F _ _ _ _ _ _ _ h
def f_Texts_hasIf_20 (F : Nat)   (s0 : Int32) (m : mM) : Option (Int32 × mM) := (if s0 = 0 ∨ s0 = 1 then some (s0, m) else none)
theorem ok_Texts_hasIf_20 (X : mX) (d F : Nat) : ∀ (s0 : Int32) (w0 : Option Value) (w1 : Option Value) (m : mM) (r : Int32) (m' : mM), f_Texts_hasIf_20 F s0 m = some (r, m') → m_R X (d + 0) 46 20 [w0, w1] [.int s0] (SH, m) (some (.int r), (SH, m')) := by
  intro s0 w0 w1 m r m' h
  unfold f_Texts_hasIf_20 at h
  obtain ⟨c0, h⟩ := m_ite_p h
  cases h
  exact m_R_iret (by decide) (m_opb_of (ins := .ireturn) (len := 1) (tag := 1) (a := 1) (b := 0) (c := 0) (q := 0) (by decide +kernel)) (Or.inr c0)
def f_Texts_hasIf (F : Nat)   (v1 : Int32) (m : mM) : Option (Int32 × mM) := (if v1 < 0 ∨ 12 ≤ v1.toNatClampNeg then none else (if (m.1 13 v1.toNatClampNeg) ≤ (m.1 12 v1.toNatClampNeg) then f_Texts_hasIf_20 F (0 : Int32) m else f_Texts_hasIf_20 F (1 : Int32) m))
theorem ok_Texts_hasIf (X : mX) (d F : Nat) : ∀ (v1 : Int32)  (m : mM) (r : Int32) (m' : mM), f_Texts_hasIf F v1 m = some (r, m') → m_R X (d + 0) 46 0 [some (.ref 8), some (.int v1)] [] (SH, m) (some (.int r), (SH, m')) := by
  intro v1 m r m' h
  unfold f_Texts_hasIf at h
  refine m_R_sg (by decide) [(.aload_n 0, 1, 0, 0, 0, 0, 0), (.getfield 24, 3, 0, 8, 4, 3, 201), (.iload_n 1, 1, 0, 1, 0, 0, 0)] (by decide +kernel) (show m_sgl X _ _ _ _ _ = some (5, [some (.ref 8), some (.int v1)], [.int v1, .ref 13], (SH, m.1, m.2)) from rfl) ?_
  obtain ⟨c121, h⟩ := m_ite_n h
  refine m_R_1 (by decide) (m_opb_of (ins := .iaload) (len := 1) (tag := 0) (a := 0) (b := 0) (c := 0) (q := 0) (by decide +kernel)) (m_s_iald sh_13 (by decide) c121) ?_
  refine m_R_sg (by decide) [(.aload_n 0, 1, 0, 0, 0, 0, 0), (.getfield 21, 3, 0, 8, 3, 3, 200), (.iload_n 1, 1, 0, 1, 0, 0, 0)] (by decide +kernel) (show m_sgl X _ _ _ _ _ = some (11, [some (.ref 8), some (.int v1)], [.int v1, .ref 12, .int (m.1 13 v1.toNatClampNeg)], (SH, m.1, m.2)) from rfl) ?_
  refine m_R_1 (by decide) (m_opb_of (ins := .iaload) (len := 1) (tag := 0) (a := 0) (b := 0) (c := 0) (q := 0) (by decide +kernel)) (m_s_iald sh_12 (by decide) c121) ?_
  rcases m_ite h with ⟨c122, h⟩ | ⟨c122, h⟩
  · refine m_R_1 (by decide) (m_opb_of (ins := .if_icmp .le 7) (len := 3) (tag := 0) (a := 19) (b := 0) (c := 0) (q := 0) (by decide +kernel)) (if_pos c122) ?_
    refine m_R_sg (by decide) [(.iconst 0, 1, 0, 0, 0, 0, 0)] (by decide +kernel) (show m_sgl X _ _ _ _ _ = some (20, [some (.ref 8), some (.int v1)], [.int (0 : Int32)], (SH, m.1, m.2)) from rfl) ?_
    exact ok_Texts_hasIf_20 X d F _ _ _ _ _ _ h
  · refine m_R_1 (by decide) (m_opb_of (ins := .if_icmp .le 7) (len := 3) (tag := 0) (a := 19) (b := 0) (c := 0) (q := 0) (by decide +kernel)) (if_neg c122) ?_
    refine m_R_sg (by decide) [(.iconst 1, 1, 0, 1, 0, 0, 0), (.goto 4, 3, 0, 20, 0, 0, 0)] (by decide +kernel) (show m_sgl X _ _ _ _ _ = some (20, [some (.ref 8), some (.int v1)], [.int (1 : Int32)], (SH, m.1, m.2)) from rfl) ?_
    exact ok_Texts_hasIf_20 X d F _ _ _ _ _ _ h
def f_Texts_work_8_54_394 (F : Nat)  (k54 : Int32 → Int32 → Int32 → mM → Option (Int32 × mM)) (v5 : Int32) (v6 : Int32) (v7 : Int32) (m : mM) : Option (Int32 × mM) := k54 v5 v6 (v7 + (1 : Int32)) m
theorem ok_Texts_work_8_54_394 (X : mX) (d F : Nat) (k54 : Int32 → Int32 → Int32 → mM → Option (Int32 × mM)) (hk54 : ∀ (v5 : Int32) (v6 : Int32) (v7 : Int32) (w1 : Option Value) (w2 : Option Value) (w4 : Option Value) (w8 : Option Value) (w9 : Option Value) (w10 : Option Value) (m : mM) (r : Int32) (m' : mM), k54 v5 v6 v7 m = some (r, m') → m_R X (d + 0) 47 54 [some (.ref 8), w1, w2, some (.ref 54), w4, some (.int v5), some (.int v6), some (.int v7), w8, w9, w10] [] (SH, m) (some (.int r), (SH, m'))) : ∀ (v5 : Int32) (v6 : Int32) (v7 : Int32) (w1 : Option Value) (w2 : Option Value) (w4 : Option Value) (w8 : Option Value) (w9 : Option Value) (w10 : Option Value) (m : mM) (r : Int32) (m' : mM), f_Texts_work_8_54_394 F k54 v5 v6 v7 m = some (r, m') → m_R X (d + 0) 47 394 [some (.ref 8), w1, w2, some (.ref 54), w4, some (.int v5), some (.int v6), some (.int v7), w8, w9, w10] [] (SH, m) (some (.int r), (SH, m')) := by
  intro v5 v6 v7 w1 w2 w4 w8 w9 w10 m r m' h
  unfold f_Texts_work_8_54_394 at h
  refine m_R_sg (by decide) [(.iinc 7 1, 3, 0, 7, 1, 0, 0), (.goto (-343), 3, 0, 54, 0, 0, 0)] (by decide +kernel) (show m_sgl X _ _ _ _ _ = some (54, [some (.ref 8), w1, w2, some (.ref 54), w4, some (.int v5), some (.int v6), some (.int (v7 + (1 : Int32))), w8, w9, w10], [], (SH, m.1, m.2)) from rfl) ?_
  exact hk54 _ _ _ _ _ _ _ _ _ _ _ _ h
def f_Texts_work_8_54_99 (F : Nat)  (k54 : Int32 → Int32 → Int32 → mM → Option (Int32 × mM)) (v5 : Int32) (v6 : Int32) (v7 : Int32) (s1 : Int32) (s2 : Int32) (m : mM) : Option (Int32 × mM) := (if s1 < 0 ∨ 121 ≤ s1.toNatClampNeg then none else f_Texts_work_8_54_394 F k54 v5 (v6 + (1 : Int32)) v7 ((m_up m.1 15 s1.toNatClampNeg s2), m.2))
theorem ok_Texts_work_8_54_99 (X : mX) (d F : Nat) (k54 : Int32 → Int32 → Int32 → mM → Option (Int32 × mM)) (hk54 : ∀ (v5 : Int32) (v6 : Int32) (v7 : Int32) (w1 : Option Value) (w2 : Option Value) (w4 : Option Value) (w8 : Option Value) (w9 : Option Value) (w10 : Option Value) (m : mM) (r : Int32) (m' : mM), k54 v5 v6 v7 m = some (r, m') → m_R X (d + 0) 47 54 [some (.ref 8), w1, w2, some (.ref 54), w4, some (.int v5), some (.int v6), some (.int v7), w8, w9, w10] [] (SH, m) (some (.int r), (SH, m'))) : ∀ (v5 : Int32) (v6 : Int32) (v7 : Int32) (s1 : Int32) (s2 : Int32) (w1 : Option Value) (w2 : Option Value) (w4 : Option Value) (w8 : Option Value) (w9 : Option Value) (w10 : Option Value) (m : mM) (r : Int32) (m' : mM), f_Texts_work_8_54_99 F k54 v5 v6 v7 s1 s2 m = some (r, m') → m_R X (d + 0) 47 99 [some (.ref 8), w1, w2, some (.ref 54), w4, some (.int v5), some (.int v6), some (.int v7), w8, w9, w10] [.int s2, .int s1, .ref 15] (SH, m) (some (.int r), (SH, m')) := by
  intro v5 v6 v7 s1 s2 w1 w2 w4 w8 w9 w10 m r m' h
  unfold f_Texts_work_8_54_99 at h
  obtain ⟨c123, h⟩ := m_ite_n h
  refine m_R_1 (by decide) (m_opb_of (ins := .iastore) (len := 1) (tag := 0) (a := 0) (b := 0) (c := 0) (q := 0) (by decide +kernel)) (m_s_iast sh_15 c123) ?_
  refine m_R_sg (by decide) [(.iinc 6 1, 3, 0, 6, 1, 0, 0), (.goto 291, 3, 0, 394, 0, 0, 0)] (by decide +kernel) (show m_sgl X _ _ _ _ _ = some (394, [some (.ref 8), w1, w2, some (.ref 54), w4, some (.int v5), some (.int (v6 + (1 : Int32))), some (.int v7), w8, w9, w10], [], (SH, (m_up m.1 15 s1.toNatClampNeg s2), m.2)) from rfl) ?_
  exact ok_Texts_work_8_54_394 X d F _ hk54 _ _ _ _ _ _ _ _ _ _ _ _ h
def f_Texts_work_8_54_383 (F : Nat)  (k54 : Int32 → Int32 → Int32 → mM → Option (Int32 × mM)) (v5 : Int32) (v6 : Int32) (v7 : Int32) (v9 : Int32) (m : mM) : Option (Int32 × mM) := (if (v6 - (1 : Int32)) < 0 ∨ 121 ≤ (v6 - (1 : Int32)).toNatClampNeg then none else f_Texts_work_8_54_394 F k54 v5 v6 v7 ((m_up m.1 15 (v6 - (1 : Int32)).toNatClampNeg v9), m.2))
theorem ok_Texts_work_8_54_383 (X : mX) (d F : Nat) (k54 : Int32 → Int32 → Int32 → mM → Option (Int32 × mM)) (hk54 : ∀ (v5 : Int32) (v6 : Int32) (v7 : Int32) (w1 : Option Value) (w2 : Option Value) (w4 : Option Value) (w8 : Option Value) (w9 : Option Value) (w10 : Option Value) (m : mM) (r : Int32) (m' : mM), k54 v5 v6 v7 m = some (r, m') → m_R X (d + 0) 47 54 [some (.ref 8), w1, w2, some (.ref 54), w4, some (.int v5), some (.int v6), some (.int v7), w8, w9, w10] [] (SH, m) (some (.int r), (SH, m'))) : ∀ (v5 : Int32) (v6 : Int32) (v7 : Int32) (v9 : Int32) (w1 : Option Value) (w2 : Option Value) (w4 : Option Value) (w8 : Option Value) (w10 : Option Value) (m : mM) (r : Int32) (m' : mM), f_Texts_work_8_54_383 F k54 v5 v6 v7 v9 m = some (r, m') → m_R X (d + 0) 47 383 [some (.ref 8), w1, w2, some (.ref 54), w4, some (.int v5), some (.int v6), some (.int v7), w8, some (.int v9), w10] [] (SH, m) (some (.int r), (SH, m')) := by
  intro v5 v6 v7 v9 w1 w2 w4 w8 w10 m r m' h
  unfold f_Texts_work_8_54_383 at h
  refine m_R_sg (by decide) [(.aload_n 0, 1, 0, 0, 0, 0, 0), (.getfield 30, 3, 0, 8, 6, 3, 203), (.iload 6, 2, 0, 6, 0, 0, 0), (.iconst 1, 1, 0, 1, 0, 0, 0), (.isub, 1, 0, 0, 0, 0, 0), (.iload 9, 2, 0, 9, 0, 0, 0)] (by decide +kernel) (show m_sgl X _ _ _ _ _ = some (393, [some (.ref 8), w1, w2, some (.ref 54), w4, some (.int v5), some (.int v6), some (.int v7), w8, some (.int v9), w10], [.int v9, .int (v6 - (1 : Int32)), .ref 15], (SH, m.1, m.2)) from rfl) ?_
  obtain ⟨c124, h⟩ := m_ite_n h
  refine m_R_1 (by decide) (m_opb_of (ins := .iastore) (len := 1) (tag := 0) (a := 0) (b := 0) (c := 0) (q := 0) (by decide +kernel)) (m_s_iast sh_15 c124) ?_
  exact ok_Texts_work_8_54_394 X d F _ hk54 _ _ _ _ _ _ _ _ _ _ _ _ h
def f_Texts_work_8_54_214 (F : Nat)  (k54 : Int32 → Int32 → Int32 → mM → Option (Int32 × mM)) (v5 : Int32) (v6 : Int32) (v7 : Int32) (s0 : Int32) (m : mM) : Option (Int32 × mM) := f_Texts_work_8_54_383 F k54 v5 v6 v7 s0 m
theorem ok_Texts_work_8_54_214 (X : mX) (d F : Nat) (k54 : Int32 → Int32 → Int32 → mM → Option (Int32 × mM)) (hk54 : ∀ (v5 : Int32) (v6 : Int32) (v7 : Int32) (w1 : Option Value) (w2 : Option Value) (w4 : Option Value) (w8 : Option Value) (w9 : Option Value) (w10 : Option Value) (m : mM) (r : Int32) (m' : mM), k54 v5 v6 v7 m = some (r, m') → m_R X (d + 0) 47 54 [some (.ref 8), w1, w2, some (.ref 54), w4, some (.int v5), some (.int v6), some (.int v7), w8, w9, w10] [] (SH, m) (some (.int r), (SH, m'))) : ∀ (v5 : Int32) (v6 : Int32) (v7 : Int32) (s0 : Int32) (w1 : Option Value) (w2 : Option Value) (w4 : Option Value) (w8 : Option Value) (w9 : Option Value) (w10 : Option Value) (m : mM) (r : Int32) (m' : mM), f_Texts_work_8_54_214 F k54 v5 v6 v7 s0 m = some (r, m') → m_R X (d + 0) 47 214 [some (.ref 8), w1, w2, some (.ref 54), w4, some (.int v5), some (.int v6), some (.int v7), w8, w9, w10] [.int s0] (SH, m) (some (.int r), (SH, m')) := by
  intro v5 v6 v7 s0 w1 w2 w4 w8 w9 w10 m r m' h
  unfold f_Texts_work_8_54_214 at h
  refine m_R_sg (by decide) [(.istore 9, 2, 0, 9, 0, 0, 0), (.goto 167, 3, 0, 383, 0, 0, 0)] (by decide +kernel) (show m_sgl X _ _ _ _ _ = some (383, [some (.ref 8), w1, w2, some (.ref 54), w4, some (.int v5), some (.int v6), some (.int v7), (m_cl w8), some (.int s0), w10], [], (SH, m.1, m.2)) from rfl) ?_
  exact ok_Texts_work_8_54_383 X d F _ hk54 _ _ _ _ _ _ _ _ _ _ _ _ h
def f_Texts_work_8_54_242 (F : Nat)  (k54 : Int32 → Int32 → Int32 → mM → Option (Int32 × mM)) (v5 : Int32) (v6 : Int32) (v7 : Int32) (s0 : Int32) (m : mM) : Option (Int32 × mM) := f_Texts_work_8_54_383 F k54 v5 v6 v7 s0 m
theorem ok_Texts_work_8_54_242 (X : mX) (d F : Nat) (k54 : Int32 → Int32 → Int32 → mM → Option (Int32 × mM)) (hk54 : ∀ (v5 : Int32) (v6 : Int32) (v7 : Int32) (w1 : Option Value) (w2 : Option Value) (w4 : Option Value) (w8 : Option Value) (w9 : Option Value) (w10 : Option Value) (m : mM) (r : Int32) (m' : mM), k54 v5 v6 v7 m = some (r, m') → m_R X (d + 0) 47 54 [some (.ref 8), w1, w2, some (.ref 54), w4, some (.int v5), some (.int v6), some (.int v7), w8, w9, w10] [] (SH, m) (some (.int r), (SH, m'))) : ∀ (v5 : Int32) (v6 : Int32) (v7 : Int32) (s0 : Int32) (w1 : Option Value) (w2 : Option Value) (w4 : Option Value) (w8 : Option Value) (w9 : Option Value) (w10 : Option Value) (m : mM) (r : Int32) (m' : mM), f_Texts_work_8_54_242 F k54 v5 v6 v7 s0 m = some (r, m') → m_R X (d + 0) 47 242 [some (.ref 8), w1, w2, some (.ref 54), w4, some (.int v5), some (.int v6), some (.int v7), w8, w9, w10] [.int s0] (SH, m) (some (.int r), (SH, m')) := by
  intro v5 v6 v7 s0 w1 w2 w4 w8 w9 w10 m r m' h
  unfold f_Texts_work_8_54_242 at h
  refine m_R_sg (by decide) [(.istore 9, 2, 0, 9, 0, 0, 0), (.goto 139, 3, 0, 383, 0, 0, 0)] (by decide +kernel) (show m_sgl X _ _ _ _ _ = some (383, [some (.ref 8), w1, w2, some (.ref 54), w4, some (.int v5), some (.int v6), some (.int v7), (m_cl w8), some (.int s0), w10], [], (SH, m.1, m.2)) from rfl) ?_
  exact ok_Texts_work_8_54_383 X d F _ hk54 _ _ _ _ _ _ _ _ _ _ _ _ h
def f_Texts_work_8_54_237 (F : Nat)  (k54 : Int32 → Int32 → Int32 → mM → Option (Int32 × mM)) (v5 : Int32) (v6 : Int32) (v7 : Int32) (m : mM) : Option (Int32 × mM) := f_Texts_work_8_54_242 F k54 v5 v6 v7 (1 : Int32) m
theorem ok_Texts_work_8_54_237 (X : mX) (d F : Nat) (k54 : Int32 → Int32 → Int32 → mM → Option (Int32 × mM)) (hk54 : ∀ (v5 : Int32) (v6 : Int32) (v7 : Int32) (w1 : Option Value) (w2 : Option Value) (w4 : Option Value) (w8 : Option Value) (w9 : Option Value) (w10 : Option Value) (m : mM) (r : Int32) (m' : mM), k54 v5 v6 v7 m = some (r, m') → m_R X (d + 0) 47 54 [some (.ref 8), w1, w2, some (.ref 54), w4, some (.int v5), some (.int v6), some (.int v7), w8, w9, w10] [] (SH, m) (some (.int r), (SH, m'))) : ∀ (v5 : Int32) (v6 : Int32) (v7 : Int32) (w1 : Option Value) (w2 : Option Value) (w4 : Option Value) (w8 : Option Value) (w9 : Option Value) (w10 : Option Value) (m : mM) (r : Int32) (m' : mM), f_Texts_work_8_54_237 F k54 v5 v6 v7 m = some (r, m') → m_R X (d + 0) 47 237 [some (.ref 8), w1, w2, some (.ref 54), w4, some (.int v5), some (.int v6), some (.int v7), w8, w9, w10] [] (SH, m) (some (.int r), (SH, m')) := by
  intro v5 v6 v7 w1 w2 w4 w8 w9 w10 m r m' h
  unfold f_Texts_work_8_54_237 at h
  refine m_R_sg (by decide) [(.iconst 1, 1, 0, 1, 0, 0, 0), (.goto 4, 3, 0, 242, 0, 0, 0)] (by decide +kernel) (show m_sgl X _ _ _ _ _ = some (242, [some (.ref 8), w1, w2, some (.ref 54), w4, some (.int v5), some (.int v6), some (.int v7), w8, w9, w10], [.int (1 : Int32)], (SH, m.1, m.2)) from rfl) ?_
  exact ok_Texts_work_8_54_242 X d F _ hk54 _ _ _ _ _ _ _ _ _ _ _ _ _ h
def f_Texts_work_8_54_262 (F : Nat)  (k54 : Int32 → Int32 → Int32 → mM → Option (Int32 × mM)) (v5 : Int32) (v6 : Int32) (v7 : Int32) (s0 : Int32) (m : mM) : Option (Int32 × mM) := f_Texts_work_8_54_383 F k54 v5 v6 v7 s0 m
theorem ok_Texts_work_8_54_262 (X : mX) (d F : Nat) (k54 : Int32 → Int32 → Int32 → mM → Option (Int32 × mM)) (hk54 : ∀ (v5 : Int32) (v6 : Int32) (v7 : Int32) (w1 : Option Value) (w2 : Option Value) (w4 : Option Value) (w8 : Option Value) (w9 : Option Value) (w10 : Option Value) (m : mM) (r : Int32) (m' : mM), k54 v5 v6 v7 m = some (r, m') → m_R X (d + 0) 47 54 [some (.ref 8), w1, w2, some (.ref 54), w4, some (.int v5), some (.int v6), some (.int v7), w8, w9, w10] [] (SH, m) (some (.int r), (SH, m'))) : ∀ (v5 : Int32) (v6 : Int32) (v7 : Int32) (s0 : Int32) (w1 : Option Value) (w2 : Option Value) (w4 : Option Value) (w8 : Option Value) (w9 : Option Value) (w10 : Option Value) (m : mM) (r : Int32) (m' : mM), f_Texts_work_8_54_262 F k54 v5 v6 v7 s0 m = some (r, m') → m_R X (d + 0) 47 262 [some (.ref 8), w1, w2, some (.ref 54), w4, some (.int v5), some (.int v6), some (.int v7), w8, w9, w10] [.int s0] (SH, m) (some (.int r), (SH, m')) := by
  intro v5 v6 v7 s0 w1 w2 w4 w8 w9 w10 m r m' h
  unfold f_Texts_work_8_54_262 at h
  refine m_R_sg (by decide) [(.istore 9, 2, 0, 9, 0, 0, 0), (.goto 119, 3, 0, 383, 0, 0, 0)] (by decide +kernel) (show m_sgl X _ _ _ _ _ = some (383, [some (.ref 8), w1, w2, some (.ref 54), w4, some (.int v5), some (.int v6), some (.int v7), (m_cl w8), some (.int s0), w10], [], (SH, m.1, m.2)) from rfl) ?_
  exact ok_Texts_work_8_54_383 X d F _ hk54 _ _ _ _ _ _ _ _ _ _ _ _ h
def f_Texts_work_8_54_261 (F : Nat)  (k54 : Int32 → Int32 → Int32 → mM → Option (Int32 × mM)) (v5 : Int32) (v6 : Int32) (v7 : Int32) (m : mM) : Option (Int32 × mM) := f_Texts_work_8_54_262 F k54 v5 v6 v7 (0 : Int32) m
theorem ok_Texts_work_8_54_261 (X : mX) (d F : Nat) (k54 : Int32 → Int32 → Int32 → mM → Option (Int32 × mM)) (hk54 : ∀ (v5 : Int32) (v6 : Int32) (v7 : Int32) (w1 : Option Value) (w2 : Option Value) (w4 : Option Value) (w8 : Option Value) (w9 : Option Value) (w10 : Option Value) (m : mM) (r : Int32) (m' : mM), k54 v5 v6 v7 m = some (r, m') → m_R X (d + 0) 47 54 [some (.ref 8), w1, w2, some (.ref 54), w4, some (.int v5), some (.int v6), some (.int v7), w8, w9, w10] [] (SH, m) (some (.int r), (SH, m'))) : ∀ (v5 : Int32) (v6 : Int32) (v7 : Int32) (w1 : Option Value) (w2 : Option Value) (w4 : Option Value) (w8 : Option Value) (w9 : Option Value) (w10 : Option Value) (m : mM) (r : Int32) (m' : mM), f_Texts_work_8_54_261 F k54 v5 v6 v7 m = some (r, m') → m_R X (d + 0) 47 261 [some (.ref 8), w1, w2, some (.ref 54), w4, some (.int v5), some (.int v6), some (.int v7), w8, w9, w10] [] (SH, m) (some (.int r), (SH, m')) := by
  intro v5 v6 v7 w1 w2 w4 w8 w9 w10 m r m' h
  unfold f_Texts_work_8_54_261 at h
  refine m_R_sg (by decide) [(.iconst 0, 1, 0, 0, 0, 0, 0)] (by decide +kernel) (show m_sgl X _ _ _ _ _ = some (262, [some (.ref 8), w1, w2, some (.ref 54), w4, some (.int v5), some (.int v6), some (.int v7), w8, w9, w10], [.int (0 : Int32)], (SH, m.1, m.2)) from rfl) ?_
  exact ok_Texts_work_8_54_262 X d F _ hk54 _ _ _ _ _ _ _ _ _ _ _ _ _ h
def f_Texts_work_8_54_279 (F : Nat)  (k54 : Int32 → Int32 → Int32 → mM → Option (Int32 × mM)) (v5 : Int32) (v6 : Int32) (v7 : Int32) (s0 : Int32) (m : mM) : Option (Int32 × mM) := f_Texts_work_8_54_383 F k54 v5 v6 v7 s0 m
theorem ok_Texts_work_8_54_279 (X : mX) (d F : Nat) (k54 : Int32 → Int32 → Int32 → mM → Option (Int32 × mM)) (hk54 : ∀ (v5 : Int32) (v6 : Int32) (v7 : Int32) (w1 : Option Value) (w2 : Option Value) (w4 : Option Value) (w8 : Option Value) (w9 : Option Value) (w10 : Option Value) (m : mM) (r : Int32) (m' : mM), k54 v5 v6 v7 m = some (r, m') → m_R X (d + 0) 47 54 [some (.ref 8), w1, w2, some (.ref 54), w4, some (.int v5), some (.int v6), some (.int v7), w8, w9, w10] [] (SH, m) (some (.int r), (SH, m'))) : ∀ (v5 : Int32) (v6 : Int32) (v7 : Int32) (s0 : Int32) (w1 : Option Value) (w2 : Option Value) (w4 : Option Value) (w8 : Option Value) (w9 : Option Value) (w10 : Option Value) (m : mM) (r : Int32) (m' : mM), f_Texts_work_8_54_279 F k54 v5 v6 v7 s0 m = some (r, m') → m_R X (d + 0) 47 279 [some (.ref 8), w1, w2, some (.ref 54), w4, some (.int v5), some (.int v6), some (.int v7), w8, w9, w10] [.int s0] (SH, m) (some (.int r), (SH, m')) := by
  intro v5 v6 v7 s0 w1 w2 w4 w8 w9 w10 m r m' h
  unfold f_Texts_work_8_54_279 at h
  refine m_R_sg (by decide) [(.istore 9, 2, 0, 9, 0, 0, 0), (.goto 102, 3, 0, 383, 0, 0, 0)] (by decide +kernel) (show m_sgl X _ _ _ _ _ = some (383, [some (.ref 8), w1, w2, some (.ref 54), w4, some (.int v5), some (.int v6), some (.int v7), (m_cl w8), some (.int s0), w10], [], (SH, m.1, m.2)) from rfl) ?_
  exact ok_Texts_work_8_54_383 X d F _ hk54 _ _ _ _ _ _ _ _ _ _ _ _ h
def f_Texts_work_8_54_296 (F : Nat)  (k54 : Int32 → Int32 → Int32 → mM → Option (Int32 × mM)) (v5 : Int32) (v6 : Int32) (v7 : Int32) (s0 : Int32) (m : mM) : Option (Int32 × mM) := f_Texts_work_8_54_383 F k54 v5 v6 v7 s0 m
theorem ok_Texts_work_8_54_296 (X : mX) (d F : Nat) (k54 : Int32 → Int32 → Int32 → mM → Option (Int32 × mM)) (hk54 : ∀ (v5 : Int32) (v6 : Int32) (v7 : Int32) (w1 : Option Value) (w2 : Option Value) (w4 : Option Value) (w8 : Option Value) (w9 : Option Value) (w10 : Option Value) (m : mM) (r : Int32) (m' : mM), k54 v5 v6 v7 m = some (r, m') → m_R X (d + 0) 47 54 [some (.ref 8), w1, w2, some (.ref 54), w4, some (.int v5), some (.int v6), some (.int v7), w8, w9, w10] [] (SH, m) (some (.int r), (SH, m'))) : ∀ (v5 : Int32) (v6 : Int32) (v7 : Int32) (s0 : Int32) (w1 : Option Value) (w2 : Option Value) (w4 : Option Value) (w8 : Option Value) (w9 : Option Value) (w10 : Option Value) (m : mM) (r : Int32) (m' : mM), f_Texts_work_8_54_296 F k54 v5 v6 v7 s0 m = some (r, m') → m_R X (d + 0) 47 296 [some (.ref 8), w1, w2, some (.ref 54), w4, some (.int v5), some (.int v6), some (.int v7), w8, w9, w10] [.int s0] (SH, m) (some (.int r), (SH, m')) := by
  intro v5 v6 v7 s0 w1 w2 w4 w8 w9 w10 m r m' h
  unfold f_Texts_work_8_54_296 at h
  refine m_R_sg (by decide) [(.istore 9, 2, 0, 9, 0, 0, 0), (.goto 85, 3, 0, 383, 0, 0, 0)] (by decide +kernel) (show m_sgl X _ _ _ _ _ = some (383, [some (.ref 8), w1, w2, some (.ref 54), w4, some (.int v5), some (.int v6), some (.int v7), (m_cl w8), some (.int s0), w10], [], (SH, m.1, m.2)) from rfl) ?_
  exact ok_Texts_work_8_54_383 X d F _ hk54 _ _ _ _ _ _ _ _ _ _ _ _ h
def f_Texts_work_8_54_313 (F : Nat)  (k54 : Int32 → Int32 → Int32 → mM → Option (Int32 × mM)) (v5 : Int32) (v6 : Int32) (v7 : Int32) (s0 : Int32) (m : mM) : Option (Int32 × mM) := f_Texts_work_8_54_383 F k54 v5 v6 v7 s0 m
theorem ok_Texts_work_8_54_313 (X : mX) (d F : Nat) (k54 : Int32 → Int32 → Int32 → mM → Option (Int32 × mM)) (hk54 : ∀ (v5 : Int32) (v6 : Int32) (v7 : Int32) (w1 : Option Value) (w2 : Option Value) (w4 : Option Value) (w8 : Option Value) (w9 : Option Value) (w10 : Option Value) (m : mM) (r : Int32) (m' : mM), k54 v5 v6 v7 m = some (r, m') → m_R X (d + 0) 47 54 [some (.ref 8), w1, w2, some (.ref 54), w4, some (.int v5), some (.int v6), some (.int v7), w8, w9, w10] [] (SH, m) (some (.int r), (SH, m'))) : ∀ (v5 : Int32) (v6 : Int32) (v7 : Int32) (s0 : Int32) (w1 : Option Value) (w2 : Option Value) (w4 : Option Value) (w8 : Option Value) (w9 : Option Value) (w10 : Option Value) (m : mM) (r : Int32) (m' : mM), f_Texts_work_8_54_313 F k54 v5 v6 v7 s0 m = some (r, m') → m_R X (d + 0) 47 313 [some (.ref 8), w1, w2, some (.ref 54), w4, some (.int v5), some (.int v6), some (.int v7), w8, w9, w10] [.int s0] (SH, m) (some (.int r), (SH, m')) := by
  intro v5 v6 v7 s0 w1 w2 w4 w8 w9 w10 m r m' h
  unfold f_Texts_work_8_54_313 at h
  refine m_R_sg (by decide) [(.istore 9, 2, 0, 9, 0, 0, 0), (.goto 68, 3, 0, 383, 0, 0, 0)] (by decide +kernel) (show m_sgl X _ _ _ _ _ = some (383, [some (.ref 8), w1, w2, some (.ref 54), w4, some (.int v5), some (.int v6), some (.int v7), (m_cl w8), some (.int s0), w10], [], (SH, m.1, m.2)) from rfl) ?_
  exact ok_Texts_work_8_54_383 X d F _ hk54 _ _ _ _ _ _ _ _ _ _ _ _ h
def f_Texts_work_8_54_362 (F : Nat)  (k54 : Int32 → Int32 → Int32 → mM → Option (Int32 × mM)) (v5 : Int32) (v6 : Int32) (v7 : Int32) (s0 : Int32) (m : mM) : Option (Int32 × mM) := f_Texts_work_8_54_383 F k54 v5 v6 v7 s0 m
theorem ok_Texts_work_8_54_362 (X : mX) (d F : Nat) (k54 : Int32 → Int32 → Int32 → mM → Option (Int32 × mM)) (hk54 : ∀ (v5 : Int32) (v6 : Int32) (v7 : Int32) (w1 : Option Value) (w2 : Option Value) (w4 : Option Value) (w8 : Option Value) (w9 : Option Value) (w10 : Option Value) (m : mM) (r : Int32) (m' : mM), k54 v5 v6 v7 m = some (r, m') → m_R X (d + 0) 47 54 [some (.ref 8), w1, w2, some (.ref 54), w4, some (.int v5), some (.int v6), some (.int v7), w8, w9, w10] [] (SH, m) (some (.int r), (SH, m'))) : ∀ (v5 : Int32) (v6 : Int32) (v7 : Int32) (s0 : Int32) (w1 : Option Value) (w2 : Option Value) (w4 : Option Value) (w8 : Option Value) (w9 : Option Value) (w10 : Option Value) (m : mM) (r : Int32) (m' : mM), f_Texts_work_8_54_362 F k54 v5 v6 v7 s0 m = some (r, m') → m_R X (d + 0) 47 362 [some (.ref 8), w1, w2, some (.ref 54), w4, some (.int v5), some (.int v6), some (.int v7), w8, w9, w10] [.int s0] (SH, m) (some (.int r), (SH, m')) := by
  intro v5 v6 v7 s0 w1 w2 w4 w8 w9 w10 m r m' h
  unfold f_Texts_work_8_54_362 at h
  refine m_R_sg (by decide) [(.istore 9, 2, 0, 9, 0, 0, 0), (.goto 19, 3, 0, 383, 0, 0, 0)] (by decide +kernel) (show m_sgl X _ _ _ _ _ = some (383, [some (.ref 8), w1, w2, some (.ref 54), w4, some (.int v5), some (.int v6), some (.int v7), (m_cl w8), some (.int s0), w10], [], (SH, m.1, m.2)) from rfl) ?_
  exact ok_Texts_work_8_54_383 X d F _ hk54 _ _ _ _ _ _ _ _ _ _ _ _ h
def f_Texts_work_8_54_381 (F : Nat)  (k54 : Int32 → Int32 → Int32 → mM → Option (Int32 × mM)) (v5 : Int32) (v6 : Int32) (v7 : Int32) (s0 : Int32) (m : mM) : Option (Int32 × mM) := f_Texts_work_8_54_383 F k54 v5 v6 v7 s0 m
theorem ok_Texts_work_8_54_381 (X : mX) (d F : Nat) (k54 : Int32 → Int32 → Int32 → mM → Option (Int32 × mM)) (hk54 : ∀ (v5 : Int32) (v6 : Int32) (v7 : Int32) (w1 : Option Value) (w2 : Option Value) (w4 : Option Value) (w8 : Option Value) (w9 : Option Value) (w10 : Option Value) (m : mM) (r : Int32) (m' : mM), k54 v5 v6 v7 m = some (r, m') → m_R X (d + 0) 47 54 [some (.ref 8), w1, w2, some (.ref 54), w4, some (.int v5), some (.int v6), some (.int v7), w8, w9, w10] [] (SH, m) (some (.int r), (SH, m'))) : ∀ (v5 : Int32) (v6 : Int32) (v7 : Int32) (s0 : Int32) (w1 : Option Value) (w2 : Option Value) (w4 : Option Value) (w8 : Option Value) (w9 : Option Value) (w10 : Option Value) (m : mM) (r : Int32) (m' : mM), f_Texts_work_8_54_381 F k54 v5 v6 v7 s0 m = some (r, m') → m_R X (d + 0) 47 381 [some (.ref 8), w1, w2, some (.ref 54), w4, some (.int v5), some (.int v6), some (.int v7), w8, w9, w10] [.int s0] (SH, m) (some (.int r), (SH, m')) := by
  intro v5 v6 v7 s0 w1 w2 w4 w8 w9 w10 m r m' h
  unfold f_Texts_work_8_54_381 at h
  refine m_R_sg (by decide) [(.istore 9, 2, 0, 9, 0, 0, 0)] (by decide +kernel) (show m_sgl X _ _ _ _ _ = some (383, [some (.ref 8), w1, w2, some (.ref 54), w4, some (.int v5), some (.int v6), some (.int v7), (m_cl w8), some (.int s0), w10], [], (SH, m.1, m.2)) from rfl) ?_
  exact ok_Texts_work_8_54_383 X d F _ hk54 _ _ _ _ _ _ _ _ _ _ _ _ h
def f_Texts_work_8_54_116 (F : Nat)  (k54 : Int32 → Int32 → Int32 → mM → Option (Int32 × mM)) (v5 : Int32) (v6 : Int32) (v7 : Int32) (v8 : Int32) (m : mM) : Option (Int32 × mM) := (if (1 : Int32) ≤ v6 then (if (v6 - (1 : Int32)) < 0 ∨ 121 ≤ (v6 - (1 : Int32)).toNatClampNeg then none else (if v6 < 0 ∨ 121 ≤ v6.toNatClampNeg then none else (if v8 = (-21 : Int32) then (if (m.1 15 v6.toNatClampNeg) = 0 then f_Texts_work_8_54_362 F k54 v5 v6 v7 (0 : Int32) m else f_Texts_work_8_54_362 F k54 v5 v6 v7 ((m.1 15 (v6 - (1 : Int32)).toNatClampNeg) / (m.1 15 v6.toNatClampNeg)) m) else (if v8 = (-20 : Int32) then f_Texts_work_8_54_383 F k54 v5 v6 v7 ((m.1 15 (v6 - (1 : Int32)).toNatClampNeg) * (m.1 15 v6.toNatClampNeg)) m else (if v8 = (-19 : Int32) then f_Texts_work_8_54_383 F k54 v5 v6 v7 ((m.1 15 (v6 - (1 : Int32)).toNatClampNeg) - (m.1 15 v6.toNatClampNeg)) m else (if v8 = (-18 : Int32) then f_Texts_work_8_54_383 F k54 v5 v6 v7 ((m.1 15 (v6 - (1 : Int32)).toNatClampNeg) + (m.1 15 v6.toNatClampNeg)) m else (if v8 = (-17 : Int32) then (if (m.1 15 (v6 - (1 : Int32)).toNatClampNeg) ≤ (m.1 15 v6.toNatClampNeg) then f_Texts_work_8_54_313 F k54 v5 v6 v7 (0 : Int32) m else f_Texts_work_8_54_313 F k54 v5 v6 v7 (1 : Int32) m) else (if v8 = (-16 : Int32) then (if (m.1 15 v6.toNatClampNeg) ≤ (m.1 15 (v6 - (1 : Int32)).toNatClampNeg) then f_Texts_work_8_54_296 F k54 v5 v6 v7 (0 : Int32) m else f_Texts_work_8_54_296 F k54 v5 v6 v7 (1 : Int32) m) else (if v8 = (-15 : Int32) then (if (m.1 15 (v6 - (1 : Int32)).toNatClampNeg) = (m.1 15 v6.toNatClampNeg) then f_Texts_work_8_54_279 F k54 v5 v6 v7 (1 : Int32) m else f_Texts_work_8_54_279 F k54 v5 v6 v7 (0 : Int32) m) else (if v8 = (-14 : Int32) then (if (m.1 15 (v6 - (1 : Int32)).toNatClampNeg) = 0 then f_Texts_work_8_54_261 F k54 v5 v6 v7 m else (if (m.1 15 v6.toNatClampNeg) = 0 then f_Texts_work_8_54_261 F k54 v5 v6 v7 m else f_Texts_work_8_54_262 F k54 v5 v6 v7 (1 : Int32) m)) else (if v8 = (-13 : Int32) then (if (m.1 15 (v6 - (1 : Int32)).toNatClampNeg) = 0 then (if (m.1 15 v6.toNatClampNeg) = 0 then f_Texts_work_8_54_242 F k54 v5 v6 v7 (0 : Int32) m else f_Texts_work_8_54_237 F k54 v5 v6 v7 m) else f_Texts_work_8_54_237 F k54 v5 v6 v7 m) else (if v8 = (-12 : Int32) then f_Texts_work_8_54_383 F k54 v5 v6 v7 (-(m.1 15 (v6 - (1 : Int32)).toNatClampNeg)) m else (if v8 = (-11 : Int32) then (if (m.1 15 (v6 - (1 : Int32)).toNatClampNeg) = 0 then f_Texts_work_8_54_214 F k54 v5 v6 v7 (1 : Int32) m else f_Texts_work_8_54_214 F k54 v5 v6 v7 (0 : Int32) m) else (if (m.1 15 v6.toNatClampNeg) = 0 then f_Texts_work_8_54_381 F k54 v5 v6 v7 (0 : Int32) m else f_Texts_work_8_54_381 F k54 v5 v6 v7 ((m.1 15 (v6 - (1 : Int32)).toNatClampNeg) - (m.1 15 (v6 - (1 : Int32)).toNatClampNeg) / (m.1 15 v6.toNatClampNeg) * (m.1 15 v6.toNatClampNeg)) m)))))))))))))) else some ((0 : Int32), m))
theorem ok_Texts_work_8_54_116 (X : mX) (d F : Nat) (k54 : Int32 → Int32 → Int32 → mM → Option (Int32 × mM)) (hk54 : ∀ (v5 : Int32) (v6 : Int32) (v7 : Int32) (w1 : Option Value) (w2 : Option Value) (w4 : Option Value) (w8 : Option Value) (w9 : Option Value) (w10 : Option Value) (m : mM) (r : Int32) (m' : mM), k54 v5 v6 v7 m = some (r, m') → m_R X (d + 0) 47 54 [some (.ref 8), w1, w2, some (.ref 54), w4, some (.int v5), some (.int v6), some (.int v7), w8, w9, w10] [] (SH, m) (some (.int r), (SH, m'))) : ∀ (v5 : Int32) (v6 : Int32) (v7 : Int32) (v8 : Int32) (w1 : Option Value) (w2 : Option Value) (w4 : Option Value) (w9 : Option Value) (w10 : Option Value) (m : mM) (r : Int32) (m' : mM), f_Texts_work_8_54_116 F k54 v5 v6 v7 v8 m = some (r, m') → m_R X (d + 0) 47 116 [some (.ref 8), w1, w2, some (.ref 54), w4, some (.int v5), some (.int v6), some (.int v7), some (.int v8), w9, w10] [] (SH, m) (some (.int r), (SH, m')) := by
  intro v5 v6 v7 v8 w1 w2 w4 w9 w10 m r m' h
  unfold f_Texts_work_8_54_116 at h
  refine m_R_sg (by decide) [(.iload 6, 2, 0, 6, 0, 0, 0), (.iconst 1, 1, 0, 1, 0, 0, 0)] (by decide +kernel) (show m_sgl X _ _ _ _ _ = some (119, [some (.ref 8), w1, w2, some (.ref 54), w4, some (.int v5), some (.int v6), some (.int v7), some (.int v8), w9, w10], [.int (1 : Int32), .int v6], (SH, m.1, m.2)) from rfl) ?_
  rcases m_ite h with ⟨c125, h⟩ | ⟨c125, h⟩
  · refine m_R_1 (by decide) (m_opb_of (ins := .if_icmp .ge 5) (len := 3) (tag := 0) (a := 124) (b := 0) (c := 0) (q := 0) (by decide +kernel)) (if_pos c125) ?_
    refine m_R_sg (by decide) [(.aload_n 0, 1, 0, 0, 0, 0, 0), (.getfield 30, 3, 0, 8, 6, 3, 203), (.iload 6, 2, 0, 6, 0, 0, 0), (.iconst 1, 1, 0, 1, 0, 0, 0), (.isub, 1, 0, 0, 0, 0, 0)] (by decide +kernel) (show m_sgl X _ _ _ _ _ = some (132, [some (.ref 8), w1, w2, some (.ref 54), w4, some (.int v5), some (.int v6), some (.int v7), some (.int v8), w9, w10], [.int (v6 - (1 : Int32)), .ref 15], (SH, m.1, m.2)) from rfl) ?_
    obtain ⟨c126, h⟩ := m_ite_n h
    refine m_R_1 (by decide) (m_opb_of (ins := .iaload) (len := 1) (tag := 0) (a := 0) (b := 0) (c := 0) (q := 0) (by decide +kernel)) (m_s_iald sh_15 (by decide) c126) ?_
    refine m_R_sg (by decide) [(.istore 9, 2, 0, 9, 0, 0, 0), (.aload_n 0, 1, 0, 0, 0, 0, 0), (.getfield 30, 3, 0, 8, 6, 3, 203), (.iload 6, 2, 0, 6, 0, 0, 0)] (by decide +kernel) (show m_sgl X _ _ _ _ _ = some (141, [some (.ref 8), w1, w2, some (.ref 54), w4, some (.int v5), some (.int v6), some (.int v7), some (.int v8), some (.int (m.1 15 (v6 - (1 : Int32)).toNatClampNeg)), w10], [.int v6, .ref 15], (SH, m.1, m.2)) from rfl) ?_
    obtain ⟨c127, h⟩ := m_ite_n h
    refine m_R_1 (by decide) (m_opb_of (ins := .iaload) (len := 1) (tag := 0) (a := 0) (b := 0) (c := 0) (q := 0) (by decide +kernel)) (m_s_iald sh_15 (by decide) c127) ?_
    refine m_R_sg (by decide) [(.istore 10, 2, 0, 10, 0, 0, 0), (.iload 8, 2, 0, 8, 0, 0, 0)] (by decide +kernel) (show m_sgl X _ _ _ _ _ = some (146, [some (.ref 8), w1, w2, some (.ref 54), w4, some (.int v5), some (.int v6), some (.int v7), some (.int v8), some (.int (m.1 15 (v6 - (1 : Int32)).toNatClampNeg)), some (.int (m.1 15 v6.toNatClampNeg))], [.int v8], (SH, m.1, m.2)) from rfl) ?_
    rcases m_ite h with ⟨c0, h⟩ | ⟨d0, h⟩
    · refine m_R_1 (by decide) (m_opb_of (ins := .tableswitch 221 (-21) (-11) #[202, 192, 182, 172, 155, 138, 121, 101, 81, 73, 58]) (len := 58) (tag := 0) (a := 0) (b := 0) (c := 0) (q := 0) (by decide +kernel)) (m_s_sw (by rw [c0]; decide) (by rw [c0]; rfl) (by decide) (t := 348) rfl) ?_
      refine m_R_sg (by decide) [(.iload 10, 2, 0, 10, 0, 0, 0)] (by decide +kernel) (show m_sgl X _ _ _ _ _ = some (350, [some (.ref 8), w1, w2, some (.ref 54), w4, some (.int v5), some (.int v6), some (.int v7), some (.int v8), some (.int (m.1 15 (v6 - (1 : Int32)).toNatClampNeg)), some (.int (m.1 15 v6.toNatClampNeg))], [.int (m.1 15 v6.toNatClampNeg)], (SH, m.1, m.2)) from rfl) ?_
      rcases m_ite h with ⟨c128, h⟩ | ⟨c128, h⟩
      · refine m_R_1 (by decide) (m_opb_of (ins := .ifCond .ne 7) (len := 3) (tag := 0) (a := 357) (b := 0) (c := 0) (q := 0) (by decide +kernel)) (if_pos c128) ?_
        refine m_R_sg (by decide) [(.iconst 0, 1, 0, 0, 0, 0, 0), (.goto 8, 3, 0, 362, 0, 0, 0)] (by decide +kernel) (show m_sgl X _ _ _ _ _ = some (362, [some (.ref 8), w1, w2, some (.ref 54), w4, some (.int v5), some (.int v6), some (.int v7), some (.int v8), some (.int (m.1 15 (v6 - (1 : Int32)).toNatClampNeg)), some (.int (m.1 15 v6.toNatClampNeg))], [.int (0 : Int32)], (SH, m.1, m.2)) from rfl) ?_
        exact ok_Texts_work_8_54_362 X d F _ hk54 _ _ _ _ _ _ _ _ _ _ _ _ _ h
      · refine m_R_1 (by decide) (m_opb_of (ins := .ifCond .ne 7) (len := 3) (tag := 0) (a := 357) (b := 0) (c := 0) (q := 0) (by decide +kernel)) (if_neg c128) ?_
        refine m_R_sg (by decide) [(.iload 9, 2, 0, 9, 0, 0, 0), (.iload 10, 2, 0, 10, 0, 0, 0)] (by decide +kernel) (show m_sgl X _ _ _ _ _ = some (361, [some (.ref 8), w1, w2, some (.ref 54), w4, some (.int v5), some (.int v6), some (.int v7), some (.int v8), some (.int (m.1 15 (v6 - (1 : Int32)).toNatClampNeg)), some (.int (m.1 15 v6.toNatClampNeg))], [.int (m.1 15 v6.toNatClampNeg), .int (m.1 15 (v6 - (1 : Int32)).toNatClampNeg)], (SH, m.1, m.2)) from rfl) ?_
        refine m_R_1 (by decide) (m_opb_of (ins := .idiv) (len := 1) (tag := 0) (a := 0) (b := 0) (c := 0) (q := 0) (by decide +kernel)) (m_s_idiv c128) ?_
        exact ok_Texts_work_8_54_362 X d F _ hk54 _ _ _ _ _ _ _ _ _ _ _ _ _ h
    rcases m_ite h with ⟨c0, h⟩ | ⟨d1, h⟩
    · refine m_R_1 (by decide) (m_opb_of (ins := .tableswitch 221 (-21) (-11) #[202, 192, 182, 172, 155, 138, 121, 101, 81, 73, 58]) (len := 58) (tag := 0) (a := 0) (b := 0) (c := 0) (q := 0) (by decide +kernel)) (m_s_sw (by rw [c0]; decide) (by rw [c0]; rfl) (by decide) (t := 338) rfl) ?_
      refine m_R_sg (by decide) [(.iload 9, 2, 0, 9, 0, 0, 0), (.iload 10, 2, 0, 10, 0, 0, 0), (.imul, 1, 0, 0, 0, 0, 0), (.istore 9, 2, 0, 9, 0, 0, 0), (.goto 38, 3, 0, 383, 0, 0, 0)] (by decide +kernel) (show m_sgl X _ _ _ _ _ = some (383, [some (.ref 8), w1, w2, some (.ref 54), w4, some (.int v5), some (.int v6), some (.int v7), some (.int v8), some (.int ((m.1 15 (v6 - (1 : Int32)).toNatClampNeg) * (m.1 15 v6.toNatClampNeg))), some (.int (m.1 15 v6.toNatClampNeg))], [], (SH, m.1, m.2)) from rfl) ?_
      exact ok_Texts_work_8_54_383 X d F _ hk54 _ _ _ _ _ _ _ _ _ _ _ _ h
    rcases m_ite h with ⟨c0, h⟩ | ⟨d2, h⟩
    · refine m_R_1 (by decide) (m_opb_of (ins := .tableswitch 221 (-21) (-11) #[202, 192, 182, 172, 155, 138, 121, 101, 81, 73, 58]) (len := 58) (tag := 0) (a := 0) (b := 0) (c := 0) (q := 0) (by decide +kernel)) (m_s_sw (by rw [c0]; decide) (by rw [c0]; rfl) (by decide) (t := 328) rfl) ?_
      refine m_R_sg (by decide) [(.iload 9, 2, 0, 9, 0, 0, 0), (.iload 10, 2, 0, 10, 0, 0, 0), (.isub, 1, 0, 0, 0, 0, 0), (.istore 9, 2, 0, 9, 0, 0, 0), (.goto 48, 3, 0, 383, 0, 0, 0)] (by decide +kernel) (show m_sgl X _ _ _ _ _ = some (383, [some (.ref 8), w1, w2, some (.ref 54), w4, some (.int v5), some (.int v6), some (.int v7), some (.int v8), some (.int ((m.1 15 (v6 - (1 : Int32)).toNatClampNeg) - (m.1 15 v6.toNatClampNeg))), some (.int (m.1 15 v6.toNatClampNeg))], [], (SH, m.1, m.2)) from rfl) ?_
      exact ok_Texts_work_8_54_383 X d F _ hk54 _ _ _ _ _ _ _ _ _ _ _ _ h
    rcases m_ite h with ⟨c0, h⟩ | ⟨d3, h⟩
    · refine m_R_1 (by decide) (m_opb_of (ins := .tableswitch 221 (-21) (-11) #[202, 192, 182, 172, 155, 138, 121, 101, 81, 73, 58]) (len := 58) (tag := 0) (a := 0) (b := 0) (c := 0) (q := 0) (by decide +kernel)) (m_s_sw (by rw [c0]; decide) (by rw [c0]; rfl) (by decide) (t := 318) rfl) ?_
      refine m_R_sg (by decide) [(.iload 9, 2, 0, 9, 0, 0, 0), (.iload 10, 2, 0, 10, 0, 0, 0), (.iadd, 1, 0, 0, 0, 0, 0), (.istore 9, 2, 0, 9, 0, 0, 0), (.goto 58, 3, 0, 383, 0, 0, 0)] (by decide +kernel) (show m_sgl X _ _ _ _ _ = some (383, [some (.ref 8), w1, w2, some (.ref 54), w4, some (.int v5), some (.int v6), some (.int v7), some (.int v8), some (.int ((m.1 15 (v6 - (1 : Int32)).toNatClampNeg) + (m.1 15 v6.toNatClampNeg))), some (.int (m.1 15 v6.toNatClampNeg))], [], (SH, m.1, m.2)) from rfl) ?_
      exact ok_Texts_work_8_54_383 X d F _ hk54 _ _ _ _ _ _ _ _ _ _ _ _ h
    rcases m_ite h with ⟨c0, h⟩ | ⟨d4, h⟩
    · refine m_R_1 (by decide) (m_opb_of (ins := .tableswitch 221 (-21) (-11) #[202, 192, 182, 172, 155, 138, 121, 101, 81, 73, 58]) (len := 58) (tag := 0) (a := 0) (b := 0) (c := 0) (q := 0) (by decide +kernel)) (m_s_sw (by rw [c0]; decide) (by rw [c0]; rfl) (by decide) (t := 301) rfl) ?_
      refine m_R_sg (by decide) [(.iload 9, 2, 0, 9, 0, 0, 0), (.iload 10, 2, 0, 10, 0, 0, 0)] (by decide +kernel) (show m_sgl X _ _ _ _ _ = some (305, [some (.ref 8), w1, w2, some (.ref 54), w4, some (.int v5), some (.int v6), some (.int v7), some (.int v8), some (.int (m.1 15 (v6 - (1 : Int32)).toNatClampNeg)), some (.int (m.1 15 v6.toNatClampNeg))], [.int (m.1 15 v6.toNatClampNeg), .int (m.1 15 (v6 - (1 : Int32)).toNatClampNeg)], (SH, m.1, m.2)) from rfl) ?_
      rcases m_ite h with ⟨c129, h⟩ | ⟨c129, h⟩
      · refine m_R_1 (by decide) (m_opb_of (ins := .if_icmp .le 7) (len := 3) (tag := 0) (a := 312) (b := 0) (c := 0) (q := 0) (by decide +kernel)) (if_pos c129) ?_
        refine m_R_sg (by decide) [(.iconst 0, 1, 0, 0, 0, 0, 0)] (by decide +kernel) (show m_sgl X _ _ _ _ _ = some (313, [some (.ref 8), w1, w2, some (.ref 54), w4, some (.int v5), some (.int v6), some (.int v7), some (.int v8), some (.int (m.1 15 (v6 - (1 : Int32)).toNatClampNeg)), some (.int (m.1 15 v6.toNatClampNeg))], [.int (0 : Int32)], (SH, m.1, m.2)) from rfl) ?_
        exact ok_Texts_work_8_54_313 X d F _ hk54 _ _ _ _ _ _ _ _ _ _ _ _ _ h
      · refine m_R_1 (by decide) (m_opb_of (ins := .if_icmp .le 7) (len := 3) (tag := 0) (a := 312) (b := 0) (c := 0) (q := 0) (by decide +kernel)) (if_neg c129) ?_
        refine m_R_sg (by decide) [(.iconst 1, 1, 0, 1, 0, 0, 0), (.goto 4, 3, 0, 313, 0, 0, 0)] (by decide +kernel) (show m_sgl X _ _ _ _ _ = some (313, [some (.ref 8), w1, w2, some (.ref 54), w4, some (.int v5), some (.int v6), some (.int v7), some (.int v8), some (.int (m.1 15 (v6 - (1 : Int32)).toNatClampNeg)), some (.int (m.1 15 v6.toNatClampNeg))], [.int (1 : Int32)], (SH, m.1, m.2)) from rfl) ?_
        exact ok_Texts_work_8_54_313 X d F _ hk54 _ _ _ _ _ _ _ _ _ _ _ _ _ h
    rcases m_ite h with ⟨c0, h⟩ | ⟨d5, h⟩
    · refine m_R_1 (by decide) (m_opb_of (ins := .tableswitch 221 (-21) (-11) #[202, 192, 182, 172, 155, 138, 121, 101, 81, 73, 58]) (len := 58) (tag := 0) (a := 0) (b := 0) (c := 0) (q := 0) (by decide +kernel)) (m_s_sw (by rw [c0]; decide) (by rw [c0]; rfl) (by decide) (t := 284) rfl) ?_
      refine m_R_sg (by decide) [(.iload 9, 2, 0, 9, 0, 0, 0), (.iload 10, 2, 0, 10, 0, 0, 0)] (by decide +kernel) (show m_sgl X _ _ _ _ _ = some (288, [some (.ref 8), w1, w2, some (.ref 54), w4, some (.int v5), some (.int v6), some (.int v7), some (.int v8), some (.int (m.1 15 (v6 - (1 : Int32)).toNatClampNeg)), some (.int (m.1 15 v6.toNatClampNeg))], [.int (m.1 15 v6.toNatClampNeg), .int (m.1 15 (v6 - (1 : Int32)).toNatClampNeg)], (SH, m.1, m.2)) from rfl) ?_
      rcases m_ite h with ⟨c130, h⟩ | ⟨c130, h⟩
      · refine m_R_1 (by decide) (m_opb_of (ins := .if_icmp .ge 7) (len := 3) (tag := 0) (a := 295) (b := 0) (c := 0) (q := 0) (by decide +kernel)) (if_pos c130) ?_
        refine m_R_sg (by decide) [(.iconst 0, 1, 0, 0, 0, 0, 0)] (by decide +kernel) (show m_sgl X _ _ _ _ _ = some (296, [some (.ref 8), w1, w2, some (.ref 54), w4, some (.int v5), some (.int v6), some (.int v7), some (.int v8), some (.int (m.1 15 (v6 - (1 : Int32)).toNatClampNeg)), some (.int (m.1 15 v6.toNatClampNeg))], [.int (0 : Int32)], (SH, m.1, m.2)) from rfl) ?_
        exact ok_Texts_work_8_54_296 X d F _ hk54 _ _ _ _ _ _ _ _ _ _ _ _ _ h
      · refine m_R_1 (by decide) (m_opb_of (ins := .if_icmp .ge 7) (len := 3) (tag := 0) (a := 295) (b := 0) (c := 0) (q := 0) (by decide +kernel)) (if_neg c130) ?_
        refine m_R_sg (by decide) [(.iconst 1, 1, 0, 1, 0, 0, 0), (.goto 4, 3, 0, 296, 0, 0, 0)] (by decide +kernel) (show m_sgl X _ _ _ _ _ = some (296, [some (.ref 8), w1, w2, some (.ref 54), w4, some (.int v5), some (.int v6), some (.int v7), some (.int v8), some (.int (m.1 15 (v6 - (1 : Int32)).toNatClampNeg)), some (.int (m.1 15 v6.toNatClampNeg))], [.int (1 : Int32)], (SH, m.1, m.2)) from rfl) ?_
        exact ok_Texts_work_8_54_296 X d F _ hk54 _ _ _ _ _ _ _ _ _ _ _ _ _ h
    rcases m_ite h with ⟨c0, h⟩ | ⟨d6, h⟩
    · refine m_R_1 (by decide) (m_opb_of (ins := .tableswitch 221 (-21) (-11) #[202, 192, 182, 172, 155, 138, 121, 101, 81, 73, 58]) (len := 58) (tag := 0) (a := 0) (b := 0) (c := 0) (q := 0) (by decide +kernel)) (m_s_sw (by rw [c0]; decide) (by rw [c0]; rfl) (by decide) (t := 267) rfl) ?_
      refine m_R_sg (by decide) [(.iload 9, 2, 0, 9, 0, 0, 0), (.iload 10, 2, 0, 10, 0, 0, 0)] (by decide +kernel) (show m_sgl X _ _ _ _ _ = some (271, [some (.ref 8), w1, w2, some (.ref 54), w4, some (.int v5), some (.int v6), some (.int v7), some (.int v8), some (.int (m.1 15 (v6 - (1 : Int32)).toNatClampNeg)), some (.int (m.1 15 v6.toNatClampNeg))], [.int (m.1 15 v6.toNatClampNeg), .int (m.1 15 (v6 - (1 : Int32)).toNatClampNeg)], (SH, m.1, m.2)) from rfl) ?_
      rcases m_ite h with ⟨c131, h⟩ | ⟨c131, h⟩
      · refine m_R_1 (by decide) (m_opb_of (ins := .if_icmp .ne 7) (len := 3) (tag := 0) (a := 278) (b := 0) (c := 0) (q := 0) (by decide +kernel)) (if_pos c131) ?_
        refine m_R_sg (by decide) [(.iconst 1, 1, 0, 1, 0, 0, 0), (.goto 4, 3, 0, 279, 0, 0, 0)] (by decide +kernel) (show m_sgl X _ _ _ _ _ = some (279, [some (.ref 8), w1, w2, some (.ref 54), w4, some (.int v5), some (.int v6), some (.int v7), some (.int v8), some (.int (m.1 15 (v6 - (1 : Int32)).toNatClampNeg)), some (.int (m.1 15 v6.toNatClampNeg))], [.int (1 : Int32)], (SH, m.1, m.2)) from rfl) ?_
        exact ok_Texts_work_8_54_279 X d F _ hk54 _ _ _ _ _ _ _ _ _ _ _ _ _ h
      · refine m_R_1 (by decide) (m_opb_of (ins := .if_icmp .ne 7) (len := 3) (tag := 0) (a := 278) (b := 0) (c := 0) (q := 0) (by decide +kernel)) (if_neg c131) ?_
        refine m_R_sg (by decide) [(.iconst 0, 1, 0, 0, 0, 0, 0)] (by decide +kernel) (show m_sgl X _ _ _ _ _ = some (279, [some (.ref 8), w1, w2, some (.ref 54), w4, some (.int v5), some (.int v6), some (.int v7), some (.int v8), some (.int (m.1 15 (v6 - (1 : Int32)).toNatClampNeg)), some (.int (m.1 15 v6.toNatClampNeg))], [.int (0 : Int32)], (SH, m.1, m.2)) from rfl) ?_
        exact ok_Texts_work_8_54_279 X d F _ hk54 _ _ _ _ _ _ _ _ _ _ _ _ _ h
    rcases m_ite h with ⟨c0, h⟩ | ⟨d7, h⟩
    · refine m_R_1 (by decide) (m_opb_of (ins := .tableswitch 221 (-21) (-11) #[202, 192, 182, 172, 155, 138, 121, 101, 81, 73, 58]) (len := 58) (tag := 0) (a := 0) (b := 0) (c := 0) (q := 0) (by decide +kernel)) (m_s_sw (by rw [c0]; decide) (by rw [c0]; rfl) (by decide) (t := 247) rfl) ?_
      refine m_R_sg (by decide) [(.iload 9, 2, 0, 9, 0, 0, 0)] (by decide +kernel) (show m_sgl X _ _ _ _ _ = some (249, [some (.ref 8), w1, w2, some (.ref 54), w4, some (.int v5), some (.int v6), some (.int v7), some (.int v8), some (.int (m.1 15 (v6 - (1 : Int32)).toNatClampNeg)), some (.int (m.1 15 v6.toNatClampNeg))], [.int (m.1 15 (v6 - (1 : Int32)).toNatClampNeg)], (SH, m.1, m.2)) from rfl) ?_
      rcases m_ite h with ⟨c132, h⟩ | ⟨c132, h⟩
      · refine m_R_1 (by decide) (m_opb_of (ins := .ifCond .eq 12) (len := 3) (tag := 0) (a := 261) (b := 0) (c := 0) (q := 0) (by decide +kernel)) (if_pos c132) ?_
        exact ok_Texts_work_8_54_261 X d F _ hk54 _ _ _ _ _ _ _ _ _ _ _ _ h
      · refine m_R_1 (by decide) (m_opb_of (ins := .ifCond .eq 12) (len := 3) (tag := 0) (a := 261) (b := 0) (c := 0) (q := 0) (by decide +kernel)) (if_neg c132) ?_
        refine m_R_sg (by decide) [(.iload 10, 2, 0, 10, 0, 0, 0)] (by decide +kernel) (show m_sgl X _ _ _ _ _ = some (254, [some (.ref 8), w1, w2, some (.ref 54), w4, some (.int v5), some (.int v6), some (.int v7), some (.int v8), some (.int (m.1 15 (v6 - (1 : Int32)).toNatClampNeg)), some (.int (m.1 15 v6.toNatClampNeg))], [.int (m.1 15 v6.toNatClampNeg)], (SH, m.1, m.2)) from rfl) ?_
        rcases m_ite h with ⟨c133, h⟩ | ⟨c133, h⟩
        · refine m_R_1 (by decide) (m_opb_of (ins := .ifCond .eq 7) (len := 3) (tag := 0) (a := 261) (b := 0) (c := 0) (q := 0) (by decide +kernel)) (if_pos c133) ?_
          exact ok_Texts_work_8_54_261 X d F _ hk54 _ _ _ _ _ _ _ _ _ _ _ _ h
        · refine m_R_1 (by decide) (m_opb_of (ins := .ifCond .eq 7) (len := 3) (tag := 0) (a := 261) (b := 0) (c := 0) (q := 0) (by decide +kernel)) (if_neg c133) ?_
          refine m_R_sg (by decide) [(.iconst 1, 1, 0, 1, 0, 0, 0), (.goto 4, 3, 0, 262, 0, 0, 0)] (by decide +kernel) (show m_sgl X _ _ _ _ _ = some (262, [some (.ref 8), w1, w2, some (.ref 54), w4, some (.int v5), some (.int v6), some (.int v7), some (.int v8), some (.int (m.1 15 (v6 - (1 : Int32)).toNatClampNeg)), some (.int (m.1 15 v6.toNatClampNeg))], [.int (1 : Int32)], (SH, m.1, m.2)) from rfl) ?_
          exact ok_Texts_work_8_54_262 X d F _ hk54 _ _ _ _ _ _ _ _ _ _ _ _ _ h
    rcases m_ite h with ⟨c0, h⟩ | ⟨d8, h⟩
    · refine m_R_1 (by decide) (m_opb_of (ins := .tableswitch 221 (-21) (-11) #[202, 192, 182, 172, 155, 138, 121, 101, 81, 73, 58]) (len := 58) (tag := 0) (a := 0) (b := 0) (c := 0) (q := 0) (by decide +kernel)) (m_s_sw (by rw [c0]; decide) (by rw [c0]; rfl) (by decide) (t := 227) rfl) ?_
      refine m_R_sg (by decide) [(.iload 9, 2, 0, 9, 0, 0, 0)] (by decide +kernel) (show m_sgl X _ _ _ _ _ = some (229, [some (.ref 8), w1, w2, some (.ref 54), w4, some (.int v5), some (.int v6), some (.int v7), some (.int v8), some (.int (m.1 15 (v6 - (1 : Int32)).toNatClampNeg)), some (.int (m.1 15 v6.toNatClampNeg))], [.int (m.1 15 (v6 - (1 : Int32)).toNatClampNeg)], (SH, m.1, m.2)) from rfl) ?_
      rcases m_ite h with ⟨c134, h⟩ | ⟨c134, h⟩
      · refine m_R_1 (by decide) (m_opb_of (ins := .ifCond .ne 8) (len := 3) (tag := 0) (a := 237) (b := 0) (c := 0) (q := 0) (by decide +kernel)) (if_pos c134) ?_
        refine m_R_sg (by decide) [(.iload 10, 2, 0, 10, 0, 0, 0)] (by decide +kernel) (show m_sgl X _ _ _ _ _ = some (234, [some (.ref 8), w1, w2, some (.ref 54), w4, some (.int v5), some (.int v6), some (.int v7), some (.int v8), some (.int (m.1 15 (v6 - (1 : Int32)).toNatClampNeg)), some (.int (m.1 15 v6.toNatClampNeg))], [.int (m.1 15 v6.toNatClampNeg)], (SH, m.1, m.2)) from rfl) ?_
        rcases m_ite h with ⟨c135, h⟩ | ⟨c135, h⟩
        · refine m_R_1 (by decide) (m_opb_of (ins := .ifCond .eq 7) (len := 3) (tag := 0) (a := 241) (b := 0) (c := 0) (q := 0) (by decide +kernel)) (if_pos c135) ?_
          refine m_R_sg (by decide) [(.iconst 0, 1, 0, 0, 0, 0, 0)] (by decide +kernel) (show m_sgl X _ _ _ _ _ = some (242, [some (.ref 8), w1, w2, some (.ref 54), w4, some (.int v5), some (.int v6), some (.int v7), some (.int v8), some (.int (m.1 15 (v6 - (1 : Int32)).toNatClampNeg)), some (.int (m.1 15 v6.toNatClampNeg))], [.int (0 : Int32)], (SH, m.1, m.2)) from rfl) ?_
          exact ok_Texts_work_8_54_242 X d F _ hk54 _ _ _ _ _ _ _ _ _ _ _ _ _ h
        · refine m_R_1 (by decide) (m_opb_of (ins := .ifCond .eq 7) (len := 3) (tag := 0) (a := 241) (b := 0) (c := 0) (q := 0) (by decide +kernel)) (if_neg c135) ?_
          exact ok_Texts_work_8_54_237 X d F _ hk54 _ _ _ _ _ _ _ _ _ _ _ _ h
      · refine m_R_1 (by decide) (m_opb_of (ins := .ifCond .ne 8) (len := 3) (tag := 0) (a := 237) (b := 0) (c := 0) (q := 0) (by decide +kernel)) (if_neg c134) ?_
        exact ok_Texts_work_8_54_237 X d F _ hk54 _ _ _ _ _ _ _ _ _ _ _ _ h
    rcases m_ite h with ⟨c0, h⟩ | ⟨d9, h⟩
    · refine m_R_1 (by decide) (m_opb_of (ins := .tableswitch 221 (-21) (-11) #[202, 192, 182, 172, 155, 138, 121, 101, 81, 73, 58]) (len := 58) (tag := 0) (a := 0) (b := 0) (c := 0) (q := 0) (by decide +kernel)) (m_s_sw (by rw [c0]; decide) (by rw [c0]; rfl) (by decide) (t := 219) rfl) ?_
      refine m_R_sg (by decide) [(.iload 9, 2, 0, 9, 0, 0, 0), (.ineg, 1, 0, 0, 0, 0, 0), (.istore 9, 2, 0, 9, 0, 0, 0), (.goto 159, 3, 0, 383, 0, 0, 0)] (by decide +kernel) (show m_sgl X _ _ _ _ _ = some (383, [some (.ref 8), w1, w2, some (.ref 54), w4, some (.int v5), some (.int v6), some (.int v7), some (.int v8), some (.int (-(m.1 15 (v6 - (1 : Int32)).toNatClampNeg))), some (.int (m.1 15 v6.toNatClampNeg))], [], (SH, m.1, m.2)) from rfl) ?_
      exact ok_Texts_work_8_54_383 X d F _ hk54 _ _ _ _ _ _ _ _ _ _ _ _ h
    rcases m_ite h with ⟨c0, h⟩ | ⟨d10, h⟩
    · refine m_R_1 (by decide) (m_opb_of (ins := .tableswitch 221 (-21) (-11) #[202, 192, 182, 172, 155, 138, 121, 101, 81, 73, 58]) (len := 58) (tag := 0) (a := 0) (b := 0) (c := 0) (q := 0) (by decide +kernel)) (m_s_sw (by rw [c0]; decide) (by rw [c0]; rfl) (by decide) (t := 204) rfl) ?_
      refine m_R_sg (by decide) [(.iload 9, 2, 0, 9, 0, 0, 0)] (by decide +kernel) (show m_sgl X _ _ _ _ _ = some (206, [some (.ref 8), w1, w2, some (.ref 54), w4, some (.int v5), some (.int v6), some (.int v7), some (.int v8), some (.int (m.1 15 (v6 - (1 : Int32)).toNatClampNeg)), some (.int (m.1 15 v6.toNatClampNeg))], [.int (m.1 15 (v6 - (1 : Int32)).toNatClampNeg)], (SH, m.1, m.2)) from rfl) ?_
      rcases m_ite h with ⟨c136, h⟩ | ⟨c136, h⟩
      · refine m_R_1 (by decide) (m_opb_of (ins := .ifCond .ne 7) (len := 3) (tag := 0) (a := 213) (b := 0) (c := 0) (q := 0) (by decide +kernel)) (if_pos c136) ?_
        refine m_R_sg (by decide) [(.iconst 1, 1, 0, 1, 0, 0, 0), (.goto 4, 3, 0, 214, 0, 0, 0)] (by decide +kernel) (show m_sgl X _ _ _ _ _ = some (214, [some (.ref 8), w1, w2, some (.ref 54), w4, some (.int v5), some (.int v6), some (.int v7), some (.int v8), some (.int (m.1 15 (v6 - (1 : Int32)).toNatClampNeg)), some (.int (m.1 15 v6.toNatClampNeg))], [.int (1 : Int32)], (SH, m.1, m.2)) from rfl) ?_
        exact ok_Texts_work_8_54_214 X d F _ hk54 _ _ _ _ _ _ _ _ _ _ _ _ _ h
      · refine m_R_1 (by decide) (m_opb_of (ins := .ifCond .ne 7) (len := 3) (tag := 0) (a := 213) (b := 0) (c := 0) (q := 0) (by decide +kernel)) (if_neg c136) ?_
        refine m_R_sg (by decide) [(.iconst 0, 1, 0, 0, 0, 0, 0)] (by decide +kernel) (show m_sgl X _ _ _ _ _ = some (214, [some (.ref 8), w1, w2, some (.ref 54), w4, some (.int v5), some (.int v6), some (.int v7), some (.int v8), some (.int (m.1 15 (v6 - (1 : Int32)).toNatClampNeg)), some (.int (m.1 15 v6.toNatClampNeg))], [.int (0 : Int32)], (SH, m.1, m.2)) from rfl) ?_
        exact ok_Texts_work_8_54_214 X d F _ hk54 _ _ _ _ _ _ _ _ _ _ _ _ _ h
    refine m_R_1 (by decide) (m_opb_of (ins := .tableswitch 221 (-21) (-11) #[202, 192, 182, 172, 155, 138, 121, 101, 81, 73, 58]) (len := 58) (tag := 0) (a := 0) (b := 0) (c := 0) (q := 0) (by decide +kernel)) (m_s_swd (m_swx 11 (fun j hj => match j, hj with | 0, _ => fun e => d0 (e.trans (by decide)) | 1, _ => fun e => d1 (e.trans (by decide)) | 2, _ => fun e => d2 (e.trans (by decide)) | 3, _ => fun e => d3 (e.trans (by decide)) | 4, _ => fun e => d4 (e.trans (by decide)) | 5, _ => fun e => d5 (e.trans (by decide)) | 6, _ => fun e => d6 (e.trans (by decide)) | 7, _ => fun e => d7 (e.trans (by decide)) | 8, _ => fun e => d8 (e.trans (by decide)) | 9, _ => fun e => d9 (e.trans (by decide)) | 10, _ => fun e => d10 (e.trans (by decide)) | j + 11, hj => absurd hj (by omega))) (by decide) (t := 367) rfl) ?_
    refine m_R_sg (by decide) [(.iload 10, 2, 0, 10, 0, 0, 0)] (by decide +kernel) (show m_sgl X _ _ _ _ _ = some (369, [some (.ref 8), w1, w2, some (.ref 54), w4, some (.int v5), some (.int v6), some (.int v7), some (.int v8), some (.int (m.1 15 (v6 - (1 : Int32)).toNatClampNeg)), some (.int (m.1 15 v6.toNatClampNeg))], [.int (m.1 15 v6.toNatClampNeg)], (SH, m.1, m.2)) from rfl) ?_
    rcases m_ite h with ⟨c137, h⟩ | ⟨c137, h⟩
    · refine m_R_1 (by decide) (m_opb_of (ins := .ifCond .ne 7) (len := 3) (tag := 0) (a := 376) (b := 0) (c := 0) (q := 0) (by decide +kernel)) (if_pos c137) ?_
      refine m_R_sg (by decide) [(.iconst 0, 1, 0, 0, 0, 0, 0), (.goto 8, 3, 0, 381, 0, 0, 0)] (by decide +kernel) (show m_sgl X _ _ _ _ _ = some (381, [some (.ref 8), w1, w2, some (.ref 54), w4, some (.int v5), some (.int v6), some (.int v7), some (.int v8), some (.int (m.1 15 (v6 - (1 : Int32)).toNatClampNeg)), some (.int (m.1 15 v6.toNatClampNeg))], [.int (0 : Int32)], (SH, m.1, m.2)) from rfl) ?_
      exact ok_Texts_work_8_54_381 X d F _ hk54 _ _ _ _ _ _ _ _ _ _ _ _ _ h
    · refine m_R_1 (by decide) (m_opb_of (ins := .ifCond .ne 7) (len := 3) (tag := 0) (a := 376) (b := 0) (c := 0) (q := 0) (by decide +kernel)) (if_neg c137) ?_
      refine m_R_sg (by decide) [(.iload 9, 2, 0, 9, 0, 0, 0), (.iload 10, 2, 0, 10, 0, 0, 0)] (by decide +kernel) (show m_sgl X _ _ _ _ _ = some (380, [some (.ref 8), w1, w2, some (.ref 54), w4, some (.int v5), some (.int v6), some (.int v7), some (.int v8), some (.int (m.1 15 (v6 - (1 : Int32)).toNatClampNeg)), some (.int (m.1 15 v6.toNatClampNeg))], [.int (m.1 15 v6.toNatClampNeg), .int (m.1 15 (v6 - (1 : Int32)).toNatClampNeg)], (SH, m.1, m.2)) from rfl) ?_
      refine m_R_1 (by decide) (m_opb_of (ins := .irem) (len := 1) (tag := 0) (a := 0) (b := 0) (c := 0) (q := 0) (by decide +kernel)) (m_s_irem c137) ?_
      exact ok_Texts_work_8_54_381 X d F _ hk54 _ _ _ _ _ _ _ _ _ _ _ _ _ h
  · refine m_R_1 (by decide) (m_opb_of (ins := .if_icmp .ge 5) (len := 3) (tag := 0) (a := 124) (b := 0) (c := 0) (q := 0) (by decide +kernel)) (if_neg c125) ?_
    refine m_R_sg (by decide) [(.iconst 0, 1, 0, 0, 0, 0, 0)] (by decide +kernel) (show m_sgl X _ _ _ _ _ = some (123, [some (.ref 8), w1, w2, some (.ref 54), w4, some (.int v5), some (.int v6), some (.int v7), some (.int v8), w9, w10], [.int (0 : Int32)], (SH, m.1, m.2)) from rfl) ?_
    cases h
    exact m_R_iret (by decide) (m_opb_of (ins := .ireturn) (len := 1) (tag := 1) (a := 0) (b := 0) (c := 0) (q := 0) (by decide +kernel)) (Or.inl rfl)
def f_Texts_work_8_54_54 (F : Nat)   : Nat → Int32 → Int32 → Int32 → mM → Option (Int32 × mM)
  | 0, _, _, _, _ => none
  | n + 1, v5, v6, v7, m => (if v5 ≤ v7 then some ((m.1 15 (0 : Int32).toNatClampNeg), m) else (if v7 < 0 ∨ 1440 ≤ v7.toNatClampNeg then none else (if (m.1 14 v7.toNatClampNeg) ≤ (-11 : Int32) then (if (-13 : Int32) < (m.1 14 v7.toNatClampNeg) then f_Texts_work_8_54_116 F (f_Texts_work_8_54_54 F n) v5 v6 v7 (m.1 14 v7.toNatClampNeg) m else f_Texts_work_8_54_116 F (f_Texts_work_8_54_54 F n) v5 (v6 + (-1 : Int32)) v7 (m.1 14 v7.toNatClampNeg) m) else (if (m.1 14 v7.toNatClampNeg) < 0 then (if ((-1 : Int32) - (m.1 14 v7.toNatClampNeg)) < 0 ∨ 10 ≤ ((-1 : Int32) - (m.1 14 v7.toNatClampNeg)).toNatClampNeg then none else f_Texts_work_8_54_99 F (f_Texts_work_8_54_54 F n) v5 v6 v7 v6 (m.1 54 ((-1 : Int32) - (m.1 14 v7.toNatClampNeg)).toNatClampNeg) m) else f_Texts_work_8_54_99 F (f_Texts_work_8_54_54 F n) v5 v6 v7 v6 (m.1 14 v7.toNatClampNeg) m))))
theorem ok_Texts_work_8_54_54 (X : mX) (d F : Nat) : ∀ (n : Nat) (v5 : Int32) (v6 : Int32) (v7 : Int32) (w1 : Option Value) (w2 : Option Value) (w4 : Option Value) (w8 : Option Value) (w9 : Option Value) (w10 : Option Value) (m : mM) (r : Int32) (m' : mM), f_Texts_work_8_54_54 F n v5 v6 v7 m = some (r, m') → m_R X (d + 0) 47 54 [some (.ref 8), w1, w2, some (.ref 54), w4, some (.int v5), some (.int v6), some (.int v7), w8, w9, w10] [] (SH, m) (some (.int r), (SH, m')) := by
  intro n
  induction n with
  | zero => intro v5 v6 v7 w1 w2 w4 w8 w9 w10 m r m' h; cases h
  | succ n ih =>
    intro v5 v6 v7 w1 w2 w4 w8 w9 w10 m r m' h
    simp only [f_Texts_work_8_54_54] at h
    refine m_R_sg (by decide) [(.iload 7, 2, 0, 7, 0, 0, 0), (.iload 5, 2, 0, 5, 0, 0, 0)] (by decide +kernel) (show m_sgl X _ _ _ _ _ = some (58, [some (.ref 8), w1, w2, some (.ref 54), w4, some (.int v5), some (.int v6), some (.int v7), w8, w9, w10], [.int v5, .int v7], (SH, m.1, m.2)) from rfl) ?_
    rcases m_ite h with ⟨c138, h⟩ | ⟨c138, h⟩
    · refine m_R_1 (by decide) (m_opb_of (ins := .if_icmp .ge 342) (len := 3) (tag := 0) (a := 400) (b := 0) (c := 0) (q := 0) (by decide +kernel)) (if_pos c138) ?_
      refine m_R_sg (by decide) [(.aload_n 0, 1, 0, 0, 0, 0, 0), (.getfield 30, 3, 0, 8, 6, 3, 203), (.iconst 0, 1, 0, 0, 0, 0, 0)] (by decide +kernel) (show m_sgl X _ _ _ _ _ = some (405, [some (.ref 8), w1, w2, some (.ref 54), w4, some (.int v5), some (.int v6), some (.int v7), w8, w9, w10], [.int (0 : Int32), .ref 15], (SH, m.1, m.2)) from rfl) ?_
      refine m_R_1 (by decide) (m_opb_of (ins := .iaload) (len := 1) (tag := 0) (a := 0) (b := 0) (c := 0) (q := 0) (by decide +kernel)) (m_s_iald sh_15 (by decide) (show ¬ ((0 : Int32) < 0 ∨ 121 ≤ (0 : Int32).toNatClampNeg) by decide)) ?_
      cases h
      exact m_R_iret (by decide) (m_opb_of (ins := .ireturn) (len := 1) (tag := 1) (a := 0) (b := 0) (c := 0) (q := 0) (by decide +kernel)) (Or.inl rfl)
    · refine m_R_1 (by decide) (m_opb_of (ins := .if_icmp .ge 342) (len := 3) (tag := 0) (a := 400) (b := 0) (c := 0) (q := 0) (by decide +kernel)) (if_neg c138) ?_
      refine m_R_sg (by decide) [(.aload_n 0, 1, 0, 0, 0, 0, 0), (.getfield 27, 3, 0, 8, 5, 3, 202), (.iload 7, 2, 0, 7, 0, 0, 0)] (by decide +kernel) (show m_sgl X _ _ _ _ _ = some (67, [some (.ref 8), w1, w2, some (.ref 54), w4, some (.int v5), some (.int v6), some (.int v7), w8, w9, w10], [.int v7, .ref 14], (SH, m.1, m.2)) from rfl) ?_
      obtain ⟨c139, h⟩ := m_ite_n h
      refine m_R_1 (by decide) (m_opb_of (ins := .iaload) (len := 1) (tag := 0) (a := 0) (b := 0) (c := 0) (q := 0) (by decide +kernel)) (m_s_iald sh_14 (by decide) c139) ?_
      refine m_R_sg (by decide) [(.istore 8, 2, 0, 8, 0, 0, 0), (.iload 8, 2, 0, 8, 0, 0, 0), (.bipush (-11), 2, 0, 11, 1, 0, 0)] (by decide +kernel) (show m_sgl X _ _ _ _ _ = some (74, [some (.ref 8), w1, w2, some (.ref 54), w4, some (.int v5), some (.int v6), some (.int v7), some (.int (m.1 14 v7.toNatClampNeg)), w9, w10], [.int (-11 : Int32), .int (m.1 14 v7.toNatClampNeg)], (SH, m.1, m.2)) from rfl) ?_
      rcases m_ite h with ⟨c140, h⟩ | ⟨c140, h⟩
      · refine m_R_1 (by decide) (m_opb_of (ins := .if_icmp .le 32) (len := 3) (tag := 0) (a := 106) (b := 0) (c := 0) (q := 0) (by decide +kernel)) (if_pos c140) ?_
        refine m_R_sg (by decide) [(.iload 8, 2, 0, 8, 0, 0, 0), (.bipush (-13), 2, 0, 13, 1, 0, 0)] (by decide +kernel) (show m_sgl X _ _ _ _ _ = some (110, [some (.ref 8), w1, w2, some (.ref 54), w4, some (.int v5), some (.int v6), some (.int v7), some (.int (m.1 14 v7.toNatClampNeg)), w9, w10], [.int (-13 : Int32), .int (m.1 14 v7.toNatClampNeg)], (SH, m.1, m.2)) from rfl) ?_
        rcases m_ite h with ⟨c141, h⟩ | ⟨c141, h⟩
        · refine m_R_1 (by decide) (m_opb_of (ins := .if_icmp .gt 6) (len := 3) (tag := 0) (a := 116) (b := 0) (c := 0) (q := 0) (by decide +kernel)) (if_pos c141) ?_
          exact ok_Texts_work_8_54_116 X d F _ (fun a0 a1 a2 a3 a4 a5 a6 a7 a8 m r m' h => ih a0 a1 a2 a3 a4 a5 a6 a7 a8 m r m' h) _ _ _ _ _ _ _ _ _ _ _ _ h
        · refine m_R_1 (by decide) (m_opb_of (ins := .if_icmp .gt 6) (len := 3) (tag := 0) (a := 116) (b := 0) (c := 0) (q := 0) (by decide +kernel)) (if_neg c141) ?_
          refine m_R_sg (by decide) [(.iinc 6 (-1), 3, 0, 6, 1, 1, 0)] (by decide +kernel) (show m_sgl X _ _ _ _ _ = some (116, [some (.ref 8), w1, w2, some (.ref 54), w4, some (.int v5), some (.int (v6 + (-1 : Int32))), some (.int v7), some (.int (m.1 14 v7.toNatClampNeg)), w9, w10], [], (SH, m.1, m.2)) from rfl) ?_
          exact ok_Texts_work_8_54_116 X d F _ (fun a0 a1 a2 a3 a4 a5 a6 a7 a8 m r m' h => ih a0 a1 a2 a3 a4 a5 a6 a7 a8 m r m' h) _ _ _ _ _ _ _ _ _ _ _ _ h
      · refine m_R_1 (by decide) (m_opb_of (ins := .if_icmp .le 32) (len := 3) (tag := 0) (a := 106) (b := 0) (c := 0) (q := 0) (by decide +kernel)) (if_neg c140) ?_
        refine m_R_sg (by decide) [(.aload_n 0, 1, 0, 0, 0, 0, 0), (.getfield 30, 3, 0, 8, 6, 3, 203), (.iload 6, 2, 0, 6, 0, 0, 0), (.iload 8, 2, 0, 8, 0, 0, 0)] (by decide +kernel) (show m_sgl X _ _ _ _ _ = some (85, [some (.ref 8), w1, w2, some (.ref 54), w4, some (.int v5), some (.int v6), some (.int v7), some (.int (m.1 14 v7.toNatClampNeg)), w9, w10], [.int (m.1 14 v7.toNatClampNeg), .int v6, .ref 15], (SH, m.1, m.2)) from rfl) ?_
        rcases m_ite h with ⟨c142, h⟩ | ⟨c142, h⟩
        · refine m_R_1 (by decide) (m_opb_of (ins := .ifCond .lt 8) (len := 3) (tag := 0) (a := 93) (b := 0) (c := 0) (q := 0) (by decide +kernel)) (if_pos c142) ?_
          refine m_R_sg (by decide) [(.aload_n 3, 1, 0, 3, 0, 0, 0), (.iconst (-1), 1, 0, 1, 1, 0, 0), (.iload 8, 2, 0, 8, 0, 0, 0), (.isub, 1, 0, 0, 0, 0, 0)] (by decide +kernel) (show m_sgl X _ _ _ _ _ = some (98, [some (.ref 8), w1, w2, some (.ref 54), w4, some (.int v5), some (.int v6), some (.int v7), some (.int (m.1 14 v7.toNatClampNeg)), w9, w10], [.int ((-1 : Int32) - (m.1 14 v7.toNatClampNeg)), .ref 54, .int v6, .ref 15], (SH, m.1, m.2)) from rfl) ?_
          obtain ⟨c143, h⟩ := m_ite_n h
          refine m_R_1 (by decide) (m_opb_of (ins := .iaload) (len := 1) (tag := 0) (a := 0) (b := 0) (c := 0) (q := 0) (by decide +kernel)) (m_s_iald sh_54 (by decide) c143) ?_
          exact ok_Texts_work_8_54_99 X d F _ (fun a0 a1 a2 a3 a4 a5 a6 a7 a8 m r m' h => ih a0 a1 a2 a3 a4 a5 a6 a7 a8 m r m' h) _ _ _ _ _ _ _ _ _ _ _ _ _ _ h
        · refine m_R_1 (by decide) (m_opb_of (ins := .ifCond .lt 8) (len := 3) (tag := 0) (a := 93) (b := 0) (c := 0) (q := 0) (by decide +kernel)) (if_neg c142) ?_
          refine m_R_sg (by decide) [(.iload 8, 2, 0, 8, 0, 0, 0), (.goto 9, 3, 0, 99, 0, 0, 0)] (by decide +kernel) (show m_sgl X _ _ _ _ _ = some (99, [some (.ref 8), w1, w2, some (.ref 54), w4, some (.int v5), some (.int v6), some (.int v7), some (.int (m.1 14 v7.toNatClampNeg)), w9, w10], [.int (m.1 14 v7.toNatClampNeg), .int v6, .ref 15], (SH, m.1, m.2)) from rfl) ?_
          exact ok_Texts_work_8_54_99 X d F _ (fun a0 a1 a2 a3 a4 a5 a6 a7 a8 m r m' h => ih a0 a1 a2 a3 a4 a5 a6 a7 a8 m r m' h) _ _ _ _ _ _ _ _ _ _ _ _ _ _ h
def f_Texts_work_8_54_44 (F : Nat)   (v4 : Int32) (s0 : Int32) (s1 : Int32) (m : mM) : Option (Int32 × mM) := f_Texts_work_8_54_54 F F (s0 + s1) (0 : Int32) v4 m
theorem ok_Texts_work_8_54_44 (X : mX) (d F : Nat) : ∀ (v4 : Int32) (s0 : Int32) (s1 : Int32) (w1 : Option Value) (w2 : Option Value) (w5 : Option Value) (w6 : Option Value) (w7 : Option Value) (w8 : Option Value) (w9 : Option Value) (w10 : Option Value) (m : mM) (r : Int32) (m' : mM), f_Texts_work_8_54_44 F v4 s0 s1 m = some (r, m') → m_R X (d + 0) 47 44 [some (.ref 8), w1, w2, some (.ref 54), some (.int v4), w5, w6, w7, w8, w9, w10] [.int s1, .int s0] (SH, m) (some (.int r), (SH, m')) := by
  intro v4 s0 s1 w1 w2 w5 w6 w7 w8 w9 w10 m r m' h
  unfold f_Texts_work_8_54_44 at h
  refine m_R_sg (by decide) [(.iadd, 1, 0, 0, 0, 0, 0), (.istore 5, 2, 0, 5, 0, 0, 0), (.iconst 0, 1, 0, 0, 0, 0, 0), (.istore 6, 2, 0, 6, 0, 0, 0), (.iload 4, 2, 0, 4, 0, 0, 0), (.istore 7, 2, 0, 7, 0, 0, 0)] (by decide +kernel) (show m_sgl X _ _ _ _ _ = some (54, [some (.ref 8), w1, w2, some (.ref 54), some (.int v4), some (.int (s0 + s1)), some (.int (0 : Int32)), some (.int v4), w8, w9, w10], [], (SH, m.1, m.2)) from rfl) ?_
  exact ok_Texts_work_8_54_54 X d F F _ _ _ _ _ _ _ _ _ _ _ _ h
def f_Texts_work_8_54_18 (F : Nat)   (v1 : Int32) (v2 : Int32) (s0 : Int32) (s1 : Int32) (m : mM) : Option (Int32 × mM) := (if v2 = 0 then (if v1 < 0 ∨ 12 ≤ v1.toNatClampNeg then none else f_Texts_work_8_54_44 F (s0 + s1) (v1 * (120 : Int32)) (m.1 12 v1.toNatClampNeg) m) else (if v1 < 0 ∨ 12 ≤ v1.toNatClampNeg then none else f_Texts_work_8_54_44 F (s0 + s1) (v1 * (120 : Int32)) (m.1 13 v1.toNatClampNeg) m))
theorem ok_Texts_work_8_54_18 (X : mX) (d F : Nat) : ∀ (v1 : Int32) (v2 : Int32) (s0 : Int32) (s1 : Int32) (w4 : Option Value) (w5 : Option Value) (w6 : Option Value) (w7 : Option Value) (w8 : Option Value) (w9 : Option Value) (w10 : Option Value) (m : mM) (r : Int32) (m' : mM), f_Texts_work_8_54_18 F v1 v2 s0 s1 m = some (r, m') → m_R X (d + 0) 47 18 [some (.ref 8), some (.int v1), some (.int v2), some (.ref 54), w4, w5, w6, w7, w8, w9, w10] [.int s1, .int s0] (SH, m) (some (.int r), (SH, m')) := by
  intro v1 v2 s0 s1 w4 w5 w6 w7 w8 w9 w10 m r m' h
  unfold f_Texts_work_8_54_18 at h
  refine m_R_sg (by decide) [(.iadd, 1, 0, 0, 0, 0, 0), (.istore 4, 2, 0, 4, 0, 0, 0), (.iload_n 1, 1, 0, 1, 0, 0, 0), (.bipush 120, 2, 0, 120, 0, 0, 0), (.imul, 1, 0, 0, 0, 0, 0), (.iload_n 2, 1, 0, 2, 0, 0, 0)] (by decide +kernel) (show m_sgl X _ _ _ _ _ = some (26, [some (.ref 8), some (.int v1), some (.int v2), some (.ref 54), some (.int (s0 + s1)), w5, w6, w7, w8, w9, w10], [.int v2, .int (v1 * (120 : Int32))], (SH, m.1, m.2)) from rfl) ?_
  rcases m_ite h with ⟨c144, h⟩ | ⟨c144, h⟩
  · refine m_R_1 (by decide) (m_opb_of (ins := .ifCond .eq 12) (len := 3) (tag := 0) (a := 38) (b := 0) (c := 0) (q := 0) (by decide +kernel)) (if_pos c144) ?_
    refine m_R_sg (by decide) [(.aload_n 0, 1, 0, 0, 0, 0, 0), (.getfield 21, 3, 0, 8, 3, 3, 200), (.iload_n 1, 1, 0, 1, 0, 0, 0)] (by decide +kernel) (show m_sgl X _ _ _ _ _ = some (43, [some (.ref 8), some (.int v1), some (.int v2), some (.ref 54), some (.int (s0 + s1)), w5, w6, w7, w8, w9, w10], [.int v1, .ref 12, .int (v1 * (120 : Int32))], (SH, m.1, m.2)) from rfl) ?_
    obtain ⟨c145, h⟩ := m_ite_n h
    refine m_R_1 (by decide) (m_opb_of (ins := .iaload) (len := 1) (tag := 0) (a := 0) (b := 0) (c := 0) (q := 0) (by decide +kernel)) (m_s_iald sh_12 (by decide) c145) ?_
    exact ok_Texts_work_8_54_44 X d F _ _ _ _ _ _ _ _ _ _ _ _ _ _ h
  · refine m_R_1 (by decide) (m_opb_of (ins := .ifCond .eq 12) (len := 3) (tag := 0) (a := 38) (b := 0) (c := 0) (q := 0) (by decide +kernel)) (if_neg c144) ?_
    refine m_R_sg (by decide) [(.aload_n 0, 1, 0, 0, 0, 0, 0), (.getfield 24, 3, 0, 8, 4, 3, 201), (.iload_n 1, 1, 0, 1, 0, 0, 0)] (by decide +kernel) (show m_sgl X _ _ _ _ _ = some (34, [some (.ref 8), some (.int v1), some (.int v2), some (.ref 54), some (.int (s0 + s1)), w5, w6, w7, w8, w9, w10], [.int v1, .ref 13, .int (v1 * (120 : Int32))], (SH, m.1, m.2)) from rfl) ?_
    obtain ⟨c146, h⟩ := m_ite_n h
    refine m_R_1 (by decide) (m_opb_of (ins := .iaload) (len := 1) (tag := 0) (a := 0) (b := 0) (c := 0) (q := 0) (by decide +kernel)) (m_s_iald sh_13 (by decide) c146) ?_
    refine m_R_sg (by decide) [(.goto 9, 3, 0, 44, 0, 0, 0)] (by decide +kernel) (show m_sgl X _ _ _ _ _ = some (44, [some (.ref 8), some (.int v1), some (.int v2), some (.ref 54), some (.int (s0 + s1)), w5, w6, w7, w8, w9, w10], [.int (m.1 13 v1.toNatClampNeg), .int (v1 * (120 : Int32))], (SH, m.1, m.2)) from rfl) ?_
    exact ok_Texts_work_8_54_44 X d F _ _ _ _ _ _ _ _ _ _ _ _ _ _ h
def f_Texts_work_8_54 (F : Nat)   (v1 : Int32) (v2 : Int32) (m : mM) : Option (Int32 × mM) := (if v2 = 0 then f_Texts_work_8_54_18 F v1 v2 (v1 * (120 : Int32)) (0 : Int32) m else (if v1 < 0 ∨ 12 ≤ v1.toNatClampNeg then none else f_Texts_work_8_54_18 F v1 v2 (v1 * (120 : Int32)) (m.1 12 v1.toNatClampNeg) m))
theorem ok_Texts_work_8_54 (X : mX) (d F : Nat) : ∀ (v1 : Int32) (v2 : Int32)  (m : mM) (r : Int32) (m' : mM), f_Texts_work_8_54 F v1 v2 m = some (r, m') → m_R X (d + 0) 47 0 [some (.ref 8), some (.int v1), some (.int v2), some (.ref 54), none, none, none, none, none, none, none] [] (SH, m) (some (.int r), (SH, m')) := by
  intro v1 v2 m r m' h
  unfold f_Texts_work_8_54 at h
  refine m_R_sg (by decide) [(.iload_n 1, 1, 0, 1, 0, 0, 0), (.bipush 120, 2, 0, 120, 0, 0, 0), (.imul, 1, 0, 0, 0, 0, 0), (.iload_n 2, 1, 0, 2, 0, 0, 0)] (by decide +kernel) (show m_sgl X _ _ _ _ _ = some (5, [some (.ref 8), some (.int v1), some (.int v2), some (.ref 54), none, none, none, none, none, none, none], [.int v2, .int (v1 * (120 : Int32))], (SH, m.1, m.2)) from rfl) ?_
  rcases m_ite h with ⟨c147, h⟩ | ⟨c147, h⟩
  · refine m_R_1 (by decide) (m_opb_of (ins := .ifCond .eq 12) (len := 3) (tag := 0) (a := 17) (b := 0) (c := 0) (q := 0) (by decide +kernel)) (if_pos c147) ?_
    refine m_R_sg (by decide) [(.iconst 0, 1, 0, 0, 0, 0, 0)] (by decide +kernel) (show m_sgl X _ _ _ _ _ = some (18, [some (.ref 8), some (.int v1), some (.int v2), some (.ref 54), none, none, none, none, none, none, none], [.int (0 : Int32), .int (v1 * (120 : Int32))], (SH, m.1, m.2)) from rfl) ?_
    exact ok_Texts_work_8_54_18 X d F _ _ _ _ _ _ _ _ _ _ _ _ _ _ h
  · refine m_R_1 (by decide) (m_opb_of (ins := .ifCond .eq 12) (len := 3) (tag := 0) (a := 17) (b := 0) (c := 0) (q := 0) (by decide +kernel)) (if_neg c147) ?_
    refine m_R_sg (by decide) [(.aload_n 0, 1, 0, 0, 0, 0, 0), (.getfield 21, 3, 0, 8, 3, 3, 200), (.iload_n 1, 1, 0, 1, 0, 0, 0)] (by decide +kernel) (show m_sgl X _ _ _ _ _ = some (13, [some (.ref 8), some (.int v1), some (.int v2), some (.ref 54), none, none, none, none, none, none, none], [.int v1, .ref 12, .int (v1 * (120 : Int32))], (SH, m.1, m.2)) from rfl) ?_
    obtain ⟨c148, h⟩ := m_ite_n h
    refine m_R_1 (by decide) (m_opb_of (ins := .iaload) (len := 1) (tag := 0) (a := 0) (b := 0) (c := 0) (q := 0) (by decide +kernel)) (m_s_iald sh_12 (by decide) c148) ?_
    refine m_R_sg (by decide) [(.goto 4, 3, 0, 18, 0, 0, 0)] (by decide +kernel) (show m_sgl X _ _ _ _ _ = some (18, [some (.ref 8), some (.int v1), some (.int v2), some (.ref 54), none, none, none, none, none, none, none], [.int (m.1 12 v1.toNatClampNeg), .int (v1 * (120 : Int32))], (SH, m.1, m.2)) from rfl) ?_
    exact ok_Texts_work_8_54_18 X d F _ _ _ _ _ _ _ _ _ _ _ _ _ _ h
def f_World_textInForce_54 (F : Nat)   (v2 : Int32) (m : mM) : Option (Int32 × mM) := some (v2, m)
theorem ok_World_textInForce_54 (X : mX) (d F : Nat) : ∀ (v2 : Int32) (w0 : Option Value) (w1 : Option Value) (m : mM) (r : Int32) (m' : mM), f_World_textInForce_54 F v2 m = some (r, m') → m_R X (d + 1) 44 54 [w0, w1, some (.int v2)] [] (SH, m) (some (.int r), (SH, m')) := by
  intro v2 w0 w1 m r m' h
  unfold f_World_textInForce_54 at h
  refine m_R_sg (by decide) [(.iload_n 2, 1, 0, 2, 0, 0, 0)] (by decide +kernel) (show m_sgl X _ _ _ _ _ = some (55, [w0, w1, some (.int v2)], [.int v2], (SH, m.1, m.2)) from rfl) ?_
  cases h
  exact m_R_iret (by decide) (m_opb_of (ins := .ireturn) (len := 1) (tag := 1) (a := 0) (b := 0) (c := 0) (q := 0) (by decide +kernel)) (Or.inl rfl)
def f_World_textInForce_56 (F : Nat)  (k7 : Int32 → Int32 → mM → Option (Int32 × mM)) (v1 : Int32) (v2 : Int32) (m : mM) : Option (Int32 × mM) := k7 v1 (v2 + (-1 : Int32)) m
theorem ok_World_textInForce_56 (X : mX) (d F : Nat) (k7 : Int32 → Int32 → mM → Option (Int32 × mM)) (hk7 : ∀ (v1 : Int32) (v2 : Int32) (m : mM) (r : Int32) (m' : mM), k7 v1 v2 m = some (r, m') → m_R X (d + 1) 44 7 [some (.ref 16), some (.int v1), some (.int v2)] [] (SH, m) (some (.int r), (SH, m'))) : ∀ (v1 : Int32) (v2 : Int32)  (m : mM) (r : Int32) (m' : mM), f_World_textInForce_56 F k7 v1 v2 m = some (r, m') → m_R X (d + 1) 44 56 [some (.ref 16), some (.int v1), some (.int v2)] [] (SH, m) (some (.int r), (SH, m')) := by
  intro v1 v2 m r m' h
  unfold f_World_textInForce_56 at h
  refine m_R_sg (by decide) [(.iinc 2 (-1), 3, 0, 2, 1, 1, 0), (.goto (-52), 3, 0, 7, 0, 0, 0)] (by decide +kernel) (show m_sgl X _ _ _ _ _ = some (7, [some (.ref 16), some (.int v1), some (.int (v2 + (-1 : Int32)))], [], (SH, m.1, m.2)) from rfl) ?_
  exact hk7 _ _ _ _ _ h
def f_World_textInForce_7 (F : Nat)   : Nat → Int32 → Int32 → mM → Option (Int32 × mM)
  | 0, _, _, _ => none
  | n + 1, v1, v2, m => (if v2 < 0 then some ((-1 : Int32), m) else ((f_Texts_isInForce F v2 v1 (m.1 16 9) m).bind fun q1 => (if q1.1 = 0 then f_World_textInForce_56 F (f_World_textInForce_7 F n) v1 v2 q1.2 else ((f_Texts_hasIf F v2 q1.2).bind fun q2 => (if q2.1 = 0 then f_World_textInForce_54 F v2 q2.2 else ((f_Texts_work_8_54 F v2 (1 : Int32) q2.2).bind fun q3 => (if q3.1 = 0 then f_World_textInForce_56 F (f_World_textInForce_7 F n) v1 v2 q3.2 else f_World_textInForce_54 F v2 q3.2)))))))
theorem ok_World_textInForce_7 (X : mX) (d F : Nat) : ∀ (n : Nat) (v1 : Int32) (v2 : Int32)  (m : mM) (r : Int32) (m' : mM), f_World_textInForce_7 F n v1 v2 m = some (r, m') → m_R X (d + 1) 44 7 [some (.ref 16), some (.int v1), some (.int v2)] [] (SH, m) (some (.int r), (SH, m')) := by
  intro n
  induction n with
  | zero => intro v1 v2 m r m' h; cases h
  | succ n ih =>
    intro v1 v2 m r m' h
    simp only [f_World_textInForce_7] at h
    refine m_R_sg (by decide) [(.iload_n 2, 1, 0, 2, 0, 0, 0)] (by decide +kernel) (show m_sgl X _ _ _ _ _ = some (8, [some (.ref 16), some (.int v1), some (.int v2)], [.int v2], (SH, m.1, m.2)) from rfl) ?_
    rcases m_ite h with ⟨c149, h⟩ | ⟨c149, h⟩
    · refine m_R_1 (by decide) (m_opb_of (ins := .ifCond .lt 54) (len := 3) (tag := 0) (a := 62) (b := 0) (c := 0) (q := 0) (by decide +kernel)) (if_pos c149) ?_
      refine m_R_sg (by decide) [(.iconst (-1), 1, 0, 1, 1, 0, 0)] (by decide +kernel) (show m_sgl X _ _ _ _ _ = some (63, [some (.ref 16), some (.int v1), some (.int v2)], [.int (-1 : Int32)], (SH, m.1, m.2)) from rfl) ?_
      cases h
      exact m_R_iret (by decide) (m_opb_of (ins := .ireturn) (len := 1) (tag := 1) (a := 0) (b := 0) (c := 0) (q := 0) (by decide +kernel)) (Or.inl rfl)
    · refine m_R_1 (by decide) (m_opb_of (ins := .ifCond .lt 54) (len := 3) (tag := 0) (a := 62) (b := 0) (c := 0) (q := 0) (by decide +kernel)) (if_neg c149) ?_
      refine m_R_sg (by decide) [(.aload_n 0, 1, 0, 0, 0, 0, 0), (.getfield 63, 3, 0, 10, 7, 3, 517), (.iload_n 2, 1, 0, 2, 0, 0, 0), (.iload_n 1, 1, 0, 1, 0, 0, 0), (.aload_n 0, 1, 0, 0, 0, 0, 0), (.getfield 95, 3, 0, 10, 9, 0, 520)] (by decide +kernel) (show m_sgl X _ _ _ _ _ = some (21, [some (.ref 16), some (.int v1), some (.int v2)], [.int (m.1 16 9), .int v1, .int v2, .ref 8], (SH, m.1, m.2)) from rfl) ?_
      obtain ⟨q1, hc1, h⟩ := Option.bind_eq_some_iff.mp h
      refine m_R_cV (v := (some (.int q1.1))) (h1 := (SH, q1.2)) (rest := []) (lo' := [some (.ref 8), some (.int v2), some (.int v1), some (.int (m.1 16 9))]) (ml := 4) (k0 := 8) (by decide) (Or.inl rfl) (m_opb_of (ins := .invokevirtual 153) (len := 3) (tag := 5) (a := 45) (b := 3) (c := 0) (q := 796) (by decide +kernel)) (by decide +kernel) rfl (show m_isO 45 8 (SH, _) = true from m_isO_of (by decide +kernel)) (Nat.le_of_ble_eq_true rfl) rfl rfl (ok_Texts_isInForce X (d + 0) F _ _ _ _ _ _ hc1) ?_
      rcases m_ite h with ⟨c150, h⟩ | ⟨c150, h⟩
      · refine m_R_1 (by decide) (m_opb_of (ins := .ifCond .eq 32) (len := 3) (tag := 0) (a := 56) (b := 0) (c := 0) (q := 0) (by decide +kernel)) (if_pos c150) ?_
        exact ok_World_textInForce_56 X d F _ (fun a0 a1 m r m' h => ih a0 a1 m r m' h) _ _ _ _ _ h
      · refine m_R_1 (by decide) (m_opb_of (ins := .ifCond .eq 32) (len := 3) (tag := 0) (a := 56) (b := 0) (c := 0) (q := 0) (by decide +kernel)) (if_neg c150) ?_
        refine m_R_sg (by decide) [(.aload_n 0, 1, 0, 0, 0, 0, 0), (.getfield 63, 3, 0, 10, 7, 3, 517), (.iload_n 2, 1, 0, 2, 0, 0, 0)] (by decide +kernel) (show m_sgl X _ _ _ _ _ = some (32, [some (.ref 16), some (.int v1), some (.int v2)], [.int v2, .ref 8], (SH, q1.2.1, q1.2.2)) from rfl) ?_
        obtain ⟨q2, hc2, h⟩ := Option.bind_eq_some_iff.mp h
        refine m_R_cV (v := (some (.int q2.1))) (h1 := (SH, q2.2)) (rest := []) (lo' := [some (.ref 8), some (.int v2)]) (ml := 2) (k0 := 8) (by decide) (Or.inl rfl) (m_opb_of (ins := .invokevirtual 157) (len := 3) (tag := 5) (a := 46) (b := 1) (c := 0) (q := 800) (by decide +kernel)) (by decide +kernel) rfl (show m_isO 46 8 (SH, _) = true from m_isO_of (by decide +kernel)) (Nat.le_of_ble_eq_true rfl) rfl rfl (ok_Texts_hasIf X (d + 0) F _ _ _ _ hc2) ?_
        rcases m_ite h with ⟨c151, h⟩ | ⟨c151, h⟩
        · refine m_R_1 (by decide) (m_opb_of (ins := .ifCond .eq 19) (len := 3) (tag := 0) (a := 54) (b := 0) (c := 0) (q := 0) (by decide +kernel)) (if_pos c151) ?_
          exact ok_World_textInForce_54 X d F _ _ _ _ _ _ h
        · refine m_R_1 (by decide) (m_opb_of (ins := .ifCond .eq 19) (len := 3) (tag := 0) (a := 54) (b := 0) (c := 0) (q := 0) (by decide +kernel)) (if_neg c151) ?_
          refine m_R_sg (by decide) [(.aload_n 0, 1, 0, 0, 0, 0, 0), (.getfield 63, 3, 0, 10, 7, 3, 517), (.iload_n 2, 1, 0, 2, 0, 0, 0), (.iconst 1, 1, 0, 1, 0, 0, 0), (.aload_n 0, 1, 0, 0, 0, 0, 0), (.getfield 48, 3, 0, 10, 5, 3, 515)] (by decide +kernel) (show m_sgl X _ _ _ _ _ = some (48, [some (.ref 16), some (.int v1), some (.int v2)], [.ref 54, .int (1 : Int32), .int v2, .ref 8], (SH, q2.2.1, q2.2.2)) from rfl) ?_
          obtain ⟨q3, hc3, h⟩ := Option.bind_eq_some_iff.mp h
          refine m_R_cV (v := (some (.int q3.1))) (h1 := (SH, q3.2)) (rest := []) (lo' := [some (.ref 8), some (.int v2), some (.int (1 : Int32)), some (.ref 54), none, none, none, none, none, none, none]) (ml := 11) (k0 := 8) (by decide) (Or.inl rfl) (m_opb_of (ins := .invokevirtual 160) (len := 3) (tag := 5) (a := 47) (b := 3) (c := 0) (q := 804) (by decide +kernel)) (by decide +kernel) rfl (show m_isO 47 8 (SH, _) = true from m_isO_of (by decide +kernel)) (Nat.le_of_ble_eq_true rfl) rfl rfl (ok_Texts_work_8_54 X (d + 0) F _ _ _ _ _ hc3) ?_
          rcases m_ite h with ⟨c152, h⟩ | ⟨c152, h⟩
          · refine m_R_1 (by decide) (m_opb_of (ins := .ifCond .eq 5) (len := 3) (tag := 0) (a := 56) (b := 0) (c := 0) (q := 0) (by decide +kernel)) (if_pos c152) ?_
            exact ok_World_textInForce_56 X d F _ (fun a0 a1 m r m' h => ih a0 a1 m r m' h) _ _ _ _ _ h
          · refine m_R_1 (by decide) (m_opb_of (ins := .ifCond .eq 5) (len := 3) (tag := 0) (a := 56) (b := 0) (c := 0) (q := 0) (by decide +kernel)) (if_neg c152) ?_
            exact ok_World_textInForce_54 X d F _ _ _ _ _ _ h
def f_World_textInForce (F : Nat)   (v1 : Int32) (m : mM) : Option (Int32 × mM) := f_World_textInForce_7 F F v1 ((m.1 16 14) - (1 : Int32)) m
theorem ok_World_textInForce (X : mX) (d F : Nat) : ∀ (v1 : Int32)  (m : mM) (r : Int32) (m' : mM), f_World_textInForce F v1 m = some (r, m') → m_R X (d + 1) 44 0 [some (.ref 16), some (.int v1), none] [] (SH, m) (some (.int r), (SH, m')) := by
  intro v1 m r m' h
  unfold f_World_textInForce at h
  refine m_R_sg (by decide) [(.aload_n 0, 1, 0, 0, 0, 0, 0), (.getfield 104, 3, 0, 10, 14, 0, 530), (.iconst 1, 1, 0, 1, 0, 0, 0), (.isub, 1, 0, 0, 0, 0, 0), (.istore_n 2, 1, 0, 2, 0, 0, 0)] (by decide +kernel) (show m_sgl X _ _ _ _ _ = some (7, [some (.ref 16), some (.int v1), some (.int ((m.1 16 14) - (1 : Int32)))], [], (SH, m.1, m.2)) from rfl) ?_
  exact ok_World_textInForce_7 X d F F _ _ _ _ _ h
def f_World_lawSays (F : Nat)   (v1 : Int32) (v2 : Int32) (m : mM) : Option (Int32 × mM) := ((f_World_gatherFacts F v2 m).bind fun q1 => ((f_World_textInForce F v1 q1.2).bind fun q2 => (if q2.1 = (-1 : Int32) then (if v1 = (0 : Int32) then some ((q2.2.1 22 (0 : Int32).toNatClampNeg), q2.2) else (if v1 = (1 : Int32) then some ((q2.2.1 16 10), q2.2) else (if v1 = (2 : Int32) then some ((1 : Int32), q2.2) else (if v1 = (3 : Int32) then some ((0 : Int32), q2.2) else (if v1 = (4 : Int32) then some ((0 : Int32), q2.2) else (if v1 = (5 : Int32) then some ((63 : Int32), q2.2) else some ((0 : Int32), q2.2))))))) else ((f_Texts_work_8_54 F q2.1 (0 : Int32) q2.2).bind fun q3 => some (q3.1, q3.2)))))
theorem ok_World_lawSays (X : mX) (d F : Nat) : ∀ (v1 : Int32) (v2 : Int32)  (m : mM) (r : Int32) (m' : mM), f_World_lawSays F v1 v2 m = some (r, m') → m_R X (d + 3) 39 0 [some (.ref 16), some (.int v1), some (.int v2), none] [] (SH, m) (some (.int r), (SH, m')) := by
  intro v1 v2 m r m' h
  unfold f_World_lawSays at h
  refine m_R_sg (by decide) [(.aload_n 0, 1, 0, 0, 0, 0, 0), (.iload_n 2, 1, 0, 2, 0, 0, 0)] (by decide +kernel) (show m_sgl X _ _ _ _ _ = some (2, [some (.ref 16), some (.int v1), some (.int v2), none], [.int v2, .ref 16], (SH, m.1, m.2)) from rfl) ?_
  obtain ⟨q1, hc1, h⟩ := Option.bind_eq_some_iff.mp h
  refine m_R_cV (v := none) (h1 := (SH, q1.2)) (rest := []) (lo' := [some (.ref 16), some (.int v2), none]) (ml := 3) (k0 := 16) (by decide) (Or.inl rfl) (m_opb_of (ins := .invokevirtual 164) (len := 3) (tag := 5) (a := 40) (b := 1) (c := 0) (q := 775) (by decide +kernel)) (by decide +kernel) rfl (show m_isO 40 16 (SH, _) = true from m_isO_of (by decide +kernel)) (Nat.le_of_ble_eq_true rfl) rfl rfl (ok_World_gatherFacts X (d + 0) F _ _ _ _ hc1) ?_
  refine m_R_sg (by decide) [(.aload_n 0, 1, 0, 0, 0, 0, 0), (.iload_n 1, 1, 0, 1, 0, 0, 0)] (by decide +kernel) (show m_sgl X _ _ _ _ _ = some (7, [some (.ref 16), some (.int v1), some (.int v2), none], [.int v1, .ref 16], (SH, q1.2.1, q1.2.2)) from rfl) ?_
  obtain ⟨q2, hc2, h⟩ := Option.bind_eq_some_iff.mp h
  refine m_R_cV (v := (some (.int q2.1))) (h1 := (SH, q2.2)) (rest := []) (lo' := [some (.ref 16), some (.int v1), none]) (ml := 3) (k0 := 16) (by decide) (Or.inl rfl) (m_opb_of (ins := .invokevirtual 168) (len := 3) (tag := 5) (a := 44) (b := 1) (c := 0) (q := 792) (by decide +kernel)) (by decide +kernel) rfl (show m_isO 44 16 (SH, _) = true from m_isO_of (by decide +kernel)) (Nat.le_of_ble_eq_true rfl) rfl rfl (ok_World_textInForce X (d + 1) F _ _ _ _ hc2) ?_
  refine m_R_sg (by decide) [(.istore_n 3, 1, 0, 3, 0, 0, 0), (.iload_n 3, 1, 0, 3, 0, 0, 0), (.iconst (-1), 1, 0, 1, 1, 0, 0)] (by decide +kernel) (show m_sgl X _ _ _ _ _ = some (13, [some (.ref 16), some (.int v1), some (.int v2), some (.int q2.1)], [.int (-1 : Int32), .int q2.1], (SH, q2.2.1, q2.2.2)) from rfl) ?_
  rcases m_ite h with ⟨c153, h⟩ | ⟨c153, h⟩
  · refine m_R_1 (by decide) (m_opb_of (ins := .if_icmp .eq 17) (len := 3) (tag := 0) (a := 30) (b := 0) (c := 0) (q := 0) (by decide +kernel)) (if_pos c153) ?_
    refine m_R_sg (by decide) [(.iload_n 1, 1, 0, 1, 0, 0, 0)] (by decide +kernel) (show m_sgl X _ _ _ _ _ = some (31, [some (.ref 16), some (.int v1), some (.int v2), some (.int q2.1)], [.int v1], (SH, q2.2.1, q2.2.2)) from rfl) ?_
    rcases m_ite h with ⟨c0, h⟩ | ⟨d0, h⟩
    · refine m_R_1 (by decide) (m_opb_of (ins := .tableswitch 57 0 5 #[37, 47, 52, 57, 57, 54]) (len := 37) (tag := 0) (a := 0) (b := 0) (c := 0) (q := 0) (by decide +kernel)) (m_s_sw (by rw [c0]; decide) (by rw [c0]; rfl) (by decide) (t := 68) rfl) ?_
      refine m_R_sg (by decide) [(.aload_n 0, 1, 0, 0, 0, 0, 0), (.getfield 21, 3, 0, 10, 1, 3, 505), (.getfield 107, 3, 0, 1, 2, 3, 255), (.iconst 0, 1, 0, 0, 0, 0, 0)] (by decide +kernel) (show m_sgl X _ _ _ _ _ = some (76, [some (.ref 16), some (.int v1), some (.int v2), some (.int q2.1)], [.int (0 : Int32), .ref 22], (SH, q2.2.1, q2.2.2)) from rfl) ?_
      refine m_R_1 (by decide) (m_opb_of (ins := .iaload) (len := 1) (tag := 0) (a := 0) (b := 0) (c := 0) (q := 0) (by decide +kernel)) (m_s_iald sh_22 (by decide) (show ¬ ((0 : Int32) < 0 ∨ 16 ≤ (0 : Int32).toNatClampNeg) by decide)) ?_
      cases h
      exact m_R_iret (by decide) (m_opb_of (ins := .ireturn) (len := 1) (tag := 1) (a := 0) (b := 0) (c := 0) (q := 0) (by decide +kernel)) (Or.inl rfl)
    rcases m_ite h with ⟨c0, h⟩ | ⟨d1, h⟩
    · refine m_R_1 (by decide) (m_opb_of (ins := .tableswitch 57 0 5 #[37, 47, 52, 57, 57, 54]) (len := 37) (tag := 0) (a := 0) (b := 0) (c := 0) (q := 0) (by decide +kernel)) (m_s_sw (by rw [c0]; decide) (by rw [c0]; rfl) (by decide) (t := 78) rfl) ?_
      refine m_R_sg (by decide) [(.aload_n 0, 1, 0, 0, 0, 0, 0), (.getfield 52, 3, 0, 10, 10, 0, 522)] (by decide +kernel) (show m_sgl X _ _ _ _ _ = some (82, [some (.ref 16), some (.int v1), some (.int v2), some (.int q2.1)], [.int (q2.2.1 16 10)], (SH, q2.2.1, q2.2.2)) from rfl) ?_
      cases h
      exact m_R_iret (by decide) (m_opb_of (ins := .ireturn) (len := 1) (tag := 1) (a := 0) (b := 0) (c := 0) (q := 0) (by decide +kernel)) (Or.inl rfl)
    rcases m_ite h with ⟨c0, h⟩ | ⟨d2, h⟩
    · refine m_R_1 (by decide) (m_opb_of (ins := .tableswitch 57 0 5 #[37, 47, 52, 57, 57, 54]) (len := 37) (tag := 0) (a := 0) (b := 0) (c := 0) (q := 0) (by decide +kernel)) (m_s_sw (by rw [c0]; decide) (by rw [c0]; rfl) (by decide) (t := 83) rfl) ?_
      refine m_R_sg (by decide) [(.iconst 1, 1, 0, 1, 0, 0, 0)] (by decide +kernel) (show m_sgl X _ _ _ _ _ = some (84, [some (.ref 16), some (.int v1), some (.int v2), some (.int q2.1)], [.int (1 : Int32)], (SH, q2.2.1, q2.2.2)) from rfl) ?_
      cases h
      exact m_R_iret (by decide) (m_opb_of (ins := .ireturn) (len := 1) (tag := 1) (a := 0) (b := 0) (c := 0) (q := 0) (by decide +kernel)) (Or.inl rfl)
    rcases m_ite h with ⟨c0, h⟩ | ⟨d3, h⟩
    · refine m_R_1 (by decide) (m_opb_of (ins := .tableswitch 57 0 5 #[37, 47, 52, 57, 57, 54]) (len := 37) (tag := 0) (a := 0) (b := 0) (c := 0) (q := 0) (by decide +kernel)) (m_s_sw (by rw [c0]; decide) (by rw [c0]; rfl) (by decide) (t := 88) rfl) ?_
      refine m_R_sg (by decide) [(.iconst 0, 1, 0, 0, 0, 0, 0)] (by decide +kernel) (show m_sgl X _ _ _ _ _ = some (89, [some (.ref 16), some (.int v1), some (.int v2), some (.int q2.1)], [.int (0 : Int32)], (SH, q2.2.1, q2.2.2)) from rfl) ?_
      cases h
      exact m_R_iret (by decide) (m_opb_of (ins := .ireturn) (len := 1) (tag := 1) (a := 0) (b := 0) (c := 0) (q := 0) (by decide +kernel)) (Or.inl rfl)
    rcases m_ite h with ⟨c0, h⟩ | ⟨d4, h⟩
    · refine m_R_1 (by decide) (m_opb_of (ins := .tableswitch 57 0 5 #[37, 47, 52, 57, 57, 54]) (len := 37) (tag := 0) (a := 0) (b := 0) (c := 0) (q := 0) (by decide +kernel)) (m_s_sw (by rw [c0]; decide) (by rw [c0]; rfl) (by decide) (t := 88) rfl) ?_
      refine m_R_sg (by decide) [(.iconst 0, 1, 0, 0, 0, 0, 0)] (by decide +kernel) (show m_sgl X _ _ _ _ _ = some (89, [some (.ref 16), some (.int v1), some (.int v2), some (.int q2.1)], [.int (0 : Int32)], (SH, q2.2.1, q2.2.2)) from rfl) ?_
      cases h
      exact m_R_iret (by decide) (m_opb_of (ins := .ireturn) (len := 1) (tag := 1) (a := 0) (b := 0) (c := 0) (q := 0) (by decide +kernel)) (Or.inl rfl)
    rcases m_ite h with ⟨c0, h⟩ | ⟨d5, h⟩
    · refine m_R_1 (by decide) (m_opb_of (ins := .tableswitch 57 0 5 #[37, 47, 52, 57, 57, 54]) (len := 37) (tag := 0) (a := 0) (b := 0) (c := 0) (q := 0) (by decide +kernel)) (m_s_sw (by rw [c0]; decide) (by rw [c0]; rfl) (by decide) (t := 85) rfl) ?_
      refine m_R_sg (by decide) [(.bipush 63, 2, 0, 63, 0, 0, 0)] (by decide +kernel) (show m_sgl X _ _ _ _ _ = some (87, [some (.ref 16), some (.int v1), some (.int v2), some (.int q2.1)], [.int (63 : Int32)], (SH, q2.2.1, q2.2.2)) from rfl) ?_
      cases h
      exact m_R_iret (by decide) (m_opb_of (ins := .ireturn) (len := 1) (tag := 1) (a := 0) (b := 0) (c := 0) (q := 0) (by decide +kernel)) (Or.inl rfl)
    refine m_R_1 (by decide) (m_opb_of (ins := .tableswitch 57 0 5 #[37, 47, 52, 57, 57, 54]) (len := 37) (tag := 0) (a := 0) (b := 0) (c := 0) (q := 0) (by decide +kernel)) (m_s_swd (m_swx 6 (fun j hj => match j, hj with | 0, _ => fun e => d0 (e.trans (by decide)) | 1, _ => fun e => d1 (e.trans (by decide)) | 2, _ => fun e => d2 (e.trans (by decide)) | 3, _ => fun e => d3 (e.trans (by decide)) | 4, _ => fun e => d4 (e.trans (by decide)) | 5, _ => fun e => d5 (e.trans (by decide)) | j + 6, hj => absurd hj (by omega))) (by decide) (t := 88) rfl) ?_
    refine m_R_sg (by decide) [(.iconst 0, 1, 0, 0, 0, 0, 0)] (by decide +kernel) (show m_sgl X _ _ _ _ _ = some (89, [some (.ref 16), some (.int v1), some (.int v2), some (.int q2.1)], [.int (0 : Int32)], (SH, q2.2.1, q2.2.2)) from rfl) ?_
    cases h
    exact m_R_iret (by decide) (m_opb_of (ins := .ireturn) (len := 1) (tag := 1) (a := 0) (b := 0) (c := 0) (q := 0) (by decide +kernel)) (Or.inl rfl)
  · refine m_R_1 (by decide) (m_opb_of (ins := .if_icmp .eq 17) (len := 3) (tag := 0) (a := 30) (b := 0) (c := 0) (q := 0) (by decide +kernel)) (if_neg c153) ?_
    refine m_R_sg (by decide) [(.aload_n 0, 1, 0, 0, 0, 0, 0), (.getfield 63, 3, 0, 10, 7, 3, 517), (.iload_n 3, 1, 0, 3, 0, 0, 0), (.iconst 0, 1, 0, 0, 0, 0, 0), (.aload_n 0, 1, 0, 0, 0, 0, 0), (.getfield 48, 3, 0, 10, 5, 3, 515)] (by decide +kernel) (show m_sgl X _ _ _ _ _ = some (26, [some (.ref 16), some (.int v1), some (.int v2), some (.int q2.1)], [.ref 54, .int (0 : Int32), .int q2.1, .ref 8], (SH, q2.2.1, q2.2.2)) from rfl) ?_
    obtain ⟨q3, hc3, h⟩ := Option.bind_eq_some_iff.mp h
    refine m_R_cV (v := (some (.int q3.1))) (h1 := (SH, q3.2)) (rest := []) (lo' := [some (.ref 8), some (.int q2.1), some (.int (0 : Int32)), some (.ref 54), none, none, none, none, none, none, none]) (ml := 11) (k0 := 8) (by decide) (Or.inl rfl) (m_opb_of (ins := .invokevirtual 160) (len := 3) (tag := 5) (a := 47) (b := 3) (c := 0) (q := 804) (by decide +kernel)) (by decide +kernel) rfl (show m_isO 47 8 (SH, _) = true from m_isO_of (by decide +kernel)) (Nat.le_of_ble_eq_true rfl) rfl rfl (ok_Texts_work_8_54 X (d + 2) F _ _ _ _ _ hc3) ?_
    cases h
    exact m_R_iret (by decide) (m_opb_of (ins := .ireturn) (len := 1) (tag := 1) (a := 0) (b := 0) (c := 0) (q := 0) (by decide +kernel)) (Or.inl rfl)
def f_World_bankCan_78 (F : Nat)   (s0 : Int32) (m : mM) : Option (Int32 × mM) := (if s0 = 0 ∨ s0 = 1 then some (s0, m) else none)
theorem ok_World_bankCan_78 (X : mX) (d F : Nat) : ∀ (s0 : Int32) (w0 : Option Value) (w1 : Option Value) (w2 : Option Value) (m : mM) (r : Int32) (m' : mM), f_World_bankCan_78 F s0 m = some (r, m') → m_R X (d + 4) 36 78 [w0, w1, w2] [.int s0] (SH, m) (some (.int r), (SH, m')) := by
  intro s0 w0 w1 w2 m r m' h
  unfold f_World_bankCan_78 at h
  obtain ⟨c0, h⟩ := m_ite_p h
  cases h
  exact m_R_iret (by decide) (m_opb_of (ins := .ireturn) (len := 1) (tag := 1) (a := 1) (b := 0) (c := 0) (q := 0) (by decide +kernel)) (Or.inr c0)
def f_World_bankCan_73 (F : Nat)    (m : mM) : Option (Int32 × mM) := f_World_bankCan_78 F (1 : Int32) m
theorem ok_World_bankCan_73 (X : mX) (d F : Nat) : ∀  (w0 : Option Value) (w1 : Option Value) (w2 : Option Value) (m : mM) (r : Int32) (m' : mM), f_World_bankCan_73 F  m = some (r, m') → m_R X (d + 4) 36 73 [w0, w1, w2] [] (SH, m) (some (.int r), (SH, m')) := by
  intro w0 w1 w2 m r m' h
  unfold f_World_bankCan_73 at h
  refine m_R_sg (by decide) [(.iconst 1, 1, 0, 1, 0, 0, 0), (.goto 4, 3, 0, 78, 0, 0, 0)] (by decide +kernel) (show m_sgl X _ _ _ _ _ = some (78, [w0, w1, w2], [.int (1 : Int32)], (SH, m.1, m.2)) from rfl) ?_
  exact ok_World_bankCan_78 X d F _ _ _ _ _ _ _ h
def f_World_bankCan_77 (F : Nat)    (m : mM) : Option (Int32 × mM) := f_World_bankCan_78 F (0 : Int32) m
theorem ok_World_bankCan_77 (X : mX) (d F : Nat) : ∀  (w0 : Option Value) (w1 : Option Value) (w2 : Option Value) (m : mM) (r : Int32) (m' : mM), f_World_bankCan_77 F  m = some (r, m') → m_R X (d + 4) 36 77 [w0, w1, w2] [] (SH, m) (some (.int r), (SH, m')) := by
  intro w0 w1 w2 m r m' h
  unfold f_World_bankCan_77 at h
  refine m_R_sg (by decide) [(.iconst 0, 1, 0, 0, 0, 0, 0)] (by decide +kernel) (show m_sgl X _ _ _ _ _ = some (78, [w0, w1, w2], [.int (0 : Int32)], (SH, m.1, m.2)) from rfl) ?_
  exact ok_World_bankCan_78 X d F _ _ _ _ _ _ _ h
def f_World_bankCan (F : Nat)   (v1 : Int32) (m : mM) : Option (Int32 × mM) := (if (v1 - ((10 : Int32) * (v1 / (10 : Int32)))) ≤ (m.1 22 (0 : Int32).toNatClampNeg) then (if (v1 / (10 : Int32)) = 0 then some ((1 : Int32), m) else ((f_Notes_canIssue F (v1 / (10 : Int32)) m).bind fun q1 => (if q1.1 = 0 then f_World_bankCan_77 F q1.2 else ((f_World_lawSays F (6 : Int32) (-1 : Int32) q1.2).bind fun q2 => (if q2.1 = 0 then ((f_World_lawSays F (0 : Int32) (-1 : Int32) q2.2).bind fun q3 => (if q3.1 < ((10 : Int32) * ((q2.2.1 55 9) + (v1 / (10 : Int32)))) then f_World_bankCan_77 F q3.2 else f_World_bankCan_73 F q3.2)) else f_World_bankCan_73 F q2.2))))) else some ((0 : Int32), m))
theorem ok_World_bankCan (X : mX) (d F : Nat) : ∀ (v1 : Int32)  (m : mM) (r : Int32) (m' : mM), f_World_bankCan F v1 m = some (r, m') → m_R X (d + 4) 36 0 [some (.ref 16), some (.int v1), none] [] (SH, m) (some (.int r), (SH, m')) := by
  intro v1 m r m' h
  unfold f_World_bankCan at h
  refine m_R_sg (by decide) [(.iload_n 1, 1, 0, 1, 0, 0, 0), (.bipush 10, 2, 0, 10, 0, 0, 0)] (by decide +kernel) (show m_sgl X _ _ _ _ _ = some (3, [some (.ref 16), some (.int v1), none], [.int (10 : Int32), .int v1], (SH, m.1, m.2)) from rfl) ?_
  refine m_R_1 (by decide) (m_opb_of (ins := .idiv) (len := 1) (tag := 0) (a := 0) (b := 0) (c := 0) (q := 0) (by decide +kernel)) (m_s_idiv (by decide)) ?_
  refine m_R_sg (by decide) [(.istore_n 2, 1, 0, 2, 0, 0, 0), (.aload_n 0, 1, 0, 0, 0, 0, 0), (.getfield 21, 3, 0, 10, 1, 3, 505), (.getfield 107, 3, 0, 1, 2, 3, 255), (.iconst 0, 1, 0, 0, 0, 0, 0)] (by decide +kernel) (show m_sgl X _ _ _ _ _ = some (13, [some (.ref 16), some (.int v1), some (.int (v1 / (10 : Int32)))], [.int (0 : Int32), .ref 22], (SH, m.1, m.2)) from rfl) ?_
  refine m_R_1 (by decide) (m_opb_of (ins := .iaload) (len := 1) (tag := 0) (a := 0) (b := 0) (c := 0) (q := 0) (by decide +kernel)) (m_s_iald sh_22 (by decide) (show ¬ ((0 : Int32) < 0 ∨ 16 ≤ (0 : Int32).toNatClampNeg) by decide)) ?_
  refine m_R_sg (by decide) [(.iload_n 1, 1, 0, 1, 0, 0, 0), (.bipush 10, 2, 0, 10, 0, 0, 0), (.iload_n 2, 1, 0, 2, 0, 0, 0), (.imul, 1, 0, 0, 0, 0, 0), (.isub, 1, 0, 0, 0, 0, 0)] (by decide +kernel) (show m_sgl X _ _ _ _ _ = some (20, [some (.ref 16), some (.int v1), some (.int (v1 / (10 : Int32)))], [.int (v1 - ((10 : Int32) * (v1 / (10 : Int32)))), .int (m.1 22 (0 : Int32).toNatClampNeg)], (SH, m.1, m.2)) from rfl) ?_
  rcases m_ite h with ⟨c154, h⟩ | ⟨c154, h⟩
  · refine m_R_1 (by decide) (m_opb_of (ins := .if_icmp .ge 5) (len := 3) (tag := 0) (a := 25) (b := 0) (c := 0) (q := 0) (by decide +kernel)) (if_pos c154) ?_
    refine m_R_sg (by decide) [(.iload_n 2, 1, 0, 2, 0, 0, 0)] (by decide +kernel) (show m_sgl X _ _ _ _ _ = some (26, [some (.ref 16), some (.int v1), some (.int (v1 / (10 : Int32)))], [.int (v1 / (10 : Int32))], (SH, m.1, m.2)) from rfl) ?_
    rcases m_ite h with ⟨c155, h⟩ | ⟨c155, h⟩
    · refine m_R_1 (by decide) (m_opb_of (ins := .ifCond .ne 5) (len := 3) (tag := 0) (a := 31) (b := 0) (c := 0) (q := 0) (by decide +kernel)) (if_pos c155) ?_
      refine m_R_sg (by decide) [(.iconst 1, 1, 0, 1, 0, 0, 0)] (by decide +kernel) (show m_sgl X _ _ _ _ _ = some (30, [some (.ref 16), some (.int v1), some (.int (v1 / (10 : Int32)))], [.int (1 : Int32)], (SH, m.1, m.2)) from rfl) ?_
      cases h
      exact m_R_iret (by decide) (m_opb_of (ins := .ireturn) (len := 1) (tag := 1) (a := 1) (b := 0) (c := 0) (q := 0) (by decide +kernel)) (Or.inr (Or.inr rfl))
    · refine m_R_1 (by decide) (m_opb_of (ins := .ifCond .ne 5) (len := 3) (tag := 0) (a := 31) (b := 0) (c := 0) (q := 0) (by decide +kernel)) (if_neg c155) ?_
      refine m_R_sg (by decide) [(.aload_n 0, 1, 0, 0, 0, 0, 0), (.getfield 72, 3, 0, 10, 8, 3, 518), (.iload_n 2, 1, 0, 2, 0, 0, 0)] (by decide +kernel) (show m_sgl X _ _ _ _ _ = some (36, [some (.ref 16), some (.int v1), some (.int (v1 / (10 : Int32)))], [.int (v1 / (10 : Int32)), .ref 55], (SH, m.1, m.2)) from rfl) ?_
      obtain ⟨q1, hc1, h⟩ := Option.bind_eq_some_iff.mp h
      refine m_R_cV (v := (some (.int q1.1))) (h1 := (SH, q1.2)) (rest := []) (lo' := [some (.ref 55), some (.int (v1 / (10 : Int32))), none]) (ml := 3) (k0 := 55) (by decide) (Or.inl rfl) (m_opb_of (ins := .invokevirtual 183) (len := 3) (tag := 5) (a := 37) (b := 1) (c := 0) (q := 764) (by decide +kernel)) (by decide +kernel) rfl (show m_isO 37 55 (SH, _) = true from m_isO_of (by decide +kernel)) (Nat.le_of_ble_eq_true rfl) rfl rfl (ok_Notes_canIssue X (d + 2) F _ _ _ _ hc1) ?_
      rcases m_ite h with ⟨c156, h⟩ | ⟨c156, h⟩
      · refine m_R_1 (by decide) (m_opb_of (ins := .ifCond .eq 38) (len := 3) (tag := 0) (a := 77) (b := 0) (c := 0) (q := 0) (by decide +kernel)) (if_pos c156) ?_
        exact ok_World_bankCan_77 X d F _ _ _ _ _ _ h
      · refine m_R_1 (by decide) (m_opb_of (ins := .ifCond .eq 38) (len := 3) (tag := 0) (a := 77) (b := 0) (c := 0) (q := 0) (by decide +kernel)) (if_neg c156) ?_
        refine m_R_sg (by decide) [(.aload_n 0, 1, 0, 0, 0, 0, 0), (.bipush 6, 2, 0, 6, 0, 0, 0), (.iconst (-1), 1, 0, 1, 1, 0, 0)] (by decide +kernel) (show m_sgl X _ _ _ _ _ = some (46, [some (.ref 16), some (.int v1), some (.int (v1 / (10 : Int32)))], [.int (-1 : Int32), .int (6 : Int32), .ref 16], (SH, q1.2.1, q1.2.2)) from rfl) ?_
        obtain ⟨q2, hc2, h⟩ := Option.bind_eq_some_iff.mp h
        refine m_R_cV (v := (some (.int q2.1))) (h1 := (SH, q2.2)) (rest := []) (lo' := [some (.ref 16), some (.int (6 : Int32)), some (.int (-1 : Int32)), none]) (ml := 4) (k0 := 16) (by decide) (Or.inl rfl) (m_opb_of (ins := .invokevirtual 186) (len := 3) (tag := 5) (a := 39) (b := 2) (c := 0) (q := 771) (by decide +kernel)) (by decide +kernel) rfl (show m_isO 39 16 (SH, _) = true from m_isO_of (by decide +kernel)) (Nat.le_of_ble_eq_true rfl) rfl rfl (ok_World_lawSays X (d + 0) F _ _ _ _ _ hc2) ?_
        rcases m_ite h with ⟨c157, h⟩ | ⟨c157, h⟩
        · refine m_R_1 (by decide) (m_opb_of (ins := .ifCond .ne 24) (len := 3) (tag := 0) (a := 73) (b := 0) (c := 0) (q := 0) (by decide +kernel)) (if_pos c157) ?_
          refine m_R_sg (by decide) [(.bipush 10, 2, 0, 10, 0, 0, 0), (.aload_n 0, 1, 0, 0, 0, 0, 0), (.getfield 72, 3, 0, 10, 8, 3, 518), (.getfield 120, 3, 0, 3, 9, 0, 468), (.iload_n 2, 1, 0, 2, 0, 0, 0), (.iadd, 1, 0, 0, 0, 0, 0), (.imul, 1, 0, 0, 0, 0, 0), (.aload_n 0, 1, 0, 0, 0, 0, 0), (.iconst 0, 1, 0, 0, 0, 0, 0), (.iconst (-1), 1, 0, 1, 1, 0, 0)] (by decide +kernel) (show m_sgl X _ _ _ _ _ = some (67, [some (.ref 16), some (.int v1), some (.int (v1 / (10 : Int32)))], [.int (-1 : Int32), .int (0 : Int32), .ref 16, .int ((10 : Int32) * ((q2.2.1 55 9) + (v1 / (10 : Int32))))], (SH, q2.2.1, q2.2.2)) from rfl) ?_
          obtain ⟨q3, hc3, h⟩ := Option.bind_eq_some_iff.mp h
          refine m_R_cV (v := (some (.int q3.1))) (h1 := (SH, q3.2)) (rest := [.int ((10 : Int32) * ((q2.2.1 55 9) + (v1 / (10 : Int32))))]) (lo' := [some (.ref 16), some (.int (0 : Int32)), some (.int (-1 : Int32)), none]) (ml := 4) (k0 := 16) (by decide) (Or.inl rfl) (m_opb_of (ins := .invokevirtual 186) (len := 3) (tag := 5) (a := 39) (b := 2) (c := 0) (q := 771) (by decide +kernel)) (by decide +kernel) rfl (show m_isO 39 16 (SH, _) = true from m_isO_of (by decide +kernel)) (Nat.le_of_ble_eq_true rfl) rfl rfl (ok_World_lawSays X (d + 0) F _ _ _ _ _ hc3) ?_
          rcases m_ite h with ⟨c158, h⟩ | ⟨c158, h⟩
          · refine m_R_1 (by decide) (m_opb_of (ins := .if_icmp .gt 7) (len := 3) (tag := 0) (a := 77) (b := 0) (c := 0) (q := 0) (by decide +kernel)) (if_pos c158) ?_
            exact ok_World_bankCan_77 X d F _ _ _ _ _ _ h
          · refine m_R_1 (by decide) (m_opb_of (ins := .if_icmp .gt 7) (len := 3) (tag := 0) (a := 77) (b := 0) (c := 0) (q := 0) (by decide +kernel)) (if_neg c158) ?_
            exact ok_World_bankCan_73 X d F _ _ _ _ _ _ h
        · refine m_R_1 (by decide) (m_opb_of (ins := .ifCond .ne 24) (len := 3) (tag := 0) (a := 73) (b := 0) (c := 0) (q := 0) (by decide +kernel)) (if_neg c157) ?_
          exact ok_World_bankCan_73 X d F _ _ _ _ _ _ h
  · refine m_R_1 (by decide) (m_opb_of (ins := .if_icmp .ge 5) (len := 3) (tag := 0) (a := 25) (b := 0) (c := 0) (q := 0) (by decide +kernel)) (if_neg c154) ?_
    refine m_R_sg (by decide) [(.iconst 0, 1, 0, 0, 0, 0, 0)] (by decide +kernel) (show m_sgl X _ _ _ _ _ = some (24, [some (.ref 16), some (.int v1), some (.int (v1 / (10 : Int32)))], [.int (0 : Int32)], (SH, m.1, m.2)) from rfl) ?_
    cases h
    exact m_R_iret (by decide) (m_opb_of (ins := .ireturn) (len := 1) (tag := 1) (a := 1) (b := 0) (c := 0) (q := 0) (by decide +kernel)) (Or.inr (Or.inl rfl))
def f_Notes_goodOf_85 (F : Nat)  (k7 : Int32 → Int32 → Int32 → Int32 → mM → Option (Int32 × mM)) (v1 : Int32) (v2 : Int32) (v3 : Int32) (v4 : Int32) (m : mM) : Option (Int32 × mM) := k7 v1 v2 v3 (v4 + (1 : Int32)) m
theorem ok_Notes_goodOf_85 (X : mX) (d F : Nat) (k7 : Int32 → Int32 → Int32 → Int32 → mM → Option (Int32 × mM)) (hk7 : ∀ (v1 : Int32) (v2 : Int32) (v3 : Int32) (v4 : Int32) (w5 : Option Value) (w6 : Option Value) (m : mM) (r : Int32) (m' : mM), k7 v1 v2 v3 v4 m = some (r, m') → m_R X (d + 0) 49 7 [some (.ref 55), some (.int v1), some (.int v2), some (.int v3), some (.int v4), w5, w6] [] (SH, m) (some (.int r), (SH, m'))) : ∀ (v1 : Int32) (v2 : Int32) (v3 : Int32) (v4 : Int32) (w5 : Option Value) (w6 : Option Value) (m : mM) (r : Int32) (m' : mM), f_Notes_goodOf_85 F k7 v1 v2 v3 v4 m = some (r, m') → m_R X (d + 0) 49 85 [some (.ref 55), some (.int v1), some (.int v2), some (.int v3), some (.int v4), w5, w6] [] (SH, m) (some (.int r), (SH, m')) := by
  intro v1 v2 v3 v4 w5 w6 m r m' h
  unfold f_Notes_goodOf_85 at h
  refine m_R_sg (by decide) [(.iinc 4 1, 3, 0, 4, 1, 0, 0), (.goto (-81), 3, 0, 7, 0, 0, 0)] (by decide +kernel) (show m_sgl X _ _ _ _ _ = some (7, [some (.ref 55), some (.int v1), some (.int v2), some (.int v3), some (.int (v4 + (1 : Int32))), w5, w6], [], (SH, m.1, m.2)) from rfl) ?_
  exact hk7 _ _ _ _ _ _ _ _ _ h
def f_Notes_goodOf_80 (F : Nat)  (k7 : Int32 → Int32 → Int32 → Int32 → mM → Option (Int32 × mM)) (v1 : Int32) (v4 : Int32) (v6 : Int32) (s0 : Int32) (s1 : Int32) (m : mM) : Option (Int32 × mM) := f_Notes_goodOf_85 F k7 v1 (s0 + s1) v6 v4 m
theorem ok_Notes_goodOf_80 (X : mX) (d F : Nat) (k7 : Int32 → Int32 → Int32 → Int32 → mM → Option (Int32 × mM)) (hk7 : ∀ (v1 : Int32) (v2 : Int32) (v3 : Int32) (v4 : Int32) (w5 : Option Value) (w6 : Option Value) (m : mM) (r : Int32) (m' : mM), k7 v1 v2 v3 v4 m = some (r, m') → m_R X (d + 0) 49 7 [some (.ref 55), some (.int v1), some (.int v2), some (.int v3), some (.int v4), w5, w6] [] (SH, m) (some (.int r), (SH, m'))) : ∀ (v1 : Int32) (v4 : Int32) (v6 : Int32) (s0 : Int32) (s1 : Int32) (w2 : Option Value) (w3 : Option Value) (w5 : Option Value) (m : mM) (r : Int32) (m' : mM), f_Notes_goodOf_80 F k7 v1 v4 v6 s0 s1 m = some (r, m') → m_R X (d + 0) 49 80 [some (.ref 55), some (.int v1), w2, w3, some (.int v4), w5, some (.int v6)] [.int s1, .int s0] (SH, m) (some (.int r), (SH, m')) := by
  intro v1 v4 v6 s0 s1 w2 w3 w5 m r m' h
  unfold f_Notes_goodOf_80 at h
  refine m_R_sg (by decide) [(.iadd, 1, 0, 0, 0, 0, 0), (.istore_n 2, 1, 0, 2, 0, 0, 0), (.iload 6, 2, 0, 6, 0, 0, 0), (.istore_n 3, 1, 0, 3, 0, 0, 0)] (by decide +kernel) (show m_sgl X _ _ _ _ _ = some (85, [some (.ref 55), some (.int v1), some (.int (s0 + s1)), some (.int v6), some (.int v4), w5, some (.int v6)], [], (SH, m.1, m.2)) from rfl) ?_
  exact ok_Notes_goodOf_85 X d F _ hk7 _ _ _ _ _ _ _ _ _ h
def f_Notes_goodOf_79 (F : Nat)  (k7 : Int32 → Int32 → Int32 → Int32 → mM → Option (Int32 × mM)) (v1 : Int32) (v4 : Int32) (v6 : Int32) (s0 : Int32) (m : mM) : Option (Int32 × mM) := f_Notes_goodOf_80 F k7 v1 v4 v6 s0 (0 : Int32) m
theorem ok_Notes_goodOf_79 (X : mX) (d F : Nat) (k7 : Int32 → Int32 → Int32 → Int32 → mM → Option (Int32 × mM)) (hk7 : ∀ (v1 : Int32) (v2 : Int32) (v3 : Int32) (v4 : Int32) (w5 : Option Value) (w6 : Option Value) (m : mM) (r : Int32) (m' : mM), k7 v1 v2 v3 v4 m = some (r, m') → m_R X (d + 0) 49 7 [some (.ref 55), some (.int v1), some (.int v2), some (.int v3), some (.int v4), w5, w6] [] (SH, m) (some (.int r), (SH, m'))) : ∀ (v1 : Int32) (v4 : Int32) (v6 : Int32) (s0 : Int32) (w2 : Option Value) (w3 : Option Value) (w5 : Option Value) (m : mM) (r : Int32) (m' : mM), f_Notes_goodOf_79 F k7 v1 v4 v6 s0 m = some (r, m') → m_R X (d + 0) 49 79 [some (.ref 55), some (.int v1), w2, w3, some (.int v4), w5, some (.int v6)] [.int s0] (SH, m) (some (.int r), (SH, m')) := by
  intro v1 v4 v6 s0 w2 w3 w5 m r m' h
  unfold f_Notes_goodOf_79 at h
  refine m_R_sg (by decide) [(.iconst 0, 1, 0, 0, 0, 0, 0)] (by decide +kernel) (show m_sgl X _ _ _ _ _ = some (80, [some (.ref 55), some (.int v1), w2, w3, some (.int v4), w5, some (.int v6)], [.int (0 : Int32), .int s0], (SH, m.1, m.2)) from rfl) ?_
  exact ok_Notes_goodOf_80 X d F _ hk7 _ _ _ _ _ _ _ _ _ _ _ h
def f_Notes_goodOf_91 (F : Nat)   (v2 : Int32) (m : mM) : Option (Int32 × mM) := some (v2, m)
theorem ok_Notes_goodOf_91 (X : mX) (d F : Nat) : ∀ (v2 : Int32) (w0 : Option Value) (w1 : Option Value) (w3 : Option Value) (w4 : Option Value) (w5 : Option Value) (w6 : Option Value) (m : mM) (r : Int32) (m' : mM), f_Notes_goodOf_91 F v2 m = some (r, m') → m_R X (d + 0) 49 91 [w0, w1, some (.int v2), w3, w4, w5, w6] [] (SH, m) (some (.int r), (SH, m')) := by
  intro v2 w0 w1 w3 w4 w5 w6 m r m' h
  unfold f_Notes_goodOf_91 at h
  refine m_R_sg (by decide) [(.iload_n 2, 1, 0, 2, 0, 0, 0)] (by decide +kernel) (show m_sgl X _ _ _ _ _ = some (92, [w0, w1, some (.int v2), w3, w4, w5, w6], [.int v2], (SH, m.1, m.2)) from rfl) ?_
  cases h
  exact m_R_iret (by decide) (m_opb_of (ins := .ireturn) (len := 1) (tag := 1) (a := 0) (b := 0) (c := 0) (q := 0) (by decide +kernel)) (Or.inl rfl)
def f_Notes_goodOf_7 (F : Nat)   : Nat → Int32 → Int32 → Int32 → Int32 → mM → Option (Int32 × mM)
  | 0, _, _, _, _, _ => none
  | n + 1, v1, v2, v3, v4, m => (if (m.1 55 7) ≤ v4 then f_Notes_goodOf_91 F v2 m else (if v1 < 0 ∨ 16 ≤ v1.toNatClampNeg then none else (if (m.1 61 v1.toNatClampNeg) ≤ 0 then f_Notes_goodOf_91 F v2 m else (if v4 < 0 ∨ 400 ≤ v4.toNatClampNeg then none else (if (m.1 60 v4.toNatClampNeg) < 0 ∨ 400 ≤ (m.1 60 v4.toNatClampNeg).toNatClampNeg then none else (if (m.1 58 (m.1 60 v4.toNatClampNeg).toNatClampNeg) = v1 then (if (m.1 2 (m.1 60 v4.toNatClampNeg).toNatClampNeg) < 0 ∨ 300 ≤ (m.1 2 (m.1 60 v4.toNatClampNeg).toNatClampNeg).toNatClampNeg then none else (if (m.1 56 (m.1 2 (m.1 60 v4.toNatClampNeg).toNatClampNeg).toNatClampNeg) = (1 : Int32) then (if (m.1 2 (m.1 60 v4.toNatClampNeg).toNatClampNeg) = v3 then f_Notes_goodOf_79 F (f_Notes_goodOf_7 F n) v1 v4 (m.1 2 (m.1 60 v4.toNatClampNeg).toNatClampNeg) v2 m else f_Notes_goodOf_80 F (f_Notes_goodOf_7 F n) v1 v4 (m.1 2 (m.1 60 v4.toNatClampNeg).toNatClampNeg) v2 (1 : Int32) m) else f_Notes_goodOf_79 F (f_Notes_goodOf_7 F n) v1 v4 (m.1 2 (m.1 60 v4.toNatClampNeg).toNatClampNeg) v2 m)) else f_Notes_goodOf_85 F (f_Notes_goodOf_7 F n) v1 v2 v3 v4 m))))))
theorem ok_Notes_goodOf_7 (X : mX) (d F : Nat) : ∀ (n : Nat) (v1 : Int32) (v2 : Int32) (v3 : Int32) (v4 : Int32) (w5 : Option Value) (w6 : Option Value) (m : mM) (r : Int32) (m' : mM), f_Notes_goodOf_7 F n v1 v2 v3 v4 m = some (r, m') → m_R X (d + 0) 49 7 [some (.ref 55), some (.int v1), some (.int v2), some (.int v3), some (.int v4), w5, w6] [] (SH, m) (some (.int r), (SH, m')) := by
  intro n
  induction n with
  | zero => intro v1 v2 v3 v4 w5 w6 m r m' h; cases h
  | succ n ih =>
    intro v1 v2 v3 v4 w5 w6 m r m' h
    simp only [f_Notes_goodOf_7] at h
    refine m_R_sg (by decide) [(.iload 4, 2, 0, 4, 0, 0, 0), (.aload_n 0, 1, 0, 0, 0, 0, 0), (.getfield 38, 3, 0, 3, 7, 0, 463)] (by decide +kernel) (show m_sgl X _ _ _ _ _ = some (13, [some (.ref 55), some (.int v1), some (.int v2), some (.int v3), some (.int v4), w5, w6], [.int (m.1 55 7), .int v4], (SH, m.1, m.2)) from rfl) ?_
    rcases m_ite h with ⟨c159, h⟩ | ⟨c159, h⟩
    · refine m_R_1 (by decide) (m_opb_of (ins := .if_icmp .ge 78) (len := 3) (tag := 0) (a := 91) (b := 0) (c := 0) (q := 0) (by decide +kernel)) (if_pos c159) ?_
      exact ok_Notes_goodOf_91 X d F _ _ _ _ _ _ _ _ _ _ h
    · refine m_R_1 (by decide) (m_opb_of (ins := .if_icmp .ge 78) (len := 3) (tag := 0) (a := 91) (b := 0) (c := 0) (q := 0) (by decide +kernel)) (if_neg c159) ?_
      refine m_R_sg (by decide) [(.aload_n 0, 1, 0, 0, 0, 0, 0), (.getfield 27, 3, 0, 3, 6, 3, 460), (.iload_n 1, 1, 0, 1, 0, 0, 0)] (by decide +kernel) (show m_sgl X _ _ _ _ _ = some (21, [some (.ref 55), some (.int v1), some (.int v2), some (.int v3), some (.int v4), w5, w6], [.int v1, .ref 61], (SH, m.1, m.2)) from rfl) ?_
      obtain ⟨c160, h⟩ := m_ite_n h
      refine m_R_1 (by decide) (m_opb_of (ins := .iaload) (len := 1) (tag := 0) (a := 0) (b := 0) (c := 0) (q := 0) (by decide +kernel)) (m_s_iald sh_61 (by decide) c160) ?_
      rcases m_ite h with ⟨c161, h⟩ | ⟨c161, h⟩
      · refine m_R_1 (by decide) (m_opb_of (ins := .ifCond .le 69) (len := 3) (tag := 0) (a := 91) (b := 0) (c := 0) (q := 0) (by decide +kernel)) (if_pos c161) ?_
        exact ok_Notes_goodOf_91 X d F _ _ _ _ _ _ _ _ _ _ h
      · refine m_R_1 (by decide) (m_opb_of (ins := .ifCond .le 69) (len := 3) (tag := 0) (a := 91) (b := 0) (c := 0) (q := 0) (by decide +kernel)) (if_neg c161) ?_
        refine m_R_sg (by decide) [(.aload_n 0, 1, 0, 0, 0, 0, 0), (.getfield 24, 3, 0, 3, 5, 3, 458), (.iload 4, 2, 0, 4, 0, 0, 0)] (by decide +kernel) (show m_sgl X _ _ _ _ _ = some (31, [some (.ref 55), some (.int v1), some (.int v2), some (.int v3), some (.int v4), w5, w6], [.int v4, .ref 60], (SH, m.1, m.2)) from rfl) ?_
        obtain ⟨c162, h⟩ := m_ite_n h
        refine m_R_1 (by decide) (m_opb_of (ins := .iaload) (len := 1) (tag := 0) (a := 0) (b := 0) (c := 0) (q := 0) (by decide +kernel)) (m_s_iald sh_60 (by decide) c162) ?_
        refine m_R_sg (by decide) [(.istore 5, 2, 0, 5, 0, 0, 0), (.aload_n 0, 1, 0, 0, 0, 0, 0), (.getfield 18, 3, 0, 3, 3, 3, 453), (.iload 5, 2, 0, 5, 0, 0, 0)] (by decide +kernel) (show m_sgl X _ _ _ _ _ = some (40, [some (.ref 55), some (.int v1), some (.int v2), some (.int v3), some (.int v4), some (.int (m.1 60 v4.toNatClampNeg)), w6], [.int (m.1 60 v4.toNatClampNeg), .ref 58], (SH, m.1, m.2)) from rfl) ?_
        obtain ⟨c163, h⟩ := m_ite_n h
        refine m_R_1 (by decide) (m_opb_of (ins := .iaload) (len := 1) (tag := 0) (a := 0) (b := 0) (c := 0) (q := 0) (by decide +kernel)) (m_s_iald sh_58 (by decide) c163) ?_
        refine m_R_sg (by decide) [(.iload_n 1, 1, 0, 1, 0, 0, 0)] (by decide +kernel) (show m_sgl X _ _ _ _ _ = some (42, [some (.ref 55), some (.int v1), some (.int v2), some (.int v3), some (.int v4), some (.int (m.1 60 v4.toNatClampNeg)), w6], [.int v1, .int (m.1 58 (m.1 60 v4.toNatClampNeg).toNatClampNeg)], (SH, m.1, m.2)) from rfl) ?_
        rcases m_ite h with ⟨c164, h⟩ | ⟨c164, h⟩
        · refine m_R_1 (by decide) (m_opb_of (ins := .if_icmp .ne 43) (len := 3) (tag := 0) (a := 85) (b := 0) (c := 0) (q := 0) (by decide +kernel)) (if_pos c164) ?_
          refine m_R_sg (by decide) [(.aload_n 0, 1, 0, 0, 0, 0, 0), (.getfield 30, 3, 0, 3, 0, 3, 449), (.getfield 70, 3, 0, 6, 0, 3, 161), (.iload 5, 2, 0, 5, 0, 0, 0)] (by decide +kernel) (show m_sgl X _ _ _ _ _ = some (54, [some (.ref 55), some (.int v1), some (.int v2), some (.int v3), some (.int v4), some (.int (m.1 60 v4.toNatClampNeg)), w6], [.int (m.1 60 v4.toNatClampNeg), .ref 2], (SH, m.1, m.2)) from rfl) ?_
          refine m_R_1 (by decide) (m_opb_of (ins := .iaload) (len := 1) (tag := 0) (a := 0) (b := 0) (c := 0) (q := 0) (by decide +kernel)) (m_s_iald sh_2 (by decide) c163) ?_
          refine m_R_sg (by decide) [(.istore 6, 2, 0, 6, 0, 0, 0), (.iload_n 2, 1, 0, 2, 0, 0, 0), (.aload_n 0, 1, 0, 0, 0, 0, 0), (.getfield 9, 3, 0, 3, 1, 3, 450), (.iload 6, 2, 0, 6, 0, 0, 0)] (by decide +kernel) (show m_sgl X _ _ _ _ _ = some (64, [some (.ref 55), some (.int v1), some (.int v2), some (.int v3), some (.int v4), some (.int (m.1 60 v4.toNatClampNeg)), some (.int (m.1 2 (m.1 60 v4.toNatClampNeg).toNatClampNeg))], [.int (m.1 2 (m.1 60 v4.toNatClampNeg).toNatClampNeg), .ref 56, .int v2], (SH, m.1, m.2)) from rfl) ?_
          obtain ⟨c165, h⟩ := m_ite_n h
          refine m_R_1 (by decide) (m_opb_of (ins := .iaload) (len := 1) (tag := 0) (a := 0) (b := 0) (c := 0) (q := 0) (by decide +kernel)) (m_s_iald sh_56 (by decide) c165) ?_
          refine m_R_sg (by decide) [(.iconst 1, 1, 0, 1, 0, 0, 0)] (by decide +kernel) (show m_sgl X _ _ _ _ _ = some (66, [some (.ref 55), some (.int v1), some (.int v2), some (.int v3), some (.int v4), some (.int (m.1 60 v4.toNatClampNeg)), some (.int (m.1 2 (m.1 60 v4.toNatClampNeg).toNatClampNeg))], [.int (1 : Int32), .int (m.1 56 (m.1 2 (m.1 60 v4.toNatClampNeg).toNatClampNeg).toNatClampNeg), .int v2], (SH, m.1, m.2)) from rfl) ?_
          rcases m_ite h with ⟨c166, h⟩ | ⟨c166, h⟩
          · refine m_R_1 (by decide) (m_opb_of (ins := .if_icmp .ne 13) (len := 3) (tag := 0) (a := 79) (b := 0) (c := 0) (q := 0) (by decide +kernel)) (if_pos c166) ?_
            refine m_R_sg (by decide) [(.iload 6, 2, 0, 6, 0, 0, 0), (.iload_n 3, 1, 0, 3, 0, 0, 0)] (by decide +kernel) (show m_sgl X _ _ _ _ _ = some (72, [some (.ref 55), some (.int v1), some (.int v2), some (.int v3), some (.int v4), some (.int (m.1 60 v4.toNatClampNeg)), some (.int (m.1 2 (m.1 60 v4.toNatClampNeg).toNatClampNeg))], [.int v3, .int (m.1 2 (m.1 60 v4.toNatClampNeg).toNatClampNeg), .int v2], (SH, m.1, m.2)) from rfl) ?_
            rcases m_ite h with ⟨c167, h⟩ | ⟨c167, h⟩
            · refine m_R_1 (by decide) (m_opb_of (ins := .if_icmp .eq 7) (len := 3) (tag := 0) (a := 79) (b := 0) (c := 0) (q := 0) (by decide +kernel)) (if_pos c167) ?_
              exact ok_Notes_goodOf_79 X d F _ (fun a0 a1 a2 a3 a4 a5 m r m' h => ih a0 a1 a2 a3 a4 a5 m r m' h) _ _ _ _ _ _ _ _ _ _ h
            · refine m_R_1 (by decide) (m_opb_of (ins := .if_icmp .eq 7) (len := 3) (tag := 0) (a := 79) (b := 0) (c := 0) (q := 0) (by decide +kernel)) (if_neg c167) ?_
              refine m_R_sg (by decide) [(.iconst 1, 1, 0, 1, 0, 0, 0), (.goto 4, 3, 0, 80, 0, 0, 0)] (by decide +kernel) (show m_sgl X _ _ _ _ _ = some (80, [some (.ref 55), some (.int v1), some (.int v2), some (.int v3), some (.int v4), some (.int (m.1 60 v4.toNatClampNeg)), some (.int (m.1 2 (m.1 60 v4.toNatClampNeg).toNatClampNeg))], [.int (1 : Int32), .int v2], (SH, m.1, m.2)) from rfl) ?_
              exact ok_Notes_goodOf_80 X d F _ (fun a0 a1 a2 a3 a4 a5 m r m' h => ih a0 a1 a2 a3 a4 a5 m r m' h) _ _ _ _ _ _ _ _ _ _ _ h
          · refine m_R_1 (by decide) (m_opb_of (ins := .if_icmp .ne 13) (len := 3) (tag := 0) (a := 79) (b := 0) (c := 0) (q := 0) (by decide +kernel)) (if_neg c166) ?_
            exact ok_Notes_goodOf_79 X d F _ (fun a0 a1 a2 a3 a4 a5 m r m' h => ih a0 a1 a2 a3 a4 a5 m r m' h) _ _ _ _ _ _ _ _ _ _ h
        · refine m_R_1 (by decide) (m_opb_of (ins := .if_icmp .ne 43) (len := 3) (tag := 0) (a := 85) (b := 0) (c := 0) (q := 0) (by decide +kernel)) (if_neg c164) ?_
          exact ok_Notes_goodOf_85 X d F _ (fun a0 a1 a2 a3 a4 a5 m r m' h => ih a0 a1 a2 a3 a4 a5 m r m' h) _ _ _ _ _ _ _ _ _ h
def f_Notes_goodOf (F : Nat)   (v1 : Int32) (m : mM) : Option (Int32 × mM) := f_Notes_goodOf_7 F F v1 (0 : Int32) (-1 : Int32) (0 : Int32) m
theorem ok_Notes_goodOf (X : mX) (d F : Nat) : ∀ (v1 : Int32)  (m : mM) (r : Int32) (m' : mM), f_Notes_goodOf F v1 m = some (r, m') → m_R X (d + 0) 49 0 [some (.ref 55), some (.int v1), none, none, none, none, none] [] (SH, m) (some (.int r), (SH, m')) := by
  intro v1 m r m' h
  unfold f_Notes_goodOf at h
  refine m_R_sg (by decide) [(.iconst 0, 1, 0, 0, 0, 0, 0), (.istore_n 2, 1, 0, 2, 0, 0, 0), (.iconst (-1), 1, 0, 1, 1, 0, 0), (.istore_n 3, 1, 0, 3, 0, 0, 0), (.iconst 0, 1, 0, 0, 0, 0, 0), (.istore 4, 2, 0, 4, 0, 0, 0)] (by decide +kernel) (show m_sgl X _ _ _ _ _ = some (7, [some (.ref 55), some (.int v1), some (.int (0 : Int32)), some (.int (-1 : Int32)), some (.int (0 : Int32)), none, none], [], (SH, m.1, m.2)) from rfl) ?_
  exact ok_Notes_goodOf_7 X d F F _ _ _ _ _ _ _ _ _ h
def f_Math_min_II_10 (F : Nat)   (s0 : Int32) (m : mM) : Option (Int32 × mM) := some (s0, m)
theorem ok_Math_min_II_10 (X : mX) (d F : Nat) : ∀ (s0 : Int32) (w0 : Option Value) (w1 : Option Value) (m : mM) (r : Int32) (m' : mM), f_Math_min_II_10 F s0 m = some (r, m') → m_R X (d + 0) 50 10 [w0, w1] [.int s0] (SH, m) (some (.int r), (SH, m')) := by
  intro s0 w0 w1 m r m' h
  unfold f_Math_min_II_10 at h
  cases h
  exact m_R_iret (by decide) (m_opb_of (ins := .ireturn) (len := 1) (tag := 1) (a := 0) (b := 0) (c := 0) (q := 0) (by decide +kernel)) (Or.inl rfl)
def f_Math_min_II (F : Nat)   (v0 : Int32) (v1 : Int32) (m : mM) : Option (Int32 × mM) := (if v1 < v0 then f_Math_min_II_10 F v1 m else f_Math_min_II_10 F v0 m)
theorem ok_Math_min_II (X : mX) (d F : Nat) : ∀ (v0 : Int32) (v1 : Int32)  (m : mM) (r : Int32) (m' : mM), f_Math_min_II F v0 v1 m = some (r, m') → m_R X (d + 0) 50 0 [some (.int v0), some (.int v1)] [] (SH, m) (some (.int r), (SH, m')) := by
  intro v0 v1 m r m' h
  unfold f_Math_min_II at h
  refine m_R_sg (by decide) [(.iload_n 0, 1, 0, 0, 0, 0, 0), (.iload_n 1, 1, 0, 1, 0, 0, 0)] (by decide +kernel) (show m_sgl X _ _ _ _ _ = some (2, [some (.int v0), some (.int v1)], [.int v1, .int v0], (SH, m.1, m.2)) from rfl) ?_
  rcases m_ite h with ⟨c168, h⟩ | ⟨c168, h⟩
  · refine m_R_1 (by decide) (m_opb_of (ins := .if_icmp .gt 7) (len := 3) (tag := 0) (a := 9) (b := 0) (c := 0) (q := 0) (by decide +kernel)) (if_pos c168) ?_
    refine m_R_sg (by decide) [(.iload_n 1, 1, 0, 1, 0, 0, 0)] (by decide +kernel) (show m_sgl X _ _ _ _ _ = some (10, [some (.int v0), some (.int v1)], [.int v1], (SH, m.1, m.2)) from rfl) ?_
    exact ok_Math_min_II_10 X d F _ _ _ _ _ _ h
  · refine m_R_1 (by decide) (m_opb_of (ins := .if_icmp .gt 7) (len := 3) (tag := 0) (a := 9) (b := 0) (c := 0) (q := 0) (by decide +kernel)) (if_neg c168) ?_
    refine m_R_sg (by decide) [(.iload_n 0, 1, 0, 0, 0, 0, 0), (.goto 4, 3, 0, 10, 0, 0, 0)] (by decide +kernel) (show m_sgl X _ _ _ _ _ = some (10, [some (.int v0), some (.int v1)], [.int v0], (SH, m.1, m.2)) from rfl) ?_
    exact ok_Math_min_II_10 X d F _ _ _ _ _ _ h
def f_World_houseCan_64 (F : Nat)   (s0 : Int32) (m : mM) : Option (Int32 × mM) := (if s0 = 0 ∨ s0 = 1 then some (s0, m) else none)
theorem ok_World_houseCan_64 (X : mX) (d F : Nat) : ∀ (s0 : Int32) (w0 : Option Value) (w1 : Option Value) (w2 : Option Value) (w3 : Option Value) (w4 : Option Value) (m : mM) (r : Int32) (m' : mM), f_World_houseCan_64 F s0 m = some (r, m') → m_R X (d + 1) 48 64 [w0, w1, w2, w3, w4] [.int s0] (SH, m) (some (.int r), (SH, m')) := by
  intro s0 w0 w1 w2 w3 w4 m r m' h
  unfold f_World_houseCan_64 at h
  obtain ⟨c0, h⟩ := m_ite_p h
  cases h
  exact m_R_iret (by decide) (m_opb_of (ins := .ireturn) (len := 1) (tag := 1) (a := 1) (b := 0) (c := 0) (q := 0) (by decide +kernel)) (Or.inr c0)
def f_World_houseCan_31 (F : Nat)   (v1 : Int32) (v3 : Int32) (s0 : Int32) (m : mM) : Option (Int32 × mM) := (if v1 < 0 ∨ 16 ≤ v1.toNatClampNeg then none else ((f_Math_min_II F s0 (v3 / (10 : Int32)) m).bind fun q2 => (if (m.1 22 v1.toNatClampNeg) < (v3 - ((10 : Int32) * q2.1)) then f_World_houseCan_64 F (0 : Int32) q2.2 else f_World_houseCan_64 F (1 : Int32) q2.2)))
theorem ok_World_houseCan_31 (X : mX) (d F : Nat) : ∀ (v1 : Int32) (v3 : Int32) (s0 : Int32) (w2 : Option Value) (w4 : Option Value) (m : mM) (r : Int32) (m' : mM), f_World_houseCan_31 F v1 v3 s0 m = some (r, m') → m_R X (d + 1) 48 31 [some (.ref 16), some (.int v1), w2, some (.int v3), w4] [.int s0] (SH, m) (some (.int r), (SH, m')) := by
  intro v1 v3 s0 w2 w4 m r m' h
  unfold f_World_houseCan_31 at h
  refine m_R_sg (by decide) [(.istore 4, 2, 0, 4, 0, 0, 0), (.aload_n 0, 1, 0, 0, 0, 0, 0), (.getfield 21, 3, 0, 10, 1, 3, 505), (.getfield 107, 3, 0, 1, 2, 3, 255), (.iload_n 1, 1, 0, 1, 0, 0, 0)] (by decide +kernel) (show m_sgl X _ _ _ _ _ = some (41, [some (.ref 16), some (.int v1), w2, some (.int v3), some (.int s0)], [.int v1, .ref 22], (SH, m.1, m.2)) from rfl) ?_
  obtain ⟨c169, h⟩ := m_ite_n h
  refine m_R_1 (by decide) (m_opb_of (ins := .iaload) (len := 1) (tag := 0) (a := 0) (b := 0) (c := 0) (q := 0) (by decide +kernel)) (m_s_iald sh_22 (by decide) c169) ?_
  refine m_R_sg (by decide) [(.iload_n 3, 1, 0, 3, 0, 0, 0), (.bipush 10, 2, 0, 10, 0, 0, 0), (.iload 4, 2, 0, 4, 0, 0, 0), (.iload_n 3, 1, 0, 3, 0, 0, 0), (.bipush 10, 2, 0, 10, 0, 0, 0)] (by decide +kernel) (show m_sgl X _ _ _ _ _ = some (50, [some (.ref 16), some (.int v1), w2, some (.int v3), some (.int s0)], [.int (10 : Int32), .int v3, .int s0, .int (10 : Int32), .int v3, .int (m.1 22 v1.toNatClampNeg)], (SH, m.1, m.2)) from rfl) ?_
  refine m_R_1 (by decide) (m_opb_of (ins := .idiv) (len := 1) (tag := 0) (a := 0) (b := 0) (c := 0) (q := 0) (by decide +kernel)) (m_s_idiv (by decide)) ?_
  obtain ⟨q2, hc2, h⟩ := Option.bind_eq_some_iff.mp h
  refine m_R_cS (v := (some (.int q2.1))) (h1 := (SH, q2.2)) (rest := [.int (10 : Int32), .int v3, .int (m.1 22 v1.toNatClampNeg)]) (lo' := [some (.int s0), some (.int (v3 / (10 : Int32)))]) (ml := 2) (by decide) (m_opb_of (ins := .invokestatic 181) (len := 3) (tag := 4) (a := 50) (b := 2) (c := 0) (q := 816) (by decide +kernel)) (by decide +kernel) (Nat.le_of_ble_eq_true rfl) rfl (Nat.le_of_ble_eq_true rfl) rfl rfl (ok_Math_min_II X (d + 0) F _ _ _ _ _ hc2) ?_
  refine m_R_sg (by decide) [(.imul, 1, 0, 0, 0, 0, 0), (.isub, 1, 0, 0, 0, 0, 0)] (by decide +kernel) (show m_sgl X _ _ _ _ _ = some (56, [some (.ref 16), some (.int v1), w2, some (.int v3), some (.int s0)], [.int (v3 - ((10 : Int32) * q2.1)), .int (m.1 22 v1.toNatClampNeg)], (SH, q2.2.1, q2.2.2)) from rfl) ?_
  rcases m_ite h with ⟨c170, h⟩ | ⟨c170, h⟩
  · refine m_R_1 (by decide) (m_opb_of (ins := .if_icmp .lt 7) (len := 3) (tag := 0) (a := 63) (b := 0) (c := 0) (q := 0) (by decide +kernel)) (if_pos c170) ?_
    refine m_R_sg (by decide) [(.iconst 0, 1, 0, 0, 0, 0, 0)] (by decide +kernel) (show m_sgl X _ _ _ _ _ = some (64, [some (.ref 16), some (.int v1), w2, some (.int v3), some (.int s0)], [.int (0 : Int32)], (SH, q2.2.1, q2.2.2)) from rfl) ?_
    exact ok_World_houseCan_64 X d F _ _ _ _ _ _ _ _ _ h
  · refine m_R_1 (by decide) (m_opb_of (ins := .if_icmp .lt 7) (len := 3) (tag := 0) (a := 63) (b := 0) (c := 0) (q := 0) (by decide +kernel)) (if_neg c170) ?_
    refine m_R_sg (by decide) [(.iconst 1, 1, 0, 1, 0, 0, 0), (.goto 4, 3, 0, 64, 0, 0, 0)] (by decide +kernel) (show m_sgl X _ _ _ _ _ = some (64, [some (.ref 16), some (.int v1), w2, some (.int v3), some (.int s0)], [.int (1 : Int32)], (SH, q2.2.1, q2.2.2)) from rfl) ?_
    exact ok_World_houseCan_64 X d F _ _ _ _ _ _ _ _ _ h
def f_World_houseCan (F : Nat)   (v1 : Int32) (v2 : Int32) (v3 : Int32) (m : mM) : Option (Int32 × mM) := (if v1 = v2 then some ((1 : Int32), m) else (if v2 = 0 then ((f_Notes_goodOf F v1 m).bind fun q1 => f_World_houseCan_31 F v1 v3 q1.1 q1.2) else (if v1 < 0 ∨ 16 ≤ v1.toNatClampNeg then none else f_World_houseCan_31 F v1 v3 (m.1 61 v1.toNatClampNeg) m)))
theorem ok_World_houseCan (X : mX) (d F : Nat) : ∀ (v1 : Int32) (v2 : Int32) (v3 : Int32)  (m : mM) (r : Int32) (m' : mM), f_World_houseCan F v1 v2 v3 m = some (r, m') → m_R X (d + 1) 48 0 [some (.ref 16), some (.int v1), some (.int v2), some (.int v3), none] [] (SH, m) (some (.int r), (SH, m')) := by
  intro v1 v2 v3 m r m' h
  unfold f_World_houseCan at h
  refine m_R_sg (by decide) [(.iload_n 1, 1, 0, 1, 0, 0, 0), (.iload_n 2, 1, 0, 2, 0, 0, 0)] (by decide +kernel) (show m_sgl X _ _ _ _ _ = some (2, [some (.ref 16), some (.int v1), some (.int v2), some (.int v3), none], [.int v2, .int v1], (SH, m.1, m.2)) from rfl) ?_
  rcases m_ite h with ⟨c171, h⟩ | ⟨c171, h⟩
  · refine m_R_1 (by decide) (m_opb_of (ins := .if_icmp .ne 5) (len := 3) (tag := 0) (a := 7) (b := 0) (c := 0) (q := 0) (by decide +kernel)) (if_pos c171) ?_
    refine m_R_sg (by decide) [(.iconst 1, 1, 0, 1, 0, 0, 0)] (by decide +kernel) (show m_sgl X _ _ _ _ _ = some (6, [some (.ref 16), some (.int v1), some (.int v2), some (.int v3), none], [.int (1 : Int32)], (SH, m.1, m.2)) from rfl) ?_
    cases h
    exact m_R_iret (by decide) (m_opb_of (ins := .ireturn) (len := 1) (tag := 1) (a := 1) (b := 0) (c := 0) (q := 0) (by decide +kernel)) (Or.inr (Or.inr rfl))
  · refine m_R_1 (by decide) (m_opb_of (ins := .if_icmp .ne 5) (len := 3) (tag := 0) (a := 7) (b := 0) (c := 0) (q := 0) (by decide +kernel)) (if_neg c171) ?_
    refine m_R_sg (by decide) [(.iload_n 2, 1, 0, 2, 0, 0, 0)] (by decide +kernel) (show m_sgl X _ _ _ _ _ = some (8, [some (.ref 16), some (.int v1), some (.int v2), some (.int v3), none], [.int v2], (SH, m.1, m.2)) from rfl) ?_
    rcases m_ite h with ⟨c172, h⟩ | ⟨c172, h⟩
    · refine m_R_1 (by decide) (m_opb_of (ins := .ifCond .ne 14) (len := 3) (tag := 0) (a := 22) (b := 0) (c := 0) (q := 0) (by decide +kernel)) (if_pos c172) ?_
      refine m_R_sg (by decide) [(.aload_n 0, 1, 0, 0, 0, 0, 0), (.getfield 72, 3, 0, 10, 8, 3, 518), (.iload_n 1, 1, 0, 1, 0, 0, 0)] (by decide +kernel) (show m_sgl X _ _ _ _ _ = some (16, [some (.ref 16), some (.int v1), some (.int v2), some (.int v3), none], [.int v1, .ref 55], (SH, m.1, m.2)) from rfl) ?_
      obtain ⟨q1, hc1, h⟩ := Option.bind_eq_some_iff.mp h
      refine m_R_cV (v := (some (.int q1.1))) (h1 := (SH, q1.2)) (rest := []) (lo' := [some (.ref 55), some (.int v1), none, none, none, none, none]) (ml := 7) (k0 := 55) (by decide) (Or.inl rfl) (m_opb_of (ins := .invokevirtual 178) (len := 3) (tag := 5) (a := 49) (b := 1) (c := 0) (q := 812) (by decide +kernel)) (by decide +kernel) rfl (show m_isO 49 55 (SH, _) = true from m_isO_of (by decide +kernel)) (Nat.le_of_ble_eq_true rfl) rfl rfl (ok_Notes_goodOf X (d + 0) F _ _ _ _ hc1) ?_
      refine m_R_sg (by decide) [(.goto 12, 3, 0, 31, 0, 0, 0)] (by decide +kernel) (show m_sgl X _ _ _ _ _ = some (31, [some (.ref 16), some (.int v1), some (.int v2), some (.int v3), none], [.int q1.1], (SH, q1.2.1, q1.2.2)) from rfl) ?_
      exact ok_World_houseCan_31 X d F _ _ _ _ _ _ _ _ h
    · refine m_R_1 (by decide) (m_opb_of (ins := .ifCond .ne 14) (len := 3) (tag := 0) (a := 22) (b := 0) (c := 0) (q := 0) (by decide +kernel)) (if_neg c172) ?_
      refine m_R_sg (by decide) [(.aload_n 0, 1, 0, 0, 0, 0, 0), (.getfield 72, 3, 0, 10, 8, 3, 518), (.getfield 110, 3, 0, 3, 6, 3, 461), (.iload_n 1, 1, 0, 1, 0, 0, 0)] (by decide +kernel) (show m_sgl X _ _ _ _ _ = some (30, [some (.ref 16), some (.int v1), some (.int v2), some (.int v3), none], [.int v1, .ref 61], (SH, m.1, m.2)) from rfl) ?_
      obtain ⟨c173, h⟩ := m_ite_n h
      refine m_R_1 (by decide) (m_opb_of (ins := .iaload) (len := 1) (tag := 0) (a := 0) (b := 0) (c := 0) (q := 0) (by decide +kernel)) (m_s_iald sh_61 (by decide) c173) ?_
      exact ok_World_houseCan_31 X d F _ _ _ _ _ _ _ _ h
def f_World_canGive_19 (F : Nat)   (s0 : Int32) (m : mM) : Option (Int32 × mM) := (if s0 = 0 ∨ s0 = 1 then some (s0, m) else none)
theorem ok_World_canGive_19 (X : mX) (d F : Nat) : ∀ (s0 : Int32) (w0 : Option Value) (w1 : Option Value) (w2 : Option Value) (w3 : Option Value) (m : mM) (r : Int32) (m' : mM), f_World_canGive_19 F s0 m = some (r, m') → m_R X (d + 5) 35 19 [w0, w1, w2, w3] [.int s0] (SH, m) (some (.int r), (SH, m')) := by
  intro s0 w0 w1 w2 w3 m r m' h
  unfold f_World_canGive_19 at h
  obtain ⟨c0, h⟩ := m_ite_p h
  cases h
  exact m_R_iret (by decide) (m_opb_of (ins := .ireturn) (len := 1) (tag := 1) (a := 1) (b := 0) (c := 0) (q := 0) (by decide +kernel)) (Or.inr c0)
def f_World_canGive (F : Nat)   (v1 : Int32) (v2 : Int32) (v3 : Int32) (m : mM) : Option (Int32 × mM) := (if v1 = 0 then ((f_World_bankCan F v3 m).bind fun q1 => f_World_canGive_19 F q1.1 q1.2) else ((f_World_houseCan F v1 v2 v3 m).bind fun q2 => f_World_canGive_19 F q2.1 q2.2))
theorem ok_World_canGive (X : mX) (d F : Nat) : ∀ (v1 : Int32) (v2 : Int32) (v3 : Int32)  (m : mM) (r : Int32) (m' : mM), f_World_canGive F v1 v2 v3 m = some (r, m') → m_R X (d + 5) 35 0 [some (.ref 16), some (.int v1), some (.int v2), some (.int v3)] [] (SH, m) (some (.int r), (SH, m')) := by
  intro v1 v2 v3 m r m' h
  unfold f_World_canGive at h
  refine m_R_sg (by decide) [(.iload_n 1, 1, 0, 1, 0, 0, 0)] (by decide +kernel) (show m_sgl X _ _ _ _ _ = some (1, [some (.ref 16), some (.int v1), some (.int v2), some (.int v3)], [.int v1], (SH, m.1, m.2)) from rfl) ?_
  rcases m_ite h with ⟨c174, h⟩ | ⟨c174, h⟩
  · refine m_R_1 (by decide) (m_opb_of (ins := .ifCond .ne 11) (len := 3) (tag := 0) (a := 12) (b := 0) (c := 0) (q := 0) (by decide +kernel)) (if_pos c174) ?_
    refine m_R_sg (by decide) [(.aload_n 0, 1, 0, 0, 0, 0, 0), (.iload_n 3, 1, 0, 3, 0, 0, 0)] (by decide +kernel) (show m_sgl X _ _ _ _ _ = some (6, [some (.ref 16), some (.int v1), some (.int v2), some (.int v3)], [.int v3, .ref 16], (SH, m.1, m.2)) from rfl) ?_
    obtain ⟨q1, hc1, h⟩ := Option.bind_eq_some_iff.mp h
    refine m_R_cV (v := (some (.int q1.1))) (h1 := (SH, q1.2)) (rest := []) (lo' := [some (.ref 16), some (.int v3), none]) (ml := 3) (k0 := 16) (by decide) (Or.inl rfl) (m_opb_of (ins := .invokevirtual 172) (len := 3) (tag := 5) (a := 36) (b := 1) (c := 0) (q := 760) (by decide +kernel)) (by decide +kernel) rfl (show m_isO 36 16 (SH, _) = true from m_isO_of (by decide +kernel)) (Nat.le_of_ble_eq_true rfl) rfl rfl (ok_World_bankCan X (d + 0) F _ _ _ _ hc1) ?_
    refine m_R_sg (by decide) [(.goto 10, 3, 0, 19, 0, 0, 0)] (by decide +kernel) (show m_sgl X _ _ _ _ _ = some (19, [some (.ref 16), some (.int v1), some (.int v2), some (.int v3)], [.int q1.1], (SH, q1.2.1, q1.2.2)) from rfl) ?_
    exact ok_World_canGive_19 X d F _ _ _ _ _ _ _ _ h
  · refine m_R_1 (by decide) (m_opb_of (ins := .ifCond .ne 11) (len := 3) (tag := 0) (a := 12) (b := 0) (c := 0) (q := 0) (by decide +kernel)) (if_neg c174) ?_
    refine m_R_sg (by decide) [(.aload_n 0, 1, 0, 0, 0, 0, 0), (.iload_n 1, 1, 0, 1, 0, 0, 0), (.iload_n 2, 1, 0, 2, 0, 0, 0), (.iload_n 3, 1, 0, 3, 0, 0, 0)] (by decide +kernel) (show m_sgl X _ _ _ _ _ = some (16, [some (.ref 16), some (.int v1), some (.int v2), some (.int v3)], [.int v3, .int v2, .int v1, .ref 16], (SH, m.1, m.2)) from rfl) ?_
    obtain ⟨q2, hc2, h⟩ := Option.bind_eq_some_iff.mp h
    refine m_R_cV (v := (some (.int q2.1))) (h1 := (SH, q2.2)) (rest := []) (lo' := [some (.ref 16), some (.int v1), some (.int v2), some (.int v3), none]) (ml := 5) (k0 := 16) (by decide) (Or.inl rfl) (m_opb_of (ins := .invokevirtual 175) (len := 3) (tag := 5) (a := 48) (b := 3) (c := 0) (q := 808) (by decide +kernel)) (by decide +kernel) rfl (show m_isO 48 16 (SH, _) = true from m_isO_of (by decide +kernel)) (Nat.le_of_ble_eq_true rfl) rfl rfl (ok_World_houseCan X (d + 3) F _ _ _ _ _ _ hc2) ?_
    exact ok_World_canGive_19 X d F _ _ _ _ _ _ _ _ h
def f_Notes_moveTo_83 (F : Nat)    (m : mM) : Option (Unit × mM) := some ((), m)
theorem ok_Notes_moveTo_83 (X : mX) (d F : Nat) : ∀  (w0 : Option Value) (w1 : Option Value) (w2 : Option Value) (w3 : Option Value) (m : mM) (r : Unit) (m' : mM), f_Notes_moveTo_83 F  m = some (r, m') → m_R X (d + 0) 53 83 [w0, w1, w2, w3] [] (SH, m) (none, (SH, m')) := by
  intro w0 w1 w2 w3 m r m' h
  unfold f_Notes_moveTo_83 at h
  cases h
  exact m_R_vret (by decide) (m_opb_of (ins := .return_) (len := 1) (tag := 3) (a := 0) (b := 0) (c := 0) (q := 0) (by decide +kernel))
def f_Notes_moveTo_42 (F : Nat)   (v1 : Int32) (v2 : Int32) (m : mM) : Option (Unit × mM) := (if v1 < 0 ∨ 400 ≤ v1.toNatClampNeg then none else (if (8 : Int32) ≤ (m.1 59 v1.toNatClampNeg) then f_Notes_moveTo_83 F m else (if ((v1 * (8 : Int32)) + (m.1 59 v1.toNatClampNeg)) < 0 ∨ 3200 ≤ ((v1 * (8 : Int32)) + (m.1 59 v1.toNatClampNeg)).toNatClampNeg then none else f_Notes_moveTo_83 F ((m_up (m_up m.1 3 ((v1 * (8 : Int32)) + (m.1 59 v1.toNatClampNeg)).toNatClampNeg v2) 59 v1.toNatClampNeg (((m_up m.1 3 ((v1 * (8 : Int32)) + (m.1 59 v1.toNatClampNeg)).toNatClampNeg v2) 59 v1.toNatClampNeg) + (1 : Int32))), m.2))))
theorem ok_Notes_moveTo_42 (X : mX) (d F : Nat) : ∀ (v1 : Int32) (v2 : Int32) (w3 : Option Value) (m : mM) (r : Unit) (m' : mM), f_Notes_moveTo_42 F v1 v2 m = some (r, m') → m_R X (d + 0) 53 42 [some (.ref 55), some (.int v1), some (.int v2), w3] [] (SH, m) (none, (SH, m')) := by
  intro v1 v2 w3 m r m' h
  unfold f_Notes_moveTo_42 at h
  refine m_R_sg (by decide) [(.aload_n 0, 1, 0, 0, 0, 0, 0), (.getfield 21, 3, 0, 3, 4, 3, 456), (.iload_n 1, 1, 0, 1, 0, 0, 0)] (by decide +kernel) (show m_sgl X _ _ _ _ _ = some (47, [some (.ref 55), some (.int v1), some (.int v2), w3], [.int v1, .ref 59], (SH, m.1, m.2)) from rfl) ?_
  obtain ⟨c175, h⟩ := m_ite_n h
  refine m_R_1 (by decide) (m_opb_of (ins := .iaload) (len := 1) (tag := 0) (a := 0) (b := 0) (c := 0) (q := 0) (by decide +kernel)) (m_s_iald sh_59 (by decide) c175) ?_
  refine m_R_sg (by decide) [(.bipush 8, 2, 0, 8, 0, 0, 0)] (by decide +kernel) (show m_sgl X _ _ _ _ _ = some (50, [some (.ref 55), some (.int v1), some (.int v2), w3], [.int (8 : Int32), .int (m.1 59 v1.toNatClampNeg)], (SH, m.1, m.2)) from rfl) ?_
  rcases m_ite h with ⟨c176, h⟩ | ⟨c176, h⟩
  · refine m_R_1 (by decide) (m_opb_of (ins := .if_icmp .ge 33) (len := 3) (tag := 0) (a := 83) (b := 0) (c := 0) (q := 0) (by decide +kernel)) (if_pos c176) ?_
    exact ok_Notes_moveTo_83 X d F _ _ _ _ _ _ _ h
  · refine m_R_1 (by decide) (m_opb_of (ins := .if_icmp .ge 33) (len := 3) (tag := 0) (a := 83) (b := 0) (c := 0) (q := 0) (by decide +kernel)) (if_neg c176) ?_
    refine m_R_sg (by decide) [(.aload_n 0, 1, 0, 0, 0, 0, 0), (.getfield 30, 3, 0, 3, 0, 3, 449), (.getfield 75, 3, 0, 6, 1, 3, 163), (.iload_n 1, 1, 0, 1, 0, 0, 0), (.bipush 8, 2, 0, 8, 0, 0, 0), (.imul, 1, 0, 0, 0, 0, 0), (.aload_n 0, 1, 0, 0, 0, 0, 0), (.getfield 21, 3, 0, 3, 4, 3, 456), (.iload_n 1, 1, 0, 1, 0, 0, 0)] (by decide +kernel) (show m_sgl X _ _ _ _ _ = some (69, [some (.ref 55), some (.int v1), some (.int v2), w3], [.int v1, .ref 59, .int (v1 * (8 : Int32)), .ref 3], (SH, m.1, m.2)) from rfl) ?_
    refine m_R_1 (by decide) (m_opb_of (ins := .iaload) (len := 1) (tag := 0) (a := 0) (b := 0) (c := 0) (q := 0) (by decide +kernel)) (m_s_iald sh_59 (by decide) c175) ?_
    refine m_R_sg (by decide) [(.iadd, 1, 0, 0, 0, 0, 0), (.iload_n 2, 1, 0, 2, 0, 0, 0)] (by decide +kernel) (show m_sgl X _ _ _ _ _ = some (72, [some (.ref 55), some (.int v1), some (.int v2), w3], [.int v2, .int ((v1 * (8 : Int32)) + (m.1 59 v1.toNatClampNeg)), .ref 3], (SH, m.1, m.2)) from rfl) ?_
    obtain ⟨c177, h⟩ := m_ite_n h
    refine m_R_1 (by decide) (m_opb_of (ins := .iastore) (len := 1) (tag := 0) (a := 0) (b := 0) (c := 0) (q := 0) (by decide +kernel)) (m_s_iast sh_3 c177) ?_
    refine m_R_sg (by decide) [(.aload_n 0, 1, 0, 0, 0, 0, 0), (.getfield 21, 3, 0, 3, 4, 3, 456), (.iload_n 1, 1, 0, 1, 0, 0, 0), (.dup2, 1, 0, 0, 0, 0, 0)] (by decide +kernel) (show m_sgl X _ _ _ _ _ = some (79, [some (.ref 55), some (.int v1), some (.int v2), w3], [.int v1, .ref 59, .int v1, .ref 59], (SH, (m_up m.1 3 ((v1 * (8 : Int32)) + (m.1 59 v1.toNatClampNeg)).toNatClampNeg v2), m.2)) from rfl) ?_
    refine m_R_1 (by decide) (m_opb_of (ins := .iaload) (len := 1) (tag := 0) (a := 0) (b := 0) (c := 0) (q := 0) (by decide +kernel)) (m_s_iald sh_59 (by decide) c175) ?_
    refine m_R_sg (by decide) [(.iconst 1, 1, 0, 1, 0, 0, 0), (.iadd, 1, 0, 0, 0, 0, 0)] (by decide +kernel) (show m_sgl X _ _ _ _ _ = some (82, [some (.ref 55), some (.int v1), some (.int v2), w3], [.int (((m_up m.1 3 ((v1 * (8 : Int32)) + (m.1 59 v1.toNatClampNeg)).toNatClampNeg v2) 59 v1.toNatClampNeg) + (1 : Int32)), .int v1, .ref 59], (SH, (m_up m.1 3 ((v1 * (8 : Int32)) + (m.1 59 v1.toNatClampNeg)).toNatClampNeg v2), m.2)) from rfl) ?_
    refine m_R_1 (by decide) (m_opb_of (ins := .iastore) (len := 1) (tag := 0) (a := 0) (b := 0) (c := 0) (q := 0) (by decide +kernel)) (m_s_iast sh_59 c175) ?_
    exact ok_Notes_moveTo_83 X d F _ _ _ _ _ _ _ h
def f_Notes_moveTo_21 (F : Nat)   (v1 : Int32) (v2 : Int32) (m : mM) : Option (Unit × mM) := (if v1 < 0 ∨ 400 ≤ v1.toNatClampNeg then none else (if v2 ≤ 0 then f_Notes_moveTo_42 F v1 v2 ((m_up m.1 58 v1.toNatClampNeg v2), m.2) else (if v2 < 0 ∨ 16 ≤ v2.toNatClampNeg then none else f_Notes_moveTo_42 F v1 v2 ((m_up (m_up m.1 58 v1.toNatClampNeg v2) 61 v2.toNatClampNeg (((m_up m.1 58 v1.toNatClampNeg v2) 61 v2.toNatClampNeg) + (1 : Int32))), m.2))))
theorem ok_Notes_moveTo_21 (X : mX) (d F : Nat) : ∀ (v1 : Int32) (v2 : Int32) (w3 : Option Value) (m : mM) (r : Unit) (m' : mM), f_Notes_moveTo_21 F v1 v2 m = some (r, m') → m_R X (d + 0) 53 21 [some (.ref 55), some (.int v1), some (.int v2), w3] [] (SH, m) (none, (SH, m')) := by
  intro v1 v2 w3 m r m' h
  unfold f_Notes_moveTo_21 at h
  refine m_R_sg (by decide) [(.aload_n 0, 1, 0, 0, 0, 0, 0), (.getfield 18, 3, 0, 3, 3, 3, 453), (.iload_n 1, 1, 0, 1, 0, 0, 0), (.iload_n 2, 1, 0, 2, 0, 0, 0)] (by decide +kernel) (show m_sgl X _ _ _ _ _ = some (27, [some (.ref 55), some (.int v1), some (.int v2), w3], [.int v2, .int v1, .ref 58], (SH, m.1, m.2)) from rfl) ?_
  obtain ⟨c178, h⟩ := m_ite_n h
  refine m_R_1 (by decide) (m_opb_of (ins := .iastore) (len := 1) (tag := 0) (a := 0) (b := 0) (c := 0) (q := 0) (by decide +kernel)) (m_s_iast sh_58 c178) ?_
  refine m_R_sg (by decide) [(.iload_n 2, 1, 0, 2, 0, 0, 0)] (by decide +kernel) (show m_sgl X _ _ _ _ _ = some (29, [some (.ref 55), some (.int v1), some (.int v2), w3], [.int v2], (SH, (m_up m.1 58 v1.toNatClampNeg v2), m.2)) from rfl) ?_
  rcases m_ite h with ⟨c179, h⟩ | ⟨c179, h⟩
  · refine m_R_1 (by decide) (m_opb_of (ins := .ifCond .le 13) (len := 3) (tag := 0) (a := 42) (b := 0) (c := 0) (q := 0) (by decide +kernel)) (if_pos c179) ?_
    exact ok_Notes_moveTo_42 X d F _ _ _ _ _ _ h
  · refine m_R_1 (by decide) (m_opb_of (ins := .ifCond .le 13) (len := 3) (tag := 0) (a := 42) (b := 0) (c := 0) (q := 0) (by decide +kernel)) (if_neg c179) ?_
    refine m_R_sg (by decide) [(.aload_n 0, 1, 0, 0, 0, 0, 0), (.getfield 27, 3, 0, 3, 6, 3, 460), (.iload_n 2, 1, 0, 2, 0, 0, 0), (.dup2, 1, 0, 0, 0, 0, 0)] (by decide +kernel) (show m_sgl X _ _ _ _ _ = some (38, [some (.ref 55), some (.int v1), some (.int v2), w3], [.int v2, .ref 61, .int v2, .ref 61], (SH, (m_up m.1 58 v1.toNatClampNeg v2), m.2)) from rfl) ?_
    obtain ⟨c180, h⟩ := m_ite_n h
    refine m_R_1 (by decide) (m_opb_of (ins := .iaload) (len := 1) (tag := 0) (a := 0) (b := 0) (c := 0) (q := 0) (by decide +kernel)) (m_s_iald sh_61 (by decide) c180) ?_
    refine m_R_sg (by decide) [(.iconst 1, 1, 0, 1, 0, 0, 0), (.iadd, 1, 0, 0, 0, 0, 0)] (by decide +kernel) (show m_sgl X _ _ _ _ _ = some (41, [some (.ref 55), some (.int v1), some (.int v2), w3], [.int (((m_up m.1 58 v1.toNatClampNeg v2) 61 v2.toNatClampNeg) + (1 : Int32)), .int v2, .ref 61], (SH, (m_up m.1 58 v1.toNatClampNeg v2), m.2)) from rfl) ?_
    refine m_R_1 (by decide) (m_opb_of (ins := .iastore) (len := 1) (tag := 0) (a := 0) (b := 0) (c := 0) (q := 0) (by decide +kernel)) (m_s_iast sh_61 c180) ?_
    exact ok_Notes_moveTo_42 X d F _ _ _ _ _ _ h
def f_Notes_moveTo (F : Nat)   (v1 : Int32) (v2 : Int32) (m : mM) : Option (Unit × mM) := (if v1 < 0 ∨ 400 ≤ v1.toNatClampNeg then none else (if (m.1 58 v1.toNatClampNeg) ≤ 0 then f_Notes_moveTo_21 F v1 v2 m else (if (m.1 58 v1.toNatClampNeg) < 0 ∨ 16 ≤ (m.1 58 v1.toNatClampNeg).toNatClampNeg then none else f_Notes_moveTo_21 F v1 v2 ((m_up m.1 61 (m.1 58 v1.toNatClampNeg).toNatClampNeg ((m.1 61 (m.1 58 v1.toNatClampNeg).toNatClampNeg) - (1 : Int32))), m.2))))
theorem ok_Notes_moveTo (X : mX) (d F : Nat) : ∀ (v1 : Int32) (v2 : Int32)  (m : mM) (r : Unit) (m' : mM), f_Notes_moveTo F v1 v2 m = some (r, m') → m_R X (d + 0) 53 0 [some (.ref 55), some (.int v1), some (.int v2), none] [] (SH, m) (none, (SH, m')) := by
  intro v1 v2 m r m' h
  unfold f_Notes_moveTo at h
  refine m_R_sg (by decide) [(.aload_n 0, 1, 0, 0, 0, 0, 0), (.getfield 18, 3, 0, 3, 3, 3, 453), (.iload_n 1, 1, 0, 1, 0, 0, 0)] (by decide +kernel) (show m_sgl X _ _ _ _ _ = some (5, [some (.ref 55), some (.int v1), some (.int v2), none], [.int v1, .ref 58], (SH, m.1, m.2)) from rfl) ?_
  obtain ⟨c181, h⟩ := m_ite_n h
  refine m_R_1 (by decide) (m_opb_of (ins := .iaload) (len := 1) (tag := 0) (a := 0) (b := 0) (c := 0) (q := 0) (by decide +kernel)) (m_s_iald sh_58 (by decide) c181) ?_
  refine m_R_sg (by decide) [(.istore_n 3, 1, 0, 3, 0, 0, 0), (.iload_n 3, 1, 0, 3, 0, 0, 0)] (by decide +kernel) (show m_sgl X _ _ _ _ _ = some (8, [some (.ref 55), some (.int v1), some (.int v2), some (.int (m.1 58 v1.toNatClampNeg))], [.int (m.1 58 v1.toNatClampNeg)], (SH, m.1, m.2)) from rfl) ?_
  rcases m_ite h with ⟨c182, h⟩ | ⟨c182, h⟩
  · refine m_R_1 (by decide) (m_opb_of (ins := .ifCond .le 13) (len := 3) (tag := 0) (a := 21) (b := 0) (c := 0) (q := 0) (by decide +kernel)) (if_pos c182) ?_
    exact ok_Notes_moveTo_21 X d F _ _ _ _ _ _ h
  · refine m_R_1 (by decide) (m_opb_of (ins := .ifCond .le 13) (len := 3) (tag := 0) (a := 21) (b := 0) (c := 0) (q := 0) (by decide +kernel)) (if_neg c182) ?_
    refine m_R_sg (by decide) [(.aload_n 0, 1, 0, 0, 0, 0, 0), (.getfield 27, 3, 0, 3, 6, 3, 460), (.iload_n 3, 1, 0, 3, 0, 0, 0), (.dup2, 1, 0, 0, 0, 0, 0)] (by decide +kernel) (show m_sgl X _ _ _ _ _ = some (17, [some (.ref 55), some (.int v1), some (.int v2), some (.int (m.1 58 v1.toNatClampNeg))], [.int (m.1 58 v1.toNatClampNeg), .ref 61, .int (m.1 58 v1.toNatClampNeg), .ref 61], (SH, m.1, m.2)) from rfl) ?_
    obtain ⟨c183, h⟩ := m_ite_n h
    refine m_R_1 (by decide) (m_opb_of (ins := .iaload) (len := 1) (tag := 0) (a := 0) (b := 0) (c := 0) (q := 0) (by decide +kernel)) (m_s_iald sh_61 (by decide) c183) ?_
    refine m_R_sg (by decide) [(.iconst 1, 1, 0, 1, 0, 0, 0), (.isub, 1, 0, 0, 0, 0, 0)] (by decide +kernel) (show m_sgl X _ _ _ _ _ = some (20, [some (.ref 55), some (.int v1), some (.int v2), some (.int (m.1 58 v1.toNatClampNeg))], [.int ((m.1 61 (m.1 58 v1.toNatClampNeg).toNatClampNeg) - (1 : Int32)), .int (m.1 58 v1.toNatClampNeg), .ref 61], (SH, m.1, m.2)) from rfl) ?_
    refine m_R_1 (by decide) (m_opb_of (ins := .iastore) (len := 1) (tag := 0) (a := 0) (b := 0) (c := 0) (q := 0) (by decide +kernel)) (m_s_iast sh_61 c183) ?_
    exact ok_Notes_moveTo_21 X d F _ _ _ _ _ _ h
def f_Notes_addCopy_11 (F : Nat)   : Nat → Int32 → Int32 → Int32 → Int32 → mM → Option (Int32 × mM)
  | 0, _, _, _, _, _ => none
  | n + 1, v1, v2, v3, v4, m => (if v4 ≤ v2 then (if v2 < 0 ∨ 400 ≤ v2.toNatClampNeg then none else (if v3 < 0 ∨ 400 ≤ v3.toNatClampNeg then none else some (v3, ((m_up (m_up (m_up (m_up (m_up m.1 60 v2.toNatClampNeg v3) 2 v3.toNatClampNeg v1) 58 v3.toNatClampNeg (-1 : Int32)) 59 v3.toNatClampNeg (0 : Int32)) 55 7 (((m_up (m_up (m_up (m_up m.1 60 v2.toNatClampNeg v3) 2 v3.toNatClampNeg v1) 58 v3.toNatClampNeg (-1 : Int32)) 59 v3.toNatClampNeg (0 : Int32)) 55 7) + (1 : Int32))), m.2)))) else (if (v4 - (1 : Int32)) < 0 ∨ 400 ≤ (v4 - (1 : Int32)).toNatClampNeg then none else (if v4 < 0 ∨ 400 ≤ v4.toNatClampNeg then none else f_Notes_addCopy_11 F n v1 v2 v3 (v4 + (-1 : Int32)) ((m_up m.1 60 v4.toNatClampNeg (m.1 60 (v4 - (1 : Int32)).toNatClampNeg)), m.2))))
theorem ok_Notes_addCopy_11 (X : mX) (d F : Nat) : ∀ (n : Nat) (v1 : Int32) (v2 : Int32) (v3 : Int32) (v4 : Int32)  (m : mM) (r : Int32) (m' : mM), f_Notes_addCopy_11 F n v1 v2 v3 v4 m = some (r, m') → m_R X (d + 0) 54 11 [some (.ref 55), some (.int v1), some (.int v2), some (.int v3), some (.int v4)] [] (SH, m) (some (.int r), (SH, m')) := by
  intro n
  induction n with
  | zero => intro v1 v2 v3 v4 m r m' h; cases h
  | succ n ih =>
    intro v1 v2 v3 v4 m r m' h
    simp only [f_Notes_addCopy_11] at h
    refine m_R_sg (by decide) [(.iload 4, 2, 0, 4, 0, 0, 0), (.iload_n 2, 1, 0, 2, 0, 0, 0)] (by decide +kernel) (show m_sgl X _ _ _ _ _ = some (14, [some (.ref 55), some (.int v1), some (.int v2), some (.int v3), some (.int v4)], [.int v2, .int v4], (SH, m.1, m.2)) from rfl) ?_
    rcases m_ite h with ⟨c184, h⟩ | ⟨c184, h⟩
    · refine m_R_1 (by decide) (m_opb_of (ins := .if_icmp .le 25) (len := 3) (tag := 0) (a := 39) (b := 0) (c := 0) (q := 0) (by decide +kernel)) (if_pos c184) ?_
      refine m_R_sg (by decide) [(.aload_n 0, 1, 0, 0, 0, 0, 0), (.getfield 24, 3, 0, 3, 5, 3, 458), (.iload_n 2, 1, 0, 2, 0, 0, 0), (.iload_n 3, 1, 0, 3, 0, 0, 0)] (by decide +kernel) (show m_sgl X _ _ _ _ _ = some (45, [some (.ref 55), some (.int v1), some (.int v2), some (.int v3), some (.int v4)], [.int v3, .int v2, .ref 60], (SH, m.1, m.2)) from rfl) ?_
      obtain ⟨c185, h⟩ := m_ite_n h
      refine m_R_1 (by decide) (m_opb_of (ins := .iastore) (len := 1) (tag := 0) (a := 0) (b := 0) (c := 0) (q := 0) (by decide +kernel)) (m_s_iast sh_60 c185) ?_
      refine m_R_sg (by decide) [(.aload_n 0, 1, 0, 0, 0, 0, 0), (.getfield 30, 3, 0, 3, 0, 3, 449), (.getfield 70, 3, 0, 6, 0, 3, 161), (.iload_n 3, 1, 0, 3, 0, 0, 0), (.iload_n 1, 1, 0, 1, 0, 0, 0)] (by decide +kernel) (show m_sgl X _ _ _ _ _ = some (55, [some (.ref 55), some (.int v1), some (.int v2), some (.int v3), some (.int v4)], [.int v1, .int v3, .ref 2], (SH, (m_up m.1 60 v2.toNatClampNeg v3), m.2)) from rfl) ?_
      obtain ⟨c186, h⟩ := m_ite_n h
      refine m_R_1 (by decide) (m_opb_of (ins := .iastore) (len := 1) (tag := 0) (a := 0) (b := 0) (c := 0) (q := 0) (by decide +kernel)) (m_s_iast sh_2 c186) ?_
      refine m_R_sg (by decide) [(.aload_n 0, 1, 0, 0, 0, 0, 0), (.getfield 18, 3, 0, 3, 3, 3, 453), (.iload_n 3, 1, 0, 3, 0, 0, 0), (.iconst (-1), 1, 0, 1, 1, 0, 0)] (by decide +kernel) (show m_sgl X _ _ _ _ _ = some (62, [some (.ref 55), some (.int v1), some (.int v2), some (.int v3), some (.int v4)], [.int (-1 : Int32), .int v3, .ref 58], (SH, (m_up (m_up m.1 60 v2.toNatClampNeg v3) 2 v3.toNatClampNeg v1), m.2)) from rfl) ?_
      refine m_R_1 (by decide) (m_opb_of (ins := .iastore) (len := 1) (tag := 0) (a := 0) (b := 0) (c := 0) (q := 0) (by decide +kernel)) (m_s_iast sh_58 c186) ?_
      refine m_R_sg (by decide) [(.aload_n 0, 1, 0, 0, 0, 0, 0), (.getfield 21, 3, 0, 3, 4, 3, 456), (.iload_n 3, 1, 0, 3, 0, 0, 0), (.iconst 0, 1, 0, 0, 0, 0, 0)] (by decide +kernel) (show m_sgl X _ _ _ _ _ = some (69, [some (.ref 55), some (.int v1), some (.int v2), some (.int v3), some (.int v4)], [.int (0 : Int32), .int v3, .ref 59], (SH, (m_up (m_up (m_up m.1 60 v2.toNatClampNeg v3) 2 v3.toNatClampNeg v1) 58 v3.toNatClampNeg (-1 : Int32)), m.2)) from rfl) ?_
      refine m_R_1 (by decide) (m_opb_of (ins := .iastore) (len := 1) (tag := 0) (a := 0) (b := 0) (c := 0) (q := 0) (by decide +kernel)) (m_s_iast sh_59 c186) ?_
      refine m_R_sg (by decide) [(.aload_n 0, 1, 0, 0, 0, 0, 0), (.dup, 1, 0, 0, 0, 0, 0), (.getfield 38, 3, 0, 3, 7, 0, 463), (.iconst 1, 1, 0, 1, 0, 0, 0), (.iadd, 1, 0, 0, 0, 0, 0), (.putfield 38, 3, 0, 3, 7, 0, 463), (.iload_n 3, 1, 0, 3, 0, 0, 0)] (by decide +kernel) (show m_sgl X _ _ _ _ _ = some (81, [some (.ref 55), some (.int v1), some (.int v2), some (.int v3), some (.int v4)], [.int v3], (SH, (m_up (m_up (m_up (m_up (m_up m.1 60 v2.toNatClampNeg v3) 2 v3.toNatClampNeg v1) 58 v3.toNatClampNeg (-1 : Int32)) 59 v3.toNatClampNeg (0 : Int32)) 55 7 (((m_up (m_up (m_up (m_up m.1 60 v2.toNatClampNeg v3) 2 v3.toNatClampNeg v1) 58 v3.toNatClampNeg (-1 : Int32)) 59 v3.toNatClampNeg (0 : Int32)) 55 7) + (1 : Int32))), m.2)) from rfl) ?_
      cases h
      exact m_R_iret (by decide) (m_opb_of (ins := .ireturn) (len := 1) (tag := 1) (a := 0) (b := 0) (c := 0) (q := 0) (by decide +kernel)) (Or.inl rfl)
    · refine m_R_1 (by decide) (m_opb_of (ins := .if_icmp .le 25) (len := 3) (tag := 0) (a := 39) (b := 0) (c := 0) (q := 0) (by decide +kernel)) (if_neg c184) ?_
      refine m_R_sg (by decide) [(.aload_n 0, 1, 0, 0, 0, 0, 0), (.getfield 24, 3, 0, 3, 5, 3, 458), (.iload 4, 2, 0, 4, 0, 0, 0), (.aload_n 0, 1, 0, 0, 0, 0, 0), (.getfield 24, 3, 0, 3, 5, 3, 458), (.iload 4, 2, 0, 4, 0, 0, 0), (.iconst 1, 1, 0, 1, 0, 0, 0), (.isub, 1, 0, 0, 0, 0, 0)] (by decide +kernel) (show m_sgl X _ _ _ _ _ = some (31, [some (.ref 55), some (.int v1), some (.int v2), some (.int v3), some (.int v4)], [.int (v4 - (1 : Int32)), .ref 60, .int v4, .ref 60], (SH, m.1, m.2)) from rfl) ?_
      obtain ⟨c187, h⟩ := m_ite_n h
      refine m_R_1 (by decide) (m_opb_of (ins := .iaload) (len := 1) (tag := 0) (a := 0) (b := 0) (c := 0) (q := 0) (by decide +kernel)) (m_s_iald sh_60 (by decide) c187) ?_
      obtain ⟨c188, h⟩ := m_ite_n h
      refine m_R_1 (by decide) (m_opb_of (ins := .iastore) (len := 1) (tag := 0) (a := 0) (b := 0) (c := 0) (q := 0) (by decide +kernel)) (m_s_iast sh_60 c188) ?_
      refine m_R_sg (by decide) [(.iinc 4 (-1), 3, 0, 4, 1, 1, 0), (.goto (-25), 3, 0, 11, 0, 0, 0)] (by decide +kernel) (show m_sgl X _ _ _ _ _ = some (11, [some (.ref 55), some (.int v1), some (.int v2), some (.int v3), some (.int (v4 + (-1 : Int32)))], [], (SH, (m_up m.1 60 v4.toNatClampNeg (m.1 60 (v4 - (1 : Int32)).toNatClampNeg)), m.2)) from rfl) ?_
      exact ih _ _ _ _ _ _ _ h
def f_Notes_addCopy (F : Nat)   (v1 : Int32) (v2 : Int32) (m : mM) : Option (Int32 × mM) := f_Notes_addCopy_11 F F v1 v2 (m.1 55 7) (m.1 55 7) m
theorem ok_Notes_addCopy (X : mX) (d F : Nat) : ∀ (v1 : Int32) (v2 : Int32)  (m : mM) (r : Int32) (m' : mM), f_Notes_addCopy F v1 v2 m = some (r, m') → m_R X (d + 0) 54 0 [some (.ref 55), some (.int v1), some (.int v2), none, none] [] (SH, m) (some (.int r), (SH, m')) := by
  intro v1 v2 m r m' h
  unfold f_Notes_addCopy at h
  refine m_R_sg (by decide) [(.aload_n 0, 1, 0, 0, 0, 0, 0), (.getfield 38, 3, 0, 3, 7, 0, 463), (.istore_n 3, 1, 0, 3, 0, 0, 0), (.aload_n 0, 1, 0, 0, 0, 0, 0), (.getfield 38, 3, 0, 3, 7, 0, 463), (.istore 4, 2, 0, 4, 0, 0, 0)] (by decide +kernel) (show m_sgl X _ _ _ _ _ = some (11, [some (.ref 55), some (.int v1), some (.int v2), some (.int (m.1 55 7)), some (.int (m.1 55 7))], [], (SH, m.1, m.2)) from rfl) ?_
  exact ok_Notes_addCopy_11 X d F F _ _ _ _ _ _ _ h
def f_Notes_issue_76 (F : Nat)  (k11 : Int32 → Int32 → Int32 → Int32 → mM → Option (Unit × mM)) (v1 : Int32) (v3 : Int32) (v4 : Int32) (v5 : Int32) (m : mM) : Option (Unit × mM) := k11 v1 v3 v4 (v5 + (1 : Int32)) m
theorem ok_Notes_issue_76 (X : mX) (d F : Nat) (k11 : Int32 → Int32 → Int32 → Int32 → mM → Option (Unit × mM)) (hk11 : ∀ (v1 : Int32) (v3 : Int32) (v4 : Int32) (v5 : Int32) (w2 : Option Value) (m : mM) (r : Unit) (m' : mM), k11 v1 v3 v4 v5 m = some (r, m') → m_R X (d + 1) 52 11 [some (.ref 55), some (.int v1), w2, some (.int v3), some (.int v4), some (.int v5)] [] (SH, m) (none, (SH, m'))) : ∀ (v1 : Int32) (v3 : Int32) (v4 : Int32) (v5 : Int32) (w2 : Option Value) (m : mM) (r : Unit) (m' : mM), f_Notes_issue_76 F k11 v1 v3 v4 v5 m = some (r, m') → m_R X (d + 1) 52 76 [some (.ref 55), some (.int v1), w2, some (.int v3), some (.int v4), some (.int v5)] [] (SH, m) (none, (SH, m')) := by
  intro v1 v3 v4 v5 w2 m r m' h
  unfold f_Notes_issue_76 at h
  refine m_R_sg (by decide) [(.iinc 5 1, 3, 0, 5, 1, 0, 0), (.goto (-68), 3, 0, 11, 0, 0, 0)] (by decide +kernel) (show m_sgl X _ _ _ _ _ = some (11, [some (.ref 55), some (.int v1), w2, some (.int v3), some (.int v4), some (.int (v5 + (1 : Int32)))], [], (SH, m.1, m.2)) from rfl) ?_
  exact hk11 _ _ _ _ _ _ _ _ h
def f_Notes_issue_170 (F : Nat)    (m : mM) : Option (Unit × mM) := some ((), m)
theorem ok_Notes_issue_170 (X : mX) (d F : Nat) : ∀  (w0 : Option Value) (w1 : Option Value) (w2 : Option Value) (w3 : Option Value) (w4 : Option Value) (w5 : Option Value) (m : mM) (r : Unit) (m' : mM), f_Notes_issue_170 F  m = some (r, m') → m_R X (d + 1) 52 170 [w0, w1, w2, w3, w4, w5] [] (SH, m) (none, (SH, m')) := by
  intro w0 w1 w2 w3 w4 w5 m r m' h
  unfold f_Notes_issue_170 at h
  cases h
  exact m_R_vret (by decide) (m_opb_of (ins := .return_) (len := 1) (tag := 3) (a := 0) (b := 0) (c := 0) (q := 0) (by decide +kernel))
def f_Notes_issue_82 (F : Nat)   : Nat → Int32 → Int32 → mM → Option (Unit × mM)
  | 0, _, _, _ => none
  | n + 1, v1, v3, m => (if v3 ≤ 0 then f_Notes_issue_170 F m else (if (300 : Int32) ≤ (m.1 55 8) then f_Notes_issue_170 F m else (if (400 : Int32) ≤ (m.1 55 7) then f_Notes_issue_170 F m else ((f_Notes_addCopy F (m.1 55 8) (m.1 55 7) m).bind fun q2 => (if (q2.2.1 55 8) < 0 ∨ 300 ≤ (q2.2.1 55 8).toNatClampNeg then none else ((f_Notes_moveTo F q2.1 (0 : Int32) ((m_up (m_up (m_up q2.2.1 56 (q2.2.1 55 8).toNatClampNeg (1 : Int32)) 55 8 (((m_up q2.2.1 56 (q2.2.1 55 8).toNatClampNeg (1 : Int32)) 55 8) + (1 : Int32))) 55 9 (((m_up (m_up q2.2.1 56 (q2.2.1 55 8).toNatClampNeg (1 : Int32)) 55 8 (((m_up q2.2.1 56 (q2.2.1 55 8).toNatClampNeg (1 : Int32)) 55 8) + (1 : Int32))) 55 9) + (1 : Int32))), q2.2.2)).bind fun q3 => ((f_Notes_moveTo F q2.1 v1 q3.2).bind fun q4 => f_Notes_issue_82 F n v1 (v3 + (-1 : Int32)) q4.2)))))))
theorem ok_Notes_issue_82 (X : mX) (d F : Nat) : ∀ (n : Nat) (v1 : Int32) (v3 : Int32) (w2 : Option Value) (w4 : Option Value) (w5 : Option Value) (m : mM) (r : Unit) (m' : mM), f_Notes_issue_82 F n v1 v3 m = some (r, m') → m_R X (d + 1) 52 82 [some (.ref 55), some (.int v1), w2, some (.int v3), w4, w5] [] (SH, m) (none, (SH, m')) := by
  intro n
  induction n with
  | zero => intro v1 v3 w2 w4 w5 m r m' h; cases h
  | succ n ih =>
    intro v1 v3 w2 w4 w5 m r m' h
    simp only [f_Notes_issue_82] at h
    refine m_R_sg (by decide) [(.iload_n 3, 1, 0, 3, 0, 0, 0)] (by decide +kernel) (show m_sgl X _ _ _ _ _ = some (83, [some (.ref 55), some (.int v1), w2, some (.int v3), w4, w5], [.int v3], (SH, m.1, m.2)) from rfl) ?_
    rcases m_ite h with ⟨c189, h⟩ | ⟨c189, h⟩
    · refine m_R_1 (by decide) (m_opb_of (ins := .ifCond .le 87) (len := 3) (tag := 0) (a := 170) (b := 0) (c := 0) (q := 0) (by decide +kernel)) (if_pos c189) ?_
      exact ok_Notes_issue_170 X d F _ _ _ _ _ _ _ _ _ h
    · refine m_R_1 (by decide) (m_opb_of (ins := .ifCond .le 87) (len := 3) (tag := 0) (a := 170) (b := 0) (c := 0) (q := 0) (by decide +kernel)) (if_neg c189) ?_
      refine m_R_sg (by decide) [(.aload_n 0, 1, 0, 0, 0, 0, 0), (.getfield 42, 3, 0, 3, 8, 0, 466), (.sipush 300, 3, 0, 300, 0, 0, 0)] (by decide +kernel) (show m_sgl X _ _ _ _ _ = some (93, [some (.ref 55), some (.int v1), w2, some (.int v3), w4, w5], [.int (300 : Int32), .int (m.1 55 8)], (SH, m.1, m.2)) from rfl) ?_
      rcases m_ite h with ⟨c190, h⟩ | ⟨c190, h⟩
      · refine m_R_1 (by decide) (m_opb_of (ins := .if_icmp .ge 77) (len := 3) (tag := 0) (a := 170) (b := 0) (c := 0) (q := 0) (by decide +kernel)) (if_pos c190) ?_
        exact ok_Notes_issue_170 X d F _ _ _ _ _ _ _ _ _ h
      · refine m_R_1 (by decide) (m_opb_of (ins := .if_icmp .ge 77) (len := 3) (tag := 0) (a := 170) (b := 0) (c := 0) (q := 0) (by decide +kernel)) (if_neg c190) ?_
        refine m_R_sg (by decide) [(.aload_n 0, 1, 0, 0, 0, 0, 0), (.getfield 38, 3, 0, 3, 7, 0, 463), (.sipush 400, 3, 0, 400, 0, 0, 0)] (by decide +kernel) (show m_sgl X _ _ _ _ _ = some (103, [some (.ref 55), some (.int v1), w2, some (.int v3), w4, w5], [.int (400 : Int32), .int (m.1 55 7)], (SH, m.1, m.2)) from rfl) ?_
        rcases m_ite h with ⟨c191, h⟩ | ⟨c191, h⟩
        · refine m_R_1 (by decide) (m_opb_of (ins := .if_icmp .ge 67) (len := 3) (tag := 0) (a := 170) (b := 0) (c := 0) (q := 0) (by decide +kernel)) (if_pos c191) ?_
          exact ok_Notes_issue_170 X d F _ _ _ _ _ _ _ _ _ h
        · refine m_R_1 (by decide) (m_opb_of (ins := .if_icmp .ge 67) (len := 3) (tag := 0) (a := 170) (b := 0) (c := 0) (q := 0) (by decide +kernel)) (if_neg c191) ?_
          refine m_R_sg (by decide) [(.aload_n 0, 1, 0, 0, 0, 0, 0), (.aload_n 0, 1, 0, 0, 0, 0, 0), (.getfield 42, 3, 0, 3, 8, 0, 466), (.aload_n 0, 1, 0, 0, 0, 0, 0), (.getfield 38, 3, 0, 3, 7, 0, 463)] (by decide +kernel) (show m_sgl X _ _ _ _ _ = some (115, [some (.ref 55), some (.int v1), w2, some (.int v3), w4, w5], [.int (m.1 55 7), .int (m.1 55 8), .ref 55], (SH, m.1, m.2)) from rfl) ?_
          obtain ⟨q2, hc2, h⟩ := Option.bind_eq_some_iff.mp h
          refine m_R_cV (v := (some (.int q2.1))) (h1 := (SH, q2.2)) (rest := []) (lo' := [some (.ref 55), some (.int (m.1 55 8)), some (.int (m.1 55 7)), none, none]) (ml := 5) (k0 := 55) (by decide) (Or.inl rfl) (m_opb_of (ins := .invokevirtual 67) (len := 3) (tag := 5) (a := 54) (b := 2) (c := 0) (q := 831) (by decide +kernel)) (by decide +kernel) rfl (show m_isO 54 55 (SH, _) = true from m_isO_of (by decide +kernel)) (Nat.le_of_ble_eq_true rfl) rfl rfl (ok_Notes_addCopy X (d + 0) F _ _ _ _ _ hc2) ?_
          refine m_R_sg (by decide) [(.istore 5, 2, 0, 5, 0, 0, 0), (.aload_n 0, 1, 0, 0, 0, 0, 0), (.getfield 9, 3, 0, 3, 1, 3, 450), (.aload_n 0, 1, 0, 0, 0, 0, 0), (.getfield 42, 3, 0, 3, 8, 0, 466), (.iconst 1, 1, 0, 1, 0, 0, 0)] (by decide +kernel) (show m_sgl X _ _ _ _ _ = some (129, [some (.ref 55), some (.int v1), w2, some (.int v3), (m_cl w4), some (.int q2.1)], [.int (1 : Int32), .int (q2.2.1 55 8), .ref 56], (SH, q2.2.1, q2.2.2)) from rfl) ?_
          obtain ⟨c192, h⟩ := m_ite_n h
          refine m_R_1 (by decide) (m_opb_of (ins := .iastore) (len := 1) (tag := 0) (a := 0) (b := 0) (c := 0) (q := 0) (by decide +kernel)) (m_s_iast sh_56 c192) ?_
          refine m_R_sg (by decide) [(.aload_n 0, 1, 0, 0, 0, 0, 0), (.dup, 1, 0, 0, 0, 0, 0), (.getfield 42, 3, 0, 3, 8, 0, 466), (.iconst 1, 1, 0, 1, 0, 0, 0), (.iadd, 1, 0, 0, 0, 0, 0), (.putfield 42, 3, 0, 3, 8, 0, 466), (.aload_n 0, 1, 0, 0, 0, 0, 0), (.dup, 1, 0, 0, 0, 0, 0), (.getfield 45, 3, 0, 3, 9, 0, 467), (.iconst 1, 1, 0, 1, 0, 0, 0), (.iadd, 1, 0, 0, 0, 0, 0), (.putfield 45, 3, 0, 3, 9, 0, 467), (.aload_n 0, 1, 0, 0, 0, 0, 0), (.iload 5, 2, 0, 5, 0, 0, 0), (.iconst 0, 1, 0, 0, 0, 0, 0)] (by decide +kernel) (show m_sgl X _ _ _ _ _ = some (154, [some (.ref 55), some (.int v1), w2, some (.int v3), (m_cl w4), some (.int q2.1)], [.int (0 : Int32), .int q2.1, .ref 55], (SH, (m_up (m_up (m_up q2.2.1 56 (q2.2.1 55 8).toNatClampNeg (1 : Int32)) 55 8 (((m_up q2.2.1 56 (q2.2.1 55 8).toNatClampNeg (1 : Int32)) 55 8) + (1 : Int32))) 55 9 (((m_up (m_up q2.2.1 56 (q2.2.1 55 8).toNatClampNeg (1 : Int32)) 55 8 (((m_up q2.2.1 56 (q2.2.1 55 8).toNatClampNeg (1 : Int32)) 55 8) + (1 : Int32))) 55 9) + (1 : Int32))), q2.2.2)) from rfl) ?_
          obtain ⟨q3, hc3, h⟩ := Option.bind_eq_some_iff.mp h
          refine m_R_cV (v := none) (h1 := (SH, q3.2)) (rest := []) (lo' := [some (.ref 55), some (.int q2.1), some (.int (0 : Int32)), none]) (ml := 4) (k0 := 55) (by decide) (Or.inl rfl) (m_opb_of (ins := .invokevirtual 63) (len := 3) (tag := 5) (a := 53) (b := 2) (c := 0) (q := 827) (by decide +kernel)) (by decide +kernel) rfl (show m_isO 53 55 (SH, _) = true from m_isO_of (by decide +kernel)) (Nat.le_of_ble_eq_true rfl) rfl rfl (ok_Notes_moveTo X (d + 0) F _ _ _ _ _ hc3) ?_
          refine m_R_sg (by decide) [(.aload_n 0, 1, 0, 0, 0, 0, 0), (.iload 5, 2, 0, 5, 0, 0, 0), (.iload_n 1, 1, 0, 1, 0, 0, 0)] (by decide +kernel) (show m_sgl X _ _ _ _ _ = some (161, [some (.ref 55), some (.int v1), w2, some (.int v3), (m_cl w4), some (.int q2.1)], [.int v1, .int q2.1, .ref 55], (SH, q3.2.1, q3.2.2)) from rfl) ?_
          obtain ⟨q4, hc4, h⟩ := Option.bind_eq_some_iff.mp h
          refine m_R_cV (v := none) (h1 := (SH, q4.2)) (rest := []) (lo' := [some (.ref 55), some (.int q2.1), some (.int v1), none]) (ml := 4) (k0 := 55) (by decide) (Or.inl rfl) (m_opb_of (ins := .invokevirtual 63) (len := 3) (tag := 5) (a := 53) (b := 2) (c := 0) (q := 827) (by decide +kernel)) (by decide +kernel) rfl (show m_isO 53 55 (SH, _) = true from m_isO_of (by decide +kernel)) (Nat.le_of_ble_eq_true rfl) rfl rfl (ok_Notes_moveTo X (d + 0) F _ _ _ _ _ hc4) ?_
          refine m_R_sg (by decide) [(.iinc 3 (-1), 3, 0, 3, 1, 1, 0), (.goto (-85), 3, 0, 82, 0, 0, 0)] (by decide +kernel) (show m_sgl X _ _ _ _ _ = some (82, [some (.ref 55), some (.int v1), w2, some (.int (v3 + (-1 : Int32))), (m_cl w4), some (.int q2.1)], [], (SH, q4.2.1, q4.2.2)) from rfl) ?_
          exact ih _ _ _ _ _ _ _ _ h
def f_Notes_issue_11 (F : Nat)   : Nat → Int32 → Int32 → Int32 → Int32 → mM → Option (Unit × mM)
  | 0, _, _, _, _, _ => none
  | n + 1, v1, v3, v4, v5, m => (if v4 ≤ v5 then f_Notes_issue_82 F F v1 v3 m else (if v3 ≤ 0 then f_Notes_issue_82 F F v1 v3 m else (if v5 < 0 ∨ 300 ≤ v5.toNatClampNeg then none else (if (m.1 56 v5.toNatClampNeg) = (2 : Int32) then ((f_Notes_moveTo F ((m_up (m_up (m_up m.1 56 v5.toNatClampNeg (1 : Int32)) 55 10 (((m_up m.1 56 v5.toNatClampNeg (1 : Int32)) 55 10) - (1 : Int32))) 55 9 (((m_up (m_up m.1 56 v5.toNatClampNeg (1 : Int32)) 55 10 (((m_up m.1 56 v5.toNatClampNeg (1 : Int32)) 55 10) - (1 : Int32))) 55 9) + (1 : Int32))) 57 v5.toNatClampNeg) v1 ((m_up (m_up (m_up m.1 56 v5.toNatClampNeg (1 : Int32)) 55 10 (((m_up m.1 56 v5.toNatClampNeg (1 : Int32)) 55 10) - (1 : Int32))) 55 9 (((m_up (m_up m.1 56 v5.toNatClampNeg (1 : Int32)) 55 10 (((m_up m.1 56 v5.toNatClampNeg (1 : Int32)) 55 10) - (1 : Int32))) 55 9) + (1 : Int32))), m.2)).bind fun q1 => f_Notes_issue_76 F (f_Notes_issue_11 F n) v1 (v3 + (-1 : Int32)) v4 v5 q1.2) else f_Notes_issue_76 F (f_Notes_issue_11 F n) v1 v3 v4 v5 m))))
theorem ok_Notes_issue_11 (X : mX) (d F : Nat) : ∀ (n : Nat) (v1 : Int32) (v3 : Int32) (v4 : Int32) (v5 : Int32) (w2 : Option Value) (m : mM) (r : Unit) (m' : mM), f_Notes_issue_11 F n v1 v3 v4 v5 m = some (r, m') → m_R X (d + 1) 52 11 [some (.ref 55), some (.int v1), w2, some (.int v3), some (.int v4), some (.int v5)] [] (SH, m) (none, (SH, m')) := by
  intro n
  induction n with
  | zero => intro v1 v3 v4 v5 w2 m r m' h; cases h
  | succ n ih =>
    intro v1 v3 v4 v5 w2 m r m' h
    simp only [f_Notes_issue_11] at h
    refine m_R_sg (by decide) [(.iload 5, 2, 0, 5, 0, 0, 0), (.iload 4, 2, 0, 4, 0, 0, 0)] (by decide +kernel) (show m_sgl X _ _ _ _ _ = some (15, [some (.ref 55), some (.int v1), w2, some (.int v3), some (.int v4), some (.int v5)], [.int v4, .int v5], (SH, m.1, m.2)) from rfl) ?_
    rcases m_ite h with ⟨c193, h⟩ | ⟨c193, h⟩
    · refine m_R_1 (by decide) (m_opb_of (ins := .if_icmp .ge 67) (len := 3) (tag := 0) (a := 82) (b := 0) (c := 0) (q := 0) (by decide +kernel)) (if_pos c193) ?_
      exact ok_Notes_issue_82 X d F F _ _ _ _ _ _ _ _ h
    · refine m_R_1 (by decide) (m_opb_of (ins := .if_icmp .ge 67) (len := 3) (tag := 0) (a := 82) (b := 0) (c := 0) (q := 0) (by decide +kernel)) (if_neg c193) ?_
      refine m_R_sg (by decide) [(.iload_n 3, 1, 0, 3, 0, 0, 0)] (by decide +kernel) (show m_sgl X _ _ _ _ _ = some (19, [some (.ref 55), some (.int v1), w2, some (.int v3), some (.int v4), some (.int v5)], [.int v3], (SH, m.1, m.2)) from rfl) ?_
      rcases m_ite h with ⟨c194, h⟩ | ⟨c194, h⟩
      · refine m_R_1 (by decide) (m_opb_of (ins := .ifCond .le 63) (len := 3) (tag := 0) (a := 82) (b := 0) (c := 0) (q := 0) (by decide +kernel)) (if_pos c194) ?_
        exact ok_Notes_issue_82 X d F F _ _ _ _ _ _ _ _ h
      · refine m_R_1 (by decide) (m_opb_of (ins := .ifCond .le 63) (len := 3) (tag := 0) (a := 82) (b := 0) (c := 0) (q := 0) (by decide +kernel)) (if_neg c194) ?_
        refine m_R_sg (by decide) [(.aload_n 0, 1, 0, 0, 0, 0, 0), (.getfield 9, 3, 0, 3, 1, 3, 450), (.iload 5, 2, 0, 5, 0, 0, 0)] (by decide +kernel) (show m_sgl X _ _ _ _ _ = some (28, [some (.ref 55), some (.int v1), w2, some (.int v3), some (.int v4), some (.int v5)], [.int v5, .ref 56], (SH, m.1, m.2)) from rfl) ?_
        obtain ⟨c195, h⟩ := m_ite_n h
        refine m_R_1 (by decide) (m_opb_of (ins := .iaload) (len := 1) (tag := 0) (a := 0) (b := 0) (c := 0) (q := 0) (by decide +kernel)) (m_s_iald sh_56 (by decide) c195) ?_
        refine m_R_sg (by decide) [(.iconst 2, 1, 0, 2, 0, 0, 0)] (by decide +kernel) (show m_sgl X _ _ _ _ _ = some (30, [some (.ref 55), some (.int v1), w2, some (.int v3), some (.int v4), some (.int v5)], [.int (2 : Int32), .int (m.1 56 v5.toNatClampNeg)], (SH, m.1, m.2)) from rfl) ?_
        rcases m_ite h with ⟨c196, h⟩ | ⟨c196, h⟩
        · refine m_R_1 (by decide) (m_opb_of (ins := .if_icmp .ne 46) (len := 3) (tag := 0) (a := 76) (b := 0) (c := 0) (q := 0) (by decide +kernel)) (if_pos c196) ?_
          refine m_R_sg (by decide) [(.aload_n 0, 1, 0, 0, 0, 0, 0), (.getfield 9, 3, 0, 3, 1, 3, 450), (.iload 5, 2, 0, 5, 0, 0, 0), (.iconst 1, 1, 0, 1, 0, 0, 0)] (by decide +kernel) (show m_sgl X _ _ _ _ _ = some (40, [some (.ref 55), some (.int v1), w2, some (.int v3), some (.int v4), some (.int v5)], [.int (1 : Int32), .int v5, .ref 56], (SH, m.1, m.2)) from rfl) ?_
          refine m_R_1 (by decide) (m_opb_of (ins := .iastore) (len := 1) (tag := 0) (a := 0) (b := 0) (c := 0) (q := 0) (by decide +kernel)) (m_s_iast sh_56 c195) ?_
          refine m_R_sg (by decide) [(.aload_n 0, 1, 0, 0, 0, 0, 0), (.dup, 1, 0, 0, 0, 0, 0), (.getfield 48, 3, 0, 3, 10, 0, 470), (.iconst 1, 1, 0, 1, 0, 0, 0), (.isub, 1, 0, 0, 0, 0, 0), (.putfield 48, 3, 0, 3, 10, 0, 470), (.aload_n 0, 1, 0, 0, 0, 0, 0), (.dup, 1, 0, 0, 0, 0, 0), (.getfield 45, 3, 0, 3, 9, 0, 467), (.iconst 1, 1, 0, 1, 0, 0, 0), (.iadd, 1, 0, 0, 0, 0, 0), (.putfield 45, 3, 0, 3, 9, 0, 467), (.aload_n 0, 1, 0, 0, 0, 0, 0), (.aload_n 0, 1, 0, 0, 0, 0, 0), (.getfield 15, 3, 0, 3, 2, 3, 452), (.iload 5, 2, 0, 5, 0, 0, 0)] (by decide +kernel) (show m_sgl X _ _ _ _ _ = some (68, [some (.ref 55), some (.int v1), w2, some (.int v3), some (.int v4), some (.int v5)], [.int v5, .ref 57, .ref 55], (SH, (m_up (m_up (m_up m.1 56 v5.toNatClampNeg (1 : Int32)) 55 10 (((m_up m.1 56 v5.toNatClampNeg (1 : Int32)) 55 10) - (1 : Int32))) 55 9 (((m_up (m_up m.1 56 v5.toNatClampNeg (1 : Int32)) 55 10 (((m_up m.1 56 v5.toNatClampNeg (1 : Int32)) 55 10) - (1 : Int32))) 55 9) + (1 : Int32))), m.2)) from rfl) ?_
          refine m_R_1 (by decide) (m_opb_of (ins := .iaload) (len := 1) (tag := 0) (a := 0) (b := 0) (c := 0) (q := 0) (by decide +kernel)) (m_s_iald sh_57 (by decide) c195) ?_
          refine m_R_sg (by decide) [(.iload_n 1, 1, 0, 1, 0, 0, 0)] (by decide +kernel) (show m_sgl X _ _ _ _ _ = some (70, [some (.ref 55), some (.int v1), w2, some (.int v3), some (.int v4), some (.int v5)], [.int v1, .int ((m_up (m_up (m_up m.1 56 v5.toNatClampNeg (1 : Int32)) 55 10 (((m_up m.1 56 v5.toNatClampNeg (1 : Int32)) 55 10) - (1 : Int32))) 55 9 (((m_up (m_up m.1 56 v5.toNatClampNeg (1 : Int32)) 55 10 (((m_up m.1 56 v5.toNatClampNeg (1 : Int32)) 55 10) - (1 : Int32))) 55 9) + (1 : Int32))) 57 v5.toNatClampNeg), .ref 55], (SH, (m_up (m_up (m_up m.1 56 v5.toNatClampNeg (1 : Int32)) 55 10 (((m_up m.1 56 v5.toNatClampNeg (1 : Int32)) 55 10) - (1 : Int32))) 55 9 (((m_up (m_up m.1 56 v5.toNatClampNeg (1 : Int32)) 55 10 (((m_up m.1 56 v5.toNatClampNeg (1 : Int32)) 55 10) - (1 : Int32))) 55 9) + (1 : Int32))), m.2)) from rfl) ?_
          obtain ⟨q1, hc1, h⟩ := Option.bind_eq_some_iff.mp h
          refine m_R_cV (v := none) (h1 := (SH, q1.2)) (rest := []) (lo' := [some (.ref 55), some (.int ((m_up (m_up (m_up m.1 56 v5.toNatClampNeg (1 : Int32)) 55 10 (((m_up m.1 56 v5.toNatClampNeg (1 : Int32)) 55 10) - (1 : Int32))) 55 9 (((m_up (m_up m.1 56 v5.toNatClampNeg (1 : Int32)) 55 10 (((m_up m.1 56 v5.toNatClampNeg (1 : Int32)) 55 10) - (1 : Int32))) 55 9) + (1 : Int32))) 57 v5.toNatClampNeg)), some (.int v1), none]) (ml := 4) (k0 := 55) (by decide) (Or.inl rfl) (m_opb_of (ins := .invokevirtual 63) (len := 3) (tag := 5) (a := 53) (b := 2) (c := 0) (q := 827) (by decide +kernel)) (by decide +kernel) rfl (show m_isO 53 55 (SH, _) = true from m_isO_of (by decide +kernel)) (Nat.le_of_ble_eq_true rfl) rfl rfl (ok_Notes_moveTo X (d + 0) F _ _ _ _ _ hc1) ?_
          refine m_R_sg (by decide) [(.iinc 3 (-1), 3, 0, 3, 1, 1, 0)] (by decide +kernel) (show m_sgl X _ _ _ _ _ = some (76, [some (.ref 55), some (.int v1), w2, some (.int (v3 + (-1 : Int32))), some (.int v4), some (.int v5)], [], (SH, q1.2.1, q1.2.2)) from rfl) ?_
          exact ok_Notes_issue_76 X d F _ (fun a0 a1 a2 a3 a4 m r m' h => ih a0 a1 a2 a3 a4 m r m' h) _ _ _ _ _ _ _ _ h
        · refine m_R_1 (by decide) (m_opb_of (ins := .if_icmp .ne 46) (len := 3) (tag := 0) (a := 76) (b := 0) (c := 0) (q := 0) (by decide +kernel)) (if_neg c196) ?_
          exact ok_Notes_issue_76 X d F _ (fun a0 a1 a2 a3 a4 m r m' h => ih a0 a1 a2 a3 a4 m r m' h) _ _ _ _ _ _ _ _ h
def f_Notes_issue (F : Nat)   (v1 : Int32) (v2 : Int32) (m : mM) : Option (Unit × mM) := f_Notes_issue_11 F F v1 v2 (m.1 55 8) (0 : Int32) m
theorem ok_Notes_issue (X : mX) (d F : Nat) : ∀ (v1 : Int32) (v2 : Int32)  (m : mM) (r : Unit) (m' : mM), f_Notes_issue F v1 v2 m = some (r, m') → m_R X (d + 1) 52 0 [some (.ref 55), some (.int v1), some (.int v2), none, none, none] [] (SH, m) (none, (SH, m')) := by
  intro v1 v2 m r m' h
  unfold f_Notes_issue at h
  refine m_R_sg (by decide) [(.iload_n 2, 1, 0, 2, 0, 0, 0), (.istore_n 3, 1, 0, 3, 0, 0, 0), (.aload_n 0, 1, 0, 0, 0, 0, 0), (.getfield 42, 3, 0, 3, 8, 0, 466), (.istore 4, 2, 0, 4, 0, 0, 0), (.iconst 0, 1, 0, 0, 0, 0, 0), (.istore 5, 2, 0, 5, 0, 0, 0)] (by decide +kernel) (show m_sgl X _ _ _ _ _ = some (11, [some (.ref 55), some (.int v1), some (.int v2), some (.int v2), some (.int (m.1 55 8)), some (.int (0 : Int32))], [], (SH, m.1, m.2)) from rfl) ?_
  exact ok_Notes_issue_11 X d F F _ _ _ _ _ _ _ _ h
def f_Notes_noteFound_56 (F : Nat)   (v1 : Int32) (v2 : Int32) (m : mM) : Option (Unit × mM) := (if v1 < 0 ∨ 400 ≤ v1.toNatClampNeg then none else (if v2 < 0 ∨ 16 ≤ v2.toNatClampNeg then none else some ((), ((m_up (m_up (m_up m.1 55 12 ((m.1 55 12) + (1 : Int32))) 58 v1.toNatClampNeg (-1 : Int32)) 61 v2.toNatClampNeg (((m_up (m_up m.1 55 12 ((m.1 55 12) + (1 : Int32))) 58 v1.toNatClampNeg (-1 : Int32)) 61 v2.toNatClampNeg) - (1 : Int32))), m.2))))
theorem ok_Notes_noteFound_56 (X : mX) (d F : Nat) : ∀ (v1 : Int32) (v2 : Int32) (w3 : Option Value) (m : mM) (r : Unit) (m' : mM), f_Notes_noteFound_56 F v1 v2 m = some (r, m') → m_R X (d + 0) 56 56 [some (.ref 55), some (.int v1), some (.int v2), w3] [] (SH, m) (none, (SH, m')) := by
  intro v1 v2 w3 m r m' h
  unfold f_Notes_noteFound_56 at h
  refine m_R_sg (by decide) [(.aload_n 0, 1, 0, 0, 0, 0, 0), (.dup, 1, 0, 0, 0, 0, 0), (.getfield 54, 3, 0, 3, 12, 0, 474), (.iconst 1, 1, 0, 1, 0, 0, 0), (.iadd, 1, 0, 0, 0, 0, 0), (.putfield 54, 3, 0, 3, 12, 0, 474), (.aload_n 0, 1, 0, 0, 0, 0, 0), (.getfield 18, 3, 0, 3, 3, 3, 453), (.iload_n 1, 1, 0, 1, 0, 0, 0), (.iconst (-1), 1, 0, 1, 1, 0, 0)] (by decide +kernel) (show m_sgl X _ _ _ _ _ = some (72, [some (.ref 55), some (.int v1), some (.int v2), w3], [.int (-1 : Int32), .int v1, .ref 58], (SH, (m_up m.1 55 12 ((m.1 55 12) + (1 : Int32))), m.2)) from rfl) ?_
  obtain ⟨c197, h⟩ := m_ite_n h
  refine m_R_1 (by decide) (m_opb_of (ins := .iastore) (len := 1) (tag := 0) (a := 0) (b := 0) (c := 0) (q := 0) (by decide +kernel)) (m_s_iast sh_58 c197) ?_
  refine m_R_sg (by decide) [(.aload_n 0, 1, 0, 0, 0, 0, 0), (.getfield 27, 3, 0, 3, 6, 3, 460), (.iload_n 2, 1, 0, 2, 0, 0, 0), (.dup2, 1, 0, 0, 0, 0, 0)] (by decide +kernel) (show m_sgl X _ _ _ _ _ = some (79, [some (.ref 55), some (.int v1), some (.int v2), w3], [.int v2, .ref 61, .int v2, .ref 61], (SH, (m_up (m_up m.1 55 12 ((m.1 55 12) + (1 : Int32))) 58 v1.toNatClampNeg (-1 : Int32)), m.2)) from rfl) ?_
  obtain ⟨c198, h⟩ := m_ite_n h
  refine m_R_1 (by decide) (m_opb_of (ins := .iaload) (len := 1) (tag := 0) (a := 0) (b := 0) (c := 0) (q := 0) (by decide +kernel)) (m_s_iald sh_61 (by decide) c198) ?_
  refine m_R_sg (by decide) [(.iconst 1, 1, 0, 1, 0, 0, 0), (.isub, 1, 0, 0, 0, 0, 0)] (by decide +kernel) (show m_sgl X _ _ _ _ _ = some (82, [some (.ref 55), some (.int v1), some (.int v2), w3], [.int (((m_up (m_up m.1 55 12 ((m.1 55 12) + (1 : Int32))) 58 v1.toNatClampNeg (-1 : Int32)) 61 v2.toNatClampNeg) - (1 : Int32)), .int v2, .ref 61], (SH, (m_up (m_up m.1 55 12 ((m.1 55 12) + (1 : Int32))) 58 v1.toNatClampNeg (-1 : Int32)), m.2)) from rfl) ?_
  refine m_R_1 (by decide) (m_opb_of (ins := .iastore) (len := 1) (tag := 0) (a := 0) (b := 0) (c := 0) (q := 0) (by decide +kernel)) (m_s_iast sh_61 c198) ?_
  cases h
  exact m_R_vret (by decide) (m_opb_of (ins := .return_) (len := 1) (tag := 3) (a := 0) (b := 0) (c := 0) (q := 0) (by decide +kernel))
def f_Notes_noteFound (F : Nat)   (v1 : Int32) (v2 : Int32) (v3 : Int32) (m : mM) : Option (Unit × mM) := (if (60 : Int32) ≤ (m.1 55 12) then f_Notes_noteFound_56 F v1 v2 m else (if v1 < 0 ∨ 400 ≤ v1.toNatClampNeg then none else (if (m.1 55 12) < 0 ∨ 60 ≤ (m.1 55 12).toNatClampNeg then none else (if ((m_up m.1 4 (m.1 55 12).toNatClampNeg (m.1 2 v1.toNatClampNeg)) 55 12) < 0 ∨ 60 ≤ ((m_up m.1 4 (m.1 55 12).toNatClampNeg (m.1 2 v1.toNatClampNeg)) 55 12).toNatClampNeg then none else (if ((m_up (m_up m.1 4 (m.1 55 12).toNatClampNeg (m.1 2 v1.toNatClampNeg)) 5 ((m_up m.1 4 (m.1 55 12).toNatClampNeg (m.1 2 v1.toNatClampNeg)) 55 12).toNatClampNeg v2) 55 12) < 0 ∨ 60 ≤ ((m_up (m_up m.1 4 (m.1 55 12).toNatClampNeg (m.1 2 v1.toNatClampNeg)) 5 ((m_up m.1 4 (m.1 55 12).toNatClampNeg (m.1 2 v1.toNatClampNeg)) 55 12).toNatClampNeg v2) 55 12).toNatClampNeg then none else f_Notes_noteFound_56 F v1 v2 ((m_up (m_up (m_up m.1 4 (m.1 55 12).toNatClampNeg (m.1 2 v1.toNatClampNeg)) 5 ((m_up m.1 4 (m.1 55 12).toNatClampNeg (m.1 2 v1.toNatClampNeg)) 55 12).toNatClampNeg v2) 6 ((m_up (m_up m.1 4 (m.1 55 12).toNatClampNeg (m.1 2 v1.toNatClampNeg)) 5 ((m_up m.1 4 (m.1 55 12).toNatClampNeg (m.1 2 v1.toNatClampNeg)) 55 12).toNatClampNeg v2) 55 12).toNatClampNeg v3), m.2))))))
theorem ok_Notes_noteFound (X : mX) (d F : Nat) : ∀ (v1 : Int32) (v2 : Int32) (v3 : Int32)  (m : mM) (r : Unit) (m' : mM), f_Notes_noteFound F v1 v2 v3 m = some (r, m') → m_R X (d + 0) 56 0 [some (.ref 55), some (.int v1), some (.int v2), some (.int v3)] [] (SH, m) (none, (SH, m')) := by
  intro v1 v2 v3 m r m' h
  unfold f_Notes_noteFound at h
  refine m_R_sg (by decide) [(.aload_n 0, 1, 0, 0, 0, 0, 0), (.getfield 54, 3, 0, 3, 12, 0, 474), (.bipush 60, 2, 0, 60, 0, 0, 0)] (by decide +kernel) (show m_sgl X _ _ _ _ _ = some (6, [some (.ref 55), some (.int v1), some (.int v2), some (.int v3)], [.int (60 : Int32), .int (m.1 55 12)], (SH, m.1, m.2)) from rfl) ?_
  rcases m_ite h with ⟨c199, h⟩ | ⟨c199, h⟩
  · refine m_R_1 (by decide) (m_opb_of (ins := .if_icmp .ge 50) (len := 3) (tag := 0) (a := 56) (b := 0) (c := 0) (q := 0) (by decide +kernel)) (if_pos c199) ?_
    exact ok_Notes_noteFound_56 X d F _ _ _ _ _ _ h
  · refine m_R_1 (by decide) (m_opb_of (ins := .if_icmp .ge 50) (len := 3) (tag := 0) (a := 56) (b := 0) (c := 0) (q := 0) (by decide +kernel)) (if_neg c199) ?_
    refine m_R_sg (by decide) [(.aload_n 0, 1, 0, 0, 0, 0, 0), (.getfield 30, 3, 0, 3, 0, 3, 449), (.getfield 86, 3, 0, 6, 2, 3, 166), (.aload_n 0, 1, 0, 0, 0, 0, 0), (.getfield 54, 3, 0, 3, 12, 0, 474), (.aload_n 0, 1, 0, 0, 0, 0, 0), (.getfield 30, 3, 0, 3, 0, 3, 449), (.getfield 70, 3, 0, 6, 0, 3, 161), (.iload_n 1, 1, 0, 1, 0, 0, 0)] (by decide +kernel) (show m_sgl X _ _ _ _ _ = some (28, [some (.ref 55), some (.int v1), some (.int v2), some (.int v3)], [.int v1, .ref 2, .int (m.1 55 12), .ref 4], (SH, m.1, m.2)) from rfl) ?_
    obtain ⟨c200, h⟩ := m_ite_n h
    refine m_R_1 (by decide) (m_opb_of (ins := .iaload) (len := 1) (tag := 0) (a := 0) (b := 0) (c := 0) (q := 0) (by decide +kernel)) (m_s_iald sh_2 (by decide) c200) ?_
    obtain ⟨c201, h⟩ := m_ite_n h
    refine m_R_1 (by decide) (m_opb_of (ins := .iastore) (len := 1) (tag := 0) (a := 0) (b := 0) (c := 0) (q := 0) (by decide +kernel)) (m_s_iast sh_4 c201) ?_
    refine m_R_sg (by decide) [(.aload_n 0, 1, 0, 0, 0, 0, 0), (.getfield 30, 3, 0, 3, 0, 3, 449), (.getfield 89, 3, 0, 6, 3, 3, 169), (.aload_n 0, 1, 0, 0, 0, 0, 0), (.getfield 54, 3, 0, 3, 12, 0, 474), (.iload_n 2, 1, 0, 2, 0, 0, 0)] (by decide +kernel) (show m_sgl X _ _ _ _ _ = some (42, [some (.ref 55), some (.int v1), some (.int v2), some (.int v3)], [.int v2, .int ((m_up m.1 4 (m.1 55 12).toNatClampNeg (m.1 2 v1.toNatClampNeg)) 55 12), .ref 5], (SH, (m_up m.1 4 (m.1 55 12).toNatClampNeg (m.1 2 v1.toNatClampNeg)), m.2)) from rfl) ?_
    obtain ⟨c202, h⟩ := m_ite_n h
    refine m_R_1 (by decide) (m_opb_of (ins := .iastore) (len := 1) (tag := 0) (a := 0) (b := 0) (c := 0) (q := 0) (by decide +kernel)) (m_s_iast sh_5 c202) ?_
    refine m_R_sg (by decide) [(.aload_n 0, 1, 0, 0, 0, 0, 0), (.getfield 30, 3, 0, 3, 0, 3, 449), (.getfield 92, 3, 0, 6, 4, 3, 172), (.aload_n 0, 1, 0, 0, 0, 0, 0), (.getfield 54, 3, 0, 3, 12, 0, 474), (.iload_n 3, 1, 0, 3, 0, 0, 0)] (by decide +kernel) (show m_sgl X _ _ _ _ _ = some (55, [some (.ref 55), some (.int v1), some (.int v2), some (.int v3)], [.int v3, .int ((m_up (m_up m.1 4 (m.1 55 12).toNatClampNeg (m.1 2 v1.toNatClampNeg)) 5 ((m_up m.1 4 (m.1 55 12).toNatClampNeg (m.1 2 v1.toNatClampNeg)) 55 12).toNatClampNeg v2) 55 12), .ref 6], (SH, (m_up (m_up m.1 4 (m.1 55 12).toNatClampNeg (m.1 2 v1.toNatClampNeg)) 5 ((m_up m.1 4 (m.1 55 12).toNatClampNeg (m.1 2 v1.toNatClampNeg)) 55 12).toNatClampNeg v2), m.2)) from rfl) ?_
    obtain ⟨c203, h⟩ := m_ite_n h
    refine m_R_1 (by decide) (m_opb_of (ins := .iastore) (len := 1) (tag := 0) (a := 0) (b := 0) (c := 0) (q := 0) (by decide +kernel)) (m_s_iast sh_6 c203) ?_
    exact ok_Notes_noteFound_56 X d F _ _ _ _ _ _ h
def f_Notes_findForged_83 (F : Nat)  (k5 : Int32 → Int32 → Int32 → Int32 → mM → Option (Unit × mM)) (v1 : Int32) (v2 : Int32) (v3 : Int32) (v4 : Int32) (m : mM) : Option (Unit × mM) := k5 v1 v2 v3 (v4 + (1 : Int32)) m
theorem ok_Notes_findForged_83 (X : mX) (d F : Nat) (k5 : Int32 → Int32 → Int32 → Int32 → mM → Option (Unit × mM)) (hk5 : ∀ (v1 : Int32) (v2 : Int32) (v3 : Int32) (v4 : Int32) (w5 : Option Value) (w6 : Option Value) (m : mM) (r : Unit) (m' : mM), k5 v1 v2 v3 v4 m = some (r, m') → m_R X (d + 1) 55 5 [some (.ref 55), some (.int v1), some (.int v2), some (.int v3), some (.int v4), w5, w6] [] (SH, m) (none, (SH, m'))) : ∀ (v1 : Int32) (v2 : Int32) (v3 : Int32) (v4 : Int32) (w5 : Option Value) (w6 : Option Value) (m : mM) (r : Unit) (m' : mM), f_Notes_findForged_83 F k5 v1 v2 v3 v4 m = some (r, m') → m_R X (d + 1) 55 83 [some (.ref 55), some (.int v1), some (.int v2), some (.int v3), some (.int v4), w5, w6] [] (SH, m) (none, (SH, m')) := by
  intro v1 v2 v3 v4 w5 w6 m r m' h
  unfold f_Notes_findForged_83 at h
  refine m_R_sg (by decide) [(.iinc 4 1, 3, 0, 4, 1, 0, 0), (.goto (-81), 3, 0, 5, 0, 0, 0)] (by decide +kernel) (show m_sgl X _ _ _ _ _ = some (5, [some (.ref 55), some (.int v1), some (.int v2), some (.int v3), some (.int (v4 + (1 : Int32))), w5, w6], [], (SH, m.1, m.2)) from rfl) ?_
  exact hk5 _ _ _ _ _ _ _ _ _ h
def f_Notes_findForged_80 (F : Nat)  (k5 : Int32 → Int32 → Int32 → Int32 → mM → Option (Unit × mM)) (v1 : Int32) (v2 : Int32) (v4 : Int32) (v6 : Int32) (m : mM) : Option (Unit × mM) := f_Notes_findForged_83 F k5 v1 v2 v6 v4 m
theorem ok_Notes_findForged_80 (X : mX) (d F : Nat) (k5 : Int32 → Int32 → Int32 → Int32 → mM → Option (Unit × mM)) (hk5 : ∀ (v1 : Int32) (v2 : Int32) (v3 : Int32) (v4 : Int32) (w5 : Option Value) (w6 : Option Value) (m : mM) (r : Unit) (m' : mM), k5 v1 v2 v3 v4 m = some (r, m') → m_R X (d + 1) 55 5 [some (.ref 55), some (.int v1), some (.int v2), some (.int v3), some (.int v4), w5, w6] [] (SH, m) (none, (SH, m'))) : ∀ (v1 : Int32) (v2 : Int32) (v4 : Int32) (v6 : Int32) (w3 : Option Value) (w5 : Option Value) (m : mM) (r : Unit) (m' : mM), f_Notes_findForged_80 F k5 v1 v2 v4 v6 m = some (r, m') → m_R X (d + 1) 55 80 [some (.ref 55), some (.int v1), some (.int v2), w3, some (.int v4), w5, some (.int v6)] [] (SH, m) (none, (SH, m')) := by
  intro v1 v2 v4 v6 w3 w5 m r m' h
  unfold f_Notes_findForged_80 at h
  refine m_R_sg (by decide) [(.iload 6, 2, 0, 6, 0, 0, 0), (.istore_n 3, 1, 0, 3, 0, 0, 0)] (by decide +kernel) (show m_sgl X _ _ _ _ _ = some (83, [some (.ref 55), some (.int v1), some (.int v2), some (.int v6), some (.int v4), w5, some (.int v6)], [], (SH, m.1, m.2)) from rfl) ?_
  exact ok_Notes_findForged_83 X d F _ hk5 _ _ _ _ _ _ _ _ _ h
def f_Notes_findForged_72 (F : Nat)  (k5 : Int32 → Int32 → Int32 → Int32 → mM → Option (Unit × mM)) (v1 : Int32) (v2 : Int32) (v4 : Int32) (v5 : Int32) (v6 : Int32) (m : mM) : Option (Unit × mM) := ((f_Notes_noteFound F v5 v1 v2 m).bind fun q1 => f_Notes_findForged_80 F k5 v1 v2 v4 v6 q1.2)
theorem ok_Notes_findForged_72 (X : mX) (d F : Nat) (k5 : Int32 → Int32 → Int32 → Int32 → mM → Option (Unit × mM)) (hk5 : ∀ (v1 : Int32) (v2 : Int32) (v3 : Int32) (v4 : Int32) (w5 : Option Value) (w6 : Option Value) (m : mM) (r : Unit) (m' : mM), k5 v1 v2 v3 v4 m = some (r, m') → m_R X (d + 1) 55 5 [some (.ref 55), some (.int v1), some (.int v2), some (.int v3), some (.int v4), w5, w6] [] (SH, m) (none, (SH, m'))) : ∀ (v1 : Int32) (v2 : Int32) (v4 : Int32) (v5 : Int32) (v6 : Int32) (w3 : Option Value) (m : mM) (r : Unit) (m' : mM), f_Notes_findForged_72 F k5 v1 v2 v4 v5 v6 m = some (r, m') → m_R X (d + 1) 55 72 [some (.ref 55), some (.int v1), some (.int v2), w3, some (.int v4), some (.int v5), some (.int v6)] [] (SH, m) (none, (SH, m')) := by
  intro v1 v2 v4 v5 v6 w3 m r m' h
  unfold f_Notes_findForged_72 at h
  refine m_R_sg (by decide) [(.aload_n 0, 1, 0, 0, 0, 0, 0), (.iload 5, 2, 0, 5, 0, 0, 0), (.iload_n 1, 1, 0, 1, 0, 0, 0), (.iload_n 2, 1, 0, 2, 0, 0, 0)] (by decide +kernel) (show m_sgl X _ _ _ _ _ = some (77, [some (.ref 55), some (.int v1), some (.int v2), w3, some (.int v4), some (.int v5), some (.int v6)], [.int v2, .int v1, .int v5, .ref 55], (SH, m.1, m.2)) from rfl) ?_
  obtain ⟨q1, hc1, h⟩ := Option.bind_eq_some_iff.mp h
  refine m_R_cV (v := none) (h1 := (SH, q1.2)) (rest := []) (lo' := [some (.ref 55), some (.int v5), some (.int v1), some (.int v2)]) (ml := 4) (k0 := 55) (by decide) (Or.inl rfl) (m_opb_of (ins := .invokevirtual 82) (len := 3) (tag := 5) (a := 56) (b := 3) (c := 0) (q := 839) (by decide +kernel)) (by decide +kernel) rfl (show m_isO 56 55 (SH, _) = true from m_isO_of (by decide +kernel)) (Nat.le_of_ble_eq_true rfl) rfl rfl (ok_Notes_noteFound X (d + 0) F _ _ _ _ _ _ hc1) ?_
  exact ok_Notes_findForged_80 X d F _ hk5 _ _ _ _ _ _ _ _ _ h
def f_Notes_findForged_89 (F : Nat)    (m : mM) : Option (Unit × mM) := some ((), m)
theorem ok_Notes_findForged_89 (X : mX) (d F : Nat) : ∀  (w0 : Option Value) (w1 : Option Value) (w2 : Option Value) (w3 : Option Value) (w4 : Option Value) (w5 : Option Value) (w6 : Option Value) (m : mM) (r : Unit) (m' : mM), f_Notes_findForged_89 F  m = some (r, m') → m_R X (d + 1) 55 89 [w0, w1, w2, w3, w4, w5, w6] [] (SH, m) (none, (SH, m')) := by
  intro w0 w1 w2 w3 w4 w5 w6 m r m' h
  unfold f_Notes_findForged_89 at h
  cases h
  exact m_R_vret (by decide) (m_opb_of (ins := .return_) (len := 1) (tag := 3) (a := 0) (b := 0) (c := 0) (q := 0) (by decide +kernel))
def f_Notes_findForged_5 (F : Nat)   : Nat → Int32 → Int32 → Int32 → Int32 → mM → Option (Unit × mM)
  | 0, _, _, _, _, _ => none
  | n + 1, v1, v2, v3, v4, m => (if (m.1 55 7) ≤ v4 then f_Notes_findForged_89 F m else (if v1 < 0 ∨ 16 ≤ v1.toNatClampNeg then none else (if (m.1 61 v1.toNatClampNeg) ≤ 0 then f_Notes_findForged_89 F m else (if v4 < 0 ∨ 400 ≤ v4.toNatClampNeg then none else (if (m.1 60 v4.toNatClampNeg) < 0 ∨ 400 ≤ (m.1 60 v4.toNatClampNeg).toNatClampNeg then none else (if (m.1 58 (m.1 60 v4.toNatClampNeg).toNatClampNeg) = v1 then (if (m.1 2 (m.1 60 v4.toNatClampNeg).toNatClampNeg) < 0 ∨ 300 ≤ (m.1 2 (m.1 60 v4.toNatClampNeg).toNatClampNeg).toNatClampNeg then none else (if (m.1 56 (m.1 2 (m.1 60 v4.toNatClampNeg).toNatClampNeg).toNatClampNeg) = (1 : Int32) then (if (m.1 2 (m.1 60 v4.toNatClampNeg).toNatClampNeg) = v3 then f_Notes_findForged_72 F (f_Notes_findForged_5 F n) v1 v2 v4 (m.1 60 v4.toNatClampNeg) (m.1 2 (m.1 60 v4.toNatClampNeg).toNatClampNeg) m else f_Notes_findForged_80 F (f_Notes_findForged_5 F n) v1 v2 v4 (m.1 2 (m.1 60 v4.toNatClampNeg).toNatClampNeg) m) else f_Notes_findForged_72 F (f_Notes_findForged_5 F n) v1 v2 v4 (m.1 60 v4.toNatClampNeg) (m.1 2 (m.1 60 v4.toNatClampNeg).toNatClampNeg) m)) else f_Notes_findForged_83 F (f_Notes_findForged_5 F n) v1 v2 v3 v4 m))))))
theorem ok_Notes_findForged_5 (X : mX) (d F : Nat) : ∀ (n : Nat) (v1 : Int32) (v2 : Int32) (v3 : Int32) (v4 : Int32) (w5 : Option Value) (w6 : Option Value) (m : mM) (r : Unit) (m' : mM), f_Notes_findForged_5 F n v1 v2 v3 v4 m = some (r, m') → m_R X (d + 1) 55 5 [some (.ref 55), some (.int v1), some (.int v2), some (.int v3), some (.int v4), w5, w6] [] (SH, m) (none, (SH, m')) := by
  intro n
  induction n with
  | zero => intro v1 v2 v3 v4 w5 w6 m r m' h; cases h
  | succ n ih =>
    intro v1 v2 v3 v4 w5 w6 m r m' h
    simp only [f_Notes_findForged_5] at h
    refine m_R_sg (by decide) [(.iload 4, 2, 0, 4, 0, 0, 0), (.aload_n 0, 1, 0, 0, 0, 0, 0), (.getfield 38, 3, 0, 3, 7, 0, 463)] (by decide +kernel) (show m_sgl X _ _ _ _ _ = some (11, [some (.ref 55), some (.int v1), some (.int v2), some (.int v3), some (.int v4), w5, w6], [.int (m.1 55 7), .int v4], (SH, m.1, m.2)) from rfl) ?_
    rcases m_ite h with ⟨c204, h⟩ | ⟨c204, h⟩
    · refine m_R_1 (by decide) (m_opb_of (ins := .if_icmp .ge 78) (len := 3) (tag := 0) (a := 89) (b := 0) (c := 0) (q := 0) (by decide +kernel)) (if_pos c204) ?_
      exact ok_Notes_findForged_89 X d F _ _ _ _ _ _ _ _ _ _ h
    · refine m_R_1 (by decide) (m_opb_of (ins := .if_icmp .ge 78) (len := 3) (tag := 0) (a := 89) (b := 0) (c := 0) (q := 0) (by decide +kernel)) (if_neg c204) ?_
      refine m_R_sg (by decide) [(.aload_n 0, 1, 0, 0, 0, 0, 0), (.getfield 27, 3, 0, 3, 6, 3, 460), (.iload_n 1, 1, 0, 1, 0, 0, 0)] (by decide +kernel) (show m_sgl X _ _ _ _ _ = some (19, [some (.ref 55), some (.int v1), some (.int v2), some (.int v3), some (.int v4), w5, w6], [.int v1, .ref 61], (SH, m.1, m.2)) from rfl) ?_
      obtain ⟨c205, h⟩ := m_ite_n h
      refine m_R_1 (by decide) (m_opb_of (ins := .iaload) (len := 1) (tag := 0) (a := 0) (b := 0) (c := 0) (q := 0) (by decide +kernel)) (m_s_iald sh_61 (by decide) c205) ?_
      rcases m_ite h with ⟨c206, h⟩ | ⟨c206, h⟩
      · refine m_R_1 (by decide) (m_opb_of (ins := .ifCond .le 69) (len := 3) (tag := 0) (a := 89) (b := 0) (c := 0) (q := 0) (by decide +kernel)) (if_pos c206) ?_
        exact ok_Notes_findForged_89 X d F _ _ _ _ _ _ _ _ _ _ h
      · refine m_R_1 (by decide) (m_opb_of (ins := .ifCond .le 69) (len := 3) (tag := 0) (a := 89) (b := 0) (c := 0) (q := 0) (by decide +kernel)) (if_neg c206) ?_
        refine m_R_sg (by decide) [(.aload_n 0, 1, 0, 0, 0, 0, 0), (.getfield 24, 3, 0, 3, 5, 3, 458), (.iload 4, 2, 0, 4, 0, 0, 0)] (by decide +kernel) (show m_sgl X _ _ _ _ _ = some (29, [some (.ref 55), some (.int v1), some (.int v2), some (.int v3), some (.int v4), w5, w6], [.int v4, .ref 60], (SH, m.1, m.2)) from rfl) ?_
        obtain ⟨c207, h⟩ := m_ite_n h
        refine m_R_1 (by decide) (m_opb_of (ins := .iaload) (len := 1) (tag := 0) (a := 0) (b := 0) (c := 0) (q := 0) (by decide +kernel)) (m_s_iald sh_60 (by decide) c207) ?_
        refine m_R_sg (by decide) [(.istore 5, 2, 0, 5, 0, 0, 0), (.aload_n 0, 1, 0, 0, 0, 0, 0), (.getfield 18, 3, 0, 3, 3, 3, 453), (.iload 5, 2, 0, 5, 0, 0, 0)] (by decide +kernel) (show m_sgl X _ _ _ _ _ = some (38, [some (.ref 55), some (.int v1), some (.int v2), some (.int v3), some (.int v4), some (.int (m.1 60 v4.toNatClampNeg)), w6], [.int (m.1 60 v4.toNatClampNeg), .ref 58], (SH, m.1, m.2)) from rfl) ?_
        obtain ⟨c208, h⟩ := m_ite_n h
        refine m_R_1 (by decide) (m_opb_of (ins := .iaload) (len := 1) (tag := 0) (a := 0) (b := 0) (c := 0) (q := 0) (by decide +kernel)) (m_s_iald sh_58 (by decide) c208) ?_
        refine m_R_sg (by decide) [(.iload_n 1, 1, 0, 1, 0, 0, 0)] (by decide +kernel) (show m_sgl X _ _ _ _ _ = some (40, [some (.ref 55), some (.int v1), some (.int v2), some (.int v3), some (.int v4), some (.int (m.1 60 v4.toNatClampNeg)), w6], [.int v1, .int (m.1 58 (m.1 60 v4.toNatClampNeg).toNatClampNeg)], (SH, m.1, m.2)) from rfl) ?_
        rcases m_ite h with ⟨c209, h⟩ | ⟨c209, h⟩
        · refine m_R_1 (by decide) (m_opb_of (ins := .if_icmp .ne 43) (len := 3) (tag := 0) (a := 83) (b := 0) (c := 0) (q := 0) (by decide +kernel)) (if_pos c209) ?_
          refine m_R_sg (by decide) [(.aload_n 0, 1, 0, 0, 0, 0, 0), (.getfield 30, 3, 0, 3, 0, 3, 449), (.getfield 70, 3, 0, 6, 0, 3, 161), (.iload 5, 2, 0, 5, 0, 0, 0)] (by decide +kernel) (show m_sgl X _ _ _ _ _ = some (52, [some (.ref 55), some (.int v1), some (.int v2), some (.int v3), some (.int v4), some (.int (m.1 60 v4.toNatClampNeg)), w6], [.int (m.1 60 v4.toNatClampNeg), .ref 2], (SH, m.1, m.2)) from rfl) ?_
          refine m_R_1 (by decide) (m_opb_of (ins := .iaload) (len := 1) (tag := 0) (a := 0) (b := 0) (c := 0) (q := 0) (by decide +kernel)) (m_s_iald sh_2 (by decide) c208) ?_
          refine m_R_sg (by decide) [(.istore 6, 2, 0, 6, 0, 0, 0), (.aload_n 0, 1, 0, 0, 0, 0, 0), (.getfield 9, 3, 0, 3, 1, 3, 450), (.iload 6, 2, 0, 6, 0, 0, 0)] (by decide +kernel) (show m_sgl X _ _ _ _ _ = some (61, [some (.ref 55), some (.int v1), some (.int v2), some (.int v3), some (.int v4), some (.int (m.1 60 v4.toNatClampNeg)), some (.int (m.1 2 (m.1 60 v4.toNatClampNeg).toNatClampNeg))], [.int (m.1 2 (m.1 60 v4.toNatClampNeg).toNatClampNeg), .ref 56], (SH, m.1, m.2)) from rfl) ?_
          obtain ⟨c210, h⟩ := m_ite_n h
          refine m_R_1 (by decide) (m_opb_of (ins := .iaload) (len := 1) (tag := 0) (a := 0) (b := 0) (c := 0) (q := 0) (by decide +kernel)) (m_s_iald sh_56 (by decide) c210) ?_
          refine m_R_sg (by decide) [(.iconst 1, 1, 0, 1, 0, 0, 0)] (by decide +kernel) (show m_sgl X _ _ _ _ _ = some (63, [some (.ref 55), some (.int v1), some (.int v2), some (.int v3), some (.int v4), some (.int (m.1 60 v4.toNatClampNeg)), some (.int (m.1 2 (m.1 60 v4.toNatClampNeg).toNatClampNeg))], [.int (1 : Int32), .int (m.1 56 (m.1 2 (m.1 60 v4.toNatClampNeg).toNatClampNeg).toNatClampNeg)], (SH, m.1, m.2)) from rfl) ?_
          rcases m_ite h with ⟨c211, h⟩ | ⟨c211, h⟩
          · refine m_R_1 (by decide) (m_opb_of (ins := .if_icmp .ne 9) (len := 3) (tag := 0) (a := 72) (b := 0) (c := 0) (q := 0) (by decide +kernel)) (if_pos c211) ?_
            refine m_R_sg (by decide) [(.iload 6, 2, 0, 6, 0, 0, 0), (.iload_n 3, 1, 0, 3, 0, 0, 0)] (by decide +kernel) (show m_sgl X _ _ _ _ _ = some (69, [some (.ref 55), some (.int v1), some (.int v2), some (.int v3), some (.int v4), some (.int (m.1 60 v4.toNatClampNeg)), some (.int (m.1 2 (m.1 60 v4.toNatClampNeg).toNatClampNeg))], [.int v3, .int (m.1 2 (m.1 60 v4.toNatClampNeg).toNatClampNeg)], (SH, m.1, m.2)) from rfl) ?_
            rcases m_ite h with ⟨c212, h⟩ | ⟨c212, h⟩
            · refine m_R_1 (by decide) (m_opb_of (ins := .if_icmp .ne 11) (len := 3) (tag := 0) (a := 80) (b := 0) (c := 0) (q := 0) (by decide +kernel)) (if_pos c212) ?_
              exact ok_Notes_findForged_72 X d F _ (fun a0 a1 a2 a3 a4 a5 m r m' h => ih a0 a1 a2 a3 a4 a5 m r m' h) _ _ _ _ _ _ _ _ _ h
            · refine m_R_1 (by decide) (m_opb_of (ins := .if_icmp .ne 11) (len := 3) (tag := 0) (a := 80) (b := 0) (c := 0) (q := 0) (by decide +kernel)) (if_neg c212) ?_
              exact ok_Notes_findForged_80 X d F _ (fun a0 a1 a2 a3 a4 a5 m r m' h => ih a0 a1 a2 a3 a4 a5 m r m' h) _ _ _ _ _ _ _ _ _ h
          · refine m_R_1 (by decide) (m_opb_of (ins := .if_icmp .ne 9) (len := 3) (tag := 0) (a := 72) (b := 0) (c := 0) (q := 0) (by decide +kernel)) (if_neg c211) ?_
            exact ok_Notes_findForged_72 X d F _ (fun a0 a1 a2 a3 a4 a5 m r m' h => ih a0 a1 a2 a3 a4 a5 m r m' h) _ _ _ _ _ _ _ _ _ h
        · refine m_R_1 (by decide) (m_opb_of (ins := .if_icmp .ne 43) (len := 3) (tag := 0) (a := 83) (b := 0) (c := 0) (q := 0) (by decide +kernel)) (if_neg c209) ?_
          exact ok_Notes_findForged_83 X d F _ (fun a0 a1 a2 a3 a4 a5 m r m' h => ih a0 a1 a2 a3 a4 a5 m r m' h) _ _ _ _ _ _ _ _ _ h
def f_Notes_findForged (F : Nat)   (v1 : Int32) (v2 : Int32) (m : mM) : Option (Unit × mM) := f_Notes_findForged_5 F F v1 v2 (-1 : Int32) (0 : Int32) m
theorem ok_Notes_findForged (X : mX) (d F : Nat) : ∀ (v1 : Int32) (v2 : Int32)  (m : mM) (r : Unit) (m' : mM), f_Notes_findForged F v1 v2 m = some (r, m') → m_R X (d + 1) 55 0 [some (.ref 55), some (.int v1), some (.int v2), none, none, none, none] [] (SH, m) (none, (SH, m')) := by
  intro v1 v2 m r m' h
  unfold f_Notes_findForged at h
  refine m_R_sg (by decide) [(.iconst (-1), 1, 0, 1, 1, 0, 0), (.istore_n 3, 1, 0, 3, 0, 0, 0), (.iconst 0, 1, 0, 0, 0, 0, 0), (.istore 4, 2, 0, 4, 0, 0, 0)] (by decide +kernel) (show m_sgl X _ _ _ _ _ = some (5, [some (.ref 55), some (.int v1), some (.int v2), some (.int (-1 : Int32)), some (.int (0 : Int32)), none, none], [], (SH, m.1, m.2)) from rfl) ?_
  exact ok_Notes_findForged_5 X d F F _ _ _ _ _ _ _ _ _ h
def f_Notes_markIn (F : Nat)   (v1 : Int32) (m : mM) : Option (Unit × mM) := (if v1 < 0 ∨ 400 ≤ v1.toNatClampNeg then none else (if (m.1 2 v1.toNatClampNeg) < 0 ∨ 300 ≤ (m.1 2 v1.toNatClampNeg).toNatClampNeg then none else some ((), ((m_up (m_up (m_up (m_up m.1 56 (m.1 2 v1.toNatClampNeg).toNatClampNeg (2 : Int32)) 57 (m.1 2 v1.toNatClampNeg).toNatClampNeg v1) 55 9 (((m_up (m_up m.1 56 (m.1 2 v1.toNatClampNeg).toNatClampNeg (2 : Int32)) 57 (m.1 2 v1.toNatClampNeg).toNatClampNeg v1) 55 9) - (1 : Int32))) 55 10 (((m_up (m_up (m_up m.1 56 (m.1 2 v1.toNatClampNeg).toNatClampNeg (2 : Int32)) 57 (m.1 2 v1.toNatClampNeg).toNatClampNeg v1) 55 9 (((m_up (m_up m.1 56 (m.1 2 v1.toNatClampNeg).toNatClampNeg (2 : Int32)) 57 (m.1 2 v1.toNatClampNeg).toNatClampNeg v1) 55 9) - (1 : Int32))) 55 10) + (1 : Int32))), m.2))))
theorem ok_Notes_markIn (X : mX) (d F : Nat) : ∀ (v1 : Int32)  (m : mM) (r : Unit) (m' : mM), f_Notes_markIn F v1 m = some (r, m') → m_R X (d + 0) 58 0 [some (.ref 55), some (.int v1), none] [] (SH, m) (none, (SH, m')) := by
  intro v1 m r m' h
  unfold f_Notes_markIn at h
  refine m_R_sg (by decide) [(.aload_n 0, 1, 0, 0, 0, 0, 0), (.getfield 30, 3, 0, 3, 0, 3, 449), (.getfield 70, 3, 0, 6, 0, 3, 161), (.iload_n 1, 1, 0, 1, 0, 0, 0)] (by decide +kernel) (show m_sgl X _ _ _ _ _ = some (8, [some (.ref 55), some (.int v1), none], [.int v1, .ref 2], (SH, m.1, m.2)) from rfl) ?_
  obtain ⟨c213, h⟩ := m_ite_n h
  refine m_R_1 (by decide) (m_opb_of (ins := .iaload) (len := 1) (tag := 0) (a := 0) (b := 0) (c := 0) (q := 0) (by decide +kernel)) (m_s_iald sh_2 (by decide) c213) ?_
  refine m_R_sg (by decide) [(.istore_n 2, 1, 0, 2, 0, 0, 0), (.aload_n 0, 1, 0, 0, 0, 0, 0), (.getfield 9, 3, 0, 3, 1, 3, 450), (.iload_n 2, 1, 0, 2, 0, 0, 0), (.iconst 2, 1, 0, 2, 0, 0, 0)] (by decide +kernel) (show m_sgl X _ _ _ _ _ = some (16, [some (.ref 55), some (.int v1), some (.int (m.1 2 v1.toNatClampNeg))], [.int (2 : Int32), .int (m.1 2 v1.toNatClampNeg), .ref 56], (SH, m.1, m.2)) from rfl) ?_
  obtain ⟨c214, h⟩ := m_ite_n h
  refine m_R_1 (by decide) (m_opb_of (ins := .iastore) (len := 1) (tag := 0) (a := 0) (b := 0) (c := 0) (q := 0) (by decide +kernel)) (m_s_iast sh_56 c214) ?_
  refine m_R_sg (by decide) [(.aload_n 0, 1, 0, 0, 0, 0, 0), (.getfield 15, 3, 0, 3, 2, 3, 452), (.iload_n 2, 1, 0, 2, 0, 0, 0), (.iload_n 1, 1, 0, 1, 0, 0, 0)] (by decide +kernel) (show m_sgl X _ _ _ _ _ = some (23, [some (.ref 55), some (.int v1), some (.int (m.1 2 v1.toNatClampNeg))], [.int v1, .int (m.1 2 v1.toNatClampNeg), .ref 57], (SH, (m_up m.1 56 (m.1 2 v1.toNatClampNeg).toNatClampNeg (2 : Int32)), m.2)) from rfl) ?_
  refine m_R_1 (by decide) (m_opb_of (ins := .iastore) (len := 1) (tag := 0) (a := 0) (b := 0) (c := 0) (q := 0) (by decide +kernel)) (m_s_iast sh_57 c214) ?_
  refine m_R_sg (by decide) [(.aload_n 0, 1, 0, 0, 0, 0, 0), (.dup, 1, 0, 0, 0, 0, 0), (.getfield 45, 3, 0, 3, 9, 0, 467), (.iconst 1, 1, 0, 1, 0, 0, 0), (.isub, 1, 0, 0, 0, 0, 0), (.putfield 45, 3, 0, 3, 9, 0, 467), (.aload_n 0, 1, 0, 0, 0, 0, 0), (.dup, 1, 0, 0, 0, 0, 0), (.getfield 48, 3, 0, 3, 10, 0, 470), (.iconst 1, 1, 0, 1, 0, 0, 0), (.iadd, 1, 0, 0, 0, 0, 0), (.putfield 48, 3, 0, 3, 10, 0, 470)] (by decide +kernel) (show m_sgl X _ _ _ _ _ = some (44, [some (.ref 55), some (.int v1), some (.int (m.1 2 v1.toNatClampNeg))], [], (SH, (m_up (m_up (m_up (m_up m.1 56 (m.1 2 v1.toNatClampNeg).toNatClampNeg (2 : Int32)) 57 (m.1 2 v1.toNatClampNeg).toNatClampNeg v1) 55 9 (((m_up (m_up m.1 56 (m.1 2 v1.toNatClampNeg).toNatClampNeg (2 : Int32)) 57 (m.1 2 v1.toNatClampNeg).toNatClampNeg v1) 55 9) - (1 : Int32))) 55 10 (((m_up (m_up (m_up m.1 56 (m.1 2 v1.toNatClampNeg).toNatClampNeg (2 : Int32)) 57 (m.1 2 v1.toNatClampNeg).toNatClampNeg v1) 55 9 (((m_up (m_up m.1 56 (m.1 2 v1.toNatClampNeg).toNatClampNeg (2 : Int32)) 57 (m.1 2 v1.toNatClampNeg).toNatClampNeg v1) 55 9) - (1 : Int32))) 55 10) + (1 : Int32))), m.2)) from rfl) ?_
  cases h
  exact m_R_vret (by decide) (m_opb_of (ins := .return_) (len := 1) (tag := 3) (a := 0) (b := 0) (c := 0) (q := 0) (by decide +kernel))
def f_Notes_pass_60 (F : Nat)  (k6 : Int32 → Int32 → Int32 → Int32 → mM → Option (Unit × mM)) (v1 : Int32) (v2 : Int32) (v4 : Int32) (v5 : Int32) (m : mM) : Option (Unit × mM) := k6 v1 v2 v4 (v5 + (1 : Int32)) m
theorem ok_Notes_pass_60 (X : mX) (d F : Nat) (k6 : Int32 → Int32 → Int32 → Int32 → mM → Option (Unit × mM)) (hk6 : ∀ (v1 : Int32) (v2 : Int32) (v4 : Int32) (v5 : Int32) (w3 : Option Value) (w6 : Option Value) (m : mM) (r : Unit) (m' : mM), k6 v1 v2 v4 v5 m = some (r, m') → m_R X (d + 1) 57 6 [some (.ref 55), some (.int v1), some (.int v2), w3, some (.int v4), some (.int v5), w6] [] (SH, m) (none, (SH, m'))) : ∀ (v1 : Int32) (v2 : Int32) (v4 : Int32) (v5 : Int32) (w3 : Option Value) (w6 : Option Value) (m : mM) (r : Unit) (m' : mM), f_Notes_pass_60 F k6 v1 v2 v4 v5 m = some (r, m') → m_R X (d + 1) 57 60 [some (.ref 55), some (.int v1), some (.int v2), w3, some (.int v4), some (.int v5), w6] [] (SH, m) (none, (SH, m')) := by
  intro v1 v2 v4 v5 w3 w6 m r m' h
  unfold f_Notes_pass_60 at h
  refine m_R_sg (by decide) [(.iinc 5 1, 3, 0, 5, 1, 0, 0), (.goto (-57), 3, 0, 6, 0, 0, 0)] (by decide +kernel) (show m_sgl X _ _ _ _ _ = some (6, [some (.ref 55), some (.int v1), some (.int v2), w3, some (.int v4), some (.int (v5 + (1 : Int32))), w6], [], (SH, m.1, m.2)) from rfl) ?_
  exact hk6 _ _ _ _ _ _ _ _ _ h
def f_Notes_pass_50 (F : Nat)  (k6 : Int32 → Int32 → Int32 → Int32 → mM → Option (Unit × mM)) (v1 : Int32) (v2 : Int32) (v4 : Int32) (v5 : Int32) (v6 : Int32) (m : mM) : Option (Unit × mM) := ((f_Notes_moveTo F v6 v2 m).bind fun q2 => f_Notes_pass_60 F k6 v1 v2 (v4 + (-1 : Int32)) v5 q2.2)
theorem ok_Notes_pass_50 (X : mX) (d F : Nat) (k6 : Int32 → Int32 → Int32 → Int32 → mM → Option (Unit × mM)) (hk6 : ∀ (v1 : Int32) (v2 : Int32) (v4 : Int32) (v5 : Int32) (w3 : Option Value) (w6 : Option Value) (m : mM) (r : Unit) (m' : mM), k6 v1 v2 v4 v5 m = some (r, m') → m_R X (d + 1) 57 6 [some (.ref 55), some (.int v1), some (.int v2), w3, some (.int v4), some (.int v5), w6] [] (SH, m) (none, (SH, m'))) : ∀ (v1 : Int32) (v2 : Int32) (v4 : Int32) (v5 : Int32) (v6 : Int32) (w3 : Option Value) (m : mM) (r : Unit) (m' : mM), f_Notes_pass_50 F k6 v1 v2 v4 v5 v6 m = some (r, m') → m_R X (d + 1) 57 50 [some (.ref 55), some (.int v1), some (.int v2), w3, some (.int v4), some (.int v5), some (.int v6)] [] (SH, m) (none, (SH, m')) := by
  intro v1 v2 v4 v5 v6 w3 m r m' h
  unfold f_Notes_pass_50 at h
  refine m_R_sg (by decide) [(.aload_n 0, 1, 0, 0, 0, 0, 0), (.iload 6, 2, 0, 6, 0, 0, 0), (.iload_n 2, 1, 0, 2, 0, 0, 0)] (by decide +kernel) (show m_sgl X _ _ _ _ _ = some (54, [some (.ref 55), some (.int v1), some (.int v2), w3, some (.int v4), some (.int v5), some (.int v6)], [.int v2, .int v6, .ref 55], (SH, m.1, m.2)) from rfl) ?_
  obtain ⟨q2, hc2, h⟩ := Option.bind_eq_some_iff.mp h
  refine m_R_cV (v := none) (h1 := (SH, q2.2)) (rest := []) (lo' := [some (.ref 55), some (.int v6), some (.int v2), none]) (ml := 4) (k0 := 55) (by decide) (Or.inl rfl) (m_opb_of (ins := .invokevirtual 63) (len := 3) (tag := 5) (a := 53) (b := 2) (c := 0) (q := 827) (by decide +kernel)) (by decide +kernel) rfl (show m_isO 53 55 (SH, _) = true from m_isO_of (by decide +kernel)) (Nat.le_of_ble_eq_true rfl) rfl rfl (ok_Notes_moveTo X (d + 0) F _ _ _ _ _ hc2) ?_
  refine m_R_sg (by decide) [(.iinc 4 (-1), 3, 0, 4, 1, 1, 0)] (by decide +kernel) (show m_sgl X _ _ _ _ _ = some (60, [some (.ref 55), some (.int v1), some (.int v2), w3, some (.int (v4 + (-1 : Int32))), some (.int v5), some (.int v6)], [], (SH, q2.2.1, q2.2.2)) from rfl) ?_
  exact ok_Notes_pass_60 X d F _ hk6 _ _ _ _ _ _ _ _ _ h
def f_Notes_pass_66 (F : Nat)    (m : mM) : Option (Unit × mM) := some ((), m)
theorem ok_Notes_pass_66 (X : mX) (d F : Nat) : ∀  (w0 : Option Value) (w1 : Option Value) (w2 : Option Value) (w3 : Option Value) (w4 : Option Value) (w5 : Option Value) (w6 : Option Value) (m : mM) (r : Unit) (m' : mM), f_Notes_pass_66 F  m = some (r, m') → m_R X (d + 1) 57 66 [w0, w1, w2, w3, w4, w5, w6] [] (SH, m) (none, (SH, m')) := by
  intro w0 w1 w2 w3 w4 w5 w6 m r m' h
  unfold f_Notes_pass_66 at h
  cases h
  exact m_R_vret (by decide) (m_opb_of (ins := .return_) (len := 1) (tag := 3) (a := 0) (b := 0) (c := 0) (q := 0) (by decide +kernel))
def f_Notes_pass_6 (F : Nat)   : Nat → Int32 → Int32 → Int32 → Int32 → mM → Option (Unit × mM)
  | 0, _, _, _, _, _ => none
  | n + 1, v1, v2, v4, v5, m => (if (m.1 55 7) ≤ v5 then f_Notes_pass_66 F m else (if v4 ≤ 0 then f_Notes_pass_66 F m else (if v5 < 0 ∨ 400 ≤ v5.toNatClampNeg then none else (if (m.1 60 v5.toNatClampNeg) < 0 ∨ 400 ≤ (m.1 60 v5.toNatClampNeg).toNatClampNeg then none else (if (m.1 58 (m.1 60 v5.toNatClampNeg).toNatClampNeg) = v1 then (if v2 = 0 then ((f_Notes_markIn F (m.1 60 v5.toNatClampNeg) m).bind fun q1 => f_Notes_pass_50 F (f_Notes_pass_6 F n) v1 v2 v4 v5 (m.1 60 v5.toNatClampNeg) q1.2) else f_Notes_pass_50 F (f_Notes_pass_6 F n) v1 v2 v4 v5 (m.1 60 v5.toNatClampNeg) m) else f_Notes_pass_60 F (f_Notes_pass_6 F n) v1 v2 v4 v5 m)))))
theorem ok_Notes_pass_6 (X : mX) (d F : Nat) : ∀ (n : Nat) (v1 : Int32) (v2 : Int32) (v4 : Int32) (v5 : Int32) (w3 : Option Value) (w6 : Option Value) (m : mM) (r : Unit) (m' : mM), f_Notes_pass_6 F n v1 v2 v4 v5 m = some (r, m') → m_R X (d + 1) 57 6 [some (.ref 55), some (.int v1), some (.int v2), w3, some (.int v4), some (.int v5), w6] [] (SH, m) (none, (SH, m')) := by
  intro n
  induction n with
  | zero => intro v1 v2 v4 v5 w3 w6 m r m' h; cases h
  | succ n ih =>
    intro v1 v2 v4 v5 w3 w6 m r m' h
    simp only [f_Notes_pass_6] at h
    refine m_R_sg (by decide) [(.iload 5, 2, 0, 5, 0, 0, 0), (.aload_n 0, 1, 0, 0, 0, 0, 0), (.getfield 38, 3, 0, 3, 7, 0, 463)] (by decide +kernel) (show m_sgl X _ _ _ _ _ = some (12, [some (.ref 55), some (.int v1), some (.int v2), w3, some (.int v4), some (.int v5), w6], [.int (m.1 55 7), .int v5], (SH, m.1, m.2)) from rfl) ?_
    rcases m_ite h with ⟨c215, h⟩ | ⟨c215, h⟩
    · refine m_R_1 (by decide) (m_opb_of (ins := .if_icmp .ge 54) (len := 3) (tag := 0) (a := 66) (b := 0) (c := 0) (q := 0) (by decide +kernel)) (if_pos c215) ?_
      exact ok_Notes_pass_66 X d F _ _ _ _ _ _ _ _ _ _ h
    · refine m_R_1 (by decide) (m_opb_of (ins := .if_icmp .ge 54) (len := 3) (tag := 0) (a := 66) (b := 0) (c := 0) (q := 0) (by decide +kernel)) (if_neg c215) ?_
      refine m_R_sg (by decide) [(.iload 4, 2, 0, 4, 0, 0, 0)] (by decide +kernel) (show m_sgl X _ _ _ _ _ = some (17, [some (.ref 55), some (.int v1), some (.int v2), w3, some (.int v4), some (.int v5), w6], [.int v4], (SH, m.1, m.2)) from rfl) ?_
      rcases m_ite h with ⟨c216, h⟩ | ⟨c216, h⟩
      · refine m_R_1 (by decide) (m_opb_of (ins := .ifCond .le 49) (len := 3) (tag := 0) (a := 66) (b := 0) (c := 0) (q := 0) (by decide +kernel)) (if_pos c216) ?_
        exact ok_Notes_pass_66 X d F _ _ _ _ _ _ _ _ _ _ h
      · refine m_R_1 (by decide) (m_opb_of (ins := .ifCond .le 49) (len := 3) (tag := 0) (a := 66) (b := 0) (c := 0) (q := 0) (by decide +kernel)) (if_neg c216) ?_
        refine m_R_sg (by decide) [(.aload_n 0, 1, 0, 0, 0, 0, 0), (.getfield 24, 3, 0, 3, 5, 3, 458), (.iload 5, 2, 0, 5, 0, 0, 0)] (by decide +kernel) (show m_sgl X _ _ _ _ _ = some (26, [some (.ref 55), some (.int v1), some (.int v2), w3, some (.int v4), some (.int v5), w6], [.int v5, .ref 60], (SH, m.1, m.2)) from rfl) ?_
        obtain ⟨c217, h⟩ := m_ite_n h
        refine m_R_1 (by decide) (m_opb_of (ins := .iaload) (len := 1) (tag := 0) (a := 0) (b := 0) (c := 0) (q := 0) (by decide +kernel)) (m_s_iald sh_60 (by decide) c217) ?_
        refine m_R_sg (by decide) [(.istore 6, 2, 0, 6, 0, 0, 0), (.aload_n 0, 1, 0, 0, 0, 0, 0), (.getfield 18, 3, 0, 3, 3, 3, 453), (.iload 6, 2, 0, 6, 0, 0, 0)] (by decide +kernel) (show m_sgl X _ _ _ _ _ = some (35, [some (.ref 55), some (.int v1), some (.int v2), w3, some (.int v4), some (.int v5), some (.int (m.1 60 v5.toNatClampNeg))], [.int (m.1 60 v5.toNatClampNeg), .ref 58], (SH, m.1, m.2)) from rfl) ?_
        obtain ⟨c218, h⟩ := m_ite_n h
        refine m_R_1 (by decide) (m_opb_of (ins := .iaload) (len := 1) (tag := 0) (a := 0) (b := 0) (c := 0) (q := 0) (by decide +kernel)) (m_s_iald sh_58 (by decide) c218) ?_
        refine m_R_sg (by decide) [(.iload_n 1, 1, 0, 1, 0, 0, 0)] (by decide +kernel) (show m_sgl X _ _ _ _ _ = some (37, [some (.ref 55), some (.int v1), some (.int v2), w3, some (.int v4), some (.int v5), some (.int (m.1 60 v5.toNatClampNeg))], [.int v1, .int (m.1 58 (m.1 60 v5.toNatClampNeg).toNatClampNeg)], (SH, m.1, m.2)) from rfl) ?_
        rcases m_ite h with ⟨c219, h⟩ | ⟨c219, h⟩
        · refine m_R_1 (by decide) (m_opb_of (ins := .if_icmp .ne 23) (len := 3) (tag := 0) (a := 60) (b := 0) (c := 0) (q := 0) (by decide +kernel)) (if_pos c219) ?_
          refine m_R_sg (by decide) [(.iload_n 2, 1, 0, 2, 0, 0, 0)] (by decide +kernel) (show m_sgl X _ _ _ _ _ = some (41, [some (.ref 55), some (.int v1), some (.int v2), w3, some (.int v4), some (.int v5), some (.int (m.1 60 v5.toNatClampNeg))], [.int v2], (SH, m.1, m.2)) from rfl) ?_
          rcases m_ite h with ⟨c220, h⟩ | ⟨c220, h⟩
          · refine m_R_1 (by decide) (m_opb_of (ins := .ifCond .ne 9) (len := 3) (tag := 0) (a := 50) (b := 0) (c := 0) (q := 0) (by decide +kernel)) (if_pos c220) ?_
            refine m_R_sg (by decide) [(.aload_n 0, 1, 0, 0, 0, 0, 0), (.iload 6, 2, 0, 6, 0, 0, 0)] (by decide +kernel) (show m_sgl X _ _ _ _ _ = some (47, [some (.ref 55), some (.int v1), some (.int v2), w3, some (.int v4), some (.int v5), some (.int (m.1 60 v5.toNatClampNeg))], [.int (m.1 60 v5.toNatClampNeg), .ref 55], (SH, m.1, m.2)) from rfl) ?_
            obtain ⟨q1, hc1, h⟩ := Option.bind_eq_some_iff.mp h
            refine m_R_cV (v := none) (h1 := (SH, q1.2)) (rest := []) (lo' := [some (.ref 55), some (.int (m.1 60 v5.toNatClampNeg)), none]) (ml := 3) (k0 := 55) (by decide) (Or.inl rfl) (m_opb_of (ins := .invokevirtual 78) (len := 3) (tag := 5) (a := 58) (b := 1) (c := 0) (q := 847) (by decide +kernel)) (by decide +kernel) rfl (show m_isO 58 55 (SH, _) = true from m_isO_of (by decide +kernel)) (Nat.le_of_ble_eq_true rfl) rfl rfl (ok_Notes_markIn X (d + 0) F _ _ _ _ hc1) ?_
            exact ok_Notes_pass_50 X d F _ (fun a0 a1 a2 a3 a4 a5 m r m' h => ih a0 a1 a2 a3 a4 a5 m r m' h) _ _ _ _ _ _ _ _ _ h
          · refine m_R_1 (by decide) (m_opb_of (ins := .ifCond .ne 9) (len := 3) (tag := 0) (a := 50) (b := 0) (c := 0) (q := 0) (by decide +kernel)) (if_neg c220) ?_
            exact ok_Notes_pass_50 X d F _ (fun a0 a1 a2 a3 a4 a5 m r m' h => ih a0 a1 a2 a3 a4 a5 m r m' h) _ _ _ _ _ _ _ _ _ h
        · refine m_R_1 (by decide) (m_opb_of (ins := .if_icmp .ne 23) (len := 3) (tag := 0) (a := 60) (b := 0) (c := 0) (q := 0) (by decide +kernel)) (if_neg c219) ?_
          exact ok_Notes_pass_60 X d F _ (fun a0 a1 a2 a3 a4 a5 m r m' h => ih a0 a1 a2 a3 a4 a5 m r m' h) _ _ _ _ _ _ _ _ _ h
def f_Notes_pass (F : Nat)   (v1 : Int32) (v2 : Int32) (v3 : Int32) (m : mM) : Option (Unit × mM) := f_Notes_pass_6 F F v1 v2 v3 (0 : Int32) m
theorem ok_Notes_pass (X : mX) (d F : Nat) : ∀ (v1 : Int32) (v2 : Int32) (v3 : Int32)  (m : mM) (r : Unit) (m' : mM), f_Notes_pass F v1 v2 v3 m = some (r, m') → m_R X (d + 1) 57 0 [some (.ref 55), some (.int v1), some (.int v2), some (.int v3), none, none, none] [] (SH, m) (none, (SH, m')) := by
  intro v1 v2 v3 m r m' h
  unfold f_Notes_pass at h
  refine m_R_sg (by decide) [(.iload_n 3, 1, 0, 3, 0, 0, 0), (.istore 4, 2, 0, 4, 0, 0, 0), (.iconst 0, 1, 0, 0, 0, 0, 0), (.istore 5, 2, 0, 5, 0, 0, 0)] (by decide +kernel) (show m_sgl X _ _ _ _ _ = some (6, [some (.ref 55), some (.int v1), some (.int v2), some (.int v3), some (.int v3), some (.int (0 : Int32)), none], [], (SH, m.1, m.2)) from rfl) ?_
  exact ok_Notes_pass_6 X d F F _ _ _ _ _ _ _ _ _ h
def f_World_transfer_72 (F : Nat)   (v1 : Int32) (v2 : Int32) (v3 : Int32) (v4 : Int32) (m : mM) : Option (Unit × mM) := (if v1 < 0 ∨ 16 ≤ v1.toNatClampNeg then none else (if v2 < 0 ∨ 16 ≤ v2.toNatClampNeg then none else some ((), ((m_up (m_up m.1 22 v1.toNatClampNeg ((m.1 22 v1.toNatClampNeg) - (v3 - ((10 : Int32) * v4)))) 22 v2.toNatClampNeg (((m_up m.1 22 v1.toNatClampNeg ((m.1 22 v1.toNatClampNeg) - (v3 - ((10 : Int32) * v4)))) 22 v2.toNatClampNeg) + (v3 - ((10 : Int32) * v4)))), m.2))))
theorem ok_World_transfer_72 (X : mX) (d F : Nat) : ∀ (v1 : Int32) (v2 : Int32) (v3 : Int32) (v4 : Int32)  (m : mM) (r : Unit) (m' : mM), f_World_transfer_72 F v1 v2 v3 v4 m = some (r, m') → m_R X (d + 2) 51 72 [some (.ref 16), some (.int v1), some (.int v2), some (.int v3), some (.int v4)] [] (SH, m) (none, (SH, m')) := by
  intro v1 v2 v3 v4 m r m' h
  unfold f_World_transfer_72 at h
  refine m_R_sg (by decide) [(.aload_n 0, 1, 0, 0, 0, 0, 0), (.getfield 21, 3, 0, 10, 1, 3, 505), (.getfield 107, 3, 0, 1, 2, 3, 255), (.iload_n 1, 1, 0, 1, 0, 0, 0), (.dup2, 1, 0, 0, 0, 0, 0)] (by decide +kernel) (show m_sgl X _ _ _ _ _ = some (81, [some (.ref 16), some (.int v1), some (.int v2), some (.int v3), some (.int v4)], [.int v1, .ref 22, .int v1, .ref 22], (SH, m.1, m.2)) from rfl) ?_
  obtain ⟨c221, h⟩ := m_ite_n h
  refine m_R_1 (by decide) (m_opb_of (ins := .iaload) (len := 1) (tag := 0) (a := 0) (b := 0) (c := 0) (q := 0) (by decide +kernel)) (m_s_iald sh_22 (by decide) c221) ?_
  refine m_R_sg (by decide) [(.iload_n 3, 1, 0, 3, 0, 0, 0), (.bipush 10, 2, 0, 10, 0, 0, 0), (.iload 4, 2, 0, 4, 0, 0, 0), (.imul, 1, 0, 0, 0, 0, 0), (.isub, 1, 0, 0, 0, 0, 0), (.isub, 1, 0, 0, 0, 0, 0)] (by decide +kernel) (show m_sgl X _ _ _ _ _ = some (90, [some (.ref 16), some (.int v1), some (.int v2), some (.int v3), some (.int v4)], [.int ((m.1 22 v1.toNatClampNeg) - (v3 - ((10 : Int32) * v4))), .int v1, .ref 22], (SH, m.1, m.2)) from rfl) ?_
  refine m_R_1 (by decide) (m_opb_of (ins := .iastore) (len := 1) (tag := 0) (a := 0) (b := 0) (c := 0) (q := 0) (by decide +kernel)) (m_s_iast sh_22 c221) ?_
  refine m_R_sg (by decide) [(.aload_n 0, 1, 0, 0, 0, 0, 0), (.getfield 21, 3, 0, 10, 1, 3, 505), (.getfield 107, 3, 0, 1, 2, 3, 255), (.iload_n 2, 1, 0, 2, 0, 0, 0), (.dup2, 1, 0, 0, 0, 0, 0)] (by decide +kernel) (show m_sgl X _ _ _ _ _ = some (100, [some (.ref 16), some (.int v1), some (.int v2), some (.int v3), some (.int v4)], [.int v2, .ref 22, .int v2, .ref 22], (SH, (m_up m.1 22 v1.toNatClampNeg ((m.1 22 v1.toNatClampNeg) - (v3 - ((10 : Int32) * v4)))), m.2)) from rfl) ?_
  obtain ⟨c222, h⟩ := m_ite_n h
  refine m_R_1 (by decide) (m_opb_of (ins := .iaload) (len := 1) (tag := 0) (a := 0) (b := 0) (c := 0) (q := 0) (by decide +kernel)) (m_s_iald sh_22 (by decide) c222) ?_
  refine m_R_sg (by decide) [(.iload_n 3, 1, 0, 3, 0, 0, 0), (.bipush 10, 2, 0, 10, 0, 0, 0), (.iload 4, 2, 0, 4, 0, 0, 0), (.imul, 1, 0, 0, 0, 0, 0), (.isub, 1, 0, 0, 0, 0, 0), (.iadd, 1, 0, 0, 0, 0, 0)] (by decide +kernel) (show m_sgl X _ _ _ _ _ = some (109, [some (.ref 16), some (.int v1), some (.int v2), some (.int v3), some (.int v4)], [.int (((m_up m.1 22 v1.toNatClampNeg ((m.1 22 v1.toNatClampNeg) - (v3 - ((10 : Int32) * v4)))) 22 v2.toNatClampNeg) + (v3 - ((10 : Int32) * v4))), .int v2, .ref 22], (SH, (m_up m.1 22 v1.toNatClampNeg ((m.1 22 v1.toNatClampNeg) - (v3 - ((10 : Int32) * v4)))), m.2)) from rfl) ?_
  refine m_R_1 (by decide) (m_opb_of (ins := .iastore) (len := 1) (tag := 0) (a := 0) (b := 0) (c := 0) (q := 0) (by decide +kernel)) (m_s_iast sh_22 c222) ?_
  cases h
  exact m_R_vret (by decide) (m_opb_of (ins := .return_) (len := 1) (tag := 3) (a := 0) (b := 0) (c := 0) (q := 0) (by decide +kernel))
def f_World_transfer_45 (F : Nat)   (v1 : Int32) (v2 : Int32) (v3 : Int32) (v4 : Int32) (m : mM) : Option (Unit × mM) := (if v1 < 0 ∨ 16 ≤ v1.toNatClampNeg then none else ((f_Math_min_II F v4 (m.1 61 v1.toNatClampNeg) m).bind fun q3 => ((f_Notes_pass F v1 v2 q3.1 q3.2).bind fun q4 => f_World_transfer_72 F v1 v2 v3 q3.1 q4.2)))
theorem ok_World_transfer_45 (X : mX) (d F : Nat) : ∀ (v1 : Int32) (v2 : Int32) (v3 : Int32) (v4 : Int32)  (m : mM) (r : Unit) (m' : mM), f_World_transfer_45 F v1 v2 v3 v4 m = some (r, m') → m_R X (d + 2) 51 45 [some (.ref 16), some (.int v1), some (.int v2), some (.int v3), some (.int v4)] [] (SH, m) (none, (SH, m')) := by
  intro v1 v2 v3 v4 m r m' h
  unfold f_World_transfer_45 at h
  refine m_R_sg (by decide) [(.iload 4, 2, 0, 4, 0, 0, 0), (.aload_n 0, 1, 0, 0, 0, 0, 0), (.getfield 72, 3, 0, 10, 8, 3, 518), (.getfield 110, 3, 0, 3, 6, 3, 461), (.iload_n 1, 1, 0, 1, 0, 0, 0)] (by decide +kernel) (show m_sgl X _ _ _ _ _ = some (55, [some (.ref 16), some (.int v1), some (.int v2), some (.int v3), some (.int v4)], [.int v1, .ref 61, .int v4], (SH, m.1, m.2)) from rfl) ?_
  obtain ⟨c223, h⟩ := m_ite_n h
  refine m_R_1 (by decide) (m_opb_of (ins := .iaload) (len := 1) (tag := 0) (a := 0) (b := 0) (c := 0) (q := 0) (by decide +kernel)) (m_s_iald sh_61 (by decide) c223) ?_
  obtain ⟨q3, hc3, h⟩ := Option.bind_eq_some_iff.mp h
  refine m_R_cS (v := (some (.int q3.1))) (h1 := (SH, q3.2)) (rest := []) (lo' := [some (.int v4), some (.int (m.1 61 v1.toNatClampNeg))]) (ml := 2) (by decide) (m_opb_of (ins := .invokestatic 181) (len := 3) (tag := 4) (a := 50) (b := 2) (c := 0) (q := 816) (by decide +kernel)) (by decide +kernel) (Nat.le_of_ble_eq_true rfl) rfl (Nat.le_of_ble_eq_true rfl) rfl rfl (ok_Math_min_II X (d + 1) F _ _ _ _ _ hc3) ?_
  refine m_R_sg (by decide) [(.istore 4, 2, 0, 4, 0, 0, 0), (.aload_n 0, 1, 0, 0, 0, 0, 0), (.getfield 72, 3, 0, 10, 8, 3, 518), (.iload_n 1, 1, 0, 1, 0, 0, 0), (.iload_n 2, 1, 0, 2, 0, 0, 0), (.iload 4, 2, 0, 4, 0, 0, 0)] (by decide +kernel) (show m_sgl X _ _ _ _ _ = some (69, [some (.ref 16), some (.int v1), some (.int v2), some (.int v3), some (.int q3.1)], [.int q3.1, .int v2, .int v1, .ref 55], (SH, q3.2.1, q3.2.2)) from rfl) ?_
  obtain ⟨q4, hc4, h⟩ := Option.bind_eq_some_iff.mp h
  refine m_R_cV (v := none) (h1 := (SH, q4.2)) (rest := []) (lo' := [some (.ref 55), some (.int v1), some (.int v2), some (.int q3.1), none, none, none]) (ml := 7) (k0 := 55) (by decide) (Or.inl rfl) (m_opb_of (ins := .invokevirtual 196) (len := 3) (tag := 5) (a := 57) (b := 3) (c := 0) (q := 843) (by decide +kernel)) (by decide +kernel) rfl (show m_isO 57 55 (SH, _) = true from m_isO_of (by decide +kernel)) (Nat.le_of_ble_eq_true rfl) rfl rfl (ok_Notes_pass X (d + 0) F _ _ _ _ _ _ hc4) ?_
  exact ok_World_transfer_72 X d F _ _ _ _ _ _ _ h
def f_World_transfer (F : Nat)   (v1 : Int32) (v2 : Int32) (v3 : Int32) (m : mM) : Option (Unit × mM) := (if v1 = v2 then some ((), m) else (if v1 = 0 then ((f_Notes_issue F v2 (v3 / (10 : Int32)) m).bind fun q1 => f_World_transfer_72 F v1 v2 v3 (v3 / (10 : Int32)) q1.2) else (if v2 = 0 then ((f_Notes_findForged F v1 (m.1 16 9) m).bind fun q2 => f_World_transfer_45 F v1 v2 v3 (v3 / (10 : Int32)) q2.2) else f_World_transfer_45 F v1 v2 v3 (v3 / (10 : Int32)) m)))
theorem ok_World_transfer (X : mX) (d F : Nat) : ∀ (v1 : Int32) (v2 : Int32) (v3 : Int32)  (m : mM) (r : Unit) (m' : mM), f_World_transfer F v1 v2 v3 m = some (r, m') → m_R X (d + 2) 51 0 [some (.ref 16), some (.int v1), some (.int v2), some (.int v3), none] [] (SH, m) (none, (SH, m')) := by
  intro v1 v2 v3 m r m' h
  unfold f_World_transfer at h
  refine m_R_sg (by decide) [(.iload_n 1, 1, 0, 1, 0, 0, 0), (.iload_n 2, 1, 0, 2, 0, 0, 0)] (by decide +kernel) (show m_sgl X _ _ _ _ _ = some (2, [some (.ref 16), some (.int v1), some (.int v2), some (.int v3), none], [.int v2, .int v1], (SH, m.1, m.2)) from rfl) ?_
  rcases m_ite h with ⟨c224, h⟩ | ⟨c224, h⟩
  · refine m_R_1 (by decide) (m_opb_of (ins := .if_icmp .ne 4) (len := 3) (tag := 0) (a := 6) (b := 0) (c := 0) (q := 0) (by decide +kernel)) (if_pos c224) ?_
    cases h
    exact m_R_vret (by decide) (m_opb_of (ins := .return_) (len := 1) (tag := 3) (a := 0) (b := 0) (c := 0) (q := 0) (by decide +kernel))
  · refine m_R_1 (by decide) (m_opb_of (ins := .if_icmp .ne 4) (len := 3) (tag := 0) (a := 6) (b := 0) (c := 0) (q := 0) (by decide +kernel)) (if_neg c224) ?_
    refine m_R_sg (by decide) [(.iload_n 3, 1, 0, 3, 0, 0, 0), (.bipush 10, 2, 0, 10, 0, 0, 0)] (by decide +kernel) (show m_sgl X _ _ _ _ _ = some (9, [some (.ref 16), some (.int v1), some (.int v2), some (.int v3), none], [.int (10 : Int32), .int v3], (SH, m.1, m.2)) from rfl) ?_
    refine m_R_1 (by decide) (m_opb_of (ins := .idiv) (len := 1) (tag := 0) (a := 0) (b := 0) (c := 0) (q := 0) (by decide +kernel)) (m_s_idiv (by decide)) ?_
    refine m_R_sg (by decide) [(.istore 4, 2, 0, 4, 0, 0, 0), (.iload_n 1, 1, 0, 1, 0, 0, 0)] (by decide +kernel) (show m_sgl X _ _ _ _ _ = some (13, [some (.ref 16), some (.int v1), some (.int v2), some (.int v3), some (.int (v3 / (10 : Int32)))], [.int v1], (SH, m.1, m.2)) from rfl) ?_
    rcases m_ite h with ⟨c225, h⟩ | ⟨c225, h⟩
    · refine m_R_1 (by decide) (m_opb_of (ins := .ifCond .ne 16) (len := 3) (tag := 0) (a := 29) (b := 0) (c := 0) (q := 0) (by decide +kernel)) (if_pos c225) ?_
      refine m_R_sg (by decide) [(.aload_n 0, 1, 0, 0, 0, 0, 0), (.getfield 72, 3, 0, 10, 8, 3, 518), (.iload_n 2, 1, 0, 2, 0, 0, 0), (.iload 4, 2, 0, 4, 0, 0, 0)] (by decide +kernel) (show m_sgl X _ _ _ _ _ = some (23, [some (.ref 16), some (.int v1), some (.int v2), some (.int v3), some (.int (v3 / (10 : Int32)))], [.int (v3 / (10 : Int32)), .int v2, .ref 55], (SH, m.1, m.2)) from rfl) ?_
      obtain ⟨q1, hc1, h⟩ := Option.bind_eq_some_iff.mp h
      refine m_R_cV (v := none) (h1 := (SH, q1.2)) (rest := []) (lo' := [some (.ref 55), some (.int v2), some (.int (v3 / (10 : Int32))), none, none, none]) (ml := 6) (k0 := 55) (by decide) (Or.inl rfl) (m_opb_of (ins := .invokevirtual 189) (len := 3) (tag := 5) (a := 52) (b := 2) (c := 0) (q := 823) (by decide +kernel)) (by decide +kernel) rfl (show m_isO 52 55 (SH, _) = true from m_isO_of (by decide +kernel)) (Nat.le_of_ble_eq_true rfl) rfl rfl (ok_Notes_issue X (d + 0) F _ _ _ _ _ hc1) ?_
      refine m_R_sg (by decide) [(.goto 46, 3, 0, 72, 0, 0, 0)] (by decide +kernel) (show m_sgl X _ _ _ _ _ = some (72, [some (.ref 16), some (.int v1), some (.int v2), some (.int v3), some (.int (v3 / (10 : Int32)))], [], (SH, q1.2.1, q1.2.2)) from rfl) ?_
      exact ok_World_transfer_72 X d F _ _ _ _ _ _ _ h
    · refine m_R_1 (by decide) (m_opb_of (ins := .ifCond .ne 16) (len := 3) (tag := 0) (a := 29) (b := 0) (c := 0) (q := 0) (by decide +kernel)) (if_neg c225) ?_
      refine m_R_sg (by decide) [(.iload_n 2, 1, 0, 2, 0, 0, 0)] (by decide +kernel) (show m_sgl X _ _ _ _ _ = some (30, [some (.ref 16), some (.int v1), some (.int v2), some (.int v3), some (.int (v3 / (10 : Int32)))], [.int v2], (SH, m.1, m.2)) from rfl) ?_
      rcases m_ite h with ⟨c226, h⟩ | ⟨c226, h⟩
      · refine m_R_1 (by decide) (m_opb_of (ins := .ifCond .ne 15) (len := 3) (tag := 0) (a := 45) (b := 0) (c := 0) (q := 0) (by decide +kernel)) (if_pos c226) ?_
        refine m_R_sg (by decide) [(.aload_n 0, 1, 0, 0, 0, 0, 0), (.getfield 72, 3, 0, 10, 8, 3, 518), (.iload_n 1, 1, 0, 1, 0, 0, 0), (.aload_n 0, 1, 0, 0, 0, 0, 0), (.getfield 95, 3, 0, 10, 9, 0, 520)] (by decide +kernel) (show m_sgl X _ _ _ _ _ = some (42, [some (.ref 16), some (.int v1), some (.int v2), some (.int v3), some (.int (v3 / (10 : Int32)))], [.int (m.1 16 9), .int v1, .ref 55], (SH, m.1, m.2)) from rfl) ?_
        obtain ⟨q2, hc2, h⟩ := Option.bind_eq_some_iff.mp h
        refine m_R_cV (v := none) (h1 := (SH, q2.2)) (rest := []) (lo' := [some (.ref 55), some (.int v1), some (.int (m.1 16 9)), none, none, none, none]) (ml := 7) (k0 := 55) (by decide) (Or.inl rfl) (m_opb_of (ins := .invokevirtual 193) (len := 3) (tag := 5) (a := 55) (b := 2) (c := 0) (q := 835) (by decide +kernel)) (by decide +kernel) rfl (show m_isO 55 55 (SH, _) = true from m_isO_of (by decide +kernel)) (Nat.le_of_ble_eq_true rfl) rfl rfl (ok_Notes_findForged X (d + 0) F _ _ _ _ _ hc2) ?_
        exact ok_World_transfer_45 X d F _ _ _ _ _ _ _ h
      · refine m_R_1 (by decide) (m_opb_of (ins := .ifCond .ne 15) (len := 3) (tag := 0) (a := 45) (b := 0) (c := 0) (q := 0) (by decide +kernel)) (if_neg c226) ?_
        exact ok_World_transfer_45 X d F _ _ _ _ _ _ _ h
def f_x_give_27 (F : Nat)    (m : mM) : Option (Int32 × mM) := ((f_x_refuse F (-3 : Int32) m).bind fun q8 => some (q8.1, q8.2))
theorem ok_x_give_27 (X : mX) (d F : Nat) : ∀  (w1 : Option Value) (w2 : Option Value) (w3 : Option Value) (w4 : Option Value) (m : mM) (r : Int32) (m' : mM), f_x_give_27 F  m = some (r, m') → m_R X (d + 6) 33 27 [some (.ref 0), w1, w2, w3, w4] [] (SH, m) (some (.int r), (SH, m')) := by
  intro w1 w2 w3 w4 m r m' h
  unfold f_x_give_27 at h
  refine m_R_sg (by decide) [(.aload_n 0, 1, 0, 0, 0, 0, 0), (.bipush (-3), 2, 0, 3, 1, 0, 0)] (by decide +kernel) (show m_sgl X _ _ _ _ _ = some (30, [some (.ref 0), w1, w2, w3, w4], [.int (-3 : Int32), .ref 0], (SH, m.1, m.2)) from rfl) ?_
  obtain ⟨q8, hc8, h⟩ := Option.bind_eq_some_iff.mp h
  refine m_R_cV (v := (some (.int q8.1))) (h1 := (SH, q8.2)) (rest := []) (lo' := [some (.ref 0), some (.int (-3 : Int32))]) (ml := 2) (k0 := 0) (by decide) (Or.inl rfl) (m_opb_of (ins := .invokevirtual 76) (len := 3) (tag := 5) (a := 14) (b := 1) (c := 0) (q := 671) (by decide +kernel)) (by decide +kernel) rfl (show m_isO 14 0 (SH, _) = true from m_isO_of (by decide +kernel)) (Nat.le_of_ble_eq_true rfl) rfl rfl (ok_x_refuse X (d + 5) F _ _ _ _ hc8) ?_
  cases h
  exact m_R_iret (by decide) (m_opb_of (ins := .ireturn) (len := 1) (tag := 1) (a := 0) (b := 0) (c := 0) (q := 0) (by decide +kernel)) (Or.inl rfl)
def f_x_give_77 (F : Nat)    (m : mM) : Option (Int32 × mM) := ((f_x_refuse F (-7 : Int32) m).bind fun q9 => some (q9.1, q9.2))
theorem ok_x_give_77 (X : mX) (d F : Nat) : ∀  (w1 : Option Value) (w2 : Option Value) (w3 : Option Value) (w4 : Option Value) (m : mM) (r : Int32) (m' : mM), f_x_give_77 F  m = some (r, m') → m_R X (d + 6) 33 77 [some (.ref 0), w1, w2, w3, w4] [] (SH, m) (some (.int r), (SH, m')) := by
  intro w1 w2 w3 w4 m r m' h
  unfold f_x_give_77 at h
  refine m_R_sg (by decide) [(.aload_n 0, 1, 0, 0, 0, 0, 0), (.bipush (-7), 2, 0, 7, 1, 0, 0)] (by decide +kernel) (show m_sgl X _ _ _ _ _ = some (80, [some (.ref 0), w1, w2, w3, w4], [.int (-7 : Int32), .ref 0], (SH, m.1, m.2)) from rfl) ?_
  obtain ⟨q9, hc9, h⟩ := Option.bind_eq_some_iff.mp h
  refine m_R_cV (v := (some (.int q9.1))) (h1 := (SH, q9.2)) (rest := []) (lo' := [some (.ref 0), some (.int (-7 : Int32))]) (ml := 2) (k0 := 0) (by decide) (Or.inl rfl) (m_opb_of (ins := .invokevirtual 76) (len := 3) (tag := 5) (a := 14) (b := 1) (c := 0) (q := 671) (by decide +kernel)) (by decide +kernel) rfl (show m_isO 14 0 (SH, _) = true from m_isO_of (by decide +kernel)) (Nat.le_of_ble_eq_true rfl) rfl rfl (ok_x_refuse X (d + 5) F _ _ _ _ hc9) ?_
  cases h
  exact m_R_iret (by decide) (m_opb_of (ins := .ireturn) (len := 1) (tag := 1) (a := 0) (b := 0) (c := 0) (q := 0) (by decide +kernel)) (Or.inl rfl)
def f_x_give (F : Nat)   (v1 : Int32) (v2 : Int32) (v3 : Int32) (m : mM) : Option (Int32 × mM) := ((f_Houses_isHouse F v1 m).bind fun q1 => (if q1.1 = 0 then f_x_give_27 F q1.2 else ((f_Houses_isHouse F v2 q1.2).bind fun q2 => (if q2.1 = 0 then f_x_give_27 F q2.2 else ((f_x_isSum F v3 q2.2).bind fun q3 => (if q3.1 = 0 then f_x_give_77 F q3.2 else (if v1 = v2 then f_x_give_77 F q3.2 else ((f_Houses_isUp F v1 q3.2).bind fun q4 => (if q4.1 = 0 then f_x_give_77 F q4.2 else ((f_Houses_isUp F v2 q4.2).bind fun q5 => (if q5.1 = 0 then f_x_give_77 F q5.2 else ((f_World_canGive F v1 v2 v3 q5.2).bind fun q6 => (if q6.1 = 0 then f_x_give_77 F q6.2 else ((f_World_transfer F v1 v2 v3 q6.2).bind fun q7 => (if v1 < 0 ∨ 16 ≤ v1.toNatClampNeg then none else some ((q7.2.1 22 v1.toNatClampNeg), q7.2))))))))))))))))
theorem ok_x_give (X : mX) (d F : Nat) : ∀ (v1 : Int32) (v2 : Int32) (v3 : Int32)  (m : mM) (r : Int32) (m' : mM), f_x_give F v1 v2 v3 m = some (r, m') → m_R X (d + 6) 33 0 [some (.ref 0), some (.int v1), some (.int v2), some (.int v3), none] [] (SH, m) (some (.int r), (SH, m')) := by
  intro v1 v2 v3 m r m' h
  unfold f_x_give at h
  refine m_R_sg (by decide) [(.aload_n 0, 1, 0, 0, 0, 0, 0), (.getfield 28, 3, 0, 11, 2, 3, 632), (.getfield 95, 3, 0, 10, 1, 3, 507), (.astore 4, 2, 0, 4, 0, 0, 0), (.aload 4, 2, 0, 4, 0, 0, 0), (.iload_n 1, 1, 0, 1, 0, 0, 0)] (by decide +kernel) (show m_sgl X _ _ _ _ _ = some (12, [some (.ref 0), some (.int v1), some (.int v2), some (.int v3), some (.ref 19)], [.int v1, .ref 19], (SH, m.1, m.2)) from rfl) ?_
  obtain ⟨q1, hc1, h⟩ := Option.bind_eq_some_iff.mp h
  refine m_R_cV (v := (some (.int q1.1))) (h1 := (SH, q1.2)) (rest := []) (lo' := [some (.ref 19), some (.int v1)]) (ml := 2) (k0 := 19) (by decide) (Or.inl rfl) (m_opb_of (ins := .invokevirtual 107) (len := 3) (tag := 5) (a := 24) (b := 1) (c := 0) (q := 712) (by decide +kernel)) (by decide +kernel) rfl (show m_isO 24 19 (SH, _) = true from m_isO_of (by decide +kernel)) (Nat.le_of_ble_eq_true rfl) rfl rfl (ok_Houses_isHouse X (d + 5) F _ _ _ _ hc1) ?_
  rcases m_ite h with ⟨c227, h⟩ | ⟨c227, h⟩
  · refine m_R_1 (by decide) (m_opb_of (ins := .ifCond .eq 12) (len := 3) (tag := 0) (a := 27) (b := 0) (c := 0) (q := 0) (by decide +kernel)) (if_pos c227) ?_
    exact ok_x_give_27 X d F _ _ _ _ _ _ _ h
  · refine m_R_1 (by decide) (m_opb_of (ins := .ifCond .eq 12) (len := 3) (tag := 0) (a := 27) (b := 0) (c := 0) (q := 0) (by decide +kernel)) (if_neg c227) ?_
    refine m_R_sg (by decide) [(.aload 4, 2, 0, 4, 0, 0, 0), (.iload_n 2, 1, 0, 2, 0, 0, 0)] (by decide +kernel) (show m_sgl X _ _ _ _ _ = some (21, [some (.ref 0), some (.int v1), some (.int v2), some (.int v3), some (.ref 19)], [.int v2, .ref 19], (SH, q1.2.1, q1.2.2)) from rfl) ?_
    obtain ⟨q2, hc2, h⟩ := Option.bind_eq_some_iff.mp h
    refine m_R_cV (v := (some (.int q2.1))) (h1 := (SH, q2.2)) (rest := []) (lo' := [some (.ref 19), some (.int v2)]) (ml := 2) (k0 := 19) (by decide) (Or.inl rfl) (m_opb_of (ins := .invokevirtual 107) (len := 3) (tag := 5) (a := 24) (b := 1) (c := 0) (q := 712) (by decide +kernel)) (by decide +kernel) rfl (show m_isO 24 19 (SH, _) = true from m_isO_of (by decide +kernel)) (Nat.le_of_ble_eq_true rfl) rfl rfl (ok_Houses_isHouse X (d + 5) F _ _ _ _ hc2) ?_
    rcases m_ite h with ⟨c228, h⟩ | ⟨c228, h⟩
    · refine m_R_1 (by decide) (m_opb_of (ins := .ifCond .ne 10) (len := 3) (tag := 0) (a := 34) (b := 0) (c := 0) (q := 0) (by decide +kernel)) (if_pos c228) ?_
      exact ok_x_give_27 X d F _ _ _ _ _ _ _ h
    · refine m_R_1 (by decide) (m_opb_of (ins := .ifCond .ne 10) (len := 3) (tag := 0) (a := 34) (b := 0) (c := 0) (q := 0) (by decide +kernel)) (if_neg c228) ?_
      refine m_R_sg (by decide) [(.iload_n 3, 1, 0, 3, 0, 0, 0)] (by decide +kernel) (show m_sgl X _ _ _ _ _ = some (35, [some (.ref 0), some (.int v1), some (.int v2), some (.int v3), some (.ref 19)], [.int v3], (SH, q2.2.1, q2.2.2)) from rfl) ?_
      obtain ⟨q3, hc3, h⟩ := Option.bind_eq_some_iff.mp h
      refine m_R_cS (v := (some (.int q3.1))) (h1 := (SH, q3.2)) (rest := []) (lo' := [some (.int v3)]) (ml := 1) (by decide) (m_opb_of (ins := .invokestatic 170) (len := 3) (tag := 4) (a := 34) (b := 1) (c := 0) (q := 753) (by decide +kernel)) (by decide +kernel) (Nat.le_of_ble_eq_true rfl) rfl (Nat.le_of_ble_eq_true rfl) rfl rfl (ok_x_isSum X (d + 5) F _ _ _ _ hc3) ?_
      rcases m_ite h with ⟨c229, h⟩ | ⟨c229, h⟩
      · refine m_R_1 (by decide) (m_opb_of (ins := .ifCond .eq 39) (len := 3) (tag := 0) (a := 77) (b := 0) (c := 0) (q := 0) (by decide +kernel)) (if_pos c229) ?_
        exact ok_x_give_77 X d F _ _ _ _ _ _ _ h
      · refine m_R_1 (by decide) (m_opb_of (ins := .ifCond .eq 39) (len := 3) (tag := 0) (a := 77) (b := 0) (c := 0) (q := 0) (by decide +kernel)) (if_neg c229) ?_
        refine m_R_sg (by decide) [(.iload_n 1, 1, 0, 1, 0, 0, 0), (.iload_n 2, 1, 0, 2, 0, 0, 0)] (by decide +kernel) (show m_sgl X _ _ _ _ _ = some (43, [some (.ref 0), some (.int v1), some (.int v2), some (.int v3), some (.ref 19)], [.int v2, .int v1], (SH, q3.2.1, q3.2.2)) from rfl) ?_
        rcases m_ite h with ⟨c230, h⟩ | ⟨c230, h⟩
        · refine m_R_1 (by decide) (m_opb_of (ins := .if_icmp .eq 34) (len := 3) (tag := 0) (a := 77) (b := 0) (c := 0) (q := 0) (by decide +kernel)) (if_pos c230) ?_
          exact ok_x_give_77 X d F _ _ _ _ _ _ _ h
        · refine m_R_1 (by decide) (m_opb_of (ins := .if_icmp .eq 34) (len := 3) (tag := 0) (a := 77) (b := 0) (c := 0) (q := 0) (by decide +kernel)) (if_neg c230) ?_
          refine m_R_sg (by decide) [(.aload 4, 2, 0, 4, 0, 0, 0), (.iload_n 1, 1, 0, 1, 0, 0, 0)] (by decide +kernel) (show m_sgl X _ _ _ _ _ = some (49, [some (.ref 0), some (.int v1), some (.int v2), some (.int v3), some (.ref 19)], [.int v1, .ref 19], (SH, q3.2.1, q3.2.2)) from rfl) ?_
          obtain ⟨q4, hc4, h⟩ := Option.bind_eq_some_iff.mp h
          refine m_R_cV (v := (some (.int q4.1))) (h1 := (SH, q4.2)) (rest := []) (lo' := [some (.ref 19), some (.int v1)]) (ml := 2) (k0 := 19) (by decide) (Or.inl rfl) (m_opb_of (ins := .invokevirtual 110) (len := 3) (tag := 5) (a := 25) (b := 1) (c := 0) (q := 716) (by decide +kernel)) (by decide +kernel) rfl (show m_isO 25 19 (SH, _) = true from m_isO_of (by decide +kernel)) (Nat.le_of_ble_eq_true rfl) rfl rfl (ok_Houses_isUp X (d + 4) F _ _ _ _ hc4) ?_
          rcases m_ite h with ⟨c231, h⟩ | ⟨c231, h⟩
          · refine m_R_1 (by decide) (m_opb_of (ins := .ifCond .eq 25) (len := 3) (tag := 0) (a := 77) (b := 0) (c := 0) (q := 0) (by decide +kernel)) (if_pos c231) ?_
            exact ok_x_give_77 X d F _ _ _ _ _ _ _ h
          · refine m_R_1 (by decide) (m_opb_of (ins := .ifCond .eq 25) (len := 3) (tag := 0) (a := 77) (b := 0) (c := 0) (q := 0) (by decide +kernel)) (if_neg c231) ?_
            refine m_R_sg (by decide) [(.aload 4, 2, 0, 4, 0, 0, 0), (.iload_n 2, 1, 0, 2, 0, 0, 0)] (by decide +kernel) (show m_sgl X _ _ _ _ _ = some (58, [some (.ref 0), some (.int v1), some (.int v2), some (.int v3), some (.ref 19)], [.int v2, .ref 19], (SH, q4.2.1, q4.2.2)) from rfl) ?_
            obtain ⟨q5, hc5, h⟩ := Option.bind_eq_some_iff.mp h
            refine m_R_cV (v := (some (.int q5.1))) (h1 := (SH, q5.2)) (rest := []) (lo' := [some (.ref 19), some (.int v2)]) (ml := 2) (k0 := 19) (by decide) (Or.inl rfl) (m_opb_of (ins := .invokevirtual 110) (len := 3) (tag := 5) (a := 25) (b := 1) (c := 0) (q := 716) (by decide +kernel)) (by decide +kernel) rfl (show m_isO 25 19 (SH, _) = true from m_isO_of (by decide +kernel)) (Nat.le_of_ble_eq_true rfl) rfl rfl (ok_Houses_isUp X (d + 4) F _ _ _ _ hc5) ?_
            rcases m_ite h with ⟨c232, h⟩ | ⟨c232, h⟩
            · refine m_R_1 (by decide) (m_opb_of (ins := .ifCond .eq 16) (len := 3) (tag := 0) (a := 77) (b := 0) (c := 0) (q := 0) (by decide +kernel)) (if_pos c232) ?_
              exact ok_x_give_77 X d F _ _ _ _ _ _ _ h
            · refine m_R_1 (by decide) (m_opb_of (ins := .ifCond .eq 16) (len := 3) (tag := 0) (a := 77) (b := 0) (c := 0) (q := 0) (by decide +kernel)) (if_neg c232) ?_
              refine m_R_sg (by decide) [(.aload_n 0, 1, 0, 0, 0, 0, 0), (.getfield 28, 3, 0, 11, 2, 3, 632), (.iload_n 1, 1, 0, 1, 0, 0, 0), (.iload_n 2, 1, 0, 2, 0, 0, 0), (.iload_n 3, 1, 0, 3, 0, 0, 0)] (by decide +kernel) (show m_sgl X _ _ _ _ _ = some (71, [some (.ref 0), some (.int v1), some (.int v2), some (.int v3), some (.ref 19)], [.int v3, .int v2, .int v1, .ref 16], (SH, q5.2.1, q5.2.2)) from rfl) ?_
              obtain ⟨q6, hc6, h⟩ := Option.bind_eq_some_iff.mp h
              refine m_R_cV (v := (some (.int q6.1))) (h1 := (SH, q6.2)) (rest := []) (lo' := [some (.ref 16), some (.int v1), some (.int v2), some (.int v3)]) (ml := 4) (k0 := 16) (by decide) (Or.inl rfl) (m_opb_of (ins := .invokevirtual 173) (len := 3) (tag := 5) (a := 35) (b := 3) (c := 0) (q := 756) (by decide +kernel)) (by decide +kernel) rfl (show m_isO 35 16 (SH, _) = true from m_isO_of (by decide +kernel)) (Nat.le_of_ble_eq_true rfl) rfl rfl (ok_World_canGive X (d + 0) F _ _ _ _ _ _ hc6) ?_
              rcases m_ite h with ⟨c233, h⟩ | ⟨c233, h⟩
              · refine m_R_1 (by decide) (m_opb_of (ins := .ifCond .ne 10) (len := 3) (tag := 0) (a := 84) (b := 0) (c := 0) (q := 0) (by decide +kernel)) (if_pos c233) ?_
                exact ok_x_give_77 X d F _ _ _ _ _ _ _ h
              · refine m_R_1 (by decide) (m_opb_of (ins := .ifCond .ne 10) (len := 3) (tag := 0) (a := 84) (b := 0) (c := 0) (q := 0) (by decide +kernel)) (if_neg c233) ?_
                refine m_R_sg (by decide) [(.aload_n 0, 1, 0, 0, 0, 0, 0), (.getfield 28, 3, 0, 11, 2, 3, 632), (.iload_n 1, 1, 0, 1, 0, 0, 0), (.iload_n 2, 1, 0, 2, 0, 0, 0), (.iload_n 3, 1, 0, 3, 0, 0, 0)] (by decide +kernel) (show m_sgl X _ _ _ _ _ = some (91, [some (.ref 0), some (.int v1), some (.int v2), some (.int v3), some (.ref 19)], [.int v3, .int v2, .int v1, .ref 16], (SH, q6.2.1, q6.2.2)) from rfl) ?_
                obtain ⟨q7, hc7, h⟩ := Option.bind_eq_some_iff.mp h
                refine m_R_cV (v := none) (h1 := (SH, q7.2)) (rest := []) (lo' := [some (.ref 16), some (.int v1), some (.int v2), some (.int v3), none]) (ml := 5) (k0 := 16) (by decide) (Or.inl rfl) (m_opb_of (ins := .invokevirtual 177) (len := 3) (tag := 5) (a := 51) (b := 3) (c := 0) (q := 819) (by decide +kernel)) (by decide +kernel) rfl (show m_isO 51 16 (SH, _) = true from m_isO_of (by decide +kernel)) (Nat.le_of_ble_eq_true rfl) rfl rfl (ok_World_transfer X (d + 3) F _ _ _ _ _ _ hc7) ?_
                refine m_R_sg (by decide) [(.aload 4, 2, 0, 4, 0, 0, 0), (.getfield 113, 3, 0, 1, 2, 3, 256), (.iload_n 1, 1, 0, 1, 0, 0, 0)] (by decide +kernel) (show m_sgl X _ _ _ _ _ = some (100, [some (.ref 0), some (.int v1), some (.int v2), some (.int v3), some (.ref 19)], [.int v1, .ref 22], (SH, q7.2.1, q7.2.2)) from rfl) ?_
                obtain ⟨c234, h⟩ := m_ite_n h
                refine m_R_1 (by decide) (m_opb_of (ins := .iaload) (len := 1) (tag := 0) (a := 0) (b := 0) (c := 0) (q := 0) (by decide +kernel)) (m_s_iald sh_22 (by decide) c234) ?_
                cases h
                exact m_R_iret (by decide) (m_opb_of (ins := .ireturn) (len := 1) (tag := 1) (a := 0) (b := 0) (c := 0) (q := 0) (by decide +kernel)) (Or.inl rfl)
def f_x_found_23 (F : Nat)    (m : mM) : Option (Int32 × mM) := ((f_x_refuse F (-3 : Int32) m).bind fun q3 => some (q3.1, q3.2))
theorem ok_x_found_23 (X : mX) (d F : Nat) : ∀  (w1 : Option Value) (w2 : Option Value) (m : mM) (r : Int32) (m' : mM), f_x_found_23 F  m = some (r, m') → m_R X (d + 1) 69 23 [some (.ref 0), w1, w2] [] (SH, m) (some (.int r), (SH, m')) := by
  intro w1 w2 m r m' h
  unfold f_x_found_23 at h
  refine m_R_sg (by decide) [(.aload_n 0, 1, 0, 0, 0, 0, 0), (.bipush (-3), 2, 0, 3, 1, 0, 0)] (by decide +kernel) (show m_sgl X _ _ _ _ _ = some (26, [some (.ref 0), w1, w2], [.int (-3 : Int32), .ref 0], (SH, m.1, m.2)) from rfl) ?_
  obtain ⟨q3, hc3, h⟩ := Option.bind_eq_some_iff.mp h
  refine m_R_cV (v := (some (.int q3.1))) (h1 := (SH, q3.2)) (rest := []) (lo' := [some (.ref 0), some (.int (-3 : Int32))]) (ml := 2) (k0 := 0) (by decide) (Or.inl rfl) (m_opb_of (ins := .invokevirtual 76) (len := 3) (tag := 5) (a := 14) (b := 1) (c := 0) (q := 671) (by decide +kernel)) (by decide +kernel) rfl (show m_isO 14 0 (SH, _) = true from m_isO_of (by decide +kernel)) (Nat.le_of_ble_eq_true rfl) rfl rfl (ok_x_refuse X (d + 0) F _ _ _ _ hc3) ?_
  cases h
  exact m_R_iret (by decide) (m_opb_of (ins := .ireturn) (len := 1) (tag := 1) (a := 0) (b := 0) (c := 0) (q := 0) (by decide +kernel)) (Or.inl rfl)
def f_x_found (F : Nat)   (v1 : Int32) (v2 : Int32) (m : mM) : Option (Int32 × mM) := (if v1 < 0 then f_x_found_23 F m else ((f_Math_min_II F (60 : Int32) (m.1 55 12) m).bind fun q1 => (if v1 < q1.1 then (if v2 = (0 : Int32) then (if v1 < 0 ∨ 60 ≤ v1.toNatClampNeg then none else some ((q1.2.1 4 v1.toNatClampNeg), q1.2)) else (if v2 = (1 : Int32) then (if v1 < 0 ∨ 60 ≤ v1.toNatClampNeg then none else some ((q1.2.1 5 v1.toNatClampNeg), q1.2)) else (if v2 = (2 : Int32) then (if v1 < 0 ∨ 60 ≤ v1.toNatClampNeg then none else some ((q1.2.1 6 v1.toNatClampNeg), q1.2)) else ((f_x_refuse F (-7 : Int32) q1.2).bind fun q2 => some (q2.1, q2.2))))) else f_x_found_23 F q1.2)))
theorem ok_x_found (X : mX) (d F : Nat) : ∀ (v1 : Int32) (v2 : Int32)  (m : mM) (r : Int32) (m' : mM), f_x_found F v1 v2 m = some (r, m') → m_R X (d + 1) 69 0 [some (.ref 0), some (.int v1), some (.int v2)] [] (SH, m) (some (.int r), (SH, m')) := by
  intro v1 v2 m r m' h
  unfold f_x_found at h
  refine m_R_sg (by decide) [(.iload_n 1, 1, 0, 1, 0, 0, 0)] (by decide +kernel) (show m_sgl X _ _ _ _ _ = some (1, [some (.ref 0), some (.int v1), some (.int v2)], [.int v1], (SH, m.1, m.2)) from rfl) ?_
  rcases m_ite h with ⟨c235, h⟩ | ⟨c235, h⟩
  · refine m_R_1 (by decide) (m_opb_of (ins := .ifCond .lt 22) (len := 3) (tag := 0) (a := 23) (b := 0) (c := 0) (q := 0) (by decide +kernel)) (if_pos c235) ?_
    exact ok_x_found_23 X d F _ _ _ _ _ h
  · refine m_R_1 (by decide) (m_opb_of (ins := .ifCond .lt 22) (len := 3) (tag := 0) (a := 23) (b := 0) (c := 0) (q := 0) (by decide +kernel)) (if_neg c235) ?_
    refine m_R_sg (by decide) [(.iload_n 1, 1, 0, 1, 0, 0, 0), (.bipush 60, 2, 0, 60, 0, 0, 0), (.aload_n 0, 1, 0, 0, 0, 0, 0), (.getfield 28, 3, 0, 11, 2, 3, 632), (.getfield 134, 3, 0, 10, 8, 3, 519), (.getfield 216, 3, 0, 3, 12, 0, 475)] (by decide +kernel) (show m_sgl X _ _ _ _ _ = some (17, [some (.ref 0), some (.int v1), some (.int v2)], [.int (m.1 55 12), .int (60 : Int32), .int v1], (SH, m.1, m.2)) from rfl) ?_
    obtain ⟨q1, hc1, h⟩ := Option.bind_eq_some_iff.mp h
    refine m_R_cS (v := (some (.int q1.1))) (h1 := (SH, q1.2)) (rest := [.int v1]) (lo' := [some (.int (60 : Int32)), some (.int (m.1 55 12))]) (ml := 2) (by decide) (m_opb_of (ins := .invokestatic 219) (len := 3) (tag := 4) (a := 50) (b := 2) (c := 0) (q := 896) (by decide +kernel)) (by decide +kernel) (Nat.le_of_ble_eq_true rfl) rfl (Nat.le_of_ble_eq_true rfl) rfl rfl (ok_Math_min_II X (d + 0) F _ _ _ _ _ hc1) ?_
    rcases m_ite h with ⟨c236, h⟩ | ⟨c236, h⟩
    · refine m_R_1 (by decide) (m_opb_of (ins := .if_icmp .lt 10) (len := 3) (tag := 0) (a := 30) (b := 0) (c := 0) (q := 0) (by decide +kernel)) (if_pos c236) ?_
      refine m_R_sg (by decide) [(.iload_n 2, 1, 0, 2, 0, 0, 0)] (by decide +kernel) (show m_sgl X _ _ _ _ _ = some (31, [some (.ref 0), some (.int v1), some (.int v2)], [.int v2], (SH, q1.2.1, q1.2.2)) from rfl) ?_
      rcases m_ite h with ⟨c0, h⟩ | ⟨d0, h⟩
      · refine m_R_1 (by decide) (m_opb_of (ins := .tableswitch 55 0 2 #[25, 35, 45]) (len := 25) (tag := 0) (a := 0) (b := 0) (c := 0) (q := 0) (by decide +kernel)) (m_s_sw (by rw [c0]; decide) (by rw [c0]; rfl) (by decide) (t := 56) rfl) ?_
        refine m_R_sg (by decide) [(.aload_n 0, 1, 0, 0, 0, 0, 0), (.getfield 10, 3, 0, 11, 0, 3, 630), (.getfield 223, 3, 0, 6, 2, 3, 167), (.iload_n 1, 1, 0, 1, 0, 0, 0)] (by decide +kernel) (show m_sgl X _ _ _ _ _ = some (64, [some (.ref 0), some (.int v1), some (.int v2)], [.int v1, .ref 4], (SH, q1.2.1, q1.2.2)) from rfl) ?_
        obtain ⟨c237, h⟩ := m_ite_n h
        refine m_R_1 (by decide) (m_opb_of (ins := .iaload) (len := 1) (tag := 0) (a := 0) (b := 0) (c := 0) (q := 0) (by decide +kernel)) (m_s_iald sh_4 (by decide) c237) ?_
        cases h
        exact m_R_iret (by decide) (m_opb_of (ins := .ireturn) (len := 1) (tag := 1) (a := 0) (b := 0) (c := 0) (q := 0) (by decide +kernel)) (Or.inl rfl)
      rcases m_ite h with ⟨c0, h⟩ | ⟨d1, h⟩
      · refine m_R_1 (by decide) (m_opb_of (ins := .tableswitch 55 0 2 #[25, 35, 45]) (len := 25) (tag := 0) (a := 0) (b := 0) (c := 0) (q := 0) (by decide +kernel)) (m_s_sw (by rw [c0]; decide) (by rw [c0]; rfl) (by decide) (t := 66) rfl) ?_
        refine m_R_sg (by decide) [(.aload_n 0, 1, 0, 0, 0, 0, 0), (.getfield 10, 3, 0, 11, 0, 3, 630), (.getfield 226, 3, 0, 6, 3, 3, 170), (.iload_n 1, 1, 0, 1, 0, 0, 0)] (by decide +kernel) (show m_sgl X _ _ _ _ _ = some (74, [some (.ref 0), some (.int v1), some (.int v2)], [.int v1, .ref 5], (SH, q1.2.1, q1.2.2)) from rfl) ?_
        obtain ⟨c238, h⟩ := m_ite_n h
        refine m_R_1 (by decide) (m_opb_of (ins := .iaload) (len := 1) (tag := 0) (a := 0) (b := 0) (c := 0) (q := 0) (by decide +kernel)) (m_s_iald sh_5 (by decide) c238) ?_
        cases h
        exact m_R_iret (by decide) (m_opb_of (ins := .ireturn) (len := 1) (tag := 1) (a := 0) (b := 0) (c := 0) (q := 0) (by decide +kernel)) (Or.inl rfl)
      rcases m_ite h with ⟨c0, h⟩ | ⟨d2, h⟩
      · refine m_R_1 (by decide) (m_opb_of (ins := .tableswitch 55 0 2 #[25, 35, 45]) (len := 25) (tag := 0) (a := 0) (b := 0) (c := 0) (q := 0) (by decide +kernel)) (m_s_sw (by rw [c0]; decide) (by rw [c0]; rfl) (by decide) (t := 76) rfl) ?_
        refine m_R_sg (by decide) [(.aload_n 0, 1, 0, 0, 0, 0, 0), (.getfield 10, 3, 0, 11, 0, 3, 630), (.getfield 229, 3, 0, 6, 4, 3, 173), (.iload_n 1, 1, 0, 1, 0, 0, 0)] (by decide +kernel) (show m_sgl X _ _ _ _ _ = some (84, [some (.ref 0), some (.int v1), some (.int v2)], [.int v1, .ref 6], (SH, q1.2.1, q1.2.2)) from rfl) ?_
        obtain ⟨c239, h⟩ := m_ite_n h
        refine m_R_1 (by decide) (m_opb_of (ins := .iaload) (len := 1) (tag := 0) (a := 0) (b := 0) (c := 0) (q := 0) (by decide +kernel)) (m_s_iald sh_6 (by decide) c239) ?_
        cases h
        exact m_R_iret (by decide) (m_opb_of (ins := .ireturn) (len := 1) (tag := 1) (a := 0) (b := 0) (c := 0) (q := 0) (by decide +kernel)) (Or.inl rfl)
      refine m_R_1 (by decide) (m_opb_of (ins := .tableswitch 55 0 2 #[25, 35, 45]) (len := 25) (tag := 0) (a := 0) (b := 0) (c := 0) (q := 0) (by decide +kernel)) (m_s_swd (m_swx 3 (fun j hj => match j, hj with | 0, _ => fun e => d0 (e.trans (by decide)) | 1, _ => fun e => d1 (e.trans (by decide)) | 2, _ => fun e => d2 (e.trans (by decide)) | j + 3, hj => absurd hj (by omega))) (by decide) (t := 86) rfl) ?_
      refine m_R_sg (by decide) [(.aload_n 0, 1, 0, 0, 0, 0, 0), (.bipush (-7), 2, 0, 7, 1, 0, 0)] (by decide +kernel) (show m_sgl X _ _ _ _ _ = some (89, [some (.ref 0), some (.int v1), some (.int v2)], [.int (-7 : Int32), .ref 0], (SH, q1.2.1, q1.2.2)) from rfl) ?_
      obtain ⟨q2, hc2, h⟩ := Option.bind_eq_some_iff.mp h
      refine m_R_cV (v := (some (.int q2.1))) (h1 := (SH, q2.2)) (rest := []) (lo' := [some (.ref 0), some (.int (-7 : Int32))]) (ml := 2) (k0 := 0) (by decide) (Or.inl rfl) (m_opb_of (ins := .invokevirtual 76) (len := 3) (tag := 5) (a := 14) (b := 1) (c := 0) (q := 671) (by decide +kernel)) (by decide +kernel) rfl (show m_isO 14 0 (SH, _) = true from m_isO_of (by decide +kernel)) (Nat.le_of_ble_eq_true rfl) rfl rfl (ok_x_refuse X (d + 0) F _ _ _ _ hc2) ?_
      cases h
      exact m_R_iret (by decide) (m_opb_of (ins := .ireturn) (len := 1) (tag := 1) (a := 0) (b := 0) (c := 0) (q := 0) (by decide +kernel)) (Or.inl rfl)
    · refine m_R_1 (by decide) (m_opb_of (ins := .if_icmp .lt 10) (len := 3) (tag := 0) (a := 30) (b := 0) (c := 0) (q := 0) (by decide +kernel)) (if_neg c236) ?_
      exact ok_x_found_23 X d F _ _ _ _ _ h
def f_x_status_12 (F : Nat)    (m : mM) : Option (Int32 × mM) := ((f_x_refuse F (-7 : Int32) m).bind fun q1 => some (q1.1, q1.2))
theorem ok_x_status_12 (X : mX) (d F : Nat) : ∀  (w1 : Option Value) (m : mM) (r : Int32) (m' : mM), f_x_status_12 F  m = some (r, m') → m_R X (d + 1) 197 12 [some (.ref 0), w1] [] (SH, m) (some (.int r), (SH, m')) := by
  intro w1 m r m' h
  unfold f_x_status_12 at h
  refine m_R_sg (by decide) [(.aload_n 0, 1, 0, 0, 0, 0, 0), (.bipush (-7), 2, 0, 7, 1, 0, 0)] (by decide +kernel) (show m_sgl X _ _ _ _ _ = some (15, [some (.ref 0), w1], [.int (-7 : Int32), .ref 0], (SH, m.1, m.2)) from rfl) ?_
  obtain ⟨q1, hc1, h⟩ := Option.bind_eq_some_iff.mp h
  refine m_R_cV (v := (some (.int q1.1))) (h1 := (SH, q1.2)) (rest := []) (lo' := [some (.ref 0), some (.int (-7 : Int32))]) (ml := 2) (k0 := 0) (by decide) (Or.inl rfl) (m_opb_of (ins := .invokevirtual 76) (len := 3) (tag := 5) (a := 14) (b := 1) (c := 0) (q := 671) (by decide +kernel)) (by decide +kernel) rfl (show m_isO 14 0 (SH, _) = true from m_isO_of (by decide +kernel)) (Nat.le_of_ble_eq_true rfl) rfl rfl (ok_x_refuse X (d + 0) F _ _ _ _ hc1) ?_
  cases h
  exact m_R_iret (by decide) (m_opb_of (ins := .ireturn) (len := 1) (tag := 1) (a := 0) (b := 0) (c := 0) (q := 0) (by decide +kernel)) (Or.inl rfl)
def f_x_status (F : Nat)   (v1 : Int32) (m : mM) : Option (Int32 × mM) := (if (-2 : Int32) < v1 then f_x_status_12 F m else (if (-8 : Int32) ≤ v1 then (if ((-2 : Int32) - v1) < 0 ∨ 7 ≤ ((-2 : Int32) - v1).toNatClampNeg then none else some ((m.1 119 ((-2 : Int32) - v1).toNatClampNeg), m)) else f_x_status_12 F m))
theorem ok_x_status (X : mX) (d F : Nat) : ∀ (v1 : Int32)  (m : mM) (r : Int32) (m' : mM), f_x_status F v1 m = some (r, m') → m_R X (d + 1) 197 0 [some (.ref 0), some (.int v1)] [] (SH, m) (some (.int r), (SH, m')) := by
  intro v1 m r m' h
  unfold f_x_status at h
  refine m_R_sg (by decide) [(.iload_n 1, 1, 0, 1, 0, 0, 0), (.bipush (-2), 2, 0, 2, 1, 0, 0)] (by decide +kernel) (show m_sgl X _ _ _ _ _ = some (3, [some (.ref 0), some (.int v1)], [.int (-2 : Int32), .int v1], (SH, m.1, m.2)) from rfl) ?_
  rcases m_ite h with ⟨c240, h⟩ | ⟨c240, h⟩
  · refine m_R_1 (by decide) (m_opb_of (ins := .if_icmp .gt 9) (len := 3) (tag := 0) (a := 12) (b := 0) (c := 0) (q := 0) (by decide +kernel)) (if_pos c240) ?_
    exact ok_x_status_12 X d F _ _ _ _ h
  · refine m_R_1 (by decide) (m_opb_of (ins := .if_icmp .gt 9) (len := 3) (tag := 0) (a := 12) (b := 0) (c := 0) (q := 0) (by decide +kernel)) (if_neg c240) ?_
    refine m_R_sg (by decide) [(.iload_n 1, 1, 0, 1, 0, 0, 0), (.bipush (-8), 2, 0, 8, 1, 0, 0)] (by decide +kernel) (show m_sgl X _ _ _ _ _ = some (9, [some (.ref 0), some (.int v1)], [.int (-8 : Int32), .int v1], (SH, m.1, m.2)) from rfl) ?_
    rcases m_ite h with ⟨c241, h⟩ | ⟨c241, h⟩
    · refine m_R_1 (by decide) (m_opb_of (ins := .if_icmp .ge 10) (len := 3) (tag := 0) (a := 19) (b := 0) (c := 0) (q := 0) (by decide +kernel)) (if_pos c241) ?_
      refine m_R_sg (by decide) [(.aload_n 0, 1, 0, 0, 0, 0, 0), (.getfield 60, 3, 0, 11, 9, 3, 639), (.bipush (-2), 2, 0, 2, 1, 0, 0), (.iload_n 1, 1, 0, 1, 0, 0, 0), (.isub, 1, 0, 0, 0, 0, 0)] (by decide +kernel) (show m_sgl X _ _ _ _ _ = some (27, [some (.ref 0), some (.int v1)], [.int ((-2 : Int32) - v1), .ref 119], (SH, m.1, m.2)) from rfl) ?_
      obtain ⟨c242, h⟩ := m_ite_n h
      refine m_R_1 (by decide) (m_opb_of (ins := .iaload) (len := 1) (tag := 0) (a := 0) (b := 0) (c := 0) (q := 0) (by decide +kernel)) (m_s_iald sh_119 (by decide) c242) ?_
      cases h
      exact m_R_iret (by decide) (m_opb_of (ins := .ireturn) (len := 1) (tag := 1) (a := 0) (b := 0) (c := 0) (q := 0) (by decide +kernel)) (Or.inl rfl)
    · refine m_R_1 (by decide) (m_opb_of (ins := .if_icmp .ge 10) (len := 3) (tag := 0) (a := 19) (b := 0) (c := 0) (q := 0) (by decide +kernel)) (if_neg c241) ?_
      exact ok_x_status_12 X d F _ _ _ _ h
