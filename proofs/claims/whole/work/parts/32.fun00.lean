/-! METHODS AS FUNCTIONS (written by program: wip/whole/gen/emit.py) -/
def f_x_refuse_25 (F : Nat)   (v1 : Int32) (m : mM) : Option (Int32 × mM) := some (v1, m)
theorem ok_x_refuse_25 (X : mX) (d F : Nat) : ∀ (v1 : Int32) (w0 : Option Value) (m : mM) (r : Int32) (m' : mM), f_x_refuse_25 F v1 m = some (r, m') → m_R X (d + 0) 14 25 [w0, some (.int v1)] [] (SH, m) (some (.int r), (SH, m')) := by
  intro v1 w0 m r m' h
  unfold f_x_refuse_25 at h
  refine m_R_sg (by decide) [(.iload_n 1, 1, 0, 1, 0, 0, 0)] (by decide +kernel) (show m_sgl X _ _ _ _ _ = some (26, [w0, some (.int v1)], [.int v1], (SH, m.1, m.2)) from rfl) ?_
  obtain ⟨rfl, rfl⟩ := m_some h
  exact m_R_iret (by decide) (m_opb_of (ins := .ireturn) (len := 1) (tag := 1) (a := 0) (b := 0) (c := 0) (q := 0) (by decide +kernel)) (Or.inl rfl)
def f_x_refuse (F : Nat)   (v1 : Int32) (m : mM) : Option (Int32 × mM) := (if (-2 : Int32) < v1 then f_x_refuse_25 F v1 m else (if v1 < (-8 : Int32) then f_x_refuse_25 F v1 m else (if ((-2 : Int32) - v1) < 0 ∨ 7 ≤ ((-2 : Int32) - v1).toNatClampNeg then none else f_x_refuse_25 F v1 ((m_up m.1 119 ((-2 : Int32) - v1).toNatClampNeg ((m.1 119 ((-2 : Int32) - v1).toNatClampNeg) + (1 : Int32))), m.2))))
theorem ok_x_refuse (X : mX) (d F : Nat) : ∀ (v1 : Int32)  (m : mM) (r : Int32) (m' : mM), f_x_refuse F v1 m = some (r, m') → m_R X (d + 0) 14 0 [some (.ref 0), some (.int v1)] [] (SH, m) (some (.int r), (SH, m')) := by
  intro v1 m r m' h
  unfold f_x_refuse at h
  refine m_R_sg (by decide) [(.iload_n 1, 1, 0, 1, 0, 0, 0), (.bipush (-2), 2, 0, 2, 1, 0, 0)] (by decide +kernel) (show m_sgl X _ _ _ _ _ = some (3, [some (.ref 0), some (.int v1)], [.int (-2 : Int32), .int v1], (SH, m.1, m.2)) from rfl) ?_
  rcases m_ite h with ⟨c1, h⟩ | ⟨c1, h⟩
  · refine m_R_1 (by decide) (m_opb_of (ins := .if_icmp .gt 22) (len := 3) (tag := 0) (a := 25) (b := 0) (c := 0) (q := 0) (by decide +kernel)) (if_pos c1) ?_
    exact ok_x_refuse_25 X d F _ _ _ _ _ h
  · refine m_R_1 (by decide) (m_opb_of (ins := .if_icmp .gt 22) (len := 3) (tag := 0) (a := 25) (b := 0) (c := 0) (q := 0) (by decide +kernel)) (if_neg c1) ?_
    refine m_R_sg (by decide) [(.iload_n 1, 1, 0, 1, 0, 0, 0), (.bipush (-8), 2, 0, 8, 1, 0, 0)] (by decide +kernel) (show m_sgl X _ _ _ _ _ = some (9, [some (.ref 0), some (.int v1)], [.int (-8 : Int32), .int v1], (SH, m.1, m.2)) from rfl) ?_
    rcases m_ite h with ⟨c2, h⟩ | ⟨c2, h⟩
    · refine m_R_1 (by decide) (m_opb_of (ins := .if_icmp .lt 16) (len := 3) (tag := 0) (a := 25) (b := 0) (c := 0) (q := 0) (by decide +kernel)) (if_pos c2) ?_
      exact ok_x_refuse_25 X d F _ _ _ _ _ h
    · refine m_R_1 (by decide) (m_opb_of (ins := .if_icmp .lt 16) (len := 3) (tag := 0) (a := 25) (b := 0) (c := 0) (q := 0) (by decide +kernel)) (if_neg c2) ?_
      refine m_R_sg (by decide) [(.aload_n 0, 1, 0, 0, 0, 0, 0), (.getfield 60, 3, 0, 11, 9, 3, 639), (.bipush (-2), 2, 0, 2, 1, 0, 0), (.iload_n 1, 1, 0, 1, 0, 0, 0), (.isub, 1, 0, 0, 0, 0, 0), (.dup2, 1, 0, 0, 0, 0, 0)] (by decide +kernel) (show m_sgl X _ _ _ _ _ = some (21, [some (.ref 0), some (.int v1)], [.int ((-2 : Int32) - v1), .ref 119, .int ((-2 : Int32) - v1), .ref 119], (SH, m.1, m.2)) from rfl) ?_
      obtain ⟨c3, h⟩ := m_ite_n h
      refine m_R_1 (by decide) (m_opb_of (ins := .iaload) (len := 1) (tag := 0) (a := 0) (b := 0) (c := 0) (q := 0) (by decide +kernel)) (m_s_iald sh_119 (by decide) c3) ?_
      refine m_R_sg (by decide) [(.iconst 1, 1, 0, 1, 0, 0, 0), (.iadd, 1, 0, 0, 0, 0, 0)] (by decide +kernel) (show m_sgl X _ _ _ _ _ = some (24, [some (.ref 0), some (.int v1)], [.int ((m.1 119 ((-2 : Int32) - v1).toNatClampNeg) + (1 : Int32)), .int ((-2 : Int32) - v1), .ref 119], (SH, m.1, m.2)) from rfl) ?_
      refine m_R_1 (by decide) (m_opb_of (ins := .iastore) (len := 1) (tag := 0) (a := 0) (b := 0) (c := 0) (q := 0) (by decide +kernel)) (m_s_iast sh_119 c3) ?_
      exact ok_x_refuse_25 X d F _ _ _ _ _ h
def f_m_refuse (F : Nat)   (v1 : Int32) (m : mM) : Option (Int32 × mM) := (if (-v1) < 0 ∨ 9 ≤ (-v1).toNatClampNeg then none else some (v1, ((m_up m.1 306 (-v1).toNatClampNeg ((m.1 306 (-v1).toNatClampNeg) + (1 : Int32))), m.2)))
theorem ok_m_refuse (X : mX) (d F : Nat) : ∀ (v1 : Int32)  (m : mM) (r : Int32) (m' : mM), f_m_refuse F v1 m = some (r, m') → m_R X (d + 0) 202 0 [some (.ref 304), some (.int v1)] [] (SH, m) (some (.int r), (SH, m')) := by
  intro v1 m r m' h
  unfold f_m_refuse at h
  refine m_R_sg (by decide) [(.aload_n 0, 1, 0, 0, 0, 0, 0), (.getfield 17, 3, 0, 12, 2, 3, 1497), (.iload_n 1, 1, 0, 1, 0, 0, 0), (.ineg, 1, 0, 0, 0, 0, 0), (.dup2, 1, 0, 0, 0, 0, 0)] (by decide +kernel) (show m_sgl X _ _ _ _ _ = some (7, [some (.ref 304), some (.int v1)], [.int (-v1), .ref 306, .int (-v1), .ref 306], (SH, m.1, m.2)) from rfl) ?_
  obtain ⟨c4, h⟩ := m_ite_n h
  refine m_R_1 (by decide) (m_opb_of (ins := .iaload) (len := 1) (tag := 0) (a := 0) (b := 0) (c := 0) (q := 0) (by decide +kernel)) (m_s_iald sh_306 (by decide) c4) ?_
  refine m_R_sg (by decide) [(.iconst 1, 1, 0, 1, 0, 0, 0), (.iadd, 1, 0, 0, 0, 0, 0)] (by decide +kernel) (show m_sgl X _ _ _ _ _ = some (10, [some (.ref 304), some (.int v1)], [.int ((m.1 306 (-v1).toNatClampNeg) + (1 : Int32)), .int (-v1), .ref 306], (SH, m.1, m.2)) from rfl) ?_
  refine m_R_1 (by decide) (m_opb_of (ins := .iastore) (len := 1) (tag := 0) (a := 0) (b := 0) (c := 0) (q := 0) (by decide +kernel)) (m_s_iast sh_306 c4) ?_
  refine m_R_sg (by decide) [(.iload_n 1, 1, 0, 1, 0, 0, 0)] (by decide +kernel) (show m_sgl X _ _ _ _ _ = some (12, [some (.ref 304), some (.int v1)], [.int v1], (SH, (m_up m.1 306 (-v1).toNatClampNeg ((m.1 306 (-v1).toNatClampNeg) + (1 : Int32))), m.2)) from rfl) ?_
  obtain ⟨rfl, rfl⟩ := m_some h
  exact m_R_iret (by decide) (m_opb_of (ins := .ireturn) (len := 1) (tag := 1) (a := 0) (b := 0) (c := 0) (q := 0) (by decide +kernel)) (Or.inl rfl)
def f_m_in_15 (F : Nat)   (s0 : Int32) (m : mM) : Option (Int32 × mM) := (if s0 = 0 ∨ s0 = 1 then some (s0, m) else none)
theorem ok_m_in_15 (X : mX) (d F : Nat) : ∀ (s0 : Int32) (w0 : Option Value) (w1 : Option Value) (w2 : Option Value) (m : mM) (r : Int32) (m' : mM), f_m_in_15 F s0 m = some (r, m') → m_R X (d + 0) 201 15 [w0, w1, w2] [.int s0] (SH, m) (some (.int r), (SH, m')) := by
  intro s0 w0 w1 w2 m r m' h
  unfold f_m_in_15 at h
  obtain ⟨c0, h⟩ := m_ite_p h
  obtain ⟨rfl, rfl⟩ := m_some h
  exact m_R_iret (by decide) (m_opb_of (ins := .ireturn) (len := 1) (tag := 1) (a := 1) (b := 0) (c := 0) (q := 0) (by decide +kernel)) (Or.inr c0)
def f_m_in_14 (F : Nat)    (m : mM) : Option (Int32 × mM) := f_m_in_15 F (0 : Int32) m
theorem ok_m_in_14 (X : mX) (d F : Nat) : ∀  (w0 : Option Value) (w1 : Option Value) (w2 : Option Value) (m : mM) (r : Int32) (m' : mM), f_m_in_14 F  m = some (r, m') → m_R X (d + 0) 201 14 [w0, w1, w2] [] (SH, m) (some (.int r), (SH, m')) := by
  intro w0 w1 w2 m r m' h
  unfold f_m_in_14 at h
  refine m_R_sg (by decide) [(.iconst 0, 1, 0, 0, 0, 0, 0)] (by decide +kernel) (show m_sgl X _ _ _ _ _ = some (15, [w0, w1, w2], [.int (0 : Int32)], (SH, m.1, m.2)) from rfl) ?_
  exact ok_m_in_15 X d F _ _ _ _ _ _ _ h
def f_m_in (F : Nat)   (v0 : Int32) (v1 : Int32) (v2 : Int32) (m : mM) : Option (Int32 × mM) := (if v0 < v1 then f_m_in_14 F m else (if v2 < v0 then f_m_in_14 F m else f_m_in_15 F (1 : Int32) m))
theorem ok_m_in (X : mX) (d F : Nat) : ∀ (v0 : Int32) (v1 : Int32) (v2 : Int32)  (m : mM) (r : Int32) (m' : mM), f_m_in F v0 v1 v2 m = some (r, m') → m_R X (d + 0) 201 0 [some (.int v0), some (.int v1), some (.int v2)] [] (SH, m) (some (.int r), (SH, m')) := by
  intro v0 v1 v2 m r m' h
  unfold f_m_in at h
  refine m_R_sg (by decide) [(.iload_n 0, 1, 0, 0, 0, 0, 0), (.iload_n 1, 1, 0, 1, 0, 0, 0)] (by decide +kernel) (show m_sgl X _ _ _ _ _ = some (2, [some (.int v0), some (.int v1), some (.int v2)], [.int v1, .int v0], (SH, m.1, m.2)) from rfl) ?_
  rcases m_ite h with ⟨c5, h⟩ | ⟨c5, h⟩
  · refine m_R_1 (by decide) (m_opb_of (ins := .if_icmp .lt 12) (len := 3) (tag := 0) (a := 14) (b := 0) (c := 0) (q := 0) (by decide +kernel)) (if_pos c5) ?_
    exact ok_m_in_14 X d F _ _ _ _ _ _ h
  · refine m_R_1 (by decide) (m_opb_of (ins := .if_icmp .lt 12) (len := 3) (tag := 0) (a := 14) (b := 0) (c := 0) (q := 0) (by decide +kernel)) (if_neg c5) ?_
    refine m_R_sg (by decide) [(.iload_n 0, 1, 0, 0, 0, 0, 0), (.iload_n 2, 1, 0, 2, 0, 0, 0)] (by decide +kernel) (show m_sgl X _ _ _ _ _ = some (7, [some (.int v0), some (.int v1), some (.int v2)], [.int v2, .int v0], (SH, m.1, m.2)) from rfl) ?_
    rcases m_ite h with ⟨c6, h⟩ | ⟨c6, h⟩
    · refine m_R_1 (by decide) (m_opb_of (ins := .if_icmp .gt 7) (len := 3) (tag := 0) (a := 14) (b := 0) (c := 0) (q := 0) (by decide +kernel)) (if_pos c6) ?_
      exact ok_m_in_14 X d F _ _ _ _ _ _ h
    · refine m_R_1 (by decide) (m_opb_of (ins := .if_icmp .gt 7) (len := 3) (tag := 0) (a := 14) (b := 0) (c := 0) (q := 0) (by decide +kernel)) (if_neg c6) ?_
      refine m_R_sg (by decide) [(.iconst 1, 1, 0, 1, 0, 0, 0), (.goto 4, 3, 0, 15, 0, 0, 0)] (by decide +kernel) (show m_sgl X _ _ _ _ _ = some (15, [some (.int v0), some (.int v1), some (.int v2)], [.int (1 : Int32)], (SH, m.1, m.2)) from rfl) ?_
      exact ok_m_in_15 X d F _ _ _ _ _ _ _ h
def f_m_hs (F : Nat)   (v1 : Int32) (v2 : Int32) (m : mM) : Option (Int32 × mM) := (if (((128 : Int32) + ((12 : Int32) * v1)) + v2) < 0 ∨ 9732 ≤ (((128 : Int32) + ((12 : Int32) * v1)) + v2).toNatClampNeg then none else some ((m.1 305 (((128 : Int32) + ((12 : Int32) * v1)) + v2).toNatClampNeg), m))
theorem ok_m_hs (X : mX) (d F : Nat) : ∀ (v1 : Int32) (v2 : Int32)  (m : mM) (r : Int32) (m' : mM), f_m_hs F v1 v2 m = some (r, m') → m_R X (d + 0) 212 0 [some (.ref 304), some (.int v1), some (.int v2)] [] (SH, m) (some (.int r), (SH, m')) := by
  intro v1 v2 m r m' h
  unfold f_m_hs at h
  refine m_R_sg (by decide) [(.aload_n 0, 1, 0, 0, 0, 0, 0), (.getfield 13, 3, 0, 12, 1, 3, 1496), (.sipush 128, 3, 0, 128, 0, 0, 0), (.bipush 12, 2, 0, 12, 0, 0, 0), (.iload_n 1, 1, 0, 1, 0, 0, 0), (.imul, 1, 0, 0, 0, 0, 0), (.iadd, 1, 0, 0, 0, 0, 0), (.iload_n 2, 1, 0, 2, 0, 0, 0), (.iadd, 1, 0, 0, 0, 0, 0)] (by decide +kernel) (show m_sgl X _ _ _ _ _ = some (14, [some (.ref 304), some (.int v1), some (.int v2)], [.int (((128 : Int32) + ((12 : Int32) * v1)) + v2), .ref 305], (SH, m.1, m.2)) from rfl) ?_
  obtain ⟨c7, h⟩ := m_ite_n h
  refine m_R_1 (by decide) (m_opb_of (ins := .iaload) (len := 1) (tag := 0) (a := 0) (b := 0) (c := 0) (q := 0) (by decide +kernel)) (m_s_iald sh_305 (by decide) c7) ?_
  obtain ⟨rfl, rfl⟩ := m_some h
  exact m_R_iret (by decide) (m_opb_of (ins := .ireturn) (len := 1) (tag := 1) (a := 0) (b := 0) (c := 0) (q := 0) (by decide +kernel)) (Or.inl rfl)
def f_m_stateOf (F : Nat)   (v1 : Int32) (m : mM) : Option (Int32 × mM) := (if ((320 : Int32) + ((3 : Int32) * v1)) < 0 ∨ 9732 ≤ ((320 : Int32) + ((3 : Int32) * v1)).toNatClampNeg then none else some ((m.1 305 ((320 : Int32) + ((3 : Int32) * v1)).toNatClampNeg), m))
theorem ok_m_stateOf (X : mX) (d F : Nat) : ∀ (v1 : Int32)  (m : mM) (r : Int32) (m' : mM), f_m_stateOf F v1 m = some (r, m') → m_R X (d + 0) 224 0 [some (.ref 304), some (.int v1)] [] (SH, m) (some (.int r), (SH, m')) := by
  intro v1 m r m' h
  unfold f_m_stateOf at h
  refine m_R_sg (by decide) [(.aload_n 0, 1, 0, 0, 0, 0, 0), (.getfield 13, 3, 0, 12, 1, 3, 1496), (.sipush 320, 3, 0, 320, 0, 0, 0), (.iconst 3, 1, 0, 3, 0, 0, 0), (.iload_n 1, 1, 0, 1, 0, 0, 0), (.imul, 1, 0, 0, 0, 0, 0), (.iadd, 1, 0, 0, 0, 0, 0)] (by decide +kernel) (show m_sgl X _ _ _ _ _ = some (11, [some (.ref 304), some (.int v1)], [.int ((320 : Int32) + ((3 : Int32) * v1)), .ref 305], (SH, m.1, m.2)) from rfl) ?_
  obtain ⟨c8, h⟩ := m_ite_n h
  refine m_R_1 (by decide) (m_opb_of (ins := .iaload) (len := 1) (tag := 0) (a := 0) (b := 0) (c := 0) (q := 0) (by decide +kernel)) (m_s_iald sh_305 (by decide) c8) ?_
  obtain ⟨rfl, rfl⟩ := m_some h
  exact m_R_iret (by decide) (m_opb_of (ins := .ireturn) (len := 1) (tag := 1) (a := 0) (b := 0) (c := 0) (q := 0) (by decide +kernel)) (Or.inl rfl)
def f_m_many_26 (F : Nat)  (k4 : Int32 → Int32 → Int32 → mM → Option (Int32 × mM)) (v1 : Int32) (v3 : Int32) (s0 : Int32) (s1 : Int32) (m : mM) : Option (Int32 × mM) := k4 v1 (s0 + s1) (v3 + (1 : Int32)) m
theorem ok_m_many_26 (X : mX) (d F : Nat) (k4 : Int32 → Int32 → Int32 → mM → Option (Int32 × mM)) (hk4 : ∀ (v1 : Int32) (v2 : Int32) (v3 : Int32) (m : mM) (r : Int32) (m' : mM), k4 v1 v2 v3 m = some (r, m') → m_R X (d + 1) 223 4 [some (.ref 304), some (.int v1), some (.int v2), some (.int v3)] [] (SH, m) (some (.int r), (SH, m'))) : ∀ (v1 : Int32) (v3 : Int32) (s0 : Int32) (s1 : Int32) (w2 : Option Value) (m : mM) (r : Int32) (m' : mM), f_m_many_26 F k4 v1 v3 s0 s1 m = some (r, m') → m_R X (d + 1) 223 26 [some (.ref 304), some (.int v1), w2, some (.int v3)] [.int s1, .int s0] (SH, m) (some (.int r), (SH, m')) := by
  intro v1 v3 s0 s1 w2 m r m' h
  unfold f_m_many_26 at h
  refine m_R_sg (by decide) [(.iadd, 1, 0, 0, 0, 0, 0), (.istore_n 2, 1, 0, 2, 0, 0, 0), (.iinc 3 1, 3, 0, 3, 1, 0, 0), (.goto (-27), 3, 0, 4, 0, 0, 0)] (by decide +kernel) (show m_sgl X _ _ _ _ _ = some (4, [some (.ref 304), some (.int v1), some (.int (s0 + s1)), some (.int (v3 + (1 : Int32)))], [], (SH, m.1, m.2)) from rfl) ?_
  exact hk4 _ _ _ _ _ _ h
def f_m_many_4 (F : Nat)   : Nat → Int32 → Int32 → Int32 → mM → Option (Int32 × mM)
  | 0, _, _, _, _ => none
  | n + 1, v1, v2, v3, m => (if (300 : Int32) ≤ v3 then some (v2, m) else ((f_m_stateOf F v3 m).bind fun q1 => (if q1.1 = v1 then f_m_many_26 F (f_m_many_4 F n) v1 v3 v2 (1 : Int32) q1.2 else f_m_many_26 F (f_m_many_4 F n) v1 v3 v2 (0 : Int32) q1.2)))
theorem ok_m_many_4 (X : mX) (d F : Nat) : ∀ (n : Nat) (v1 : Int32) (v2 : Int32) (v3 : Int32)  (m : mM) (r : Int32) (m' : mM), f_m_many_4 F n v1 v2 v3 m = some (r, m') → m_R X (d + 1) 223 4 [some (.ref 304), some (.int v1), some (.int v2), some (.int v3)] [] (SH, m) (some (.int r), (SH, m')) := by
  intro n
  induction n with
  | zero => intro v1 v2 v3 m r m' h; cases h
  | succ n ih =>
    intro v1 v2 v3 m r m' h
    simp only [f_m_many_4] at h
    refine m_R_sg (by decide) [(.iload_n 3, 1, 0, 3, 0, 0, 0), (.sipush 300, 3, 0, 300, 0, 0, 0)] (by decide +kernel) (show m_sgl X _ _ _ _ _ = some (8, [some (.ref 304), some (.int v1), some (.int v2), some (.int v3)], [.int (300 : Int32), .int v3], (SH, m.1, m.2)) from rfl) ?_
    rcases m_ite h with ⟨c9, h⟩ | ⟨c9, h⟩
    · refine m_R_1 (by decide) (m_opb_of (ins := .if_icmp .ge 26) (len := 3) (tag := 0) (a := 34) (b := 0) (c := 0) (q := 0) (by decide +kernel)) (if_pos c9) ?_
      refine m_R_sg (by decide) [(.iload_n 2, 1, 0, 2, 0, 0, 0)] (by decide +kernel) (show m_sgl X _ _ _ _ _ = some (35, [some (.ref 304), some (.int v1), some (.int v2), some (.int v3)], [.int v2], (SH, m.1, m.2)) from rfl) ?_
      obtain ⟨rfl, rfl⟩ := m_some h
      exact m_R_iret (by decide) (m_opb_of (ins := .ireturn) (len := 1) (tag := 1) (a := 0) (b := 0) (c := 0) (q := 0) (by decide +kernel)) (Or.inl rfl)
    · refine m_R_1 (by decide) (m_opb_of (ins := .if_icmp .ge 26) (len := 3) (tag := 0) (a := 34) (b := 0) (c := 0) (q := 0) (by decide +kernel)) (if_neg c9) ?_
      refine m_R_sg (by decide) [(.iload_n 2, 1, 0, 2, 0, 0, 0), (.aload_n 0, 1, 0, 0, 0, 0, 0), (.iload_n 3, 1, 0, 3, 0, 0, 0)] (by decide +kernel) (show m_sgl X _ _ _ _ _ = some (14, [some (.ref 304), some (.int v1), some (.int v2), some (.int v3)], [.int v3, .ref 304, .int v2], (SH, m.1, m.2)) from rfl) ?_
      obtain ⟨q1, hc1, h⟩ := Option.bind_eq_some_iff.mp h
      refine m_R_cV (v := (some (.int q1.1))) (h1 := (SH, q1.2)) (rest := [.int v2]) (lo' := [some (.ref 304), some (.int v3)]) (ml := 2) (k0 := 304) (by decide) (Or.inl rfl) (m_opb_of (ins := .invokevirtual 99) (len := 3) (tag := 5) (a := 224) (b := 1) (c := 0) (q := 1684) (by decide +kernel)) (by decide +kernel) rfl (show m_isO 224 304 (SH, _) = true from m_isO_of (by decide +kernel)) (Nat.le_of_ble_eq_true rfl) rfl rfl (ok_m_stateOf X (d + 0) F _ _ _ _ hc1) ?_
      refine m_R_sg (by decide) [(.iload_n 1, 1, 0, 1, 0, 0, 0)] (by decide +kernel) (show m_sgl X _ _ _ _ _ = some (18, [some (.ref 304), some (.int v1), some (.int v2), some (.int v3)], [.int v1, .int q1.1, .int v2], (SH, q1.2.1, q1.2.2)) from rfl) ?_
      rcases m_ite h with ⟨c10, h⟩ | ⟨c10, h⟩
      · refine m_R_1 (by decide) (m_opb_of (ins := .if_icmp .ne 7) (len := 3) (tag := 0) (a := 25) (b := 0) (c := 0) (q := 0) (by decide +kernel)) (if_pos c10) ?_
        refine m_R_sg (by decide) [(.iconst 1, 1, 0, 1, 0, 0, 0), (.goto 4, 3, 0, 26, 0, 0, 0)] (by decide +kernel) (show m_sgl X _ _ _ _ _ = some (26, [some (.ref 304), some (.int v1), some (.int v2), some (.int v3)], [.int (1 : Int32), .int v2], (SH, q1.2.1, q1.2.2)) from rfl) ?_
        exact ok_m_many_26 X d F _ (fun a0 a1 a2 m r m' h => ih a0 a1 a2 m r m' h) _ _ _ _ _ _ _ _ h
      · refine m_R_1 (by decide) (m_opb_of (ins := .if_icmp .ne 7) (len := 3) (tag := 0) (a := 25) (b := 0) (c := 0) (q := 0) (by decide +kernel)) (if_neg c10) ?_
        refine m_R_sg (by decide) [(.iconst 0, 1, 0, 0, 0, 0, 0)] (by decide +kernel) (show m_sgl X _ _ _ _ _ = some (26, [some (.ref 304), some (.int v1), some (.int v2), some (.int v3)], [.int (0 : Int32), .int v2], (SH, q1.2.1, q1.2.2)) from rfl) ?_
        exact ok_m_many_26 X d F _ (fun a0 a1 a2 m r m' h => ih a0 a1 a2 m r m' h) _ _ _ _ _ _ _ _ h
def f_m_many (F : Nat)   (v1 : Int32) (m : mM) : Option (Int32 × mM) := f_m_many_4 F F v1 (0 : Int32) (0 : Int32) m
theorem ok_m_many (X : mX) (d F : Nat) : ∀ (v1 : Int32)  (m : mM) (r : Int32) (m' : mM), f_m_many F v1 m = some (r, m') → m_R X (d + 1) 223 0 [some (.ref 304), some (.int v1), none, none] [] (SH, m) (some (.int r), (SH, m')) := by
  intro v1 m r m' h
  unfold f_m_many at h
  refine m_R_sg (by decide) [(.iconst 0, 1, 0, 0, 0, 0, 0), (.istore_n 2, 1, 0, 2, 0, 0, 0), (.iconst 0, 1, 0, 0, 0, 0, 0), (.istore_n 3, 1, 0, 3, 0, 0, 0)] (by decide +kernel) (show m_sgl X _ _ _ _ _ = some (4, [some (.ref 304), some (.int v1), some (.int (0 : Int32)), some (.int (0 : Int32))], [], (SH, m.1, m.2)) from rfl) ?_
  exact ok_m_many_4 X d F F _ _ _ _ _ _ h
def f_m_byteAt_18 (F : Nat)   (s0 : Int32) (m : mM) : Option (Int32 × mM) := some (s0, m)
theorem ok_m_byteAt_18 (X : mX) (d F : Nat) : ∀ (s0 : Int32) (w0 : Option Value) (w1 : Option Value) (m : mM) (r : Int32) (m' : mM), f_m_byteAt_18 F s0 m = some (r, m') → m_R X (d + 0) 231 18 [w0, w1] [.int s0] (SH, m) (some (.int r), (SH, m')) := by
  intro s0 w0 w1 m r m' h
  unfold f_m_byteAt_18 at h
  obtain ⟨rfl, rfl⟩ := m_some h
  exact m_R_iret (by decide) (m_opb_of (ins := .ireturn) (len := 1) (tag := 1) (a := 0) (b := 0) (c := 0) (q := 0) (by decide +kernel)) (Or.inl rfl)
def f_m_byteAt (F : Nat)   (v1 : Int32) (m : mM) : Option (Int32 × mM) := (if (m.1 304 11) ≤ v1 then f_m_byteAt_18 F (-1 : Int32) m else (if v1 < 0 ∨ 120 ≤ v1.toNatClampNeg then none else f_m_byteAt_18 F (m.1 312 v1.toNatClampNeg) m))
theorem ok_m_byteAt (X : mX) (d F : Nat) : ∀ (v1 : Int32)  (m : mM) (r : Int32) (m' : mM), f_m_byteAt F v1 m = some (r, m') → m_R X (d + 0) 231 0 [some (.ref 304), some (.int v1)] [] (SH, m) (some (.int r), (SH, m')) := by
  intro v1 m r m' h
  unfold f_m_byteAt at h
  refine m_R_sg (by decide) [(.iload_n 1, 1, 0, 1, 0, 0, 0), (.aload_n 0, 1, 0, 0, 0, 0, 0), (.getfield 227, 3, 0, 12, 11, 0, 1506)] (by decide +kernel) (show m_sgl X _ _ _ _ _ = some (5, [some (.ref 304), some (.int v1)], [.int (m.1 304 11), .int v1], (SH, m.1, m.2)) from rfl) ?_
  rcases m_ite h with ⟨c11, h⟩ | ⟨c11, h⟩
  · refine m_R_1 (by decide) (m_opb_of (ins := .if_icmp .ge 12) (len := 3) (tag := 0) (a := 17) (b := 0) (c := 0) (q := 0) (by decide +kernel)) (if_pos c11) ?_
    refine m_R_sg (by decide) [(.iconst (-1), 1, 0, 1, 1, 0, 0)] (by decide +kernel) (show m_sgl X _ _ _ _ _ = some (18, [some (.ref 304), some (.int v1)], [.int (-1 : Int32)], (SH, m.1, m.2)) from rfl) ?_
    exact ok_m_byteAt_18 X d F _ _ _ _ _ _ h
  · refine m_R_1 (by decide) (m_opb_of (ins := .if_icmp .ge 12) (len := 3) (tag := 0) (a := 17) (b := 0) (c := 0) (q := 0) (by decide +kernel)) (if_neg c11) ?_
    refine m_R_sg (by decide) [(.aload_n 0, 1, 0, 0, 0, 0, 0), (.getfield 36, 3, 0, 12, 10, 3, 1505), (.iload_n 1, 1, 0, 1, 0, 0, 0)] (by decide +kernel) (show m_sgl X _ _ _ _ _ = some (13, [some (.ref 304), some (.int v1)], [.int v1, .ref 312], (SH, m.1, m.2)) from rfl) ?_
    obtain ⟨c12, h⟩ := m_ite_n h
    refine m_R_1 (by decide) (m_opb_of (ins := .iaload) (len := 1) (tag := 0) (a := 0) (b := 0) (c := 0) (q := 0) (by decide +kernel)) (m_s_iald sh_312 (by decide) c12) ?_
    refine m_R_sg (by decide) [(.goto 4, 3, 0, 18, 0, 0, 0)] (by decide +kernel) (show m_sgl X _ _ _ _ _ = some (18, [some (.ref 304), some (.int v1)], [.int (m.1 312 v1.toNatClampNeg)], (SH, m.1, m.2)) from rfl) ?_
    exact ok_m_byteAt_18 X d F _ _ _ _ _ _ h
def f_m_next_144 (F : Nat)  (k91 : Int32 → mM → Option (Unit × mM)) (v2 : Int32) (s1 : Int64) (m : mM) : Option (Unit × mM) := k91 (v2 + (1 : Int32)) ((m_up m.1 304 15 ((m.1 304 15) + (1 : Int32))), (m_upl m.2 304 s1))
theorem ok_m_next_144 (X : mX) (d F : Nat) (k91 : Int32 → mM → Option (Unit × mM)) (hk91 : ∀ (v2 : Int32) (w1 : Option Value) (m : mM) (r : Unit) (m' : mM), k91 v2 m = some (r, m') → m_R X (d + 1) 230 91 [some (.ref 304), w1, some (.int v2)] [] (SH, m) (none, (SH, m'))) : ∀ (v2 : Int32) (s1 : Int64) (w1 : Option Value) (m : mM) (r : Unit) (m' : mM), f_m_next_144 F k91 v2 s1 m = some (r, m') → m_R X (d + 1) 230 144 [some (.ref 304), w1, some (.int v2)] [.long s1, .ref 304] (SH, m) (none, (SH, m')) := by
  intro v2 s1 w1 m r m' h
  unfold f_m_next_144 at h
  refine m_R_sg (by decide) [(.putfield 242, 3, 0, 12, 14, 2, 1509), (.iinc 2 1, 3, 0, 2, 1, 0, 0), (.aload_n 0, 1, 0, 0, 0, 0, 0), (.dup, 1, 0, 0, 0, 0, 0), (.getfield 230, 3, 0, 12, 15, 0, 1510), (.iconst 1, 1, 0, 1, 0, 0, 0), (.iadd, 1, 0, 0, 0, 0, 0), (.putfield 230, 3, 0, 12, 15, 0, 1510), (.goto (-69), 3, 0, 91, 0, 0, 0)] (by decide +kernel) (show m_sgl X _ _ _ _ _ = some (91, [some (.ref 304), w1, some (.int (v2 + (1 : Int32)))], [], (SH, (m_up m.1 304 15 ((m.1 304 15) + (1 : Int32))), (m_upl m.2 304 s1))) from rfl) ?_
  exact hk91 _ _ _ _ _ h
def f_m_next_359 (F : Nat)    (m : mM) : Option (Unit × mM) := some ((), m)
theorem ok_m_next_359 (X : mX) (d F : Nat) : ∀  (w0 : Option Value) (w1 : Option Value) (w2 : Option Value) (m : mM) (r : Unit) (m' : mM), f_m_next_359 F  m = some (r, m') → m_R X (d + 1) 230 359 [w0, w1, w2] [] (SH, m) (none, (SH, m')) := by
  intro w0 w1 w2 m r m' h
  unfold f_m_next_359 at h
  obtain ⟨rfl, rfl⟩ := m_some h
  exact m_R_vret (by decide) (m_opb_of (ins := .return_) (len := 1) (tag := 3) (a := 0) (b := 0) (c := 0) (q := 0) (by decide +kernel))
def f_m_next_91 (F : Nat)   : Nat → Int32 → mM → Option (Unit × mM)
  | 0, _, _ => none
  | n + 1, v2, m => ((f_m_byteAt F (m.1 304 15) m).bind fun q5 => ((f_m_in F q5.1 (97 : Int32) (122 : Int32) q5.2).bind fun q6 => (if q6.1 = 0 then f_m_next_359 F q6.2 else (if (7 : Int32) ≤ v2 then f_m_next_144 F (f_m_next_91 F n) v2 (-1 : Int64) q6.2 else ((f_m_byteAt F (q6.2.1 304 15) q6.2).bind fun q7 => f_m_next_144 F (f_m_next_91 F n) v2 ((((27 : Int64) * (q6.2.2 304)) + q7.1.toInt64) - (96 : Int64)) q7.2)))))
theorem ok_m_next_91 (X : mX) (d F : Nat) : ∀ (n : Nat) (v2 : Int32) (w1 : Option Value) (m : mM) (r : Unit) (m' : mM), f_m_next_91 F n v2 m = some (r, m') → m_R X (d + 1) 230 91 [some (.ref 304), w1, some (.int v2)] [] (SH, m) (none, (SH, m')) := by
  intro n
  induction n with
  | zero => intro v2 w1 m r m' h; cases h
  | succ n ih =>
    intro v2 w1 m r m' h
    simp only [f_m_next_91] at h
    refine m_R_sg (by decide) [(.aload_n 0, 1, 0, 0, 0, 0, 0), (.aload_n 0, 1, 0, 0, 0, 0, 0), (.getfield 230, 3, 0, 12, 15, 0, 1510)] (by decide +kernel) (show m_sgl X _ _ _ _ _ = some (96, [some (.ref 304), w1, some (.int v2)], [.int (m.1 304 15), .ref 304], (SH, m.1, m.2)) from rfl) ?_
    obtain ⟨q5, hc5, h⟩ := Option.bind_eq_some_iff.mp h
    refine m_R_cV (v := (some (.int q5.1))) (h1 := (SH, q5.2)) (rest := []) (lo' := [some (.ref 304), some (.int (m.1 304 15))]) (ml := 2) (k0 := 304) (by decide) (Or.inl rfl) (m_opb_of (ins := .invokevirtual 233) (len := 3) (tag := 5) (a := 231) (b := 1) (c := 0) (q := 1712) (by decide +kernel)) (by decide +kernel) rfl (show m_isO 231 304 (SH, _) = true from m_isO_of (by decide +kernel)) (Nat.le_of_ble_eq_true rfl) rfl rfl (ok_m_byteAt X (d + 0) F _ _ _ _ hc5) ?_
    refine m_R_sg (by decide) [(.bipush 97, 2, 0, 97, 0, 0, 0), (.bipush 122, 2, 0, 122, 0, 0, 0)] (by decide +kernel) (show m_sgl X _ _ _ _ _ = some (103, [some (.ref 304), w1, some (.int v2)], [.int (122 : Int32), .int (97 : Int32), .int q5.1], (SH, q5.2.1, q5.2.2)) from rfl) ?_
    obtain ⟨q6, hc6, h⟩ := Option.bind_eq_some_iff.mp h
    refine m_R_cS (v := (some (.int q6.1))) (h1 := (SH, q6.2)) (rest := []) (lo' := [some (.int q5.1), some (.int (97 : Int32)), some (.int (122 : Int32))]) (ml := 3) (by decide) (m_opb_of (ins := .invokestatic 57) (len := 3) (tag := 4) (a := 201) (b := 3) (c := 0) (q := 1593) (by decide +kernel)) (by decide +kernel) (Nat.le_of_ble_eq_true rfl) rfl (Nat.le_of_ble_eq_true rfl) rfl rfl (ok_m_in X (d + 0) F _ _ _ _ _ _ hc6) ?_
    rcases m_ite h with ⟨c13, h⟩ | ⟨c13, h⟩
    · refine m_R_1 (by decide) (m_opb_of (ins := .ifCond .eq 57) (len := 3) (tag := 0) (a := 163) (b := 0) (c := 0) (q := 0) (by decide +kernel)) (if_pos c13) ?_
      refine m_R_sg (by decide) [(.goto 196, 3, 0, 359, 0, 0, 0)] (by decide +kernel) (show m_sgl X _ _ _ _ _ = some (359, [some (.ref 304), w1, some (.int v2)], [], (SH, q6.2.1, q6.2.2)) from rfl) ?_
      exact ok_m_next_359 X d F _ _ _ _ _ _ h
    · refine m_R_1 (by decide) (m_opb_of (ins := .ifCond .eq 57) (len := 3) (tag := 0) (a := 163) (b := 0) (c := 0) (q := 0) (by decide +kernel)) (if_neg c13) ?_
      refine m_R_sg (by decide) [(.aload_n 0, 1, 0, 0, 0, 0, 0), (.iload_n 2, 1, 0, 2, 0, 0, 0), (.bipush 7, 2, 0, 7, 0, 0, 0)] (by decide +kernel) (show m_sgl X _ _ _ _ _ = some (113, [some (.ref 304), w1, some (.int v2)], [.int (7 : Int32), .int v2, .ref 304], (SH, q6.2.1, q6.2.2)) from rfl) ?_
      rcases m_ite h with ⟨c14, h⟩ | ⟨c14, h⟩
      · refine m_R_1 (by decide) (m_opb_of (ins := .if_icmp .ge 28) (len := 3) (tag := 0) (a := 141) (b := 0) (c := 0) (q := 0) (by decide +kernel)) (if_pos c14) ?_
        refine m_R_sg (by decide) [(.ldc2_w 250, 3, 0, 1, 1, 0, 1718)] (by decide +kernel) (show m_sgl X _ _ _ _ _ = some (144, [some (.ref 304), w1, some (.int v2)], [.long (-1 : Int64), .ref 304], (SH, q6.2.1, q6.2.2)) from rfl) ?_
        exact ok_m_next_144 X d F _ (fun a0 a1 m r m' h => ih a0 a1 m r m' h) _ _ _ _ _ _ h
      · refine m_R_1 (by decide) (m_opb_of (ins := .if_icmp .ge 28) (len := 3) (tag := 0) (a := 141) (b := 0) (c := 0) (q := 0) (by decide +kernel)) (if_neg c14) ?_
        refine m_R_sg (by decide) [(.ldc2_w 246, 3, 0, 27, 0, 0, 1716), (.aload_n 0, 1, 0, 0, 0, 0, 0), (.getfield 242, 3, 0, 12, 14, 2, 1509), (.lmul, 1, 0, 0, 0, 0, 0), (.aload_n 0, 1, 0, 0, 0, 0, 0), (.aload_n 0, 1, 0, 0, 0, 0, 0), (.getfield 230, 3, 0, 12, 15, 0, 1510)] (by decide +kernel) (show m_sgl X _ _ _ _ _ = some (129, [some (.ref 304), w1, some (.int v2)], [.int (q6.2.1 304 15), .ref 304, .long ((27 : Int64) * (q6.2.2 304)), .ref 304], (SH, q6.2.1, q6.2.2)) from rfl) ?_
        obtain ⟨q7, hc7, h⟩ := Option.bind_eq_some_iff.mp h
        refine m_R_cV (v := (some (.int q7.1))) (h1 := (SH, q7.2)) (rest := [.long ((27 : Int64) * (q6.2.2 304)), .ref 304]) (lo' := [some (.ref 304), some (.int (q6.2.1 304 15))]) (ml := 2) (k0 := 304) (by decide) (Or.inl rfl) (m_opb_of (ins := .invokevirtual 233) (len := 3) (tag := 5) (a := 231) (b := 1) (c := 0) (q := 1712) (by decide +kernel)) (by decide +kernel) rfl (show m_isO 231 304 (SH, _) = true from m_isO_of (by decide +kernel)) (Nat.le_of_ble_eq_true rfl) rfl rfl (ok_m_byteAt X (d + 0) F _ _ _ _ hc7) ?_
        refine m_R_sg (by decide) [(.i2l, 1, 0, 0, 0, 0, 0), (.ladd, 1, 0, 0, 0, 0, 0), (.ldc2_w 248, 3, 0, 96, 0, 0, 1717), (.lsub, 1, 0, 0, 0, 0, 0), (.goto 6, 3, 0, 144, 0, 0, 0)] (by decide +kernel) (show m_sgl X _ _ _ _ _ = some (144, [some (.ref 304), w1, some (.int v2)], [.long ((((27 : Int64) * (q6.2.2 304)) + q7.1.toInt64) - (96 : Int64)), .ref 304], (SH, q7.2.1, q7.2.2)) from rfl) ?_
        exact ok_m_next_144 X d F _ (fun a0 a1 m r m' h => ih a0 a1 m r m' h) _ _ _ _ _ _ h
def f_m_next_242 (F : Nat)  (k189 : Int32 → mM → Option (Unit × mM)) (v2 : Int32) (s1 : Int64) (m : mM) : Option (Unit × mM) := k189 (v2 + (1 : Int32)) ((m_up m.1 304 15 ((m.1 304 15) + (1 : Int32))), (m_upl m.2 304 s1))
theorem ok_m_next_242 (X : mX) (d F : Nat) (k189 : Int32 → mM → Option (Unit × mM)) (hk189 : ∀ (v2 : Int32) (w1 : Option Value) (m : mM) (r : Unit) (m' : mM), k189 v2 m = some (r, m') → m_R X (d + 1) 230 189 [some (.ref 304), w1, some (.int v2)] [] (SH, m) (none, (SH, m'))) : ∀ (v2 : Int32) (s1 : Int64) (w1 : Option Value) (m : mM) (r : Unit) (m' : mM), f_m_next_242 F k189 v2 s1 m = some (r, m') → m_R X (d + 1) 230 242 [some (.ref 304), w1, some (.int v2)] [.long s1, .ref 304] (SH, m) (none, (SH, m')) := by
  intro v2 s1 w1 m r m' h
  unfold f_m_next_242 at h
  refine m_R_sg (by decide) [(.putfield 242, 3, 0, 12, 14, 2, 1509), (.iinc 2 1, 3, 0, 2, 1, 0, 0), (.aload_n 0, 1, 0, 0, 0, 0, 0), (.dup, 1, 0, 0, 0, 0, 0), (.getfield 230, 3, 0, 12, 15, 0, 1510), (.iconst 1, 1, 0, 1, 0, 0, 0), (.iadd, 1, 0, 0, 0, 0, 0), (.putfield 230, 3, 0, 12, 15, 0, 1510), (.goto (-69), 3, 0, 189, 0, 0, 0)] (by decide +kernel) (show m_sgl X _ _ _ _ _ = some (189, [some (.ref 304), w1, some (.int (v2 + (1 : Int32)))], [], (SH, (m_up m.1 304 15 ((m.1 304 15) + (1 : Int32))), (m_upl m.2 304 s1))) from rfl) ?_
  exact hk189 _ _ _ _ _ h
def f_m_next_272 (F : Nat)   (s1 : Int32) (m : mM) : Option (Unit × mM) := f_m_next_359 F ((m_up m.1 304 12 s1), m.2)
theorem ok_m_next_272 (X : mX) (d F : Nat) : ∀ (s1 : Int32) (w0 : Option Value) (w1 : Option Value) (w2 : Option Value) (m : mM) (r : Unit) (m' : mM), f_m_next_272 F s1 m = some (r, m') → m_R X (d + 1) 230 272 [w0, w1, w2] [.int s1, .ref 304] (SH, m) (none, (SH, m')) := by
  intro s1 w0 w1 w2 m r m' h
  unfold f_m_next_272 at h
  refine m_R_sg (by decide) [(.putfield 239, 3, 0, 12, 12, 0, 1507), (.goto 84, 3, 0, 359, 0, 0, 0)] (by decide +kernel) (show m_sgl X _ _ _ _ _ = some (359, [w0, w1, w2], [], (SH, (m_up m.1 304 12 s1), m.2)) from rfl) ?_
  exact ok_m_next_359 X d F _ _ _ _ _ _ h
def f_m_next_189 (F : Nat)   : Nat → Int32 → mM → Option (Unit × mM)
  | 0, _, _ => none
  | n + 1, v2, m => ((f_m_byteAt F (m.1 304 15) m).bind fun q8 => ((f_m_in F q8.1 (48 : Int32) (57 : Int32) q8.2).bind fun q9 => (if q9.1 = 0 then (if v2 ≤ (5 : Int32) then f_m_next_272 F (2 : Int32) q9.2 else f_m_next_272 F (4 : Int32) q9.2) else (if (5 : Int32) ≤ v2 then f_m_next_242 F (f_m_next_189 F n) v2 (q9.2.2 304) q9.2 else ((f_m_byteAt F (q9.2.1 304 15) q9.2).bind fun q10 => f_m_next_242 F (f_m_next_189 F n) v2 ((((10 : Int64) * (q9.2.2 304)) + q10.1.toInt64) - (48 : Int64)) q10.2)))))
theorem ok_m_next_189 (X : mX) (d F : Nat) : ∀ (n : Nat) (v2 : Int32) (w1 : Option Value) (m : mM) (r : Unit) (m' : mM), f_m_next_189 F n v2 m = some (r, m') → m_R X (d + 1) 230 189 [some (.ref 304), w1, some (.int v2)] [] (SH, m) (none, (SH, m')) := by
  intro n
  induction n with
  | zero => intro v2 w1 m r m' h; cases h
  | succ n ih =>
    intro v2 w1 m r m' h
    simp only [f_m_next_189] at h
    refine m_R_sg (by decide) [(.aload_n 0, 1, 0, 0, 0, 0, 0), (.aload_n 0, 1, 0, 0, 0, 0, 0), (.getfield 230, 3, 0, 12, 15, 0, 1510)] (by decide +kernel) (show m_sgl X _ _ _ _ _ = some (194, [some (.ref 304), w1, some (.int v2)], [.int (m.1 304 15), .ref 304], (SH, m.1, m.2)) from rfl) ?_
    obtain ⟨q8, hc8, h⟩ := Option.bind_eq_some_iff.mp h
    refine m_R_cV (v := (some (.int q8.1))) (h1 := (SH, q8.2)) (rest := []) (lo' := [some (.ref 304), some (.int (m.1 304 15))]) (ml := 2) (k0 := 304) (by decide) (Or.inl rfl) (m_opb_of (ins := .invokevirtual 233) (len := 3) (tag := 5) (a := 231) (b := 1) (c := 0) (q := 1712) (by decide +kernel)) (by decide +kernel) rfl (show m_isO 231 304 (SH, _) = true from m_isO_of (by decide +kernel)) (Nat.le_of_ble_eq_true rfl) rfl rfl (ok_m_byteAt X (d + 0) F _ _ _ _ hc8) ?_
    refine m_R_sg (by decide) [(.bipush 48, 2, 0, 48, 0, 0, 0), (.bipush 57, 2, 0, 57, 0, 0, 0)] (by decide +kernel) (show m_sgl X _ _ _ _ _ = some (201, [some (.ref 304), w1, some (.int v2)], [.int (57 : Int32), .int (48 : Int32), .int q8.1], (SH, q8.2.1, q8.2.2)) from rfl) ?_
    obtain ⟨q9, hc9, h⟩ := Option.bind_eq_some_iff.mp h
    refine m_R_cS (v := (some (.int q9.1))) (h1 := (SH, q9.2)) (rest := []) (lo' := [some (.int q8.1), some (.int (48 : Int32)), some (.int (57 : Int32))]) (ml := 3) (by decide) (m_opb_of (ins := .invokestatic 57) (len := 3) (tag := 4) (a := 201) (b := 3) (c := 0) (q := 1593) (by decide +kernel)) (by decide +kernel) (Nat.le_of_ble_eq_true rfl) rfl (Nat.le_of_ble_eq_true rfl) rfl rfl (ok_m_in X (d + 0) F _ _ _ _ _ _ hc9) ?_
    rcases m_ite h with ⟨c15, h⟩ | ⟨c15, h⟩
    · refine m_R_1 (by decide) (m_opb_of (ins := .ifCond .eq 57) (len := 3) (tag := 0) (a := 261) (b := 0) (c := 0) (q := 0) (by decide +kernel)) (if_pos c15) ?_
      refine m_R_sg (by decide) [(.aload_n 0, 1, 0, 0, 0, 0, 0), (.iload_n 2, 1, 0, 2, 0, 0, 0), (.iconst 5, 1, 0, 5, 0, 0, 0)] (by decide +kernel) (show m_sgl X _ _ _ _ _ = some (264, [some (.ref 304), w1, some (.int v2)], [.int (5 : Int32), .int v2, .ref 304], (SH, q9.2.1, q9.2.2)) from rfl) ?_
      rcases m_ite h with ⟨c16, h⟩ | ⟨c16, h⟩
      · refine m_R_1 (by decide) (m_opb_of (ins := .if_icmp .le 7) (len := 3) (tag := 0) (a := 271) (b := 0) (c := 0) (q := 0) (by decide +kernel)) (if_pos c16) ?_
        refine m_R_sg (by decide) [(.iconst 2, 1, 0, 2, 0, 0, 0)] (by decide +kernel) (show m_sgl X _ _ _ _ _ = some (272, [some (.ref 304), w1, some (.int v2)], [.int (2 : Int32), .ref 304], (SH, q9.2.1, q9.2.2)) from rfl) ?_
        exact ok_m_next_272 X d F _ _ _ _ _ _ _ h
      · refine m_R_1 (by decide) (m_opb_of (ins := .if_icmp .le 7) (len := 3) (tag := 0) (a := 271) (b := 0) (c := 0) (q := 0) (by decide +kernel)) (if_neg c16) ?_
        refine m_R_sg (by decide) [(.iconst 4, 1, 0, 4, 0, 0, 0), (.goto 4, 3, 0, 272, 0, 0, 0)] (by decide +kernel) (show m_sgl X _ _ _ _ _ = some (272, [some (.ref 304), w1, some (.int v2)], [.int (4 : Int32), .ref 304], (SH, q9.2.1, q9.2.2)) from rfl) ?_
        exact ok_m_next_272 X d F _ _ _ _ _ _ _ h
    · refine m_R_1 (by decide) (m_opb_of (ins := .ifCond .eq 57) (len := 3) (tag := 0) (a := 261) (b := 0) (c := 0) (q := 0) (by decide +kernel)) (if_neg c15) ?_
      refine m_R_sg (by decide) [(.aload_n 0, 1, 0, 0, 0, 0, 0), (.iload_n 2, 1, 0, 2, 0, 0, 0), (.iconst 5, 1, 0, 5, 0, 0, 0)] (by decide +kernel) (show m_sgl X _ _ _ _ _ = some (210, [some (.ref 304), w1, some (.int v2)], [.int (5 : Int32), .int v2, .ref 304], (SH, q9.2.1, q9.2.2)) from rfl) ?_
      rcases m_ite h with ⟨c17, h⟩ | ⟨c17, h⟩
      · refine m_R_1 (by decide) (m_opb_of (ins := .if_icmp .ge 28) (len := 3) (tag := 0) (a := 238) (b := 0) (c := 0) (q := 0) (by decide +kernel)) (if_pos c17) ?_
        refine m_R_sg (by decide) [(.aload_n 0, 1, 0, 0, 0, 0, 0), (.getfield 242, 3, 0, 12, 14, 2, 1509)] (by decide +kernel) (show m_sgl X _ _ _ _ _ = some (242, [some (.ref 304), w1, some (.int v2)], [.long (q9.2.2 304), .ref 304], (SH, q9.2.1, q9.2.2)) from rfl) ?_
        exact ok_m_next_242 X d F _ (fun a0 a1 m r m' h => ih a0 a1 m r m' h) _ _ _ _ _ _ h
      · refine m_R_1 (by decide) (m_opb_of (ins := .if_icmp .ge 28) (len := 3) (tag := 0) (a := 238) (b := 0) (c := 0) (q := 0) (by decide +kernel)) (if_neg c17) ?_
        refine m_R_sg (by decide) [(.ldc2_w 252, 3, 0, 10, 0, 0, 1719), (.aload_n 0, 1, 0, 0, 0, 0, 0), (.getfield 242, 3, 0, 12, 14, 2, 1509), (.lmul, 1, 0, 0, 0, 0, 0), (.aload_n 0, 1, 0, 0, 0, 0, 0), (.aload_n 0, 1, 0, 0, 0, 0, 0), (.getfield 230, 3, 0, 12, 15, 0, 1510)] (by decide +kernel) (show m_sgl X _ _ _ _ _ = some (226, [some (.ref 304), w1, some (.int v2)], [.int (q9.2.1 304 15), .ref 304, .long ((10 : Int64) * (q9.2.2 304)), .ref 304], (SH, q9.2.1, q9.2.2)) from rfl) ?_
        obtain ⟨q10, hc10, h⟩ := Option.bind_eq_some_iff.mp h
        refine m_R_cV (v := (some (.int q10.1))) (h1 := (SH, q10.2)) (rest := [.long ((10 : Int64) * (q9.2.2 304)), .ref 304]) (lo' := [some (.ref 304), some (.int (q9.2.1 304 15))]) (ml := 2) (k0 := 304) (by decide) (Or.inl rfl) (m_opb_of (ins := .invokevirtual 233) (len := 3) (tag := 5) (a := 231) (b := 1) (c := 0) (q := 1712) (by decide +kernel)) (by decide +kernel) rfl (show m_isO 231 304 (SH, _) = true from m_isO_of (by decide +kernel)) (Nat.le_of_ble_eq_true rfl) rfl rfl (ok_m_byteAt X (d + 0) F _ _ _ _ hc10) ?_
        refine m_R_sg (by decide) [(.i2l, 1, 0, 0, 0, 0, 0), (.ladd, 1, 0, 0, 0, 0, 0), (.ldc2_w 254, 3, 0, 48, 0, 0, 1720), (.lsub, 1, 0, 0, 0, 0, 0), (.goto 7, 3, 0, 242, 0, 0, 0)] (by decide +kernel) (show m_sgl X _ _ _ _ _ = some (242, [some (.ref 304), w1, some (.int v2)], [.long ((((10 : Int64) * (q9.2.2 304)) + q10.1.toInt64) - (48 : Int64)), .ref 304], (SH, q10.2.1, q10.2.2)) from rfl) ?_
        exact ok_m_next_242 X d F _ (fun a0 a1 m r m' h => ih a0 a1 m r m' h) _ _ _ _ _ _ h
def f_m_next_338 (F : Nat)   (v1 : Int32) (m : mM) : Option (Unit × mM) := f_m_next_359 F ((m_up (m_up m.1 304 12 (3 : Int32)) 304 15 (((m_up m.1 304 12 (3 : Int32)) 304 15) + (1 : Int32))), (m_upl m.2 304 v1.toInt64))
theorem ok_m_next_338 (X : mX) (d F : Nat) : ∀ (v1 : Int32) (w2 : Option Value) (m : mM) (r : Unit) (m' : mM), f_m_next_338 F v1 m = some (r, m') → m_R X (d + 1) 230 338 [some (.ref 304), some (.int v1), w2] [] (SH, m) (none, (SH, m')) := by
  intro v1 w2 m r m' h
  unfold f_m_next_338 at h
  refine m_R_sg (by decide) [(.aload_n 0, 1, 0, 0, 0, 0, 0), (.iconst 3, 1, 0, 3, 0, 0, 0), (.putfield 239, 3, 0, 12, 12, 0, 1507), (.aload_n 0, 1, 0, 0, 0, 0, 0), (.iload_n 1, 1, 0, 1, 0, 0, 0), (.i2l, 1, 0, 0, 0, 0, 0), (.putfield 242, 3, 0, 12, 14, 2, 1509), (.aload_n 0, 1, 0, 0, 0, 0, 0), (.dup, 1, 0, 0, 0, 0, 0), (.getfield 230, 3, 0, 12, 15, 0, 1510), (.iconst 1, 1, 0, 1, 0, 0, 0), (.iadd, 1, 0, 0, 0, 0, 0), (.putfield 230, 3, 0, 12, 15, 0, 1510)] (by decide +kernel) (show m_sgl X _ _ _ _ _ = some (359, [some (.ref 304), some (.int v1), w2], [], (SH, (m_up (m_up m.1 304 12 (3 : Int32)) 304 15 (((m_up m.1 304 12 (3 : Int32)) 304 15) + (1 : Int32))), (m_upl m.2 304 v1.toInt64))) from rfl) ?_
  exact ok_m_next_359 X d F _ _ _ _ _ _ h
def f_m_next_0 (F : Nat)   : Nat → mM → Option (Unit × mM)
  | 0, _ => none
  | n + 1, m => ((f_m_byteAt F (m.1 304 15) m).bind fun q1 => (if q1.1 = (32 : Int32) then f_m_next_0 F n ((m_up q1.2.1 304 15 ((q1.2.1 304 15) + (1 : Int32))), q1.2.2) else ((f_m_byteAt F ((m_up q1.2.1 304 13 (q1.2.1 304 15)) 304 15) ((m_up q1.2.1 304 13 (q1.2.1 304 15)), q1.2.2)).bind fun q2 => (if 0 ≤ q2.1 then ((f_m_in F q2.1 (97 : Int32) (122 : Int32) ((m_up q2.2.1 304 12 (4 : Int32)), q2.2.2)).bind fun q3 => (if q3.1 = 0 then ((f_m_in F q2.1 (48 : Int32) (57 : Int32) q3.2).bind fun q4 => (if q4.1 = 0 then (if q2.1 = (40 : Int32) then f_m_next_338 F q2.1 q4.2 else (if q2.1 = (41 : Int32) then f_m_next_338 F q2.1 q4.2 else (if q2.1 = (43 : Int32) then f_m_next_338 F q2.1 q4.2 else (if q2.1 = (45 : Int32) then f_m_next_338 F q2.1 q4.2 else (if q2.1 = (42 : Int32) then f_m_next_338 F q2.1 q4.2 else (if q2.1 = (47 : Int32) then f_m_next_338 F q2.1 q4.2 else (if q2.1 = (37 : Int32) then f_m_next_338 F q2.1 q4.2 else (if q2.1 = (61 : Int32) then f_m_next_338 F q2.1 q4.2 else (if q2.1 = (60 : Int32) then f_m_next_338 F q2.1 q4.2 else (if q2.1 = (62 : Int32) then f_m_next_338 F q2.1 q4.2 else f_m_next_359 F q4.2)))))))))) else f_m_next_189 F F (0 : Int32) ((m_up q4.2.1 304 12 (2 : Int32)), (m_upl q4.2.2 304 (0 : Int64))))) else f_m_next_91 F F (0 : Int32) ((m_up q3.2.1 304 12 (1 : Int32)), (m_upl q3.2.2 304 (0 : Int64))))) else f_m_next_359 F ((m_up (m_up (m_up q2.2.1 304 12 (4 : Int32)) 304 12 (0 : Int32)) 304 13 ((m_up (m_up q2.2.1 304 12 (4 : Int32)) 304 12 (0 : Int32)) 304 11)), q2.2.2)))))
theorem ok_m_next_0 (X : mX) (d F : Nat) : ∀ (n : Nat)  (w1 : Option Value) (w2 : Option Value) (m : mM) (r : Unit) (m' : mM), f_m_next_0 F n  m = some (r, m') → m_R X (d + 1) 230 0 [some (.ref 304), w1, w2] [] (SH, m) (none, (SH, m')) := by
  intro n
  induction n with
  | zero => intro w1 w2 m r m' h; cases h
  | succ n ih =>
    intro w1 w2 m r m' h
    simp only [f_m_next_0] at h
    refine m_R_sg (by decide) [(.aload_n 0, 1, 0, 0, 0, 0, 0), (.aload_n 0, 1, 0, 0, 0, 0, 0), (.getfield 230, 3, 0, 12, 15, 0, 1510)] (by decide +kernel) (show m_sgl X _ _ _ _ _ = some (5, [some (.ref 304), w1, w2], [.int (m.1 304 15), .ref 304], (SH, m.1, m.2)) from rfl) ?_
    obtain ⟨q1, hc1, h⟩ := Option.bind_eq_some_iff.mp h
    refine m_R_cV (v := (some (.int q1.1))) (h1 := (SH, q1.2)) (rest := []) (lo' := [some (.ref 304), some (.int (m.1 304 15))]) (ml := 2) (k0 := 304) (by decide) (Or.inl rfl) (m_opb_of (ins := .invokevirtual 233) (len := 3) (tag := 5) (a := 231) (b := 1) (c := 0) (q := 1712) (by decide +kernel)) (by decide +kernel) rfl (show m_isO 231 304 (SH, _) = true from m_isO_of (by decide +kernel)) (Nat.le_of_ble_eq_true rfl) rfl rfl (ok_m_byteAt X (d + 0) F _ _ _ _ hc1) ?_
    refine m_R_sg (by decide) [(.bipush 32, 2, 0, 32, 0, 0, 0)] (by decide +kernel) (show m_sgl X _ _ _ _ _ = some (10, [some (.ref 304), w1, w2], [.int (32 : Int32), .int q1.1], (SH, q1.2.1, q1.2.2)) from rfl) ?_
    rcases m_ite h with ⟨c18, h⟩ | ⟨c18, h⟩
    · refine m_R_1 (by decide) (m_opb_of (ins := .if_icmp .ne 16) (len := 3) (tag := 0) (a := 26) (b := 0) (c := 0) (q := 0) (by decide +kernel)) (if_pos c18) ?_
      refine m_R_sg (by decide) [(.aload_n 0, 1, 0, 0, 0, 0, 0), (.dup, 1, 0, 0, 0, 0, 0), (.getfield 230, 3, 0, 12, 15, 0, 1510), (.iconst 1, 1, 0, 1, 0, 0, 0), (.iadd, 1, 0, 0, 0, 0, 0), (.putfield 230, 3, 0, 12, 15, 0, 1510), (.goto (-23), 3, 0, 0, 0, 0, 0)] (by decide +kernel) (show m_sgl X _ _ _ _ _ = some (0, [some (.ref 304), w1, w2], [], (SH, (m_up q1.2.1 304 15 ((q1.2.1 304 15) + (1 : Int32))), q1.2.2)) from rfl) ?_
      exact ih _ _ _ _ _ h
    · refine m_R_1 (by decide) (m_opb_of (ins := .if_icmp .ne 16) (len := 3) (tag := 0) (a := 26) (b := 0) (c := 0) (q := 0) (by decide +kernel)) (if_neg c18) ?_
      refine m_R_sg (by decide) [(.aload_n 0, 1, 0, 0, 0, 0, 0), (.aload_n 0, 1, 0, 0, 0, 0, 0), (.getfield 230, 3, 0, 12, 15, 0, 1510), (.putfield 236, 3, 0, 12, 13, 0, 1508), (.aload_n 0, 1, 0, 0, 0, 0, 0), (.aload_n 0, 1, 0, 0, 0, 0, 0), (.getfield 230, 3, 0, 12, 15, 0, 1510)] (by decide +kernel) (show m_sgl X _ _ _ _ _ = some (39, [some (.ref 304), w1, w2], [.int ((m_up q1.2.1 304 13 (q1.2.1 304 15)) 304 15), .ref 304], (SH, (m_up q1.2.1 304 13 (q1.2.1 304 15)), q1.2.2)) from rfl) ?_
      obtain ⟨q2, hc2, h⟩ := Option.bind_eq_some_iff.mp h
      refine m_R_cV (v := (some (.int q2.1))) (h1 := (SH, q2.2)) (rest := []) (lo' := [some (.ref 304), some (.int ((m_up q1.2.1 304 13 (q1.2.1 304 15)) 304 15))]) (ml := 2) (k0 := 304) (by decide) (Or.inl rfl) (m_opb_of (ins := .invokevirtual 233) (len := 3) (tag := 5) (a := 231) (b := 1) (c := 0) (q := 1712) (by decide +kernel)) (by decide +kernel) rfl (show m_isO 231 304 (SH, _) = true from m_isO_of (by decide +kernel)) (Nat.le_of_ble_eq_true rfl) rfl rfl (ok_m_byteAt X (d + 0) F _ _ _ _ hc2) ?_
      refine m_R_sg (by decide) [(.istore_n 1, 1, 0, 1, 0, 0, 0), (.aload_n 0, 1, 0, 0, 0, 0, 0), (.iconst 4, 1, 0, 4, 0, 0, 0), (.putfield 239, 3, 0, 12, 12, 0, 1507), (.iload_n 1, 1, 0, 1, 0, 0, 0)] (by decide +kernel) (show m_sgl X _ _ _ _ _ = some (49, [some (.ref 304), some (.int q2.1), w2], [.int q2.1], (SH, (m_up q2.2.1 304 12 (4 : Int32)), q2.2.2)) from rfl) ?_
      rcases m_ite h with ⟨c19, h⟩ | ⟨c19, h⟩
      · refine m_R_1 (by decide) (m_opb_of (ins := .ifCond .ge 19) (len := 3) (tag := 0) (a := 68) (b := 0) (c := 0) (q := 0) (by decide +kernel)) (if_pos c19) ?_
        refine m_R_sg (by decide) [(.iload_n 1, 1, 0, 1, 0, 0, 0), (.bipush 97, 2, 0, 97, 0, 0, 0), (.bipush 122, 2, 0, 122, 0, 0, 0)] (by decide +kernel) (show m_sgl X _ _ _ _ _ = some (73, [some (.ref 304), some (.int q2.1), w2], [.int (122 : Int32), .int (97 : Int32), .int q2.1], (SH, (m_up q2.2.1 304 12 (4 : Int32)), q2.2.2)) from rfl) ?_
        obtain ⟨q3, hc3, h⟩ := Option.bind_eq_some_iff.mp h
        refine m_R_cS (v := (some (.int q3.1))) (h1 := (SH, q3.2)) (rest := []) (lo' := [some (.int q2.1), some (.int (97 : Int32)), some (.int (122 : Int32))]) (ml := 3) (by decide) (m_opb_of (ins := .invokestatic 57) (len := 3) (tag := 4) (a := 201) (b := 3) (c := 0) (q := 1593) (by decide +kernel)) (by decide +kernel) (Nat.le_of_ble_eq_true rfl) rfl (Nat.le_of_ble_eq_true rfl) rfl rfl (ok_m_in X (d + 0) F _ _ _ _ _ _ hc3) ?_
        rcases m_ite h with ⟨c20, h⟩ | ⟨c20, h⟩
        · refine m_R_1 (by decide) (m_opb_of (ins := .ifCond .eq 90) (len := 3) (tag := 0) (a := 166) (b := 0) (c := 0) (q := 0) (by decide +kernel)) (if_pos c20) ?_
          refine m_R_sg (by decide) [(.iload_n 1, 1, 0, 1, 0, 0, 0), (.bipush 48, 2, 0, 48, 0, 0, 0), (.bipush 57, 2, 0, 57, 0, 0, 0)] (by decide +kernel) (show m_sgl X _ _ _ _ _ = some (171, [some (.ref 304), some (.int q2.1), w2], [.int (57 : Int32), .int (48 : Int32), .int q2.1], (SH, q3.2.1, q3.2.2)) from rfl) ?_
          obtain ⟨q4, hc4, h⟩ := Option.bind_eq_some_iff.mp h
          refine m_R_cS (v := (some (.int q4.1))) (h1 := (SH, q4.2)) (rest := []) (lo' := [some (.int q2.1), some (.int (48 : Int32)), some (.int (57 : Int32))]) (ml := 3) (by decide) (m_opb_of (ins := .invokestatic 57) (len := 3) (tag := 4) (a := 201) (b := 3) (c := 0) (q := 1593) (by decide +kernel)) (by decide +kernel) (Nat.le_of_ble_eq_true rfl) rfl (Nat.le_of_ble_eq_true rfl) rfl rfl (ok_m_in X (d + 0) F _ _ _ _ _ _ hc4) ?_
          rcases m_ite h with ⟨c21, h⟩ | ⟨c21, h⟩
          · refine m_R_1 (by decide) (m_opb_of (ins := .ifCond .eq 104) (len := 3) (tag := 0) (a := 278) (b := 0) (c := 0) (q := 0) (by decide +kernel)) (if_pos c21) ?_
            refine m_R_sg (by decide) [(.iload_n 1, 1, 0, 1, 0, 0, 0), (.bipush 40, 2, 0, 40, 0, 0, 0)] (by decide +kernel) (show m_sgl X _ _ _ _ _ = some (281, [some (.ref 304), some (.int q2.1), w2], [.int (40 : Int32), .int q2.1], (SH, q4.2.1, q4.2.2)) from rfl) ?_
            rcases m_ite h with ⟨c22, h⟩ | ⟨c22, h⟩
            · refine m_R_1 (by decide) (m_opb_of (ins := .if_icmp .eq 57) (len := 3) (tag := 0) (a := 338) (b := 0) (c := 0) (q := 0) (by decide +kernel)) (if_pos c22) ?_
              exact ok_m_next_338 X d F _ _ _ _ _ h
            · refine m_R_1 (by decide) (m_opb_of (ins := .if_icmp .eq 57) (len := 3) (tag := 0) (a := 338) (b := 0) (c := 0) (q := 0) (by decide +kernel)) (if_neg c22) ?_
              refine m_R_sg (by decide) [(.iload_n 1, 1, 0, 1, 0, 0, 0), (.bipush 41, 2, 0, 41, 0, 0, 0)] (by decide +kernel) (show m_sgl X _ _ _ _ _ = some (287, [some (.ref 304), some (.int q2.1), w2], [.int (41 : Int32), .int q2.1], (SH, q4.2.1, q4.2.2)) from rfl) ?_
              rcases m_ite h with ⟨c23, h⟩ | ⟨c23, h⟩
              · refine m_R_1 (by decide) (m_opb_of (ins := .if_icmp .eq 51) (len := 3) (tag := 0) (a := 338) (b := 0) (c := 0) (q := 0) (by decide +kernel)) (if_pos c23) ?_
                exact ok_m_next_338 X d F _ _ _ _ _ h
              · refine m_R_1 (by decide) (m_opb_of (ins := .if_icmp .eq 51) (len := 3) (tag := 0) (a := 338) (b := 0) (c := 0) (q := 0) (by decide +kernel)) (if_neg c23) ?_
                refine m_R_sg (by decide) [(.iload_n 1, 1, 0, 1, 0, 0, 0), (.bipush 43, 2, 0, 43, 0, 0, 0)] (by decide +kernel) (show m_sgl X _ _ _ _ _ = some (293, [some (.ref 304), some (.int q2.1), w2], [.int (43 : Int32), .int q2.1], (SH, q4.2.1, q4.2.2)) from rfl) ?_
                rcases m_ite h with ⟨c24, h⟩ | ⟨c24, h⟩
                · refine m_R_1 (by decide) (m_opb_of (ins := .if_icmp .eq 45) (len := 3) (tag := 0) (a := 338) (b := 0) (c := 0) (q := 0) (by decide +kernel)) (if_pos c24) ?_
                  exact ok_m_next_338 X d F _ _ _ _ _ h
                · refine m_R_1 (by decide) (m_opb_of (ins := .if_icmp .eq 45) (len := 3) (tag := 0) (a := 338) (b := 0) (c := 0) (q := 0) (by decide +kernel)) (if_neg c24) ?_
                  refine m_R_sg (by decide) [(.iload_n 1, 1, 0, 1, 0, 0, 0), (.bipush 45, 2, 0, 45, 0, 0, 0)] (by decide +kernel) (show m_sgl X _ _ _ _ _ = some (299, [some (.ref 304), some (.int q2.1), w2], [.int (45 : Int32), .int q2.1], (SH, q4.2.1, q4.2.2)) from rfl) ?_
                  rcases m_ite h with ⟨c25, h⟩ | ⟨c25, h⟩
                  · refine m_R_1 (by decide) (m_opb_of (ins := .if_icmp .eq 39) (len := 3) (tag := 0) (a := 338) (b := 0) (c := 0) (q := 0) (by decide +kernel)) (if_pos c25) ?_
                    exact ok_m_next_338 X d F _ _ _ _ _ h
                  · refine m_R_1 (by decide) (m_opb_of (ins := .if_icmp .eq 39) (len := 3) (tag := 0) (a := 338) (b := 0) (c := 0) (q := 0) (by decide +kernel)) (if_neg c25) ?_
                    refine m_R_sg (by decide) [(.iload_n 1, 1, 0, 1, 0, 0, 0), (.bipush 42, 2, 0, 42, 0, 0, 0)] (by decide +kernel) (show m_sgl X _ _ _ _ _ = some (305, [some (.ref 304), some (.int q2.1), w2], [.int (42 : Int32), .int q2.1], (SH, q4.2.1, q4.2.2)) from rfl) ?_
                    rcases m_ite h with ⟨c26, h⟩ | ⟨c26, h⟩
                    · refine m_R_1 (by decide) (m_opb_of (ins := .if_icmp .eq 33) (len := 3) (tag := 0) (a := 338) (b := 0) (c := 0) (q := 0) (by decide +kernel)) (if_pos c26) ?_
                      exact ok_m_next_338 X d F _ _ _ _ _ h
                    · refine m_R_1 (by decide) (m_opb_of (ins := .if_icmp .eq 33) (len := 3) (tag := 0) (a := 338) (b := 0) (c := 0) (q := 0) (by decide +kernel)) (if_neg c26) ?_
                      refine m_R_sg (by decide) [(.iload_n 1, 1, 0, 1, 0, 0, 0), (.bipush 47, 2, 0, 47, 0, 0, 0)] (by decide +kernel) (show m_sgl X _ _ _ _ _ = some (311, [some (.ref 304), some (.int q2.1), w2], [.int (47 : Int32), .int q2.1], (SH, q4.2.1, q4.2.2)) from rfl) ?_
                      rcases m_ite h with ⟨c27, h⟩ | ⟨c27, h⟩
                      · refine m_R_1 (by decide) (m_opb_of (ins := .if_icmp .eq 27) (len := 3) (tag := 0) (a := 338) (b := 0) (c := 0) (q := 0) (by decide +kernel)) (if_pos c27) ?_
                        exact ok_m_next_338 X d F _ _ _ _ _ h
                      · refine m_R_1 (by decide) (m_opb_of (ins := .if_icmp .eq 27) (len := 3) (tag := 0) (a := 338) (b := 0) (c := 0) (q := 0) (by decide +kernel)) (if_neg c27) ?_
                        refine m_R_sg (by decide) [(.iload_n 1, 1, 0, 1, 0, 0, 0), (.bipush 37, 2, 0, 37, 0, 0, 0)] (by decide +kernel) (show m_sgl X _ _ _ _ _ = some (317, [some (.ref 304), some (.int q2.1), w2], [.int (37 : Int32), .int q2.1], (SH, q4.2.1, q4.2.2)) from rfl) ?_
                        rcases m_ite h with ⟨c28, h⟩ | ⟨c28, h⟩
                        · refine m_R_1 (by decide) (m_opb_of (ins := .if_icmp .eq 21) (len := 3) (tag := 0) (a := 338) (b := 0) (c := 0) (q := 0) (by decide +kernel)) (if_pos c28) ?_
                          exact ok_m_next_338 X d F _ _ _ _ _ h
                        · refine m_R_1 (by decide) (m_opb_of (ins := .if_icmp .eq 21) (len := 3) (tag := 0) (a := 338) (b := 0) (c := 0) (q := 0) (by decide +kernel)) (if_neg c28) ?_
                          refine m_R_sg (by decide) [(.iload_n 1, 1, 0, 1, 0, 0, 0), (.bipush 61, 2, 0, 61, 0, 0, 0)] (by decide +kernel) (show m_sgl X _ _ _ _ _ = some (323, [some (.ref 304), some (.int q2.1), w2], [.int (61 : Int32), .int q2.1], (SH, q4.2.1, q4.2.2)) from rfl) ?_
                          rcases m_ite h with ⟨c29, h⟩ | ⟨c29, h⟩
                          · refine m_R_1 (by decide) (m_opb_of (ins := .if_icmp .eq 15) (len := 3) (tag := 0) (a := 338) (b := 0) (c := 0) (q := 0) (by decide +kernel)) (if_pos c29) ?_
                            exact ok_m_next_338 X d F _ _ _ _ _ h
                          · refine m_R_1 (by decide) (m_opb_of (ins := .if_icmp .eq 15) (len := 3) (tag := 0) (a := 338) (b := 0) (c := 0) (q := 0) (by decide +kernel)) (if_neg c29) ?_
                            refine m_R_sg (by decide) [(.iload_n 1, 1, 0, 1, 0, 0, 0), (.bipush 60, 2, 0, 60, 0, 0, 0)] (by decide +kernel) (show m_sgl X _ _ _ _ _ = some (329, [some (.ref 304), some (.int q2.1), w2], [.int (60 : Int32), .int q2.1], (SH, q4.2.1, q4.2.2)) from rfl) ?_
                            rcases m_ite h with ⟨c30, h⟩ | ⟨c30, h⟩
                            · refine m_R_1 (by decide) (m_opb_of (ins := .if_icmp .eq 9) (len := 3) (tag := 0) (a := 338) (b := 0) (c := 0) (q := 0) (by decide +kernel)) (if_pos c30) ?_
                              exact ok_m_next_338 X d F _ _ _ _ _ h
                            · refine m_R_1 (by decide) (m_opb_of (ins := .if_icmp .eq 9) (len := 3) (tag := 0) (a := 338) (b := 0) (c := 0) (q := 0) (by decide +kernel)) (if_neg c30) ?_
                              refine m_R_sg (by decide) [(.iload_n 1, 1, 0, 1, 0, 0, 0), (.bipush 62, 2, 0, 62, 0, 0, 0)] (by decide +kernel) (show m_sgl X _ _ _ _ _ = some (335, [some (.ref 304), some (.int q2.1), w2], [.int (62 : Int32), .int q2.1], (SH, q4.2.1, q4.2.2)) from rfl) ?_
                              rcases m_ite h with ⟨c31, h⟩ | ⟨c31, h⟩
                              · refine m_R_1 (by decide) (m_opb_of (ins := .if_icmp .ne 24) (len := 3) (tag := 0) (a := 359) (b := 0) (c := 0) (q := 0) (by decide +kernel)) (if_pos c31) ?_
                                exact ok_m_next_338 X d F _ _ _ _ _ h
                              · refine m_R_1 (by decide) (m_opb_of (ins := .if_icmp .ne 24) (len := 3) (tag := 0) (a := 359) (b := 0) (c := 0) (q := 0) (by decide +kernel)) (if_neg c31) ?_
                                exact ok_m_next_359 X d F _ _ _ _ _ _ h
          · refine m_R_1 (by decide) (m_opb_of (ins := .ifCond .eq 104) (len := 3) (tag := 0) (a := 278) (b := 0) (c := 0) (q := 0) (by decide +kernel)) (if_neg c21) ?_
            refine m_R_sg (by decide) [(.aload_n 0, 1, 0, 0, 0, 0, 0), (.iconst 2, 1, 0, 2, 0, 0, 0), (.putfield 239, 3, 0, 12, 12, 0, 1507), (.aload_n 0, 1, 0, 0, 0, 0, 0), (.lconst 0, 1, 0, 0, 0, 0, 0), (.putfield 242, 3, 0, 12, 14, 2, 1509), (.iconst 0, 1, 0, 0, 0, 0, 0), (.istore_n 2, 1, 0, 2, 0, 0, 0)] (by decide +kernel) (show m_sgl X _ _ _ _ _ = some (189, [some (.ref 304), some (.int q2.1), some (.int (0 : Int32))], [], (SH, (m_up q4.2.1 304 12 (2 : Int32)), (m_upl q4.2.2 304 (0 : Int64)))) from rfl) ?_
            exact ok_m_next_189 X d F F _ _ _ _ _ h
        · refine m_R_1 (by decide) (m_opb_of (ins := .ifCond .eq 90) (len := 3) (tag := 0) (a := 166) (b := 0) (c := 0) (q := 0) (by decide +kernel)) (if_neg c20) ?_
          refine m_R_sg (by decide) [(.aload_n 0, 1, 0, 0, 0, 0, 0), (.iconst 1, 1, 0, 1, 0, 0, 0), (.putfield 239, 3, 0, 12, 12, 0, 1507), (.aload_n 0, 1, 0, 0, 0, 0, 0), (.lconst 0, 1, 0, 0, 0, 0, 0), (.putfield 242, 3, 0, 12, 14, 2, 1509), (.iconst 0, 1, 0, 0, 0, 0, 0), (.istore_n 2, 1, 0, 2, 0, 0, 0)] (by decide +kernel) (show m_sgl X _ _ _ _ _ = some (91, [some (.ref 304), some (.int q2.1), some (.int (0 : Int32))], [], (SH, (m_up q3.2.1 304 12 (1 : Int32)), (m_upl q3.2.2 304 (0 : Int64)))) from rfl) ?_
          exact ok_m_next_91 X d F F _ _ _ _ _ h
      · refine m_R_1 (by decide) (m_opb_of (ins := .ifCond .ge 19) (len := 3) (tag := 0) (a := 68) (b := 0) (c := 0) (q := 0) (by decide +kernel)) (if_neg c19) ?_
        refine m_R_sg (by decide) [(.aload_n 0, 1, 0, 0, 0, 0, 0), (.iconst 0, 1, 0, 0, 0, 0, 0), (.putfield 239, 3, 0, 12, 12, 0, 1507), (.aload_n 0, 1, 0, 0, 0, 0, 0), (.aload_n 0, 1, 0, 0, 0, 0, 0), (.getfield 227, 3, 0, 12, 11, 0, 1506), (.putfield 236, 3, 0, 12, 13, 0, 1508), (.goto 294, 3, 0, 359, 0, 0, 0)] (by decide +kernel) (show m_sgl X _ _ _ _ _ = some (359, [some (.ref 304), some (.int q2.1), w2], [], (SH, (m_up (m_up (m_up q2.2.1 304 12 (4 : Int32)) 304 12 (0 : Int32)) 304 13 ((m_up (m_up q2.2.1 304 12 (4 : Int32)) 304 12 (0 : Int32)) 304 11)), q2.2.2)) from rfl) ?_
        exact ok_m_next_359 X d F _ _ _ _ _ _ h
def f_m_next (F : Nat)    (m : mM) : Option (Unit × mM) := f_m_next_0 F F m
theorem ok_m_next (X : mX) (d F : Nat) : ∀   (m : mM) (r : Unit) (m' : mM), f_m_next F  m = some (r, m') → m_R X (d + 1) 230 0 [some (.ref 304), none, none] [] (SH, m) (none, (SH, m')) := by
  intro m r m' h
  unfold f_m_next at h
  exact ok_m_next_0 X d F F _ _ _ _ _ h
def f_m_isWord_29 (F : Nat)   (s0 : Int32) (m : mM) : Option (Int32 × mM) := (if s0 = 0 ∨ s0 = 1 then some (s0, m) else none)
theorem ok_m_isWord_29 (X : mX) (d F : Nat) : ∀ (s0 : Int32) (w0 : Option Value) (w1 : Option Value) (w2 : Option Value) (m : mM) (r : Int32) (m' : mM), f_m_isWord_29 F s0 m = some (r, m') → m_R X (d + 0) 233 29 [w0, w1, w2] [.int s0] (SH, m) (some (.int r), (SH, m')) := by
  intro s0 w0 w1 w2 m r m' h
  unfold f_m_isWord_29 at h
  obtain ⟨c0, h⟩ := m_ite_p h
  obtain ⟨rfl, rfl⟩ := m_some h
  exact m_R_iret (by decide) (m_opb_of (ins := .ireturn) (len := 1) (tag := 1) (a := 1) (b := 0) (c := 0) (q := 0) (by decide +kernel)) (Or.inr c0)
def f_m_isWord_28 (F : Nat)    (m : mM) : Option (Int32 × mM) := f_m_isWord_29 F (0 : Int32) m
theorem ok_m_isWord_28 (X : mX) (d F : Nat) : ∀  (w0 : Option Value) (w1 : Option Value) (w2 : Option Value) (m : mM) (r : Int32) (m' : mM), f_m_isWord_28 F  m = some (r, m') → m_R X (d + 0) 233 28 [w0, w1, w2] [] (SH, m) (some (.int r), (SH, m')) := by
  intro w0 w1 w2 m r m' h
  unfold f_m_isWord_28 at h
  refine m_R_sg (by decide) [(.iconst 0, 1, 0, 0, 0, 0, 0)] (by decide +kernel) (show m_sgl X _ _ _ _ _ = some (29, [w0, w1, w2], [.int (0 : Int32)], (SH, m.1, m.2)) from rfl) ?_
  exact ok_m_isWord_29 X d F _ _ _ _ _ _ _ h
def f_m_isWord (F : Nat)   (v1 : Int64) (m : mM) : Option (Int32 × mM) := (if (m.1 304 17) = 0 then (if (m.1 304 12) = (1 : Int32) then (if (lg_cmp (m.2 304) v1) = 0 then f_m_isWord_29 F (1 : Int32) m else f_m_isWord_28 F m) else f_m_isWord_28 F m) else f_m_isWord_28 F m)
theorem ok_m_isWord (X : mX) (d F : Nat) : ∀ (v1 : Int64)  (m : mM) (r : Int32) (m' : mM), f_m_isWord F v1 m = some (r, m') → m_R X (d + 0) 233 0 [some (.ref 304), some (.long v1), none] [] (SH, m) (some (.int r), (SH, m')) := by
  intro v1 m r m' h
  unfold f_m_isWord at h
  refine m_R_sg (by decide) [(.aload_n 0, 1, 0, 0, 0, 0, 0), (.getfield 256, 3, 0, 12, 17, 1, 1512)] (by decide +kernel) (show m_sgl X _ _ _ _ _ = some (4, [some (.ref 304), some (.long v1), none], [.int (m.1 304 17)], (SH, m.1, m.2)) from rfl) ?_
  rcases m_ite h with ⟨c32, h⟩ | ⟨c32, h⟩
  · refine m_R_1 (by decide) (m_opb_of (ins := .ifCond .ne 24) (len := 3) (tag := 0) (a := 28) (b := 0) (c := 0) (q := 0) (by decide +kernel)) (if_pos c32) ?_
    refine m_R_sg (by decide) [(.aload_n 0, 1, 0, 0, 0, 0, 0), (.getfield 239, 3, 0, 12, 12, 0, 1507), (.iconst 1, 1, 0, 1, 0, 0, 0)] (by decide +kernel) (show m_sgl X _ _ _ _ _ = some (12, [some (.ref 304), some (.long v1), none], [.int (1 : Int32), .int (m.1 304 12)], (SH, m.1, m.2)) from rfl) ?_
    rcases m_ite h with ⟨c33, h⟩ | ⟨c33, h⟩
    · refine m_R_1 (by decide) (m_opb_of (ins := .if_icmp .ne 16) (len := 3) (tag := 0) (a := 28) (b := 0) (c := 0) (q := 0) (by decide +kernel)) (if_pos c33) ?_
      refine m_R_sg (by decide) [(.aload_n 0, 1, 0, 0, 0, 0, 0), (.getfield 242, 3, 0, 12, 14, 2, 1509), (.lload_n 1, 1, 0, 1, 0, 0, 0), (.lcmp, 1, 0, 0, 0, 0, 0)] (by decide +kernel) (show m_sgl X _ _ _ _ _ = some (21, [some (.ref 304), some (.long v1), none], [.int (lg_cmp (m.2 304) v1)], (SH, m.1, m.2)) from rfl) ?_
      rcases m_ite h with ⟨c34, h⟩ | ⟨c34, h⟩
      · refine m_R_1 (by decide) (m_opb_of (ins := .ifCond .ne 7) (len := 3) (tag := 0) (a := 28) (b := 0) (c := 0) (q := 0) (by decide +kernel)) (if_pos c34) ?_
        refine m_R_sg (by decide) [(.iconst 1, 1, 0, 1, 0, 0, 0), (.goto 4, 3, 0, 29, 0, 0, 0)] (by decide +kernel) (show m_sgl X _ _ _ _ _ = some (29, [some (.ref 304), some (.long v1), none], [.int (1 : Int32)], (SH, m.1, m.2)) from rfl) ?_
        exact ok_m_isWord_29 X d F _ _ _ _ _ _ _ h
      · refine m_R_1 (by decide) (m_opb_of (ins := .ifCond .ne 7) (len := 3) (tag := 0) (a := 28) (b := 0) (c := 0) (q := 0) (by decide +kernel)) (if_neg c34) ?_
        exact ok_m_isWord_28 X d F _ _ _ _ _ _ h
    · refine m_R_1 (by decide) (m_opb_of (ins := .if_icmp .ne 16) (len := 3) (tag := 0) (a := 28) (b := 0) (c := 0) (q := 0) (by decide +kernel)) (if_neg c33) ?_
      exact ok_m_isWord_28 X d F _ _ _ _ _ _ h
  · refine m_R_1 (by decide) (m_opb_of (ins := .ifCond .ne 24) (len := 3) (tag := 0) (a := 28) (b := 0) (c := 0) (q := 0) (by decide +kernel)) (if_neg c32) ?_
    exact ok_m_isWord_28 X d F _ _ _ _ _ _ h
def f_m_keyHere_100 (F : Nat)   (s0 : Int32) (m : mM) : Option (Int32 × mM) := some (s0, m)
theorem ok_m_keyHere_100 (X : mX) (d F : Nat) : ∀ (s0 : Int32) (w0 : Option Value) (m : mM) (r : Int32) (m' : mM), f_m_keyHere_100 F s0 m = some (r, m') → m_R X (d + 1) 232 100 [w0] [.int s0] (SH, m) (some (.int r), (SH, m')) := by
  intro s0 w0 m r m' h
  unfold f_m_keyHere_100 at h
  obtain ⟨rfl, rfl⟩ := m_some h
  exact m_R_iret (by decide) (m_opb_of (ins := .ireturn) (len := 1) (tag := 1) (a := 0) (b := 0) (c := 0) (q := 0) (by decide +kernel)) (Or.inl rfl)
def f_m_keyHere (F : Nat)    (m : mM) : Option (Int32 × mM) := ((f_m_isWord F (11522 : Int64) m).bind fun q1 => (if q1.1 = 0 then ((f_m_isWord F (355568 : Int64) q1.2).bind fun q2 => (if q2.1 = 0 then ((f_m_isWord F (2050 : Int64) q2.2).bind fun q3 => (if q3.1 = 0 then ((f_m_isWord F (240223 : Int64) q3.2).bind fun q4 => (if q4.1 = 0 then ((f_m_isWord F (164138 : Int64) q4.2).bind fun q5 => (if q5.1 = 0 then ((f_m_isWord F (380237 : Int64) q5.2).bind fun q6 => (if q6.1 = 0 then ((f_m_isWord F (242939 : Int64) q6.2).bind fun q7 => (if q7.1 = 0 then f_m_keyHere_100 F (-1 : Int32) q7.2 else f_m_keyHere_100 F (6 : Int32) q7.2)) else f_m_keyHere_100 F (5 : Int32) q6.2)) else f_m_keyHere_100 F (4 : Int32) q5.2)) else f_m_keyHere_100 F (3 : Int32) q4.2)) else f_m_keyHere_100 F (2 : Int32) q3.2)) else f_m_keyHere_100 F (1 : Int32) q2.2)) else f_m_keyHere_100 F (0 : Int32) q1.2))
theorem ok_m_keyHere (X : mX) (d F : Nat) : ∀   (m : mM) (r : Int32) (m' : mM), f_m_keyHere F  m = some (r, m') → m_R X (d + 1) 232 0 [some (.ref 304)] [] (SH, m) (some (.int r), (SH, m')) := by
  intro m r m' h
  unfold f_m_keyHere at h
  refine m_R_sg (by decide) [(.aload_n 0, 1, 0, 0, 0, 0, 0), (.ldc2_w 344, 3, 0, 11522, 0, 0, 1725)] (by decide +kernel) (show m_sgl X _ _ _ _ _ = some (4, [some (.ref 304)], [.long (11522 : Int64), .ref 304], (SH, m.1, m.2)) from rfl) ?_
  obtain ⟨q1, hc1, h⟩ := Option.bind_eq_some_iff.mp h
  refine m_R_cV (v := (some (.int q1.1))) (h1 := (SH, q1.2)) (rest := []) (lo' := [some (.ref 304), some (.long (11522 : Int64)), none]) (ml := 3) (k0 := 304) (by decide) (Or.inl rfl) (m_opb_of (ins := .invokevirtual 273) (len := 3) (tag := 5) (a := 233) (b := 1) (c := 0) (q := 1726) (by decide +kernel)) (by decide +kernel) rfl (show m_isO 233 304 (SH, _) = true from m_isO_of (by decide +kernel)) (Nat.le_of_ble_eq_true rfl) rfl rfl (ok_m_isWord X (d + 0) F _ _ _ _ hc1) ?_
  rcases m_ite h with ⟨c35, h⟩ | ⟨c35, h⟩
  · refine m_R_1 (by decide) (m_opb_of (ins := .ifCond .eq 7) (len := 3) (tag := 0) (a := 14) (b := 0) (c := 0) (q := 0) (by decide +kernel)) (if_pos c35) ?_
    refine m_R_sg (by decide) [(.aload_n 0, 1, 0, 0, 0, 0, 0), (.ldc2_w 346, 3, 0, 355568, 0, 0, 1730)] (by decide +kernel) (show m_sgl X _ _ _ _ _ = some (18, [some (.ref 304)], [.long (355568 : Int64), .ref 304], (SH, q1.2.1, q1.2.2)) from rfl) ?_
    obtain ⟨q2, hc2, h⟩ := Option.bind_eq_some_iff.mp h
    refine m_R_cV (v := (some (.int q2.1))) (h1 := (SH, q2.2)) (rest := []) (lo' := [some (.ref 304), some (.long (355568 : Int64)), none]) (ml := 3) (k0 := 304) (by decide) (Or.inl rfl) (m_opb_of (ins := .invokevirtual 273) (len := 3) (tag := 5) (a := 233) (b := 1) (c := 0) (q := 1726) (by decide +kernel)) (by decide +kernel) rfl (show m_isO 233 304 (SH, _) = true from m_isO_of (by decide +kernel)) (Nat.le_of_ble_eq_true rfl) rfl rfl (ok_m_isWord X (d + 0) F _ _ _ _ hc2) ?_
    rcases m_ite h with ⟨c36, h⟩ | ⟨c36, h⟩
    · refine m_R_1 (by decide) (m_opb_of (ins := .ifCond .eq 7) (len := 3) (tag := 0) (a := 28) (b := 0) (c := 0) (q := 0) (by decide +kernel)) (if_pos c36) ?_
      refine m_R_sg (by decide) [(.aload_n 0, 1, 0, 0, 0, 0, 0), (.ldc2_w 348, 3, 0, 2050, 0, 0, 1731)] (by decide +kernel) (show m_sgl X _ _ _ _ _ = some (32, [some (.ref 304)], [.long (2050 : Int64), .ref 304], (SH, q2.2.1, q2.2.2)) from rfl) ?_
      obtain ⟨q3, hc3, h⟩ := Option.bind_eq_some_iff.mp h
      refine m_R_cV (v := (some (.int q3.1))) (h1 := (SH, q3.2)) (rest := []) (lo' := [some (.ref 304), some (.long (2050 : Int64)), none]) (ml := 3) (k0 := 304) (by decide) (Or.inl rfl) (m_opb_of (ins := .invokevirtual 273) (len := 3) (tag := 5) (a := 233) (b := 1) (c := 0) (q := 1726) (by decide +kernel)) (by decide +kernel) rfl (show m_isO 233 304 (SH, _) = true from m_isO_of (by decide +kernel)) (Nat.le_of_ble_eq_true rfl) rfl rfl (ok_m_isWord X (d + 0) F _ _ _ _ hc3) ?_
      rcases m_ite h with ⟨c37, h⟩ | ⟨c37, h⟩
      · refine m_R_1 (by decide) (m_opb_of (ins := .ifCond .eq 7) (len := 3) (tag := 0) (a := 42) (b := 0) (c := 0) (q := 0) (by decide +kernel)) (if_pos c37) ?_
        refine m_R_sg (by decide) [(.aload_n 0, 1, 0, 0, 0, 0, 0), (.ldc2_w 350, 3, 0, 240223, 0, 0, 1732)] (by decide +kernel) (show m_sgl X _ _ _ _ _ = some (46, [some (.ref 304)], [.long (240223 : Int64), .ref 304], (SH, q3.2.1, q3.2.2)) from rfl) ?_
        obtain ⟨q4, hc4, h⟩ := Option.bind_eq_some_iff.mp h
        refine m_R_cV (v := (some (.int q4.1))) (h1 := (SH, q4.2)) (rest := []) (lo' := [some (.ref 304), some (.long (240223 : Int64)), none]) (ml := 3) (k0 := 304) (by decide) (Or.inl rfl) (m_opb_of (ins := .invokevirtual 273) (len := 3) (tag := 5) (a := 233) (b := 1) (c := 0) (q := 1726) (by decide +kernel)) (by decide +kernel) rfl (show m_isO 233 304 (SH, _) = true from m_isO_of (by decide +kernel)) (Nat.le_of_ble_eq_true rfl) rfl rfl (ok_m_isWord X (d + 0) F _ _ _ _ hc4) ?_
        rcases m_ite h with ⟨c38, h⟩ | ⟨c38, h⟩
        · refine m_R_1 (by decide) (m_opb_of (ins := .ifCond .eq 7) (len := 3) (tag := 0) (a := 56) (b := 0) (c := 0) (q := 0) (by decide +kernel)) (if_pos c38) ?_
          refine m_R_sg (by decide) [(.aload_n 0, 1, 0, 0, 0, 0, 0), (.ldc2_w 352, 3, 0, 164138, 0, 0, 1733)] (by decide +kernel) (show m_sgl X _ _ _ _ _ = some (60, [some (.ref 304)], [.long (164138 : Int64), .ref 304], (SH, q4.2.1, q4.2.2)) from rfl) ?_
          obtain ⟨q5, hc5, h⟩ := Option.bind_eq_some_iff.mp h
          refine m_R_cV (v := (some (.int q5.1))) (h1 := (SH, q5.2)) (rest := []) (lo' := [some (.ref 304), some (.long (164138 : Int64)), none]) (ml := 3) (k0 := 304) (by decide) (Or.inl rfl) (m_opb_of (ins := .invokevirtual 273) (len := 3) (tag := 5) (a := 233) (b := 1) (c := 0) (q := 1726) (by decide +kernel)) (by decide +kernel) rfl (show m_isO 233 304 (SH, _) = true from m_isO_of (by decide +kernel)) (Nat.le_of_ble_eq_true rfl) rfl rfl (ok_m_isWord X (d + 0) F _ _ _ _ hc5) ?_
          rcases m_ite h with ⟨c39, h⟩ | ⟨c39, h⟩
          · refine m_R_1 (by decide) (m_opb_of (ins := .ifCond .eq 7) (len := 3) (tag := 0) (a := 70) (b := 0) (c := 0) (q := 0) (by decide +kernel)) (if_pos c39) ?_
            refine m_R_sg (by decide) [(.aload_n 0, 1, 0, 0, 0, 0, 0), (.ldc2_w 354, 3, 0, 380237, 0, 0, 1734)] (by decide +kernel) (show m_sgl X _ _ _ _ _ = some (74, [some (.ref 304)], [.long (380237 : Int64), .ref 304], (SH, q5.2.1, q5.2.2)) from rfl) ?_
            obtain ⟨q6, hc6, h⟩ := Option.bind_eq_some_iff.mp h
            refine m_R_cV (v := (some (.int q6.1))) (h1 := (SH, q6.2)) (rest := []) (lo' := [some (.ref 304), some (.long (380237 : Int64)), none]) (ml := 3) (k0 := 304) (by decide) (Or.inl rfl) (m_opb_of (ins := .invokevirtual 273) (len := 3) (tag := 5) (a := 233) (b := 1) (c := 0) (q := 1726) (by decide +kernel)) (by decide +kernel) rfl (show m_isO 233 304 (SH, _) = true from m_isO_of (by decide +kernel)) (Nat.le_of_ble_eq_true rfl) rfl rfl (ok_m_isWord X (d + 0) F _ _ _ _ hc6) ?_
            rcases m_ite h with ⟨c40, h⟩ | ⟨c40, h⟩
            · refine m_R_1 (by decide) (m_opb_of (ins := .ifCond .eq 7) (len := 3) (tag := 0) (a := 84) (b := 0) (c := 0) (q := 0) (by decide +kernel)) (if_pos c40) ?_
              refine m_R_sg (by decide) [(.aload_n 0, 1, 0, 0, 0, 0, 0), (.ldc2_w 356, 3, 0, 242939, 0, 0, 1735)] (by decide +kernel) (show m_sgl X _ _ _ _ _ = some (88, [some (.ref 304)], [.long (242939 : Int64), .ref 304], (SH, q6.2.1, q6.2.2)) from rfl) ?_
              obtain ⟨q7, hc7, h⟩ := Option.bind_eq_some_iff.mp h
              refine m_R_cV (v := (some (.int q7.1))) (h1 := (SH, q7.2)) (rest := []) (lo' := [some (.ref 304), some (.long (242939 : Int64)), none]) (ml := 3) (k0 := 304) (by decide) (Or.inl rfl) (m_opb_of (ins := .invokevirtual 273) (len := 3) (tag := 5) (a := 233) (b := 1) (c := 0) (q := 1726) (by decide +kernel)) (by decide +kernel) rfl (show m_isO 233 304 (SH, _) = true from m_isO_of (by decide +kernel)) (Nat.le_of_ble_eq_true rfl) rfl rfl (ok_m_isWord X (d + 0) F _ _ _ _ hc7) ?_
              rcases m_ite h with ⟨c41, h⟩ | ⟨c41, h⟩
              · refine m_R_1 (by decide) (m_opb_of (ins := .ifCond .eq 8) (len := 3) (tag := 0) (a := 99) (b := 0) (c := 0) (q := 0) (by decide +kernel)) (if_pos c41) ?_
                refine m_R_sg (by decide) [(.iconst (-1), 1, 0, 1, 1, 0, 0)] (by decide +kernel) (show m_sgl X _ _ _ _ _ = some (100, [some (.ref 304)], [.int (-1 : Int32)], (SH, q7.2.1, q7.2.2)) from rfl) ?_
                exact ok_m_keyHere_100 X d F _ _ _ _ _ h
              · refine m_R_1 (by decide) (m_opb_of (ins := .ifCond .eq 8) (len := 3) (tag := 0) (a := 99) (b := 0) (c := 0) (q := 0) (by decide +kernel)) (if_neg c41) ?_
                refine m_R_sg (by decide) [(.bipush 6, 2, 0, 6, 0, 0, 0), (.goto 4, 3, 0, 100, 0, 0, 0)] (by decide +kernel) (show m_sgl X _ _ _ _ _ = some (100, [some (.ref 304)], [.int (6 : Int32)], (SH, q7.2.1, q7.2.2)) from rfl) ?_
                exact ok_m_keyHere_100 X d F _ _ _ _ _ h
            · refine m_R_1 (by decide) (m_opb_of (ins := .ifCond .eq 7) (len := 3) (tag := 0) (a := 84) (b := 0) (c := 0) (q := 0) (by decide +kernel)) (if_neg c40) ?_
              refine m_R_sg (by decide) [(.iconst 5, 1, 0, 5, 0, 0, 0), (.goto 19, 3, 0, 100, 0, 0, 0)] (by decide +kernel) (show m_sgl X _ _ _ _ _ = some (100, [some (.ref 304)], [.int (5 : Int32)], (SH, q6.2.1, q6.2.2)) from rfl) ?_
              exact ok_m_keyHere_100 X d F _ _ _ _ _ h
          · refine m_R_1 (by decide) (m_opb_of (ins := .ifCond .eq 7) (len := 3) (tag := 0) (a := 70) (b := 0) (c := 0) (q := 0) (by decide +kernel)) (if_neg c39) ?_
            refine m_R_sg (by decide) [(.iconst 4, 1, 0, 4, 0, 0, 0), (.goto 33, 3, 0, 100, 0, 0, 0)] (by decide +kernel) (show m_sgl X _ _ _ _ _ = some (100, [some (.ref 304)], [.int (4 : Int32)], (SH, q5.2.1, q5.2.2)) from rfl) ?_
            exact ok_m_keyHere_100 X d F _ _ _ _ _ h
        · refine m_R_1 (by decide) (m_opb_of (ins := .ifCond .eq 7) (len := 3) (tag := 0) (a := 56) (b := 0) (c := 0) (q := 0) (by decide +kernel)) (if_neg c38) ?_
          refine m_R_sg (by decide) [(.iconst 3, 1, 0, 3, 0, 0, 0), (.goto 47, 3, 0, 100, 0, 0, 0)] (by decide +kernel) (show m_sgl X _ _ _ _ _ = some (100, [some (.ref 304)], [.int (3 : Int32)], (SH, q4.2.1, q4.2.2)) from rfl) ?_
          exact ok_m_keyHere_100 X d F _ _ _ _ _ h
      · refine m_R_1 (by decide) (m_opb_of (ins := .ifCond .eq 7) (len := 3) (tag := 0) (a := 42) (b := 0) (c := 0) (q := 0) (by decide +kernel)) (if_neg c37) ?_
        refine m_R_sg (by decide) [(.iconst 2, 1, 0, 2, 0, 0, 0), (.goto 61, 3, 0, 100, 0, 0, 0)] (by decide +kernel) (show m_sgl X _ _ _ _ _ = some (100, [some (.ref 304)], [.int (2 : Int32)], (SH, q3.2.1, q3.2.2)) from rfl) ?_
        exact ok_m_keyHere_100 X d F _ _ _ _ _ h
    · refine m_R_1 (by decide) (m_opb_of (ins := .ifCond .eq 7) (len := 3) (tag := 0) (a := 28) (b := 0) (c := 0) (q := 0) (by decide +kernel)) (if_neg c36) ?_
      refine m_R_sg (by decide) [(.iconst 1, 1, 0, 1, 0, 0, 0), (.goto 75, 3, 0, 100, 0, 0, 0)] (by decide +kernel) (show m_sgl X _ _ _ _ _ = some (100, [some (.ref 304)], [.int (1 : Int32)], (SH, q2.2.1, q2.2.2)) from rfl) ?_
      exact ok_m_keyHere_100 X d F _ _ _ _ _ h
  · refine m_R_1 (by decide) (m_opb_of (ins := .ifCond .eq 7) (len := 3) (tag := 0) (a := 14) (b := 0) (c := 0) (q := 0) (by decide +kernel)) (if_neg c35) ?_
    refine m_R_sg (by decide) [(.iconst 0, 1, 0, 0, 0, 0, 0), (.goto 89, 3, 0, 100, 0, 0, 0)] (by decide +kernel) (show m_sgl X _ _ _ _ _ = some (100, [some (.ref 304)], [.int (0 : Int32)], (SH, q1.2.1, q1.2.2)) from rfl) ?_
    exact ok_m_keyHere_100 X d F _ _ _ _ _ h
def f_m_fail_20 (F : Nat)    (m : mM) : Option (Unit × mM) := some ((), m)
theorem ok_m_fail_20 (X : mX) (d F : Nat) : ∀  (w0 : Option Value) (m : mM) (r : Unit) (m' : mM), f_m_fail_20 F  m = some (r, m') → m_R X (d + 0) 234 20 [w0] [] (SH, m) (none, (SH, m')) := by
  intro w0 m r m' h
  unfold f_m_fail_20 at h
  obtain ⟨rfl, rfl⟩ := m_some h
  exact m_R_vret (by decide) (m_opb_of (ins := .return_) (len := 1) (tag := 3) (a := 0) (b := 0) (c := 0) (q := 0) (by decide +kernel))
def f_m_fail (F : Nat)    (m : mM) : Option (Unit × mM) := (if (m.1 304 17) = 0 then f_m_fail_20 F ((m_up (m_up m.1 304 17 (1 : Int32)) 304 18 ((m_up m.1 304 17 (1 : Int32)) 304 13)), m.2) else f_m_fail_20 F m)
theorem ok_m_fail (X : mX) (d F : Nat) : ∀   (m : mM) (r : Unit) (m' : mM), f_m_fail F  m = some (r, m') → m_R X (d + 0) 234 0 [some (.ref 304)] [] (SH, m) (none, (SH, m')) := by
  intro m r m' h
  unfold f_m_fail at h
  refine m_R_sg (by decide) [(.aload_n 0, 1, 0, 0, 0, 0, 0), (.getfield 256, 3, 0, 12, 17, 1, 1512)] (by decide +kernel) (show m_sgl X _ _ _ _ _ = some (4, [some (.ref 304)], [.int (m.1 304 17)], (SH, m.1, m.2)) from rfl) ?_
  rcases m_ite h with ⟨c42, h⟩ | ⟨c42, h⟩
  · refine m_R_1 (by decide) (m_opb_of (ins := .ifCond .ne 16) (len := 3) (tag := 0) (a := 20) (b := 0) (c := 0) (q := 0) (by decide +kernel)) (if_pos c42) ?_
    refine m_R_sg (by decide) [(.aload_n 0, 1, 0, 0, 0, 0, 0), (.iconst 1, 1, 0, 1, 0, 0, 0), (.putfield 256, 3, 0, 12, 17, 1, 1512), (.aload_n 0, 1, 0, 0, 0, 0, 0), (.aload_n 0, 1, 0, 0, 0, 0, 0), (.getfield 236, 3, 0, 12, 13, 0, 1508), (.putfield 260, 3, 0, 12, 18, 0, 1513)] (by decide +kernel) (show m_sgl X _ _ _ _ _ = some (20, [some (.ref 304)], [], (SH, (m_up (m_up m.1 304 17 (1 : Int32)) 304 18 ((m_up m.1 304 17 (1 : Int32)) 304 13)), m.2)) from rfl) ?_
    exact ok_m_fail_20 X d F _ _ _ _ h
  · refine m_R_1 (by decide) (m_opb_of (ins := .ifCond .ne 16) (len := 3) (tag := 0) (a := 20) (b := 0) (c := 0) (q := 0) (by decide +kernel)) (if_neg c42) ?_
    exact ok_m_fail_20 X d F _ _ _ _ h
def f_m_isSign_30 (F : Nat)   (s0 : Int32) (m : mM) : Option (Int32 × mM) := (if s0 = 0 ∨ s0 = 1 then some (s0, m) else none)
theorem ok_m_isSign_30 (X : mX) (d F : Nat) : ∀ (s0 : Int32) (w0 : Option Value) (w1 : Option Value) (m : mM) (r : Int32) (m' : mM), f_m_isSign_30 F s0 m = some (r, m') → m_R X (d + 0) 242 30 [w0, w1] [.int s0] (SH, m) (some (.int r), (SH, m')) := by
  intro s0 w0 w1 m r m' h
  unfold f_m_isSign_30 at h
  obtain ⟨c0, h⟩ := m_ite_p h
  obtain ⟨rfl, rfl⟩ := m_some h
  exact m_R_iret (by decide) (m_opb_of (ins := .ireturn) (len := 1) (tag := 1) (a := 1) (b := 0) (c := 0) (q := 0) (by decide +kernel)) (Or.inr c0)
def f_m_isSign_29 (F : Nat)    (m : mM) : Option (Int32 × mM) := f_m_isSign_30 F (0 : Int32) m
theorem ok_m_isSign_29 (X : mX) (d F : Nat) : ∀  (w0 : Option Value) (w1 : Option Value) (m : mM) (r : Int32) (m' : mM), f_m_isSign_29 F  m = some (r, m') → m_R X (d + 0) 242 29 [w0, w1] [] (SH, m) (some (.int r), (SH, m')) := by
  intro w0 w1 m r m' h
  unfold f_m_isSign_29 at h
  refine m_R_sg (by decide) [(.iconst 0, 1, 0, 0, 0, 0, 0)] (by decide +kernel) (show m_sgl X _ _ _ _ _ = some (30, [w0, w1], [.int (0 : Int32)], (SH, m.1, m.2)) from rfl) ?_
  exact ok_m_isSign_30 X d F _ _ _ _ _ _ h
def f_m_isSign (F : Nat)   (v1 : Int32) (m : mM) : Option (Int32 × mM) := (if (m.1 304 17) = 0 then (if (m.1 304 12) = (3 : Int32) then (if (lg_cmp (m.2 304) v1.toInt64) = 0 then f_m_isSign_30 F (1 : Int32) m else f_m_isSign_29 F m) else f_m_isSign_29 F m) else f_m_isSign_29 F m)
theorem ok_m_isSign (X : mX) (d F : Nat) : ∀ (v1 : Int32)  (m : mM) (r : Int32) (m' : mM), f_m_isSign F v1 m = some (r, m') → m_R X (d + 0) 242 0 [some (.ref 304), some (.int v1)] [] (SH, m) (some (.int r), (SH, m')) := by
  intro v1 m r m' h
  unfold f_m_isSign at h
  refine m_R_sg (by decide) [(.aload_n 0, 1, 0, 0, 0, 0, 0), (.getfield 256, 3, 0, 12, 17, 1, 1512)] (by decide +kernel) (show m_sgl X _ _ _ _ _ = some (4, [some (.ref 304), some (.int v1)], [.int (m.1 304 17)], (SH, m.1, m.2)) from rfl) ?_
  rcases m_ite h with ⟨c43, h⟩ | ⟨c43, h⟩
  · refine m_R_1 (by decide) (m_opb_of (ins := .ifCond .ne 25) (len := 3) (tag := 0) (a := 29) (b := 0) (c := 0) (q := 0) (by decide +kernel)) (if_pos c43) ?_
    refine m_R_sg (by decide) [(.aload_n 0, 1, 0, 0, 0, 0, 0), (.getfield 239, 3, 0, 12, 12, 0, 1507), (.iconst 3, 1, 0, 3, 0, 0, 0)] (by decide +kernel) (show m_sgl X _ _ _ _ _ = some (12, [some (.ref 304), some (.int v1)], [.int (3 : Int32), .int (m.1 304 12)], (SH, m.1, m.2)) from rfl) ?_
    rcases m_ite h with ⟨c44, h⟩ | ⟨c44, h⟩
    · refine m_R_1 (by decide) (m_opb_of (ins := .if_icmp .ne 17) (len := 3) (tag := 0) (a := 29) (b := 0) (c := 0) (q := 0) (by decide +kernel)) (if_pos c44) ?_
      refine m_R_sg (by decide) [(.aload_n 0, 1, 0, 0, 0, 0, 0), (.getfield 242, 3, 0, 12, 14, 2, 1509), (.iload_n 1, 1, 0, 1, 0, 0, 0), (.i2l, 1, 0, 0, 0, 0, 0), (.lcmp, 1, 0, 0, 0, 0, 0)] (by decide +kernel) (show m_sgl X _ _ _ _ _ = some (22, [some (.ref 304), some (.int v1)], [.int (lg_cmp (m.2 304) v1.toInt64)], (SH, m.1, m.2)) from rfl) ?_
      rcases m_ite h with ⟨c45, h⟩ | ⟨c45, h⟩
      · refine m_R_1 (by decide) (m_opb_of (ins := .ifCond .ne 7) (len := 3) (tag := 0) (a := 29) (b := 0) (c := 0) (q := 0) (by decide +kernel)) (if_pos c45) ?_
        refine m_R_sg (by decide) [(.iconst 1, 1, 0, 1, 0, 0, 0), (.goto 4, 3, 0, 30, 0, 0, 0)] (by decide +kernel) (show m_sgl X _ _ _ _ _ = some (30, [some (.ref 304), some (.int v1)], [.int (1 : Int32)], (SH, m.1, m.2)) from rfl) ?_
        exact ok_m_isSign_30 X d F _ _ _ _ _ _ h
      · refine m_R_1 (by decide) (m_opb_of (ins := .ifCond .ne 7) (len := 3) (tag := 0) (a := 29) (b := 0) (c := 0) (q := 0) (by decide +kernel)) (if_neg c45) ?_
        exact ok_m_isSign_29 X d F _ _ _ _ _ h
    · refine m_R_1 (by decide) (m_opb_of (ins := .if_icmp .ne 17) (len := 3) (tag := 0) (a := 29) (b := 0) (c := 0) (q := 0) (by decide +kernel)) (if_neg c44) ?_
      exact ok_m_isSign_29 X d F _ _ _ _ _ h
  · refine m_R_1 (by decide) (m_opb_of (ins := .ifCond .ne 25) (len := 3) (tag := 0) (a := 29) (b := 0) (c := 0) (q := 0) (by decide +kernel)) (if_neg c43) ?_
    exact ok_m_isSign_29 X d F _ _ _ _ _ h
def f_m_opens (F : Nat)    (m : mM) : Option (Int32 × mM) := (if (m.1 304 16) = (6 : Int32) then ((f_m_fail F m).bind fun q1 => some ((0 : Int32), q1.2)) else ((f_m_next F ((m_up m.1 304 16 ((m.1 304 16) + (1 : Int32))), m.2)).bind fun q2 => some ((1 : Int32), q2.2)))
theorem ok_m_opens (X : mX) (d F : Nat) : ∀   (m : mM) (r : Int32) (m' : mM), f_m_opens F  m = some (r, m') → m_R X (d + 2) 238 0 [some (.ref 304)] [] (SH, m) (some (.int r), (SH, m')) := by
  intro m r m' h
  unfold f_m_opens at h
  refine m_R_sg (by decide) [(.aload_n 0, 1, 0, 0, 0, 0, 0), (.getfield 263, 3, 0, 12, 16, 0, 1511), (.bipush 6, 2, 0, 6, 0, 0, 0)] (by decide +kernel) (show m_sgl X _ _ _ _ _ = some (6, [some (.ref 304)], [.int (6 : Int32), .int (m.1 304 16)], (SH, m.1, m.2)) from rfl) ?_
  rcases m_ite h with ⟨c46, h⟩ | ⟨c46, h⟩
  · refine m_R_1 (by decide) (m_opb_of (ins := .if_icmp .ne 9) (len := 3) (tag := 0) (a := 15) (b := 0) (c := 0) (q := 0) (by decide +kernel)) (if_pos c46) ?_
    refine m_R_sg (by decide) [(.aload_n 0, 1, 0, 0, 0, 0, 0)] (by decide +kernel) (show m_sgl X _ _ _ _ _ = some (10, [some (.ref 304)], [.ref 304], (SH, m.1, m.2)) from rfl) ?_
    obtain ⟨q1, hc1, h⟩ := Option.bind_eq_some_iff.mp h
    refine m_R_cV (v := none) (h1 := (SH, q1.2)) (rest := []) (lo' := [some (.ref 304)]) (ml := 1) (k0 := 304) (by decide) (Or.inl rfl) (m_opb_of (ins := .invokevirtual 266) (len := 3) (tag := 5) (a := 234) (b := 0) (c := 0) (q := 1736) (by decide +kernel)) (by decide +kernel) rfl (show m_isO 234 304 (SH, _) = true from m_isO_of (by decide +kernel)) (Nat.le_of_ble_eq_true rfl) rfl rfl (ok_m_fail X (d + 1) F _ _ _ hc1) ?_
    refine m_R_sg (by decide) [(.iconst 0, 1, 0, 0, 0, 0, 0)] (by decide +kernel) (show m_sgl X _ _ _ _ _ = some (14, [some (.ref 304)], [.int (0 : Int32)], (SH, q1.2.1, q1.2.2)) from rfl) ?_
    obtain ⟨rfl, rfl⟩ := m_some h
    exact m_R_iret (by decide) (m_opb_of (ins := .ireturn) (len := 1) (tag := 1) (a := 1) (b := 0) (c := 0) (q := 0) (by decide +kernel)) (Or.inr (Or.inl rfl))
  · refine m_R_1 (by decide) (m_opb_of (ins := .if_icmp .ne 9) (len := 3) (tag := 0) (a := 15) (b := 0) (c := 0) (q := 0) (by decide +kernel)) (if_neg c46) ?_
    refine m_R_sg (by decide) [(.aload_n 0, 1, 0, 0, 0, 0, 0), (.dup, 1, 0, 0, 0, 0, 0), (.getfield 263, 3, 0, 12, 16, 0, 1511), (.iconst 1, 1, 0, 1, 0, 0, 0), (.iadd, 1, 0, 0, 0, 0, 0), (.putfield 263, 3, 0, 12, 16, 0, 1511), (.aload_n 0, 1, 0, 0, 0, 0, 0)] (by decide +kernel) (show m_sgl X _ _ _ _ _ = some (26, [some (.ref 304)], [.ref 304], (SH, (m_up m.1 304 16 ((m.1 304 16) + (1 : Int32))), m.2)) from rfl) ?_
    obtain ⟨q2, hc2, h⟩ := Option.bind_eq_some_iff.mp h
    refine m_R_cV (v := none) (h1 := (SH, q2.2)) (rest := []) (lo' := [some (.ref 304), none, none]) (ml := 3) (k0 := 304) (by decide) (Or.inl rfl) (m_opb_of (ins := .invokevirtual 269) (len := 3) (tag := 5) (a := 230) (b := 0) (c := 0) (q := 1708) (by decide +kernel)) (by decide +kernel) rfl (show m_isO 230 304 (SH, _) = true from m_isO_of (by decide +kernel)) (Nat.le_of_ble_eq_true rfl) rfl rfl (ok_m_next X (d + 0) F _ _ _ hc2) ?_
    refine m_R_sg (by decide) [(.iconst 1, 1, 0, 1, 0, 0, 0)] (by decide +kernel) (show m_sgl X _ _ _ _ _ = some (30, [some (.ref 304)], [.int (1 : Int32)], (SH, q2.2.1, q2.2.2)) from rfl) ?_
    obtain ⟨rfl, rfl⟩ := m_some h
    exact m_R_iret (by decide) (m_opb_of (ins := .ireturn) (len := 1) (tag := 1) (a := 1) (b := 0) (c := 0) (q := 0) (by decide +kernel)) (Or.inr (Or.inr rfl))
def f_m_out (F : Nat)    (m : mM) : Option (Int32 × mM) := ((f_m_many F (1 : Int32) m).bind fun q1 => some (((10 : Int32) * q1.1), q1.2))
theorem ok_m_out (X : mX) (d F : Nat) : ∀   (m : mM) (r : Int32) (m' : mM), f_m_out F  m = some (r, m') → m_R X (d + 2) 244 0 [some (.ref 304)] [] (SH, m) (some (.int r), (SH, m')) := by
  intro m r m' h
  unfold f_m_out at h
  refine m_R_sg (by decide) [(.bipush 10, 2, 0, 10, 0, 0, 0), (.aload_n 0, 1, 0, 0, 0, 0, 0), (.iconst 1, 1, 0, 1, 0, 0, 0)] (by decide +kernel) (show m_sgl X _ _ _ _ _ = some (4, [some (.ref 304)], [.int (1 : Int32), .ref 304, .int (10 : Int32)], (SH, m.1, m.2)) from rfl) ?_
  obtain ⟨q1, hc1, h⟩ := Option.bind_eq_some_iff.mp h
  refine m_R_cV (v := (some (.int q1.1))) (h1 := (SH, q1.2)) (rest := [.int (10 : Int32)]) (lo' := [some (.ref 304), some (.int (1 : Int32)), none, none]) (ml := 4) (k0 := 304) (by decide) (Or.inl rfl) (m_opb_of (ins := .invokevirtual 109) (len := 3) (tag := 5) (a := 223) (b := 1) (c := 0) (q := 1680) (by decide +kernel)) (by decide +kernel) rfl (show m_isO 223 304 (SH, _) = true from m_isO_of (by decide +kernel)) (Nat.le_of_ble_eq_true rfl) rfl rfl (ok_m_many X (d + 0) F _ _ _ _ hc1) ?_
  refine m_R_sg (by decide) [(.imul, 1, 0, 0, 0, 0, 0)] (by decide +kernel) (show m_sgl X _ _ _ _ _ = some (8, [some (.ref 304)], [.int ((10 : Int32) * q1.1)], (SH, q1.2.1, q1.2.2)) from rfl) ?_
  obtain ⟨rfl, rfl⟩ := m_some h
  exact m_R_iret (by decide) (m_opb_of (ins := .ireturn) (len := 1) (tag := 1) (a := 0) (b := 0) (c := 0) (q := 0) (by decide +kernel)) (Or.inl rfl)
def f_m_reserve_44 (F : Nat)   (s0 : Int32) (m : mM) : Option (Int32 × mM) := some (s0, m)
theorem ok_m_reserve_44 (X : mX) (d F : Nat) : ∀ (s0 : Int32) (w0 : Option Value) (w1 : Option Value) (w2 : Option Value) (w3 : Option Value) (m : mM) (r : Int32) (m' : mM), f_m_reserve_44 F s0 m = some (r, m') → m_R X (d + 3) 245 44 [w0, w1, w2, w3] [.int s0] (SH, m) (some (.int r), (SH, m')) := by
  intro s0 w0 w1 w2 w3 m r m' h
  unfold f_m_reserve_44 at h
  obtain ⟨rfl, rfl⟩ := m_some h
  exact m_R_iret (by decide) (m_opb_of (ins := .ireturn) (len := 1) (tag := 1) (a := 0) (b := 0) (c := 0) (q := 0) (by decide +kernel)) (Or.inl rfl)
def f_m_reserve (F : Nat)    (m : mM) : Option (Int32 × mM) := ((f_m_out F m).bind fun q1 => (if q1.1 = 0 then some ((999 : Int32), q1.2) else ((f_m_hs F (0 : Int32) (2 : Int32) q1.2).bind fun q2 => (if q1.1.toInt64 = 0 then none else (if (lg_cmp ((q2.1.toInt64 * (100 : Int64)) / q1.1.toInt64) (999 : Int64)) ≤ 0 then f_m_reserve_44 F ((q2.1.toInt64 * (100 : Int64)) / q1.1.toInt64).toInt32 q2.2 else f_m_reserve_44 F (999 : Int32) q2.2)))))
theorem ok_m_reserve (X : mX) (d F : Nat) : ∀   (m : mM) (r : Int32) (m' : mM), f_m_reserve F  m = some (r, m') → m_R X (d + 3) 245 0 [some (.ref 304), none, none, none] [] (SH, m) (some (.int r), (SH, m')) := by
  intro m r m' h
  unfold f_m_reserve at h
  refine m_R_sg (by decide) [(.aload_n 0, 1, 0, 0, 0, 0, 0)] (by decide +kernel) (show m_sgl X _ _ _ _ _ = some (1, [some (.ref 304), none, none, none], [.ref 304], (SH, m.1, m.2)) from rfl) ?_
  obtain ⟨q1, hc1, h⟩ := Option.bind_eq_some_iff.mp h
  refine m_R_cV (v := (some (.int q1.1))) (h1 := (SH, q1.2)) (rest := []) (lo' := [some (.ref 304)]) (ml := 1) (k0 := 304) (by decide) (Or.inl rfl) (m_opb_of (ins := .invokevirtual 112) (len := 3) (tag := 5) (a := 244) (b := 0) (c := 0) (q := 1779) (by decide +kernel)) (by decide +kernel) rfl (show m_isO 244 304 (SH, _) = true from m_isO_of (by decide +kernel)) (Nat.le_of_ble_eq_true rfl) rfl rfl (ok_m_out X (d + 0) F _ _ _ hc1) ?_
  refine m_R_sg (by decide) [(.istore_n 1, 1, 0, 1, 0, 0, 0), (.iload_n 1, 1, 0, 1, 0, 0, 0)] (by decide +kernel) (show m_sgl X _ _ _ _ _ = some (6, [some (.ref 304), some (.int q1.1), none, none], [.int q1.1], (SH, q1.2.1, q1.2.2)) from rfl) ?_
  rcases m_ite h with ⟨c47, h⟩ | ⟨c47, h⟩
  · refine m_R_1 (by decide) (m_opb_of (ins := .ifCond .ne 7) (len := 3) (tag := 0) (a := 13) (b := 0) (c := 0) (q := 0) (by decide +kernel)) (if_pos c47) ?_
    refine m_R_sg (by decide) [(.sipush 999, 3, 0, 999, 0, 0, 0)] (by decide +kernel) (show m_sgl X _ _ _ _ _ = some (12, [some (.ref 304), some (.int q1.1), none, none], [.int (999 : Int32)], (SH, q1.2.1, q1.2.2)) from rfl) ?_
    obtain ⟨rfl, rfl⟩ := m_some h
    exact m_R_iret (by decide) (m_opb_of (ins := .ireturn) (len := 1) (tag := 1) (a := 0) (b := 0) (c := 0) (q := 0) (by decide +kernel)) (Or.inl rfl)
  · refine m_R_1 (by decide) (m_opb_of (ins := .ifCond .ne 7) (len := 3) (tag := 0) (a := 13) (b := 0) (c := 0) (q := 0) (by decide +kernel)) (if_neg c47) ?_
    refine m_R_sg (by decide) [(.aload_n 0, 1, 0, 0, 0, 0, 0), (.iconst 0, 1, 0, 0, 0, 0, 0), (.iconst 2, 1, 0, 2, 0, 0, 0)] (by decide +kernel) (show m_sgl X _ _ _ _ _ = some (16, [some (.ref 304), some (.int q1.1), none, none], [.int (2 : Int32), .int (0 : Int32), .ref 304], (SH, q1.2.1, q1.2.2)) from rfl) ?_
    obtain ⟨q2, hc2, h⟩ := Option.bind_eq_some_iff.mp h
    refine m_R_cV (v := (some (.int q2.1))) (h1 := (SH, q2.2)) (rest := []) (lo' := [some (.ref 304), some (.int (0 : Int32)), some (.int (2 : Int32))]) (ml := 3) (k0 := 304) (by decide) (Or.inl rfl) (m_opb_of (ins := .invokevirtual 65) (len := 3) (tag := 5) (a := 212) (b := 2) (c := 0) (q := 1636) (by decide +kernel)) (by decide +kernel) rfl (show m_isO 212 304 (SH, _) = true from m_isO_of (by decide +kernel)) (Nat.le_of_ble_eq_true rfl) rfl rfl (ok_m_hs X (d + 2) F _ _ _ _ _ hc2) ?_
    refine m_R_sg (by decide) [(.i2l, 1, 0, 0, 0, 0, 0), (.ldc2_w 116, 3, 0, 100, 0, 0, 1788), (.lmul, 1, 0, 0, 0, 0, 0), (.iload_n 1, 1, 0, 1, 0, 0, 0), (.i2l, 1, 0, 0, 0, 0, 0)] (by decide +kernel) (show m_sgl X _ _ _ _ _ = some (26, [some (.ref 304), some (.int q1.1), none, none], [.long q1.1.toInt64, .long (q2.1.toInt64 * (100 : Int64))], (SH, q2.2.1, q2.2.2)) from rfl) ?_
    obtain ⟨c48, h⟩ := m_ite_n h
    refine m_R_1 (by decide) (m_opb_of (ins := .ldiv) (len := 1) (tag := 0) (a := 0) (b := 0) (c := 0) (q := 0) (by decide +kernel)) (m_s_ldiv c48) ?_
    refine m_R_sg (by decide) [(.lstore_n 2, 1, 0, 2, 0, 0, 0), (.lload_n 2, 1, 0, 2, 0, 0, 0), (.ldc2_w 118, 3, 0, 999, 0, 0, 1789), (.lcmp, 1, 0, 0, 0, 0, 0)] (by decide +kernel) (show m_sgl X _ _ _ _ _ = some (33, [some (.ref 304), some (.int q1.1), some (.long ((q2.1.toInt64 * (100 : Int64)) / q1.1.toInt64)), none], [.int (lg_cmp ((q2.1.toInt64 * (100 : Int64)) / q1.1.toInt64) (999 : Int64))], (SH, q2.2.1, q2.2.2)) from rfl) ?_
    rcases m_ite h with ⟨c49, h⟩ | ⟨c49, h⟩
    · refine m_R_1 (by decide) (m_opb_of (ins := .ifCond .le 9) (len := 3) (tag := 0) (a := 42) (b := 0) (c := 0) (q := 0) (by decide +kernel)) (if_pos c49) ?_
      refine m_R_sg (by decide) [(.lload_n 2, 1, 0, 2, 0, 0, 0), (.l2i, 1, 0, 0, 0, 0, 0)] (by decide +kernel) (show m_sgl X _ _ _ _ _ = some (44, [some (.ref 304), some (.int q1.1), some (.long ((q2.1.toInt64 * (100 : Int64)) / q1.1.toInt64)), none], [.int ((q2.1.toInt64 * (100 : Int64)) / q1.1.toInt64).toInt32], (SH, q2.2.1, q2.2.2)) from rfl) ?_
      exact ok_m_reserve_44 X d F _ _ _ _ _ _ _ _ h
    · refine m_R_1 (by decide) (m_opb_of (ins := .ifCond .le 9) (len := 3) (tag := 0) (a := 42) (b := 0) (c := 0) (q := 0) (by decide +kernel)) (if_neg c49) ?_
      refine m_R_sg (by decide) [(.sipush 999, 3, 0, 999, 0, 0, 0), (.goto 5, 3, 0, 44, 0, 0, 0)] (by decide +kernel) (show m_sgl X _ _ _ _ _ = some (44, [some (.ref 304), some (.int q1.1), some (.long ((q2.1.toInt64 * (100 : Int64)) / q1.1.toInt64)), none], [.int (999 : Int32)], (SH, q2.2.1, q2.2.2)) from rfl) ?_
      exact ok_m_reserve_44 X d F _ _ _ _ _ _ _ _ h
def f_m_paper (F : Nat)   (v1 : Int32) (v2 : Int32) (m : mM) : Option (Int32 × mM) := (if (((6200 : Int32) + ((20 : Int32) * v1)) + v2) < 0 ∨ 9732 ≤ (((6200 : Int32) + ((20 : Int32) * v1)) + v2).toNatClampNeg then none else some ((m.1 305 (((6200 : Int32) + ((20 : Int32) * v1)) + v2).toNatClampNeg), m))
theorem ok_m_paper (X : mX) (d F : Nat) : ∀ (v1 : Int32) (v2 : Int32)  (m : mM) (r : Int32) (m' : mM), f_m_paper F v1 v2 m = some (r, m') → m_R X (d + 0) 246 0 [some (.ref 304), some (.int v1), some (.int v2)] [] (SH, m) (some (.int r), (SH, m')) := by
  intro v1 v2 m r m' h
  unfold f_m_paper at h
  refine m_R_sg (by decide) [(.aload_n 0, 1, 0, 0, 0, 0, 0), (.getfield 13, 3, 0, 12, 1, 3, 1496), (.sipush 6200, 3, 0, 6200, 0, 0, 0), (.bipush 20, 2, 0, 20, 0, 0, 0), (.iload_n 1, 1, 0, 1, 0, 0, 0), (.imul, 1, 0, 0, 0, 0, 0), (.iadd, 1, 0, 0, 0, 0, 0), (.iload_n 2, 1, 0, 2, 0, 0, 0), (.iadd, 1, 0, 0, 0, 0, 0)] (by decide +kernel) (show m_sgl X _ _ _ _ _ = some (14, [some (.ref 304), some (.int v1), some (.int v2)], [.int (((6200 : Int32) + ((20 : Int32) * v1)) + v2), .ref 305], (SH, m.1, m.2)) from rfl) ?_
  obtain ⟨c50, h⟩ := m_ite_n h
  refine m_R_1 (by decide) (m_opb_of (ins := .iaload) (len := 1) (tag := 0) (a := 0) (b := 0) (c := 0) (q := 0) (by decide +kernel)) (m_s_iald sh_305 (by decide) c50) ?_
  obtain ⟨rfl, rfl⟩ := m_some h
  exact m_R_iret (by decide) (m_opb_of (ins := .ireturn) (len := 1) (tag := 1) (a := 0) (b := 0) (c := 0) (q := 0) (by decide +kernel)) (Or.inl rfl)
def f_m_name__143 (F : Nat)   (s0 : Int32) (m : mM) : Option (Int32 × mM) := some (s0, m)
theorem ok_m_name__143 (X : mX) (d F : Nat) : ∀ (s0 : Int32) (w0 : Option Value) (w1 : Option Value) (m : mM) (r : Int32) (m' : mM), f_m_name__143 F s0 m = some (r, m') → m_R X (d + 4) 243 143 [w0, w1] [.int s0] (SH, m) (some (.int r), (SH, m')) := by
  intro s0 w0 w1 m r m' h
  unfold f_m_name__143 at h
  obtain ⟨rfl, rfl⟩ := m_some h
  exact m_R_iret (by decide) (m_opb_of (ins := .ireturn) (len := 1) (tag := 1) (a := 0) (b := 0) (c := 0) (q := 0) (by decide +kernel)) (Or.inl rfl)
def f_m_name__178 (F : Nat)   (s0 : Int32) (m : mM) : Option (Int32 × mM) := some (s0, m)
theorem ok_m_name__178 (X : mX) (d F : Nat) : ∀ (s0 : Int32) (w0 : Option Value) (w1 : Option Value) (m : mM) (r : Int32) (m' : mM), f_m_name__178 F s0 m = some (r, m') → m_R X (d + 4) 243 178 [w0, w1] [.int s0] (SH, m) (some (.int r), (SH, m')) := by
  intro s0 w0 w1 m r m' h
  unfold f_m_name__178 at h
  obtain ⟨rfl, rfl⟩ := m_some h
  exact m_R_iret (by decide) (m_opb_of (ins := .ireturn) (len := 1) (tag := 1) (a := 0) (b := 0) (c := 0) (q := 0) (by decide +kernel)) (Or.inl rfl)
def f_m_name__207 (F : Nat)   (s0 : Int32) (m : mM) : Option (Int32 × mM) := some (s0, m)
theorem ok_m_name__207 (X : mX) (d F : Nat) : ∀ (s0 : Int32) (w0 : Option Value) (w1 : Option Value) (m : mM) (r : Int32) (m' : mM), f_m_name__207 F s0 m = some (r, m') → m_R X (d + 4) 243 207 [w0, w1] [.int s0] (SH, m) (some (.int r), (SH, m')) := by
  intro s0 w0 w1 m r m' h
  unfold f_m_name__207 at h
  obtain ⟨rfl, rfl⟩ := m_some h
  exact m_R_iret (by decide) (m_opb_of (ins := .ireturn) (len := 1) (tag := 1) (a := 0) (b := 0) (c := 0) (q := 0) (by decide +kernel)) (Or.inl rfl)
def f_m_name__240 (F : Nat)   (s0 : Int32) (m : mM) : Option (Int32 × mM) := some (s0, m)
theorem ok_m_name__240 (X : mX) (d F : Nat) : ∀ (s0 : Int32) (w0 : Option Value) (w1 : Option Value) (m : mM) (r : Int32) (m' : mM), f_m_name__240 F s0 m = some (r, m') → m_R X (d + 4) 243 240 [w0, w1] [.int s0] (SH, m) (some (.int r), (SH, m')) := by
  intro s0 w0 w1 m r m' h
  unfold f_m_name__240 at h
  obtain ⟨rfl, rfl⟩ := m_some h
  exact m_R_iret (by decide) (m_opb_of (ins := .ireturn) (len := 1) (tag := 1) (a := 0) (b := 0) (c := 0) (q := 0) (by decide +kernel)) (Or.inl rfl)
def f_m_name__115 (F : Nat)   (s0 : Int32) (m : mM) : Option (Int32 × mM) := ((f_m_isWord F (14431 : Int64) m).bind fun q10 => (if q10.1 = 0 then ((f_m_isWord F (80155 : Int64) q10.2).bind fun q11 => (if q11.1 = 0 then ((f_m_isWord F (7469488 : Int64) q11.2).bind fun q12 => (if q12.1 = 0 then ((f_m_isWord F (405230 : Int64) q12.2).bind fun q13 => (if q13.1 = 0 then ((f_m_fail F q13.2).bind fun q14 => some ((0 : Int32), q14.2)) else (if s0 = 0 then ((f_m_paper F (q13.2.1 304 19) (3 : Int32) q13.2).bind fun q15 => ((f_m_hs F q15.1 (1 : Int32) q15.2).bind fun q16 => f_m_name__240 F q16.1 q16.2)) else f_m_name__240 F (0 : Int32) q13.2))) else (if s0 = 0 then ((f_m_paper F (q12.2.1 304 19) (7 : Int32) q12.2).bind fun q17 => f_m_name__207 F q17.1 q17.2) else f_m_name__207 F (0 : Int32) q12.2))) else (if s0 = 0 then ((f_m_paper F (q11.2.1 304 19) (5 : Int32) q11.2).bind fun q18 => f_m_name__178 F (q18.1 - (q18.2.1 305 (0 : Int32).toNatClampNeg)) q18.2) else f_m_name__178 F (0 : Int32) q11.2))) else (if s0 = 0 then ((f_m_paper F (q10.2.1 304 19) (2 : Int32) q10.2).bind fun q19 => f_m_name__143 F q19.1 q19.2) else f_m_name__143 F (0 : Int32) q10.2)))
theorem ok_m_name__115 (X : mX) (d F : Nat) : ∀ (s0 : Int32) (w1 : Option Value) (m : mM) (r : Int32) (m' : mM), f_m_name__115 F s0 m = some (r, m') → m_R X (d + 4) 243 115 [some (.ref 304), w1] [.int s0] (SH, m) (some (.int r), (SH, m')) := by
  intro s0 w1 m r m' h
  unfold f_m_name__115 at h
  refine m_R_sg (by decide) [(.istore_n 1, 1, 0, 1, 0, 0, 0), (.aload_n 0, 1, 0, 0, 0, 0, 0), (.ldc2_w 293, 3, 0, 14431, 0, 0, 1793)] (by decide +kernel) (show m_sgl X _ _ _ _ _ = some (120, [some (.ref 304), some (.int s0)], [.long (14431 : Int64), .ref 304], (SH, m.1, m.2)) from rfl) ?_
  obtain ⟨q10, hc10, h⟩ := Option.bind_eq_some_iff.mp h
  refine m_R_cV (v := (some (.int q10.1))) (h1 := (SH, q10.2)) (rest := []) (lo' := [some (.ref 304), some (.long (14431 : Int64)), none]) (ml := 3) (k0 := 304) (by decide) (Or.inl rfl) (m_opb_of (ins := .invokevirtual 273) (len := 3) (tag := 5) (a := 233) (b := 1) (c := 0) (q := 1726) (by decide +kernel)) (by decide +kernel) rfl (show m_isO 233 304 (SH, _) = true from m_isO_of (by decide +kernel)) (Nat.le_of_ble_eq_true rfl) rfl rfl (ok_m_isWord X (d + 3) F _ _ _ _ hc10) ?_
  rcases m_ite h with ⟨c51, h⟩ | ⟨c51, h⟩
  · refine m_R_1 (by decide) (m_opb_of (ins := .ifCond .eq 21) (len := 3) (tag := 0) (a := 144) (b := 0) (c := 0) (q := 0) (by decide +kernel)) (if_pos c51) ?_
    refine m_R_sg (by decide) [(.aload_n 0, 1, 0, 0, 0, 0, 0), (.ldc2_w 295, 3, 0, 80155, 0, 0, 1798)] (by decide +kernel) (show m_sgl X _ _ _ _ _ = some (148, [some (.ref 304), some (.int s0)], [.long (80155 : Int64), .ref 304], (SH, q10.2.1, q10.2.2)) from rfl) ?_
    obtain ⟨q11, hc11, h⟩ := Option.bind_eq_some_iff.mp h
    refine m_R_cV (v := (some (.int q11.1))) (h1 := (SH, q11.2)) (rest := []) (lo' := [some (.ref 304), some (.long (80155 : Int64)), none]) (ml := 3) (k0 := 304) (by decide) (Or.inl rfl) (m_opb_of (ins := .invokevirtual 273) (len := 3) (tag := 5) (a := 233) (b := 1) (c := 0) (q := 1726) (by decide +kernel)) (by decide +kernel) rfl (show m_isO 233 304 (SH, _) = true from m_isO_of (by decide +kernel)) (Nat.le_of_ble_eq_true rfl) rfl rfl (ok_m_isWord X (d + 3) F _ _ _ _ hc11) ?_
    rcases m_ite h with ⟨c52, h⟩ | ⟨c52, h⟩
    · refine m_R_1 (by decide) (m_opb_of (ins := .ifCond .eq 28) (len := 3) (tag := 0) (a := 179) (b := 0) (c := 0) (q := 0) (by decide +kernel)) (if_pos c52) ?_
      refine m_R_sg (by decide) [(.aload_n 0, 1, 0, 0, 0, 0, 0), (.ldc2_w 297, 3, 0, 7469488, 0, 0, 1799)] (by decide +kernel) (show m_sgl X _ _ _ _ _ = some (183, [some (.ref 304), some (.int s0)], [.long (7469488 : Int64), .ref 304], (SH, q11.2.1, q11.2.2)) from rfl) ?_
      obtain ⟨q12, hc12, h⟩ := Option.bind_eq_some_iff.mp h
      refine m_R_cV (v := (some (.int q12.1))) (h1 := (SH, q12.2)) (rest := []) (lo' := [some (.ref 304), some (.long (7469488 : Int64)), none]) (ml := 3) (k0 := 304) (by decide) (Or.inl rfl) (m_opb_of (ins := .invokevirtual 273) (len := 3) (tag := 5) (a := 233) (b := 1) (c := 0) (q := 1726) (by decide +kernel)) (by decide +kernel) rfl (show m_isO 233 304 (SH, _) = true from m_isO_of (by decide +kernel)) (Nat.le_of_ble_eq_true rfl) rfl rfl (ok_m_isWord X (d + 3) F _ _ _ _ hc12) ?_
      rcases m_ite h with ⟨c53, h⟩ | ⟨c53, h⟩
      · refine m_R_1 (by decide) (m_opb_of (ins := .ifCond .eq 22) (len := 3) (tag := 0) (a := 208) (b := 0) (c := 0) (q := 0) (by decide +kernel)) (if_pos c53) ?_
        refine m_R_sg (by decide) [(.aload_n 0, 1, 0, 0, 0, 0, 0), (.ldc2_w 299, 3, 0, 405230, 0, 0, 1800)] (by decide +kernel) (show m_sgl X _ _ _ _ _ = some (212, [some (.ref 304), some (.int s0)], [.long (405230 : Int64), .ref 304], (SH, q12.2.1, q12.2.2)) from rfl) ?_
        obtain ⟨q13, hc13, h⟩ := Option.bind_eq_some_iff.mp h
        refine m_R_cV (v := (some (.int q13.1))) (h1 := (SH, q13.2)) (rest := []) (lo' := [some (.ref 304), some (.long (405230 : Int64)), none]) (ml := 3) (k0 := 304) (by decide) (Or.inl rfl) (m_opb_of (ins := .invokevirtual 273) (len := 3) (tag := 5) (a := 233) (b := 1) (c := 0) (q := 1726) (by decide +kernel)) (by decide +kernel) rfl (show m_isO 233 304 (SH, _) = true from m_isO_of (by decide +kernel)) (Nat.le_of_ble_eq_true rfl) rfl rfl (ok_m_isWord X (d + 3) F _ _ _ _ hc13) ?_
        rcases m_ite h with ⟨c54, h⟩ | ⟨c54, h⟩
        · refine m_R_1 (by decide) (m_opb_of (ins := .ifCond .eq 26) (len := 3) (tag := 0) (a := 241) (b := 0) (c := 0) (q := 0) (by decide +kernel)) (if_pos c54) ?_
          refine m_R_sg (by decide) [(.aload_n 0, 1, 0, 0, 0, 0, 0)] (by decide +kernel) (show m_sgl X _ _ _ _ _ = some (242, [some (.ref 304), some (.int s0)], [.ref 304], (SH, q13.2.1, q13.2.2)) from rfl) ?_
          obtain ⟨q14, hc14, h⟩ := Option.bind_eq_some_iff.mp h
          refine m_R_cV (v := none) (h1 := (SH, q14.2)) (rest := []) (lo' := [some (.ref 304)]) (ml := 1) (k0 := 304) (by decide) (Or.inl rfl) (m_opb_of (ins := .invokevirtual 266) (len := 3) (tag := 5) (a := 234) (b := 0) (c := 0) (q := 1736) (by decide +kernel)) (by decide +kernel) rfl (show m_isO 234 304 (SH, _) = true from m_isO_of (by decide +kernel)) (Nat.le_of_ble_eq_true rfl) rfl rfl (ok_m_fail X (d + 3) F _ _ _ hc14) ?_
          refine m_R_sg (by decide) [(.iconst 0, 1, 0, 0, 0, 0, 0)] (by decide +kernel) (show m_sgl X _ _ _ _ _ = some (246, [some (.ref 304), some (.int s0)], [.int (0 : Int32)], (SH, q14.2.1, q14.2.2)) from rfl) ?_
          obtain ⟨rfl, rfl⟩ := m_some h
          exact m_R_iret (by decide) (m_opb_of (ins := .ireturn) (len := 1) (tag := 1) (a := 0) (b := 0) (c := 0) (q := 0) (by decide +kernel)) (Or.inl rfl)
        · refine m_R_1 (by decide) (m_opb_of (ins := .ifCond .eq 26) (len := 3) (tag := 0) (a := 241) (b := 0) (c := 0) (q := 0) (by decide +kernel)) (if_neg c54) ?_
          refine m_R_sg (by decide) [(.iload_n 1, 1, 0, 1, 0, 0, 0)] (by decide +kernel) (show m_sgl X _ _ _ _ _ = some (219, [some (.ref 304), some (.int s0)], [.int s0], (SH, q13.2.1, q13.2.2)) from rfl) ?_
          rcases m_ite h with ⟨c55, h⟩ | ⟨c55, h⟩
          · refine m_R_1 (by decide) (m_opb_of (ins := .ifCond .eq 7) (len := 3) (tag := 0) (a := 226) (b := 0) (c := 0) (q := 0) (by decide +kernel)) (if_pos c55) ?_
            refine m_R_sg (by decide) [(.aload_n 0, 1, 0, 0, 0, 0, 0), (.aload_n 0, 1, 0, 0, 0, 0, 0), (.aload_n 0, 1, 0, 0, 0, 0, 0), (.getfield 290, 3, 0, 12, 19, 0, 1514), (.iconst 3, 1, 0, 3, 0, 0, 0)] (by decide +kernel) (show m_sgl X _ _ _ _ _ = some (233, [some (.ref 304), some (.int s0)], [.int (3 : Int32), .int (q13.2.1 304 19), .ref 304, .ref 304], (SH, q13.2.1, q13.2.2)) from rfl) ?_
            obtain ⟨q15, hc15, h⟩ := Option.bind_eq_some_iff.mp h
            refine m_R_cV (v := (some (.int q15.1))) (h1 := (SH, q15.2)) (rest := [.ref 304]) (lo' := [some (.ref 304), some (.int (q13.2.1 304 19)), some (.int (3 : Int32))]) (ml := 3) (k0 := 304) (by decide) (Or.inl rfl) (m_opb_of (ins := .invokevirtual 160) (len := 3) (tag := 5) (a := 246) (b := 2) (c := 0) (q := 1794) (by decide +kernel)) (by decide +kernel) rfl (show m_isO 246 304 (SH, _) = true from m_isO_of (by decide +kernel)) (Nat.le_of_ble_eq_true rfl) rfl rfl (ok_m_paper X (d + 3) F _ _ _ _ _ hc15) ?_
            refine m_R_sg (by decide) [(.iconst 1, 1, 0, 1, 0, 0, 0)] (by decide +kernel) (show m_sgl X _ _ _ _ _ = some (237, [some (.ref 304), some (.int s0)], [.int (1 : Int32), .int q15.1, .ref 304], (SH, q15.2.1, q15.2.2)) from rfl) ?_
            obtain ⟨q16, hc16, h⟩ := Option.bind_eq_some_iff.mp h
            refine m_R_cV (v := (some (.int q16.1))) (h1 := (SH, q16.2)) (rest := []) (lo' := [some (.ref 304), some (.int q15.1), some (.int (1 : Int32))]) (ml := 3) (k0 := 304) (by decide) (Or.inl rfl) (m_opb_of (ins := .invokevirtual 65) (len := 3) (tag := 5) (a := 212) (b := 2) (c := 0) (q := 1636) (by decide +kernel)) (by decide +kernel) rfl (show m_isO 212 304 (SH, _) = true from m_isO_of (by decide +kernel)) (Nat.le_of_ble_eq_true rfl) rfl rfl (ok_m_hs X (d + 3) F _ _ _ _ _ hc16) ?_
            exact ok_m_name__240 X d F _ _ _ _ _ _ h
          · refine m_R_1 (by decide) (m_opb_of (ins := .ifCond .eq 7) (len := 3) (tag := 0) (a := 226) (b := 0) (c := 0) (q := 0) (by decide +kernel)) (if_neg c55) ?_
            refine m_R_sg (by decide) [(.iconst 0, 1, 0, 0, 0, 0, 0), (.goto 17, 3, 0, 240, 0, 0, 0)] (by decide +kernel) (show m_sgl X _ _ _ _ _ = some (240, [some (.ref 304), some (.int s0)], [.int (0 : Int32)], (SH, q13.2.1, q13.2.2)) from rfl) ?_
            exact ok_m_name__240 X d F _ _ _ _ _ _ h
      · refine m_R_1 (by decide) (m_opb_of (ins := .ifCond .eq 22) (len := 3) (tag := 0) (a := 208) (b := 0) (c := 0) (q := 0) (by decide +kernel)) (if_neg c53) ?_
        refine m_R_sg (by decide) [(.iload_n 1, 1, 0, 1, 0, 0, 0)] (by decide +kernel) (show m_sgl X _ _ _ _ _ = some (190, [some (.ref 304), some (.int s0)], [.int s0], (SH, q12.2.1, q12.2.2)) from rfl) ?_
        rcases m_ite h with ⟨c56, h⟩ | ⟨c56, h⟩
        · refine m_R_1 (by decide) (m_opb_of (ins := .ifCond .eq 7) (len := 3) (tag := 0) (a := 197) (b := 0) (c := 0) (q := 0) (by decide +kernel)) (if_pos c56) ?_
          refine m_R_sg (by decide) [(.aload_n 0, 1, 0, 0, 0, 0, 0), (.aload_n 0, 1, 0, 0, 0, 0, 0), (.getfield 290, 3, 0, 12, 19, 0, 1514), (.bipush 7, 2, 0, 7, 0, 0, 0)] (by decide +kernel) (show m_sgl X _ _ _ _ _ = some (204, [some (.ref 304), some (.int s0)], [.int (7 : Int32), .int (q12.2.1 304 19), .ref 304], (SH, q12.2.1, q12.2.2)) from rfl) ?_
          obtain ⟨q17, hc17, h⟩ := Option.bind_eq_some_iff.mp h
          refine m_R_cV (v := (some (.int q17.1))) (h1 := (SH, q17.2)) (rest := []) (lo' := [some (.ref 304), some (.int (q12.2.1 304 19)), some (.int (7 : Int32))]) (ml := 3) (k0 := 304) (by decide) (Or.inl rfl) (m_opb_of (ins := .invokevirtual 160) (len := 3) (tag := 5) (a := 246) (b := 2) (c := 0) (q := 1794) (by decide +kernel)) (by decide +kernel) rfl (show m_isO 246 304 (SH, _) = true from m_isO_of (by decide +kernel)) (Nat.le_of_ble_eq_true rfl) rfl rfl (ok_m_paper X (d + 3) F _ _ _ _ _ hc17) ?_
          exact ok_m_name__207 X d F _ _ _ _ _ _ h
        · refine m_R_1 (by decide) (m_opb_of (ins := .ifCond .eq 7) (len := 3) (tag := 0) (a := 197) (b := 0) (c := 0) (q := 0) (by decide +kernel)) (if_neg c56) ?_
          refine m_R_sg (by decide) [(.iconst 0, 1, 0, 0, 0, 0, 0), (.goto 13, 3, 0, 207, 0, 0, 0)] (by decide +kernel) (show m_sgl X _ _ _ _ _ = some (207, [some (.ref 304), some (.int s0)], [.int (0 : Int32)], (SH, q12.2.1, q12.2.2)) from rfl) ?_
          exact ok_m_name__207 X d F _ _ _ _ _ _ h
    · refine m_R_1 (by decide) (m_opb_of (ins := .ifCond .eq 28) (len := 3) (tag := 0) (a := 179) (b := 0) (c := 0) (q := 0) (by decide +kernel)) (if_neg c52) ?_
      refine m_R_sg (by decide) [(.iload_n 1, 1, 0, 1, 0, 0, 0)] (by decide +kernel) (show m_sgl X _ _ _ _ _ = some (155, [some (.ref 304), some (.int s0)], [.int s0], (SH, q11.2.1, q11.2.2)) from rfl) ?_
      rcases m_ite h with ⟨c57, h⟩ | ⟨c57, h⟩
      · refine m_R_1 (by decide) (m_opb_of (ins := .ifCond .eq 7) (len := 3) (tag := 0) (a := 162) (b := 0) (c := 0) (q := 0) (by decide +kernel)) (if_pos c57) ?_
        refine m_R_sg (by decide) [(.aload_n 0, 1, 0, 0, 0, 0, 0), (.aload_n 0, 1, 0, 0, 0, 0, 0), (.getfield 290, 3, 0, 12, 19, 0, 1514), (.iconst 5, 1, 0, 5, 0, 0, 0)] (by decide +kernel) (show m_sgl X _ _ _ _ _ = some (168, [some (.ref 304), some (.int s0)], [.int (5 : Int32), .int (q11.2.1 304 19), .ref 304], (SH, q11.2.1, q11.2.2)) from rfl) ?_
        obtain ⟨q18, hc18, h⟩ := Option.bind_eq_some_iff.mp h
        refine m_R_cV (v := (some (.int q18.1))) (h1 := (SH, q18.2)) (rest := []) (lo' := [some (.ref 304), some (.int (q11.2.1 304 19)), some (.int (5 : Int32))]) (ml := 3) (k0 := 304) (by decide) (Or.inl rfl) (m_opb_of (ins := .invokevirtual 160) (len := 3) (tag := 5) (a := 246) (b := 2) (c := 0) (q := 1794) (by decide +kernel)) (by decide +kernel) rfl (show m_isO 246 304 (SH, _) = true from m_isO_of (by decide +kernel)) (Nat.le_of_ble_eq_true rfl) rfl rfl (ok_m_paper X (d + 3) F _ _ _ _ _ hc18) ?_
        refine m_R_sg (by decide) [(.aload_n 0, 1, 0, 0, 0, 0, 0), (.getfield 13, 3, 0, 12, 1, 3, 1496), (.iconst 0, 1, 0, 0, 0, 0, 0)] (by decide +kernel) (show m_sgl X _ _ _ _ _ = some (176, [some (.ref 304), some (.int s0)], [.int (0 : Int32), .ref 305, .int q18.1], (SH, q18.2.1, q18.2.2)) from rfl) ?_
        refine m_R_1 (by decide) (m_opb_of (ins := .iaload) (len := 1) (tag := 0) (a := 0) (b := 0) (c := 0) (q := 0) (by decide +kernel)) (m_s_iald sh_305 (by decide) (show ¬ ((0 : Int32) < 0 ∨ 9732 ≤ (0 : Int32).toNatClampNeg) by decide)) ?_
        refine m_R_sg (by decide) [(.isub, 1, 0, 0, 0, 0, 0)] (by decide +kernel) (show m_sgl X _ _ _ _ _ = some (178, [some (.ref 304), some (.int s0)], [.int (q18.1 - (q18.2.1 305 (0 : Int32).toNatClampNeg))], (SH, q18.2.1, q18.2.2)) from rfl) ?_
        exact ok_m_name__178 X d F _ _ _ _ _ _ h
      · refine m_R_1 (by decide) (m_opb_of (ins := .ifCond .eq 7) (len := 3) (tag := 0) (a := 162) (b := 0) (c := 0) (q := 0) (by decide +kernel)) (if_neg c57) ?_
        refine m_R_sg (by decide) [(.iconst 0, 1, 0, 0, 0, 0, 0), (.goto 19, 3, 0, 178, 0, 0, 0)] (by decide +kernel) (show m_sgl X _ _ _ _ _ = some (178, [some (.ref 304), some (.int s0)], [.int (0 : Int32)], (SH, q11.2.1, q11.2.2)) from rfl) ?_
        exact ok_m_name__178 X d F _ _ _ _ _ _ h
  · refine m_R_1 (by decide) (m_opb_of (ins := .ifCond .eq 21) (len := 3) (tag := 0) (a := 144) (b := 0) (c := 0) (q := 0) (by decide +kernel)) (if_neg c51) ?_
    refine m_R_sg (by decide) [(.iload_n 1, 1, 0, 1, 0, 0, 0)] (by decide +kernel) (show m_sgl X _ _ _ _ _ = some (127, [some (.ref 304), some (.int s0)], [.int s0], (SH, q10.2.1, q10.2.2)) from rfl) ?_
    rcases m_ite h with ⟨c58, h⟩ | ⟨c58, h⟩
    · refine m_R_1 (by decide) (m_opb_of (ins := .ifCond .eq 7) (len := 3) (tag := 0) (a := 134) (b := 0) (c := 0) (q := 0) (by decide +kernel)) (if_pos c58) ?_
      refine m_R_sg (by decide) [(.aload_n 0, 1, 0, 0, 0, 0, 0), (.aload_n 0, 1, 0, 0, 0, 0, 0), (.getfield 290, 3, 0, 12, 19, 0, 1514), (.iconst 2, 1, 0, 2, 0, 0, 0)] (by decide +kernel) (show m_sgl X _ _ _ _ _ = some (140, [some (.ref 304), some (.int s0)], [.int (2 : Int32), .int (q10.2.1 304 19), .ref 304], (SH, q10.2.1, q10.2.2)) from rfl) ?_
      obtain ⟨q19, hc19, h⟩ := Option.bind_eq_some_iff.mp h
      refine m_R_cV (v := (some (.int q19.1))) (h1 := (SH, q19.2)) (rest := []) (lo' := [some (.ref 304), some (.int (q10.2.1 304 19)), some (.int (2 : Int32))]) (ml := 3) (k0 := 304) (by decide) (Or.inl rfl) (m_opb_of (ins := .invokevirtual 160) (len := 3) (tag := 5) (a := 246) (b := 2) (c := 0) (q := 1794) (by decide +kernel)) (by decide +kernel) rfl (show m_isO 246 304 (SH, _) = true from m_isO_of (by decide +kernel)) (Nat.le_of_ble_eq_true rfl) rfl rfl (ok_m_paper X (d + 3) F _ _ _ _ _ hc19) ?_
      exact ok_m_name__143 X d F _ _ _ _ _ _ h
    · refine m_R_1 (by decide) (m_opb_of (ins := .ifCond .eq 7) (len := 3) (tag := 0) (a := 134) (b := 0) (c := 0) (q := 0) (by decide +kernel)) (if_neg c58) ?_
      refine m_R_sg (by decide) [(.iconst 0, 1, 0, 0, 0, 0, 0), (.goto 12, 3, 0, 143, 0, 0, 0)] (by decide +kernel) (show m_sgl X _ _ _ _ _ = some (143, [some (.ref 304), some (.int s0)], [.int (0 : Int32)], (SH, q10.2.1, q10.2.2)) from rfl) ?_
      exact ok_m_name__143 X d F _ _ _ _ _ _ h
def f_m_name_ (F : Nat)    (m : mM) : Option (Int32 × mM) := ((f_m_isWord F (149044 : Int64) m).bind fun q1 => (if q1.1 = 0 then ((f_m_isWord F (7750153 : Int64) q1.2).bind fun q2 => (if q2.1 = 0 then ((f_m_isWord F (7055522852 : Int64) q2.2).bind fun q3 => (if q3.1 = 0 then ((f_m_isWord F (456500 : Int64) q3.2).bind fun q4 => (if q4.1 = 0 then ((f_m_isWord F (2968 : Int64) q4.2).bind fun q5 => (if q5.1 = 0 then ((f_m_isWord F (8863997 : Int64) q5.2).bind fun q6 => (if q6.1 = 0 then (if (q6.2.1 304 19) = (-1 : Int32) then f_m_name__115 F (1 : Int32) q6.2 else f_m_name__115 F (0 : Int32) q6.2) else some ((q6.2.1 305 (10 : Int32).toNatClampNeg), q6.2))) else some ((q5.2.1 305 (0 : Int32).toNatClampNeg), q5.2))) else some (((q4.2.1 305 (0 : Int32).toNatClampNeg) / (7 : Int32)), q4.2))) else ((f_m_reserve F q3.2).bind fun q7 => some (q7.1, q7.2)))) else ((f_m_out F q2.2).bind fun q8 => some (q8.1, q8.2)))) else ((f_m_hs F (0 : Int32) (2 : Int32) q1.2).bind fun q9 => some (q9.1, q9.2))))
theorem ok_m_name_ (X : mX) (d F : Nat) : ∀   (m : mM) (r : Int32) (m' : mM), f_m_name_ F  m = some (r, m') → m_R X (d + 4) 243 0 [some (.ref 304), none] [] (SH, m) (some (.int r), (SH, m')) := by
  intro m r m' h
  unfold f_m_name_ at h
  refine m_R_sg (by decide) [(.aload_n 0, 1, 0, 0, 0, 0, 0), (.ldc2_w 271, 3, 0, 149044, 0, 0, 1777)] (by decide +kernel) (show m_sgl X _ _ _ _ _ = some (4, [some (.ref 304), none], [.long (149044 : Int64), .ref 304], (SH, m.1, m.2)) from rfl) ?_
  obtain ⟨q1, hc1, h⟩ := Option.bind_eq_some_iff.mp h
  refine m_R_cV (v := (some (.int q1.1))) (h1 := (SH, q1.2)) (rest := []) (lo' := [some (.ref 304), some (.long (149044 : Int64)), none]) (ml := 3) (k0 := 304) (by decide) (Or.inl rfl) (m_opb_of (ins := .invokevirtual 273) (len := 3) (tag := 5) (a := 233) (b := 1) (c := 0) (q := 1726) (by decide +kernel)) (by decide +kernel) rfl (show m_isO 233 304 (SH, _) = true from m_isO_of (by decide +kernel)) (Nat.le_of_ble_eq_true rfl) rfl rfl (ok_m_isWord X (d + 3) F _ _ _ _ hc1) ?_
  rcases m_ite h with ⟨c59, h⟩ | ⟨c59, h⟩
  · refine m_R_1 (by decide) (m_opb_of (ins := .ifCond .eq 10) (len := 3) (tag := 0) (a := 17) (b := 0) (c := 0) (q := 0) (by decide +kernel)) (if_pos c59) ?_
    refine m_R_sg (by decide) [(.aload_n 0, 1, 0, 0, 0, 0, 0), (.ldc2_w 277, 3, 0, 7750153, 0, 0, 1778)] (by decide +kernel) (show m_sgl X _ _ _ _ _ = some (21, [some (.ref 304), none], [.long (7750153 : Int64), .ref 304], (SH, q1.2.1, q1.2.2)) from rfl) ?_
    obtain ⟨q2, hc2, h⟩ := Option.bind_eq_some_iff.mp h
    refine m_R_cV (v := (some (.int q2.1))) (h1 := (SH, q2.2)) (rest := []) (lo' := [some (.ref 304), some (.long (7750153 : Int64)), none]) (ml := 3) (k0 := 304) (by decide) (Or.inl rfl) (m_opb_of (ins := .invokevirtual 273) (len := 3) (tag := 5) (a := 233) (b := 1) (c := 0) (q := 1726) (by decide +kernel)) (by decide +kernel) rfl (show m_isO 233 304 (SH, _) = true from m_isO_of (by decide +kernel)) (Nat.le_of_ble_eq_true rfl) rfl rfl (ok_m_isWord X (d + 3) F _ _ _ _ hc2) ?_
    rcases m_ite h with ⟨c60, h⟩ | ⟨c60, h⟩
    · refine m_R_1 (by decide) (m_opb_of (ins := .ifCond .eq 8) (len := 3) (tag := 0) (a := 32) (b := 0) (c := 0) (q := 0) (by decide +kernel)) (if_pos c60) ?_
      refine m_R_sg (by decide) [(.aload_n 0, 1, 0, 0, 0, 0, 0), (.ldc2_w 279, 3, 0, 7055522852, 0, 0, 1783)] (by decide +kernel) (show m_sgl X _ _ _ _ _ = some (36, [some (.ref 304), none], [.long (7055522852 : Int64), .ref 304], (SH, q2.2.1, q2.2.2)) from rfl) ?_
      obtain ⟨q3, hc3, h⟩ := Option.bind_eq_some_iff.mp h
      refine m_R_cV (v := (some (.int q3.1))) (h1 := (SH, q3.2)) (rest := []) (lo' := [some (.ref 304), some (.long (7055522852 : Int64)), none]) (ml := 3) (k0 := 304) (by decide) (Or.inl rfl) (m_opb_of (ins := .invokevirtual 273) (len := 3) (tag := 5) (a := 233) (b := 1) (c := 0) (q := 1726) (by decide +kernel)) (by decide +kernel) rfl (show m_isO 233 304 (SH, _) = true from m_isO_of (by decide +kernel)) (Nat.le_of_ble_eq_true rfl) rfl rfl (ok_m_isWord X (d + 3) F _ _ _ _ hc3) ?_
      rcases m_ite h with ⟨c61, h⟩ | ⟨c61, h⟩
      · refine m_R_1 (by decide) (m_opb_of (ins := .ifCond .eq 8) (len := 3) (tag := 0) (a := 47) (b := 0) (c := 0) (q := 0) (by decide +kernel)) (if_pos c61) ?_
        refine m_R_sg (by decide) [(.aload_n 0, 1, 0, 0, 0, 0, 0), (.ldc2_w 284, 3, 0, 456500, 0, 0, 1790)] (by decide +kernel) (show m_sgl X _ _ _ _ _ = some (51, [some (.ref 304), none], [.long (456500 : Int64), .ref 304], (SH, q3.2.1, q3.2.2)) from rfl) ?_
        obtain ⟨q4, hc4, h⟩ := Option.bind_eq_some_iff.mp h
        refine m_R_cV (v := (some (.int q4.1))) (h1 := (SH, q4.2)) (rest := []) (lo' := [some (.ref 304), some (.long (456500 : Int64)), none]) (ml := 3) (k0 := 304) (by decide) (Or.inl rfl) (m_opb_of (ins := .invokevirtual 273) (len := 3) (tag := 5) (a := 233) (b := 1) (c := 0) (q := 1726) (by decide +kernel)) (by decide +kernel) rfl (show m_isO 233 304 (SH, _) = true from m_isO_of (by decide +kernel)) (Nat.le_of_ble_eq_true rfl) rfl rfl (ok_m_isWord X (d + 3) F _ _ _ _ hc4) ?_
        rcases m_ite h with ⟨c62, h⟩ | ⟨c62, h⟩
        · refine m_R_1 (by decide) (m_opb_of (ins := .ifCond .eq 13) (len := 3) (tag := 0) (a := 67) (b := 0) (c := 0) (q := 0) (by decide +kernel)) (if_pos c62) ?_
          refine m_R_sg (by decide) [(.aload_n 0, 1, 0, 0, 0, 0, 0), (.ldc2_w 286, 3, 0, 2968, 0, 0, 1791)] (by decide +kernel) (show m_sgl X _ _ _ _ _ = some (71, [some (.ref 304), none], [.long (2968 : Int64), .ref 304], (SH, q4.2.1, q4.2.2)) from rfl) ?_
          obtain ⟨q5, hc5, h⟩ := Option.bind_eq_some_iff.mp h
          refine m_R_cV (v := (some (.int q5.1))) (h1 := (SH, q5.2)) (rest := []) (lo' := [some (.ref 304), some (.long (2968 : Int64)), none]) (ml := 3) (k0 := 304) (by decide) (Or.inl rfl) (m_opb_of (ins := .invokevirtual 273) (len := 3) (tag := 5) (a := 233) (b := 1) (c := 0) (q := 1726) (by decide +kernel)) (by decide +kernel) rfl (show m_isO 233 304 (SH, _) = true from m_isO_of (by decide +kernel)) (Nat.le_of_ble_eq_true rfl) rfl rfl (ok_m_isWord X (d + 3) F _ _ _ _ hc5) ?_
          rcases m_ite h with ⟨c63, h⟩ | ⟨c63, h⟩
          · refine m_R_1 (by decide) (m_opb_of (ins := .ifCond .eq 10) (len := 3) (tag := 0) (a := 84) (b := 0) (c := 0) (q := 0) (by decide +kernel)) (if_pos c63) ?_
            refine m_R_sg (by decide) [(.aload_n 0, 1, 0, 0, 0, 0, 0), (.ldc2_w 288, 3, 0, 8863997, 0, 0, 1792)] (by decide +kernel) (show m_sgl X _ _ _ _ _ = some (88, [some (.ref 304), none], [.long (8863997 : Int64), .ref 304], (SH, q5.2.1, q5.2.2)) from rfl) ?_
            obtain ⟨q6, hc6, h⟩ := Option.bind_eq_some_iff.mp h
            refine m_R_cV (v := (some (.int q6.1))) (h1 := (SH, q6.2)) (rest := []) (lo' := [some (.ref 304), some (.long (8863997 : Int64)), none]) (ml := 3) (k0 := 304) (by decide) (Or.inl rfl) (m_opb_of (ins := .invokevirtual 273) (len := 3) (tag := 5) (a := 233) (b := 1) (c := 0) (q := 1726) (by decide +kernel)) (by decide +kernel) rfl (show m_isO 233 304 (SH, _) = true from m_isO_of (by decide +kernel)) (Nat.le_of_ble_eq_true rfl) rfl rfl (ok_m_isWord X (d + 3) F _ _ _ _ hc6) ?_
            rcases m_ite h with ⟨c64, h⟩ | ⟨c64, h⟩
            · refine m_R_1 (by decide) (m_opb_of (ins := .ifCond .eq 11) (len := 3) (tag := 0) (a := 102) (b := 0) (c := 0) (q := 0) (by decide +kernel)) (if_pos c64) ?_
              refine m_R_sg (by decide) [(.aload_n 0, 1, 0, 0, 0, 0, 0), (.getfield 290, 3, 0, 12, 19, 0, 1514), (.iconst (-1), 1, 0, 1, 1, 0, 0)] (by decide +kernel) (show m_sgl X _ _ _ _ _ = some (107, [some (.ref 304), none], [.int (-1 : Int32), .int (q6.2.1 304 19)], (SH, q6.2.1, q6.2.2)) from rfl) ?_
              rcases m_ite h with ⟨c65, h⟩ | ⟨c65, h⟩
              · refine m_R_1 (by decide) (m_opb_of (ins := .if_icmp .ne 7) (len := 3) (tag := 0) (a := 114) (b := 0) (c := 0) (q := 0) (by decide +kernel)) (if_pos c65) ?_
                refine m_R_sg (by decide) [(.iconst 1, 1, 0, 1, 0, 0, 0), (.goto 4, 3, 0, 115, 0, 0, 0)] (by decide +kernel) (show m_sgl X _ _ _ _ _ = some (115, [some (.ref 304), none], [.int (1 : Int32)], (SH, q6.2.1, q6.2.2)) from rfl) ?_
                exact ok_m_name__115 X d F _ _ _ _ _ h
              · refine m_R_1 (by decide) (m_opb_of (ins := .if_icmp .ne 7) (len := 3) (tag := 0) (a := 114) (b := 0) (c := 0) (q := 0) (by decide +kernel)) (if_neg c65) ?_
                refine m_R_sg (by decide) [(.iconst 0, 1, 0, 0, 0, 0, 0)] (by decide +kernel) (show m_sgl X _ _ _ _ _ = some (115, [some (.ref 304), none], [.int (0 : Int32)], (SH, q6.2.1, q6.2.2)) from rfl) ?_
                exact ok_m_name__115 X d F _ _ _ _ _ h
            · refine m_R_1 (by decide) (m_opb_of (ins := .ifCond .eq 11) (len := 3) (tag := 0) (a := 102) (b := 0) (c := 0) (q := 0) (by decide +kernel)) (if_neg c64) ?_
              refine m_R_sg (by decide) [(.aload_n 0, 1, 0, 0, 0, 0, 0), (.getfield 13, 3, 0, 12, 1, 3, 1496), (.bipush 10, 2, 0, 10, 0, 0, 0)] (by decide +kernel) (show m_sgl X _ _ _ _ _ = some (100, [some (.ref 304), none], [.int (10 : Int32), .ref 305], (SH, q6.2.1, q6.2.2)) from rfl) ?_
              refine m_R_1 (by decide) (m_opb_of (ins := .iaload) (len := 1) (tag := 0) (a := 0) (b := 0) (c := 0) (q := 0) (by decide +kernel)) (m_s_iald sh_305 (by decide) (show ¬ ((10 : Int32) < 0 ∨ 9732 ≤ (10 : Int32).toNatClampNeg) by decide)) ?_
              obtain ⟨rfl, rfl⟩ := m_some h
              exact m_R_iret (by decide) (m_opb_of (ins := .ireturn) (len := 1) (tag := 1) (a := 0) (b := 0) (c := 0) (q := 0) (by decide +kernel)) (Or.inl rfl)
          · refine m_R_1 (by decide) (m_opb_of (ins := .ifCond .eq 10) (len := 3) (tag := 0) (a := 84) (b := 0) (c := 0) (q := 0) (by decide +kernel)) (if_neg c63) ?_
            refine m_R_sg (by decide) [(.aload_n 0, 1, 0, 0, 0, 0, 0), (.getfield 13, 3, 0, 12, 1, 3, 1496), (.iconst 0, 1, 0, 0, 0, 0, 0)] (by decide +kernel) (show m_sgl X _ _ _ _ _ = some (82, [some (.ref 304), none], [.int (0 : Int32), .ref 305], (SH, q5.2.1, q5.2.2)) from rfl) ?_
            refine m_R_1 (by decide) (m_opb_of (ins := .iaload) (len := 1) (tag := 0) (a := 0) (b := 0) (c := 0) (q := 0) (by decide +kernel)) (m_s_iald sh_305 (by decide) (show ¬ ((0 : Int32) < 0 ∨ 9732 ≤ (0 : Int32).toNatClampNeg) by decide)) ?_
            obtain ⟨rfl, rfl⟩ := m_some h
            exact m_R_iret (by decide) (m_opb_of (ins := .ireturn) (len := 1) (tag := 1) (a := 0) (b := 0) (c := 0) (q := 0) (by decide +kernel)) (Or.inl rfl)
        · refine m_R_1 (by decide) (m_opb_of (ins := .ifCond .eq 13) (len := 3) (tag := 0) (a := 67) (b := 0) (c := 0) (q := 0) (by decide +kernel)) (if_neg c62) ?_
          refine m_R_sg (by decide) [(.aload_n 0, 1, 0, 0, 0, 0, 0), (.getfield 13, 3, 0, 12, 1, 3, 1496), (.iconst 0, 1, 0, 0, 0, 0, 0)] (by decide +kernel) (show m_sgl X _ _ _ _ _ = some (62, [some (.ref 304), none], [.int (0 : Int32), .ref 305], (SH, q4.2.1, q4.2.2)) from rfl) ?_
          refine m_R_1 (by decide) (m_opb_of (ins := .iaload) (len := 1) (tag := 0) (a := 0) (b := 0) (c := 0) (q := 0) (by decide +kernel)) (m_s_iald sh_305 (by decide) (show ¬ ((0 : Int32) < 0 ∨ 9732 ≤ (0 : Int32).toNatClampNeg) by decide)) ?_
          refine m_R_sg (by decide) [(.bipush 7, 2, 0, 7, 0, 0, 0)] (by decide +kernel) (show m_sgl X _ _ _ _ _ = some (65, [some (.ref 304), none], [.int (7 : Int32), .int (q4.2.1 305 (0 : Int32).toNatClampNeg)], (SH, q4.2.1, q4.2.2)) from rfl) ?_
          refine m_R_1 (by decide) (m_opb_of (ins := .idiv) (len := 1) (tag := 0) (a := 0) (b := 0) (c := 0) (q := 0) (by decide +kernel)) (m_s_idiv (by decide)) ?_
          obtain ⟨rfl, rfl⟩ := m_some h
          exact m_R_iret (by decide) (m_opb_of (ins := .ireturn) (len := 1) (tag := 1) (a := 0) (b := 0) (c := 0) (q := 0) (by decide +kernel)) (Or.inl rfl)
      · refine m_R_1 (by decide) (m_opb_of (ins := .ifCond .eq 8) (len := 3) (tag := 0) (a := 47) (b := 0) (c := 0) (q := 0) (by decide +kernel)) (if_neg c61) ?_
        refine m_R_sg (by decide) [(.aload_n 0, 1, 0, 0, 0, 0, 0)] (by decide +kernel) (show m_sgl X _ _ _ _ _ = some (43, [some (.ref 304), none], [.ref 304], (SH, q3.2.1, q3.2.2)) from rfl) ?_
        obtain ⟨q7, hc7, h⟩ := Option.bind_eq_some_iff.mp h
        refine m_R_cV (v := (some (.int q7.1))) (h1 := (SH, q7.2)) (rest := []) (lo' := [some (.ref 304), none, none, none]) (ml := 4) (k0 := 304) (by decide) (Or.inl rfl) (m_opb_of (ins := .invokevirtual 281) (len := 3) (tag := 5) (a := 245) (b := 0) (c := 0) (q := 1784) (by decide +kernel)) (by decide +kernel) rfl (show m_isO 245 304 (SH, _) = true from m_isO_of (by decide +kernel)) (Nat.le_of_ble_eq_true rfl) rfl rfl (ok_m_reserve X (d + 0) F _ _ _ hc7) ?_
        obtain ⟨rfl, rfl⟩ := m_some h
        exact m_R_iret (by decide) (m_opb_of (ins := .ireturn) (len := 1) (tag := 1) (a := 0) (b := 0) (c := 0) (q := 0) (by decide +kernel)) (Or.inl rfl)
    · refine m_R_1 (by decide) (m_opb_of (ins := .ifCond .eq 8) (len := 3) (tag := 0) (a := 32) (b := 0) (c := 0) (q := 0) (by decide +kernel)) (if_neg c60) ?_
      refine m_R_sg (by decide) [(.aload_n 0, 1, 0, 0, 0, 0, 0)] (by decide +kernel) (show m_sgl X _ _ _ _ _ = some (28, [some (.ref 304), none], [.ref 304], (SH, q2.2.1, q2.2.2)) from rfl) ?_
      obtain ⟨q8, hc8, h⟩ := Option.bind_eq_some_iff.mp h
      refine m_R_cV (v := (some (.int q8.1))) (h1 := (SH, q8.2)) (rest := []) (lo' := [some (.ref 304)]) (ml := 1) (k0 := 304) (by decide) (Or.inl rfl) (m_opb_of (ins := .invokevirtual 112) (len := 3) (tag := 5) (a := 244) (b := 0) (c := 0) (q := 1779) (by decide +kernel)) (by decide +kernel) rfl (show m_isO 244 304 (SH, _) = true from m_isO_of (by decide +kernel)) (Nat.le_of_ble_eq_true rfl) rfl rfl (ok_m_out X (d + 1) F _ _ _ hc8) ?_
      obtain ⟨rfl, rfl⟩ := m_some h
      exact m_R_iret (by decide) (m_opb_of (ins := .ireturn) (len := 1) (tag := 1) (a := 0) (b := 0) (c := 0) (q := 0) (by decide +kernel)) (Or.inl rfl)
  · refine m_R_1 (by decide) (m_opb_of (ins := .ifCond .eq 10) (len := 3) (tag := 0) (a := 17) (b := 0) (c := 0) (q := 0) (by decide +kernel)) (if_neg c59) ?_
    refine m_R_sg (by decide) [(.aload_n 0, 1, 0, 0, 0, 0, 0), (.iconst 0, 1, 0, 0, 0, 0, 0), (.iconst 2, 1, 0, 2, 0, 0, 0)] (by decide +kernel) (show m_sgl X _ _ _ _ _ = some (13, [some (.ref 304), none], [.int (2 : Int32), .int (0 : Int32), .ref 304], (SH, q1.2.1, q1.2.2)) from rfl) ?_
    obtain ⟨q9, hc9, h⟩ := Option.bind_eq_some_iff.mp h
    refine m_R_cV (v := (some (.int q9.1))) (h1 := (SH, q9.2)) (rest := []) (lo' := [some (.ref 304), some (.int (0 : Int32)), some (.int (2 : Int32))]) (ml := 3) (k0 := 304) (by decide) (Or.inl rfl) (m_opb_of (ins := .invokevirtual 65) (len := 3) (tag := 5) (a := 212) (b := 2) (c := 0) (q := 1636) (by decide +kernel)) (by decide +kernel) rfl (show m_isO 212 304 (SH, _) = true from m_isO_of (by decide +kernel)) (Nat.le_of_ble_eq_true rfl) rfl rfl (ok_m_hs X (d + 3) F _ _ _ _ _ hc9) ?_
    obtain ⟨rfl, rfl⟩ := m_some h
    exact m_R_iret (by decide) (m_opb_of (ins := .ireturn) (len := 1) (tag := 1) (a := 0) (b := 0) (c := 0) (q := 0) (by decide +kernel)) (Or.inl rfl)
def f_m_either_37 (F : Nat) (g : Nat → mM → Option (Int32 × mM)) (k5 : Int32 → mM → Option (Int32 × mM)) (s0 : Int32) (m : mM) : Option (Int32 × mM) := k5 s0 m
theorem ok_m_either_37 (X : mX) (d F : Nat) (g : Nat → mM → Option (Int32 × mM)) (hg235 : ∀  (m : mM) (r : Int32) (m' : mM), g 235  m = some (r, m') → m_R X (d + 4) 235 0 [some (.ref 304), none, none] [] (SH, m) (some (.int r), (SH, m'))) (hg236 : ∀  (m : mM) (r : Int32) (m' : mM), g 236  m = some (r, m') → m_R X (d + 4) 236 0 [some (.ref 304), none, none] [] (SH, m) (some (.int r), (SH, m'))) (hg237 : ∀  (m : mM) (r : Int32) (m' : mM), g 237  m = some (r, m') → m_R X (d + 4) 237 0 [some (.ref 304), none, none, none, none] [] (SH, m) (some (.int r), (SH, m'))) (hg239 : ∀  (m : mM) (r : Int32) (m' : mM), g 239  m = some (r, m') → m_R X (d + 4) 239 0 [some (.ref 304), none, none, none] [] (SH, m) (some (.int r), (SH, m'))) (hg240 : ∀  (m : mM) (r : Int32) (m' : mM), g 240  m = some (r, m') → m_R X (d + 4) 240 0 [some (.ref 304), none, none, none, none] [] (SH, m) (some (.int r), (SH, m'))) (hg241 : ∀  (m : mM) (r : Int32) (m' : mM), g 241  m = some (r, m') → m_R X (d + 4) 241 0 [some (.ref 304), none] [] (SH, m) (some (.int r), (SH, m'))) (k5 : Int32 → mM → Option (Int32 × mM)) (hk5 : ∀ (v1 : Int32) (w2 : Option Value) (m : mM) (r : Int32) (m' : mM), k5 v1 m = some (r, m') → m_R X (d + 5) 235 5 [some (.ref 304), some (.int v1), w2] [] (SH, m) (some (.int r), (SH, m'))) : ∀ (s0 : Int32) (w1 : Option Value) (w2 : Option Value) (m : mM) (r : Int32) (m' : mM), f_m_either_37 F g k5 s0 m = some (r, m') → m_R X (d + 5) 235 37 [some (.ref 304), w1, w2] [.int s0] (SH, m) (some (.int r), (SH, m')) := by
  intro s0 w1 w2 m r m' h
  unfold f_m_either_37 at h
  refine m_R_sg (by decide) [(.istore_n 1, 1, 0, 1, 0, 0, 0), (.goto (-33), 3, 0, 5, 0, 0, 0)] (by decide +kernel) (show m_sgl X _ _ _ _ _ = some (5, [some (.ref 304), some (.int s0), w2], [], (SH, m.1, m.2)) from rfl) ?_
  exact hk5 _ _ _ _ _ h
def f_m_either_32 (F : Nat) (g : Nat → mM → Option (Int32 × mM)) (k5 : Int32 → mM → Option (Int32 × mM))  (m : mM) : Option (Int32 × mM) := f_m_either_37 F g k5 (1 : Int32) m
theorem ok_m_either_32 (X : mX) (d F : Nat) (g : Nat → mM → Option (Int32 × mM)) (hg235 : ∀  (m : mM) (r : Int32) (m' : mM), g 235  m = some (r, m') → m_R X (d + 4) 235 0 [some (.ref 304), none, none] [] (SH, m) (some (.int r), (SH, m'))) (hg236 : ∀  (m : mM) (r : Int32) (m' : mM), g 236  m = some (r, m') → m_R X (d + 4) 236 0 [some (.ref 304), none, none] [] (SH, m) (some (.int r), (SH, m'))) (hg237 : ∀  (m : mM) (r : Int32) (m' : mM), g 237  m = some (r, m') → m_R X (d + 4) 237 0 [some (.ref 304), none, none, none, none] [] (SH, m) (some (.int r), (SH, m'))) (hg239 : ∀  (m : mM) (r : Int32) (m' : mM), g 239  m = some (r, m') → m_R X (d + 4) 239 0 [some (.ref 304), none, none, none] [] (SH, m) (some (.int r), (SH, m'))) (hg240 : ∀  (m : mM) (r : Int32) (m' : mM), g 240  m = some (r, m') → m_R X (d + 4) 240 0 [some (.ref 304), none, none, none, none] [] (SH, m) (some (.int r), (SH, m'))) (hg241 : ∀  (m : mM) (r : Int32) (m' : mM), g 241  m = some (r, m') → m_R X (d + 4) 241 0 [some (.ref 304), none] [] (SH, m) (some (.int r), (SH, m'))) (k5 : Int32 → mM → Option (Int32 × mM)) (hk5 : ∀ (v1 : Int32) (w2 : Option Value) (m : mM) (r : Int32) (m' : mM), k5 v1 m = some (r, m') → m_R X (d + 5) 235 5 [some (.ref 304), some (.int v1), w2] [] (SH, m) (some (.int r), (SH, m'))) : ∀  (w1 : Option Value) (w2 : Option Value) (m : mM) (r : Int32) (m' : mM), f_m_either_32 F g k5  m = some (r, m') → m_R X (d + 5) 235 32 [some (.ref 304), w1, w2] [] (SH, m) (some (.int r), (SH, m')) := by
  intro w1 w2 m r m' h
  unfold f_m_either_32 at h
  refine m_R_sg (by decide) [(.iconst 1, 1, 0, 1, 0, 0, 0), (.goto 4, 3, 0, 37, 0, 0, 0)] (by decide +kernel) (show m_sgl X _ _ _ _ _ = some (37, [some (.ref 304), w1, w2], [.int (1 : Int32)], (SH, m.1, m.2)) from rfl) ?_
  exact ok_m_either_37 X d F g hg235 hg236 hg237 hg239 hg240 hg241 _ hk5 _ _ _ _ _ _ h
def f_m_either_5 (F : Nat) (g : Nat → mM → Option (Int32 × mM))  : Nat → Int32 → mM → Option (Int32 × mM)
  | 0, _, _ => none
  | n + 1, v1, m => ((f_m_isWord F (423 : Int64) m).bind fun q2 => (if q2.1 = 0 then some (v1, q2.2) else ((f_m_next F q2.2).bind fun q3 => ((g 236 q3.2).bind fun q4 => (if v1 = 0 then (if q4.1 = 0 then f_m_either_37 F g (f_m_either_5 F g n) (0 : Int32) q4.2 else f_m_either_32 F g (f_m_either_5 F g n) q4.2) else f_m_either_32 F g (f_m_either_5 F g n) q4.2)))))
theorem ok_m_either_5 (X : mX) (d F : Nat) (g : Nat → mM → Option (Int32 × mM)) (hg235 : ∀  (m : mM) (r : Int32) (m' : mM), g 235  m = some (r, m') → m_R X (d + 4) 235 0 [some (.ref 304), none, none] [] (SH, m) (some (.int r), (SH, m'))) (hg236 : ∀  (m : mM) (r : Int32) (m' : mM), g 236  m = some (r, m') → m_R X (d + 4) 236 0 [some (.ref 304), none, none] [] (SH, m) (some (.int r), (SH, m'))) (hg237 : ∀  (m : mM) (r : Int32) (m' : mM), g 237  m = some (r, m') → m_R X (d + 4) 237 0 [some (.ref 304), none, none, none, none] [] (SH, m) (some (.int r), (SH, m'))) (hg239 : ∀  (m : mM) (r : Int32) (m' : mM), g 239  m = some (r, m') → m_R X (d + 4) 239 0 [some (.ref 304), none, none, none] [] (SH, m) (some (.int r), (SH, m'))) (hg240 : ∀  (m : mM) (r : Int32) (m' : mM), g 240  m = some (r, m') → m_R X (d + 4) 240 0 [some (.ref 304), none, none, none, none] [] (SH, m) (some (.int r), (SH, m'))) (hg241 : ∀  (m : mM) (r : Int32) (m' : mM), g 241  m = some (r, m') → m_R X (d + 4) 241 0 [some (.ref 304), none] [] (SH, m) (some (.int r), (SH, m'))) : ∀ (n : Nat) (v1 : Int32) (w2 : Option Value) (m : mM) (r : Int32) (m' : mM), f_m_either_5 F g n v1 m = some (r, m') → m_R X (d + 5) 235 5 [some (.ref 304), some (.int v1), w2] [] (SH, m) (some (.int r), (SH, m')) := by
  intro n
  induction n with
  | zero => intro v1 w2 m r m' h; cases h
  | succ n ih =>
    intro v1 w2 m r m' h
    simp only [f_m_either_5] at h
    refine m_R_sg (by decide) [(.aload_n 0, 1, 0, 0, 0, 0, 0), (.ldc2_w 342, 3, 0, 423, 0, 0, 1807)] (by decide +kernel) (show m_sgl X _ _ _ _ _ = some (9, [some (.ref 304), some (.int v1), w2], [.long (423 : Int64), .ref 304], (SH, m.1, m.2)) from rfl) ?_
    obtain ⟨q2, hc2, h⟩ := Option.bind_eq_some_iff.mp h
    refine m_R_cV (v := (some (.int q2.1))) (h1 := (SH, q2.2)) (rest := []) (lo' := [some (.ref 304), some (.long (423 : Int64)), none]) (ml := 3) (k0 := 304) (by decide) (Or.inl rfl) (m_opb_of (ins := .invokevirtual 273) (len := 3) (tag := 5) (a := 233) (b := 1) (c := 0) (q := 1726) (by decide +kernel)) (by decide +kernel) rfl (show m_isO 233 304 (SH, _) = true from m_isO_of (by decide +kernel)) (Nat.le_of_ble_eq_true rfl) rfl rfl (ok_m_isWord X (d + 4) F _ _ _ _ hc2) ?_
    rcases m_ite h with ⟨c66, h⟩ | ⟨c66, h⟩
    · refine m_R_1 (by decide) (m_opb_of (ins := .ifCond .eq 29) (len := 3) (tag := 0) (a := 41) (b := 0) (c := 0) (q := 0) (by decide +kernel)) (if_pos c66) ?_
      refine m_R_sg (by decide) [(.iload_n 1, 1, 0, 1, 0, 0, 0)] (by decide +kernel) (show m_sgl X _ _ _ _ _ = some (42, [some (.ref 304), some (.int v1), w2], [.int v1], (SH, q2.2.1, q2.2.2)) from rfl) ?_
      obtain ⟨rfl, rfl⟩ := m_some h
      exact m_R_iret (by decide) (m_opb_of (ins := .ireturn) (len := 1) (tag := 1) (a := 0) (b := 0) (c := 0) (q := 0) (by decide +kernel)) (Or.inl rfl)
    · refine m_R_1 (by decide) (m_opb_of (ins := .ifCond .eq 29) (len := 3) (tag := 0) (a := 41) (b := 0) (c := 0) (q := 0) (by decide +kernel)) (if_neg c66) ?_
      refine m_R_sg (by decide) [(.aload_n 0, 1, 0, 0, 0, 0, 0)] (by decide +kernel) (show m_sgl X _ _ _ _ _ = some (16, [some (.ref 304), some (.int v1), w2], [.ref 304], (SH, q2.2.1, q2.2.2)) from rfl) ?_
      obtain ⟨q3, hc3, h⟩ := Option.bind_eq_some_iff.mp h
      refine m_R_cV (v := none) (h1 := (SH, q3.2)) (rest := []) (lo' := [some (.ref 304), none, none]) (ml := 3) (k0 := 304) (by decide) (Or.inl rfl) (m_opb_of (ins := .invokevirtual 269) (len := 3) (tag := 5) (a := 230) (b := 0) (c := 0) (q := 1708) (by decide +kernel)) (by decide +kernel) rfl (show m_isO 230 304 (SH, _) = true from m_isO_of (by decide +kernel)) (Nat.le_of_ble_eq_true rfl) rfl rfl (ok_m_next X (d + 3) F _ _ _ hc3) ?_
      refine m_R_sg (by decide) [(.aload_n 0, 1, 0, 0, 0, 0, 0)] (by decide +kernel) (show m_sgl X _ _ _ _ _ = some (20, [some (.ref 304), some (.int v1), w2], [.ref 304], (SH, q3.2.1, q3.2.2)) from rfl) ?_
      obtain ⟨q4, hc4, h⟩ := Option.bind_eq_some_iff.mp h
      refine m_R_cV (v := (some (.int q4.1))) (h1 := (SH, q4.2)) (rest := []) (lo' := [some (.ref 304), none, none]) (ml := 3) (k0 := 304) (by decide) (Or.inl rfl) (m_opb_of (ins := .invokevirtual 339) (len := 3) (tag := 5) (a := 236) (b := 0) (c := 0) (q := 1744) (by decide +kernel)) (by decide +kernel) rfl (show m_isO 236 304 (SH, _) = true from m_isO_of (by decide +kernel)) (Nat.le_of_ble_eq_true rfl) rfl rfl (hg236 _ _ _ hc4) ?_
      refine m_R_sg (by decide) [(.istore_n 2, 1, 0, 2, 0, 0, 0), (.iload_n 1, 1, 0, 1, 0, 0, 0)] (by decide +kernel) (show m_sgl X _ _ _ _ _ = some (25, [some (.ref 304), some (.int v1), some (.int q4.1)], [.int v1], (SH, q4.2.1, q4.2.2)) from rfl) ?_
      rcases m_ite h with ⟨c67, h⟩ | ⟨c67, h⟩
      · refine m_R_1 (by decide) (m_opb_of (ins := .ifCond .ne 7) (len := 3) (tag := 0) (a := 32) (b := 0) (c := 0) (q := 0) (by decide +kernel)) (if_pos c67) ?_
        refine m_R_sg (by decide) [(.iload_n 2, 1, 0, 2, 0, 0, 0)] (by decide +kernel) (show m_sgl X _ _ _ _ _ = some (29, [some (.ref 304), some (.int v1), some (.int q4.1)], [.int q4.1], (SH, q4.2.1, q4.2.2)) from rfl) ?_
        rcases m_ite h with ⟨c68, h⟩ | ⟨c68, h⟩
        · refine m_R_1 (by decide) (m_opb_of (ins := .ifCond .eq 7) (len := 3) (tag := 0) (a := 36) (b := 0) (c := 0) (q := 0) (by decide +kernel)) (if_pos c68) ?_
          refine m_R_sg (by decide) [(.iconst 0, 1, 0, 0, 0, 0, 0)] (by decide +kernel) (show m_sgl X _ _ _ _ _ = some (37, [some (.ref 304), some (.int v1), some (.int q4.1)], [.int (0 : Int32)], (SH, q4.2.1, q4.2.2)) from rfl) ?_
          exact ok_m_either_37 X d F g hg235 hg236 hg237 hg239 hg240 hg241 _ (fun a0 a1 m r m' h => ih a0 a1 m r m' h) _ _ _ _ _ _ h
        · refine m_R_1 (by decide) (m_opb_of (ins := .ifCond .eq 7) (len := 3) (tag := 0) (a := 36) (b := 0) (c := 0) (q := 0) (by decide +kernel)) (if_neg c68) ?_
          exact ok_m_either_32 X d F g hg235 hg236 hg237 hg239 hg240 hg241 _ (fun a0 a1 m r m' h => ih a0 a1 m r m' h) _ _ _ _ _ h
      · refine m_R_1 (by decide) (m_opb_of (ins := .ifCond .ne 7) (len := 3) (tag := 0) (a := 32) (b := 0) (c := 0) (q := 0) (by decide +kernel)) (if_neg c67) ?_
        exact ok_m_either_32 X d F g hg235 hg236 hg237 hg239 hg240 hg241 _ (fun a0 a1 m r m' h => ih a0 a1 m r m' h) _ _ _ _ _ h
def f_m_either (F : Nat) (g : Nat → mM → Option (Int32 × mM))   (m : mM) : Option (Int32 × mM) := ((g 236 m).bind fun q1 => f_m_either_5 F g F q1.1 q1.2)
theorem ok_m_either (X : mX) (d F : Nat) (g : Nat → mM → Option (Int32 × mM)) (hg235 : ∀  (m : mM) (r : Int32) (m' : mM), g 235  m = some (r, m') → m_R X (d + 4) 235 0 [some (.ref 304), none, none] [] (SH, m) (some (.int r), (SH, m'))) (hg236 : ∀  (m : mM) (r : Int32) (m' : mM), g 236  m = some (r, m') → m_R X (d + 4) 236 0 [some (.ref 304), none, none] [] (SH, m) (some (.int r), (SH, m'))) (hg237 : ∀  (m : mM) (r : Int32) (m' : mM), g 237  m = some (r, m') → m_R X (d + 4) 237 0 [some (.ref 304), none, none, none, none] [] (SH, m) (some (.int r), (SH, m'))) (hg239 : ∀  (m : mM) (r : Int32) (m' : mM), g 239  m = some (r, m') → m_R X (d + 4) 239 0 [some (.ref 304), none, none, none] [] (SH, m) (some (.int r), (SH, m'))) (hg240 : ∀  (m : mM) (r : Int32) (m' : mM), g 240  m = some (r, m') → m_R X (d + 4) 240 0 [some (.ref 304), none, none, none, none] [] (SH, m) (some (.int r), (SH, m'))) (hg241 : ∀  (m : mM) (r : Int32) (m' : mM), g 241  m = some (r, m') → m_R X (d + 4) 241 0 [some (.ref 304), none] [] (SH, m) (some (.int r), (SH, m'))) : ∀   (m : mM) (r : Int32) (m' : mM), f_m_either F g  m = some (r, m') → m_R X (d + 5) 235 0 [some (.ref 304), none, none] [] (SH, m) (some (.int r), (SH, m')) := by
  intro m r m' h
  unfold f_m_either at h
  refine m_R_sg (by decide) [(.aload_n 0, 1, 0, 0, 0, 0, 0)] (by decide +kernel) (show m_sgl X _ _ _ _ _ = some (1, [some (.ref 304), none, none], [.ref 304], (SH, m.1, m.2)) from rfl) ?_
  obtain ⟨q1, hc1, h⟩ := Option.bind_eq_some_iff.mp h
  refine m_R_cV (v := (some (.int q1.1))) (h1 := (SH, q1.2)) (rest := []) (lo' := [some (.ref 304), none, none]) (ml := 3) (k0 := 304) (by decide) (Or.inl rfl) (m_opb_of (ins := .invokevirtual 339) (len := 3) (tag := 5) (a := 236) (b := 0) (c := 0) (q := 1744) (by decide +kernel)) (by decide +kernel) rfl (show m_isO 236 304 (SH, _) = true from m_isO_of (by decide +kernel)) (Nat.le_of_ble_eq_true rfl) rfl rfl (hg236 _ _ _ hc1) ?_
  refine m_R_sg (by decide) [(.istore_n 1, 1, 0, 1, 0, 0, 0)] (by decide +kernel) (show m_sgl X _ _ _ _ _ = some (5, [some (.ref 304), some (.int q1.1), none], [], (SH, q1.2.1, q1.2.2)) from rfl) ?_
  exact ok_m_either_5 X d F g hg235 hg236 hg237 hg239 hg240 hg241 F _ _ _ _ _ h
def f_m_both_37 (F : Nat) (g : Nat → mM → Option (Int32 × mM)) (k5 : Int32 → mM → Option (Int32 × mM)) (s0 : Int32) (m : mM) : Option (Int32 × mM) := k5 s0 m
theorem ok_m_both_37 (X : mX) (d F : Nat) (g : Nat → mM → Option (Int32 × mM)) (hg235 : ∀  (m : mM) (r : Int32) (m' : mM), g 235  m = some (r, m') → m_R X (d + 4) 235 0 [some (.ref 304), none, none] [] (SH, m) (some (.int r), (SH, m'))) (hg236 : ∀  (m : mM) (r : Int32) (m' : mM), g 236  m = some (r, m') → m_R X (d + 4) 236 0 [some (.ref 304), none, none] [] (SH, m) (some (.int r), (SH, m'))) (hg237 : ∀  (m : mM) (r : Int32) (m' : mM), g 237  m = some (r, m') → m_R X (d + 4) 237 0 [some (.ref 304), none, none, none, none] [] (SH, m) (some (.int r), (SH, m'))) (hg239 : ∀  (m : mM) (r : Int32) (m' : mM), g 239  m = some (r, m') → m_R X (d + 4) 239 0 [some (.ref 304), none, none, none] [] (SH, m) (some (.int r), (SH, m'))) (hg240 : ∀  (m : mM) (r : Int32) (m' : mM), g 240  m = some (r, m') → m_R X (d + 4) 240 0 [some (.ref 304), none, none, none, none] [] (SH, m) (some (.int r), (SH, m'))) (hg241 : ∀  (m : mM) (r : Int32) (m' : mM), g 241  m = some (r, m') → m_R X (d + 4) 241 0 [some (.ref 304), none] [] (SH, m) (some (.int r), (SH, m'))) (k5 : Int32 → mM → Option (Int32 × mM)) (hk5 : ∀ (v1 : Int32) (w2 : Option Value) (m : mM) (r : Int32) (m' : mM), k5 v1 m = some (r, m') → m_R X (d + 5) 236 5 [some (.ref 304), some (.int v1), w2] [] (SH, m) (some (.int r), (SH, m'))) : ∀ (s0 : Int32) (w1 : Option Value) (w2 : Option Value) (m : mM) (r : Int32) (m' : mM), f_m_both_37 F g k5 s0 m = some (r, m') → m_R X (d + 5) 236 37 [some (.ref 304), w1, w2] [.int s0] (SH, m) (some (.int r), (SH, m')) := by
  intro s0 w1 w2 m r m' h
  unfold f_m_both_37 at h
  refine m_R_sg (by decide) [(.istore_n 1, 1, 0, 1, 0, 0, 0), (.goto (-33), 3, 0, 5, 0, 0, 0)] (by decide +kernel) (show m_sgl X _ _ _ _ _ = some (5, [some (.ref 304), some (.int s0), w2], [], (SH, m.1, m.2)) from rfl) ?_
  exact hk5 _ _ _ _ _ h
def f_m_both_36 (F : Nat) (g : Nat → mM → Option (Int32 × mM)) (k5 : Int32 → mM → Option (Int32 × mM))  (m : mM) : Option (Int32 × mM) := f_m_both_37 F g k5 (0 : Int32) m
theorem ok_m_both_36 (X : mX) (d F : Nat) (g : Nat → mM → Option (Int32 × mM)) (hg235 : ∀  (m : mM) (r : Int32) (m' : mM), g 235  m = some (r, m') → m_R X (d + 4) 235 0 [some (.ref 304), none, none] [] (SH, m) (some (.int r), (SH, m'))) (hg236 : ∀  (m : mM) (r : Int32) (m' : mM), g 236  m = some (r, m') → m_R X (d + 4) 236 0 [some (.ref 304), none, none] [] (SH, m) (some (.int r), (SH, m'))) (hg237 : ∀  (m : mM) (r : Int32) (m' : mM), g 237  m = some (r, m') → m_R X (d + 4) 237 0 [some (.ref 304), none, none, none, none] [] (SH, m) (some (.int r), (SH, m'))) (hg239 : ∀  (m : mM) (r : Int32) (m' : mM), g 239  m = some (r, m') → m_R X (d + 4) 239 0 [some (.ref 304), none, none, none] [] (SH, m) (some (.int r), (SH, m'))) (hg240 : ∀  (m : mM) (r : Int32) (m' : mM), g 240  m = some (r, m') → m_R X (d + 4) 240 0 [some (.ref 304), none, none, none, none] [] (SH, m) (some (.int r), (SH, m'))) (hg241 : ∀  (m : mM) (r : Int32) (m' : mM), g 241  m = some (r, m') → m_R X (d + 4) 241 0 [some (.ref 304), none] [] (SH, m) (some (.int r), (SH, m'))) (k5 : Int32 → mM → Option (Int32 × mM)) (hk5 : ∀ (v1 : Int32) (w2 : Option Value) (m : mM) (r : Int32) (m' : mM), k5 v1 m = some (r, m') → m_R X (d + 5) 236 5 [some (.ref 304), some (.int v1), w2] [] (SH, m) (some (.int r), (SH, m'))) : ∀  (w1 : Option Value) (w2 : Option Value) (m : mM) (r : Int32) (m' : mM), f_m_both_36 F g k5  m = some (r, m') → m_R X (d + 5) 236 36 [some (.ref 304), w1, w2] [] (SH, m) (some (.int r), (SH, m')) := by
  intro w1 w2 m r m' h
  unfold f_m_both_36 at h
  refine m_R_sg (by decide) [(.iconst 0, 1, 0, 0, 0, 0, 0)] (by decide +kernel) (show m_sgl X _ _ _ _ _ = some (37, [some (.ref 304), w1, w2], [.int (0 : Int32)], (SH, m.1, m.2)) from rfl) ?_
  exact ok_m_both_37 X d F g hg235 hg236 hg237 hg239 hg240 hg241 _ hk5 _ _ _ _ _ _ h
def f_m_both_5 (F : Nat) (g : Nat → mM → Option (Int32 × mM))  : Nat → Int32 → mM → Option (Int32 × mM)
  | 0, _, _ => none
  | n + 1, v1, m => ((f_m_isWord F (1111 : Int64) m).bind fun q2 => (if q2.1 = 0 then some (v1, q2.2) else ((f_m_next F q2.2).bind fun q3 => ((g 237 q3.2).bind fun q4 => (if v1 = 0 then f_m_both_36 F g (f_m_both_5 F g n) q4.2 else (if q4.1 = 0 then f_m_both_36 F g (f_m_both_5 F g n) q4.2 else f_m_both_37 F g (f_m_both_5 F g n) (1 : Int32) q4.2))))))
theorem ok_m_both_5 (X : mX) (d F : Nat) (g : Nat → mM → Option (Int32 × mM)) (hg235 : ∀  (m : mM) (r : Int32) (m' : mM), g 235  m = some (r, m') → m_R X (d + 4) 235 0 [some (.ref 304), none, none] [] (SH, m) (some (.int r), (SH, m'))) (hg236 : ∀  (m : mM) (r : Int32) (m' : mM), g 236  m = some (r, m') → m_R X (d + 4) 236 0 [some (.ref 304), none, none] [] (SH, m) (some (.int r), (SH, m'))) (hg237 : ∀  (m : mM) (r : Int32) (m' : mM), g 237  m = some (r, m') → m_R X (d + 4) 237 0 [some (.ref 304), none, none, none, none] [] (SH, m) (some (.int r), (SH, m'))) (hg239 : ∀  (m : mM) (r : Int32) (m' : mM), g 239  m = some (r, m') → m_R X (d + 4) 239 0 [some (.ref 304), none, none, none] [] (SH, m) (some (.int r), (SH, m'))) (hg240 : ∀  (m : mM) (r : Int32) (m' : mM), g 240  m = some (r, m') → m_R X (d + 4) 240 0 [some (.ref 304), none, none, none, none] [] (SH, m) (some (.int r), (SH, m'))) (hg241 : ∀  (m : mM) (r : Int32) (m' : mM), g 241  m = some (r, m') → m_R X (d + 4) 241 0 [some (.ref 304), none] [] (SH, m) (some (.int r), (SH, m'))) : ∀ (n : Nat) (v1 : Int32) (w2 : Option Value) (m : mM) (r : Int32) (m' : mM), f_m_both_5 F g n v1 m = some (r, m') → m_R X (d + 5) 236 5 [some (.ref 304), some (.int v1), w2] [] (SH, m) (some (.int r), (SH, m')) := by
  intro n
  induction n with
  | zero => intro v1 w2 m r m' h; cases h
  | succ n ih =>
    intro v1 w2 m r m' h
    simp only [f_m_both_5] at h
    refine m_R_sg (by decide) [(.aload_n 0, 1, 0, 0, 0, 0, 0), (.ldc2_w 337, 3, 0, 1111, 0, 0, 1806)] (by decide +kernel) (show m_sgl X _ _ _ _ _ = some (9, [some (.ref 304), some (.int v1), w2], [.long (1111 : Int64), .ref 304], (SH, m.1, m.2)) from rfl) ?_
    obtain ⟨q2, hc2, h⟩ := Option.bind_eq_some_iff.mp h
    refine m_R_cV (v := (some (.int q2.1))) (h1 := (SH, q2.2)) (rest := []) (lo' := [some (.ref 304), some (.long (1111 : Int64)), none]) (ml := 3) (k0 := 304) (by decide) (Or.inl rfl) (m_opb_of (ins := .invokevirtual 273) (len := 3) (tag := 5) (a := 233) (b := 1) (c := 0) (q := 1726) (by decide +kernel)) (by decide +kernel) rfl (show m_isO 233 304 (SH, _) = true from m_isO_of (by decide +kernel)) (Nat.le_of_ble_eq_true rfl) rfl rfl (ok_m_isWord X (d + 4) F _ _ _ _ hc2) ?_
    rcases m_ite h with ⟨c69, h⟩ | ⟨c69, h⟩
    · refine m_R_1 (by decide) (m_opb_of (ins := .ifCond .eq 29) (len := 3) (tag := 0) (a := 41) (b := 0) (c := 0) (q := 0) (by decide +kernel)) (if_pos c69) ?_
      refine m_R_sg (by decide) [(.iload_n 1, 1, 0, 1, 0, 0, 0)] (by decide +kernel) (show m_sgl X _ _ _ _ _ = some (42, [some (.ref 304), some (.int v1), w2], [.int v1], (SH, q2.2.1, q2.2.2)) from rfl) ?_
      obtain ⟨rfl, rfl⟩ := m_some h
      exact m_R_iret (by decide) (m_opb_of (ins := .ireturn) (len := 1) (tag := 1) (a := 0) (b := 0) (c := 0) (q := 0) (by decide +kernel)) (Or.inl rfl)
    · refine m_R_1 (by decide) (m_opb_of (ins := .ifCond .eq 29) (len := 3) (tag := 0) (a := 41) (b := 0) (c := 0) (q := 0) (by decide +kernel)) (if_neg c69) ?_
      refine m_R_sg (by decide) [(.aload_n 0, 1, 0, 0, 0, 0, 0)] (by decide +kernel) (show m_sgl X _ _ _ _ _ = some (16, [some (.ref 304), some (.int v1), w2], [.ref 304], (SH, q2.2.1, q2.2.2)) from rfl) ?_
      obtain ⟨q3, hc3, h⟩ := Option.bind_eq_some_iff.mp h
      refine m_R_cV (v := none) (h1 := (SH, q3.2)) (rest := []) (lo' := [some (.ref 304), none, none]) (ml := 3) (k0 := 304) (by decide) (Or.inl rfl) (m_opb_of (ins := .invokevirtual 269) (len := 3) (tag := 5) (a := 230) (b := 0) (c := 0) (q := 1708) (by decide +kernel)) (by decide +kernel) rfl (show m_isO 230 304 (SH, _) = true from m_isO_of (by decide +kernel)) (Nat.le_of_ble_eq_true rfl) rfl rfl (ok_m_next X (d + 3) F _ _ _ hc3) ?_
      refine m_R_sg (by decide) [(.aload_n 0, 1, 0, 0, 0, 0, 0)] (by decide +kernel) (show m_sgl X _ _ _ _ _ = some (20, [some (.ref 304), some (.int v1), w2], [.ref 304], (SH, q3.2.1, q3.2.2)) from rfl) ?_
      obtain ⟨q4, hc4, h⟩ := Option.bind_eq_some_iff.mp h
      refine m_R_cV (v := (some (.int q4.1))) (h1 := (SH, q4.2)) (rest := []) (lo' := [some (.ref 304), none, none, none, none]) (ml := 5) (k0 := 304) (by decide) (Or.inl rfl) (m_opb_of (ins := .invokevirtual 327) (len := 3) (tag := 5) (a := 237) (b := 0) (c := 0) (q := 1748) (by decide +kernel)) (by decide +kernel) rfl (show m_isO 237 304 (SH, _) = true from m_isO_of (by decide +kernel)) (Nat.le_of_ble_eq_true rfl) rfl rfl (hg237 _ _ _ hc4) ?_
      refine m_R_sg (by decide) [(.istore_n 2, 1, 0, 2, 0, 0, 0), (.iload_n 1, 1, 0, 1, 0, 0, 0)] (by decide +kernel) (show m_sgl X _ _ _ _ _ = some (25, [some (.ref 304), some (.int v1), some (.int q4.1)], [.int v1], (SH, q4.2.1, q4.2.2)) from rfl) ?_
      rcases m_ite h with ⟨c70, h⟩ | ⟨c70, h⟩
      · refine m_R_1 (by decide) (m_opb_of (ins := .ifCond .eq 11) (len := 3) (tag := 0) (a := 36) (b := 0) (c := 0) (q := 0) (by decide +kernel)) (if_pos c70) ?_
        exact ok_m_both_36 X d F g hg235 hg236 hg237 hg239 hg240 hg241 _ (fun a0 a1 m r m' h => ih a0 a1 m r m' h) _ _ _ _ _ h
      · refine m_R_1 (by decide) (m_opb_of (ins := .ifCond .eq 11) (len := 3) (tag := 0) (a := 36) (b := 0) (c := 0) (q := 0) (by decide +kernel)) (if_neg c70) ?_
        refine m_R_sg (by decide) [(.iload_n 2, 1, 0, 2, 0, 0, 0)] (by decide +kernel) (show m_sgl X _ _ _ _ _ = some (29, [some (.ref 304), some (.int v1), some (.int q4.1)], [.int q4.1], (SH, q4.2.1, q4.2.2)) from rfl) ?_
        rcases m_ite h with ⟨c71, h⟩ | ⟨c71, h⟩
        · refine m_R_1 (by decide) (m_opb_of (ins := .ifCond .eq 7) (len := 3) (tag := 0) (a := 36) (b := 0) (c := 0) (q := 0) (by decide +kernel)) (if_pos c71) ?_
          exact ok_m_both_36 X d F g hg235 hg236 hg237 hg239 hg240 hg241 _ (fun a0 a1 m r m' h => ih a0 a1 m r m' h) _ _ _ _ _ h
        · refine m_R_1 (by decide) (m_opb_of (ins := .ifCond .eq 7) (len := 3) (tag := 0) (a := 36) (b := 0) (c := 0) (q := 0) (by decide +kernel)) (if_neg c71) ?_
          refine m_R_sg (by decide) [(.iconst 1, 1, 0, 1, 0, 0, 0), (.goto 4, 3, 0, 37, 0, 0, 0)] (by decide +kernel) (show m_sgl X _ _ _ _ _ = some (37, [some (.ref 304), some (.int v1), some (.int q4.1)], [.int (1 : Int32)], (SH, q4.2.1, q4.2.2)) from rfl) ?_
          exact ok_m_both_37 X d F g hg235 hg236 hg237 hg239 hg240 hg241 _ (fun a0 a1 m r m' h => ih a0 a1 m r m' h) _ _ _ _ _ _ h
def f_m_both (F : Nat) (g : Nat → mM → Option (Int32 × mM))   (m : mM) : Option (Int32 × mM) := ((g 237 m).bind fun q1 => f_m_both_5 F g F q1.1 q1.2)
theorem ok_m_both (X : mX) (d F : Nat) (g : Nat → mM → Option (Int32 × mM)) (hg235 : ∀  (m : mM) (r : Int32) (m' : mM), g 235  m = some (r, m') → m_R X (d + 4) 235 0 [some (.ref 304), none, none] [] (SH, m) (some (.int r), (SH, m'))) (hg236 : ∀  (m : mM) (r : Int32) (m' : mM), g 236  m = some (r, m') → m_R X (d + 4) 236 0 [some (.ref 304), none, none] [] (SH, m) (some (.int r), (SH, m'))) (hg237 : ∀  (m : mM) (r : Int32) (m' : mM), g 237  m = some (r, m') → m_R X (d + 4) 237 0 [some (.ref 304), none, none, none, none] [] (SH, m) (some (.int r), (SH, m'))) (hg239 : ∀  (m : mM) (r : Int32) (m' : mM), g 239  m = some (r, m') → m_R X (d + 4) 239 0 [some (.ref 304), none, none, none] [] (SH, m) (some (.int r), (SH, m'))) (hg240 : ∀  (m : mM) (r : Int32) (m' : mM), g 240  m = some (r, m') → m_R X (d + 4) 240 0 [some (.ref 304), none, none, none, none] [] (SH, m) (some (.int r), (SH, m'))) (hg241 : ∀  (m : mM) (r : Int32) (m' : mM), g 241  m = some (r, m') → m_R X (d + 4) 241 0 [some (.ref 304), none] [] (SH, m) (some (.int r), (SH, m'))) : ∀   (m : mM) (r : Int32) (m' : mM), f_m_both F g  m = some (r, m') → m_R X (d + 5) 236 0 [some (.ref 304), none, none] [] (SH, m) (some (.int r), (SH, m')) := by
  intro m r m' h
  unfold f_m_both at h
  refine m_R_sg (by decide) [(.aload_n 0, 1, 0, 0, 0, 0, 0)] (by decide +kernel) (show m_sgl X _ _ _ _ _ = some (1, [some (.ref 304), none, none], [.ref 304], (SH, m.1, m.2)) from rfl) ?_
  obtain ⟨q1, hc1, h⟩ := Option.bind_eq_some_iff.mp h
  refine m_R_cV (v := (some (.int q1.1))) (h1 := (SH, q1.2)) (rest := []) (lo' := [some (.ref 304), none, none, none, none]) (ml := 5) (k0 := 304) (by decide) (Or.inl rfl) (m_opb_of (ins := .invokevirtual 327) (len := 3) (tag := 5) (a := 237) (b := 0) (c := 0) (q := 1748) (by decide +kernel)) (by decide +kernel) rfl (show m_isO 237 304 (SH, _) = true from m_isO_of (by decide +kernel)) (Nat.le_of_ble_eq_true rfl) rfl rfl (hg237 _ _ _ hc1) ?_
  refine m_R_sg (by decide) [(.istore_n 1, 1, 0, 1, 0, 0, 0)] (by decide +kernel) (show m_sgl X _ _ _ _ _ = some (5, [some (.ref 304), some (.int q1.1), none], [], (SH, q1.2.1, q1.2.2)) from rfl) ?_
  exact ok_m_both_5 X d F g hg235 hg236 hg237 hg239 hg240 hg241 F _ _ _ _ _ h
def f_m_not_43 (F : Nat) (g : Nat → mM → Option (Int32 × mM))  (s0 : Int32) (m : mM) : Option (Int32 × mM) := some (s0, m)
theorem ok_m_not_43 (X : mX) (d F : Nat) (g : Nat → mM → Option (Int32 × mM)) (hg235 : ∀  (m : mM) (r : Int32) (m' : mM), g 235  m = some (r, m') → m_R X (d + 4) 235 0 [some (.ref 304), none, none] [] (SH, m) (some (.int r), (SH, m'))) (hg236 : ∀  (m : mM) (r : Int32) (m' : mM), g 236  m = some (r, m') → m_R X (d + 4) 236 0 [some (.ref 304), none, none] [] (SH, m) (some (.int r), (SH, m'))) (hg237 : ∀  (m : mM) (r : Int32) (m' : mM), g 237  m = some (r, m') → m_R X (d + 4) 237 0 [some (.ref 304), none, none, none, none] [] (SH, m) (some (.int r), (SH, m'))) (hg239 : ∀  (m : mM) (r : Int32) (m' : mM), g 239  m = some (r, m') → m_R X (d + 4) 239 0 [some (.ref 304), none, none, none] [] (SH, m) (some (.int r), (SH, m'))) (hg240 : ∀  (m : mM) (r : Int32) (m' : mM), g 240  m = some (r, m') → m_R X (d + 4) 240 0 [some (.ref 304), none, none, none, none] [] (SH, m) (some (.int r), (SH, m'))) (hg241 : ∀  (m : mM) (r : Int32) (m' : mM), g 241  m = some (r, m') → m_R X (d + 4) 241 0 [some (.ref 304), none] [] (SH, m) (some (.int r), (SH, m'))) : ∀ (s0 : Int32) (w0 : Option Value) (w1 : Option Value) (w2 : Option Value) (w3 : Option Value) (w4 : Option Value) (m : mM) (r : Int32) (m' : mM), f_m_not_43 F g s0 m = some (r, m') → m_R X (d + 5) 237 43 [w0, w1, w2, w3, w4] [.int s0] (SH, m) (some (.int r), (SH, m')) := by
  intro s0 w0 w1 w2 w3 w4 m r m' h
  unfold f_m_not_43 at h
  obtain ⟨rfl, rfl⟩ := m_some h
  exact m_R_iret (by decide) (m_opb_of (ins := .ireturn) (len := 1) (tag := 1) (a := 0) (b := 0) (c := 0) (q := 0) (by decide +kernel)) (Or.inl rfl)
def f_m_not_138 (F : Nat) (g : Nat → mM → Option (Int32 × mM))  (s0 : Int32) (m : mM) : Option (Int32 × mM) := some (s0, m)
theorem ok_m_not_138 (X : mX) (d F : Nat) (g : Nat → mM → Option (Int32 × mM)) (hg235 : ∀  (m : mM) (r : Int32) (m' : mM), g 235  m = some (r, m') → m_R X (d + 4) 235 0 [some (.ref 304), none, none] [] (SH, m) (some (.int r), (SH, m'))) (hg236 : ∀  (m : mM) (r : Int32) (m' : mM), g 236  m = some (r, m') → m_R X (d + 4) 236 0 [some (.ref 304), none, none] [] (SH, m) (some (.int r), (SH, m'))) (hg237 : ∀  (m : mM) (r : Int32) (m' : mM), g 237  m = some (r, m') → m_R X (d + 4) 237 0 [some (.ref 304), none, none, none, none] [] (SH, m) (some (.int r), (SH, m'))) (hg239 : ∀  (m : mM) (r : Int32) (m' : mM), g 239  m = some (r, m') → m_R X (d + 4) 239 0 [some (.ref 304), none, none, none] [] (SH, m) (some (.int r), (SH, m'))) (hg240 : ∀  (m : mM) (r : Int32) (m' : mM), g 240  m = some (r, m') → m_R X (d + 4) 240 0 [some (.ref 304), none, none, none, none] [] (SH, m) (some (.int r), (SH, m'))) (hg241 : ∀  (m : mM) (r : Int32) (m' : mM), g 241  m = some (r, m') → m_R X (d + 4) 241 0 [some (.ref 304), none] [] (SH, m) (some (.int r), (SH, m'))) : ∀ (s0 : Int32) (w0 : Option Value) (w1 : Option Value) (w2 : Option Value) (w3 : Option Value) (w4 : Option Value) (m : mM) (r : Int32) (m' : mM), f_m_not_138 F g s0 m = some (r, m') → m_R X (d + 5) 237 138 [w0, w1, w2, w3, w4] [.int s0] (SH, m) (some (.int r), (SH, m')) := by
  intro s0 w0 w1 w2 w3 w4 m r m' h
  unfold f_m_not_138 at h
  obtain ⟨rfl, rfl⟩ := m_some h
  exact m_R_iret (by decide) (m_opb_of (ins := .ireturn) (len := 1) (tag := 1) (a := 0) (b := 0) (c := 0) (q := 0) (by decide +kernel)) (Or.inl rfl)
def f_m_not_133 (F : Nat) (g : Nat → mM → Option (Int32 × mM))   (m : mM) : Option (Int32 × mM) := f_m_not_138 F g (1 : Int32) m
theorem ok_m_not_133 (X : mX) (d F : Nat) (g : Nat → mM → Option (Int32 × mM)) (hg235 : ∀  (m : mM) (r : Int32) (m' : mM), g 235  m = some (r, m') → m_R X (d + 4) 235 0 [some (.ref 304), none, none] [] (SH, m) (some (.int r), (SH, m'))) (hg236 : ∀  (m : mM) (r : Int32) (m' : mM), g 236  m = some (r, m') → m_R X (d + 4) 236 0 [some (.ref 304), none, none] [] (SH, m) (some (.int r), (SH, m'))) (hg237 : ∀  (m : mM) (r : Int32) (m' : mM), g 237  m = some (r, m') → m_R X (d + 4) 237 0 [some (.ref 304), none, none, none, none] [] (SH, m) (some (.int r), (SH, m'))) (hg239 : ∀  (m : mM) (r : Int32) (m' : mM), g 239  m = some (r, m') → m_R X (d + 4) 239 0 [some (.ref 304), none, none, none] [] (SH, m) (some (.int r), (SH, m'))) (hg240 : ∀  (m : mM) (r : Int32) (m' : mM), g 240  m = some (r, m') → m_R X (d + 4) 240 0 [some (.ref 304), none, none, none, none] [] (SH, m) (some (.int r), (SH, m'))) (hg241 : ∀  (m : mM) (r : Int32) (m' : mM), g 241  m = some (r, m') → m_R X (d + 4) 241 0 [some (.ref 304), none] [] (SH, m) (some (.int r), (SH, m'))) : ∀  (w0 : Option Value) (w1 : Option Value) (w2 : Option Value) (w3 : Option Value) (w4 : Option Value) (m : mM) (r : Int32) (m' : mM), f_m_not_133 F g  m = some (r, m') → m_R X (d + 5) 237 133 [w0, w1, w2, w3, w4] [] (SH, m) (some (.int r), (SH, m')) := by
  intro w0 w1 w2 w3 w4 m r m' h
  unfold f_m_not_133 at h
  refine m_R_sg (by decide) [(.iconst 1, 1, 0, 1, 0, 0, 0), (.goto 4, 3, 0, 138, 0, 0, 0)] (by decide +kernel) (show m_sgl X _ _ _ _ _ = some (138, [w0, w1, w2, w3, w4], [.int (1 : Int32)], (SH, m.1, m.2)) from rfl) ?_
  exact ok_m_not_138 X d F g hg235 hg236 hg237 hg239 hg240 hg241 _ _ _ _ _ _ _ _ _ h
def f_m_not_137 (F : Nat) (g : Nat → mM → Option (Int32 × mM))   (m : mM) : Option (Int32 × mM) := f_m_not_138 F g (0 : Int32) m
theorem ok_m_not_137 (X : mX) (d F : Nat) (g : Nat → mM → Option (Int32 × mM)) (hg235 : ∀  (m : mM) (r : Int32) (m' : mM), g 235  m = some (r, m') → m_R X (d + 4) 235 0 [some (.ref 304), none, none] [] (SH, m) (some (.int r), (SH, m'))) (hg236 : ∀  (m : mM) (r : Int32) (m' : mM), g 236  m = some (r, m') → m_R X (d + 4) 236 0 [some (.ref 304), none, none] [] (SH, m) (some (.int r), (SH, m'))) (hg237 : ∀  (m : mM) (r : Int32) (m' : mM), g 237  m = some (r, m') → m_R X (d + 4) 237 0 [some (.ref 304), none, none, none, none] [] (SH, m) (some (.int r), (SH, m'))) (hg239 : ∀  (m : mM) (r : Int32) (m' : mM), g 239  m = some (r, m') → m_R X (d + 4) 239 0 [some (.ref 304), none, none, none] [] (SH, m) (some (.int r), (SH, m'))) (hg240 : ∀  (m : mM) (r : Int32) (m' : mM), g 240  m = some (r, m') → m_R X (d + 4) 240 0 [some (.ref 304), none, none, none, none] [] (SH, m) (some (.int r), (SH, m'))) (hg241 : ∀  (m : mM) (r : Int32) (m' : mM), g 241  m = some (r, m') → m_R X (d + 4) 241 0 [some (.ref 304), none] [] (SH, m) (some (.int r), (SH, m'))) : ∀  (w0 : Option Value) (w1 : Option Value) (w2 : Option Value) (w3 : Option Value) (w4 : Option Value) (m : mM) (r : Int32) (m' : mM), f_m_not_137 F g  m = some (r, m') → m_R X (d + 5) 237 137 [w0, w1, w2, w3, w4] [] (SH, m) (some (.int r), (SH, m')) := by
  intro w0 w1 w2 w3 w4 m r m' h
  unfold f_m_not_137 at h
  refine m_R_sg (by decide) [(.iconst 0, 1, 0, 0, 0, 0, 0)] (by decide +kernel) (show m_sgl X _ _ _ _ _ = some (138, [w0, w1, w2, w3, w4], [.int (0 : Int32)], (SH, m.1, m.2)) from rfl) ?_
  exact ok_m_not_138 X d F g hg235 hg236 hg237 hg239 hg240 hg241 _ _ _ _ _ _ _ _ _ h
def f_m_not_78 (F : Nat) (g : Nat → mM → Option (Int32 × mM))  (v1 : Int32) (m : mM) : Option (Int32 × mM) := ((f_m_next F m).bind fun q8 => ((g 239 q8.2).bind fun q9 => (if (lg_cmp (m.2 304) (60 : Int64)) = 0 then (if q9.1 ≤ v1 then f_m_not_137 F g q9.2 else f_m_not_133 F g q9.2) else (if (lg_cmp (m.2 304) (61 : Int64)) = 0 then (if v1 = q9.1 then f_m_not_133 F g q9.2 else f_m_not_137 F g q9.2) else (if v1 ≤ q9.1 then f_m_not_137 F g q9.2 else f_m_not_133 F g q9.2)))))
theorem ok_m_not_78 (X : mX) (d F : Nat) (g : Nat → mM → Option (Int32 × mM)) (hg235 : ∀  (m : mM) (r : Int32) (m' : mM), g 235  m = some (r, m') → m_R X (d + 4) 235 0 [some (.ref 304), none, none] [] (SH, m) (some (.int r), (SH, m'))) (hg236 : ∀  (m : mM) (r : Int32) (m' : mM), g 236  m = some (r, m') → m_R X (d + 4) 236 0 [some (.ref 304), none, none] [] (SH, m) (some (.int r), (SH, m'))) (hg237 : ∀  (m : mM) (r : Int32) (m' : mM), g 237  m = some (r, m') → m_R X (d + 4) 237 0 [some (.ref 304), none, none, none, none] [] (SH, m) (some (.int r), (SH, m'))) (hg239 : ∀  (m : mM) (r : Int32) (m' : mM), g 239  m = some (r, m') → m_R X (d + 4) 239 0 [some (.ref 304), none, none, none] [] (SH, m) (some (.int r), (SH, m'))) (hg240 : ∀  (m : mM) (r : Int32) (m' : mM), g 240  m = some (r, m') → m_R X (d + 4) 240 0 [some (.ref 304), none, none, none, none] [] (SH, m) (some (.int r), (SH, m'))) (hg241 : ∀  (m : mM) (r : Int32) (m' : mM), g 241  m = some (r, m') → m_R X (d + 4) 241 0 [some (.ref 304), none] [] (SH, m) (some (.int r), (SH, m'))) : ∀ (v1 : Int32) (w2 : Option Value) (w3 : Option Value) (w4 : Option Value) (m : mM) (r : Int32) (m' : mM), f_m_not_78 F g v1 m = some (r, m') → m_R X (d + 5) 237 78 [some (.ref 304), some (.int v1), w2, w3, w4] [] (SH, m) (some (.int r), (SH, m')) := by
  intro v1 w2 w3 w4 m r m' h
  unfold f_m_not_78 at h
  refine m_R_sg (by decide) [(.aload_n 0, 1, 0, 0, 0, 0, 0), (.getfield 242, 3, 0, 12, 14, 2, 1509), (.lstore_n 2, 1, 0, 2, 0, 0, 0), (.aload_n 0, 1, 0, 0, 0, 0, 0)] (by decide +kernel) (show m_sgl X _ _ _ _ _ = some (84, [some (.ref 304), some (.int v1), some (.long (m.2 304)), none, w4], [.ref 304], (SH, m.1, m.2)) from rfl) ?_
  obtain ⟨q8, hc8, h⟩ := Option.bind_eq_some_iff.mp h
  refine m_R_cV (v := none) (h1 := (SH, q8.2)) (rest := []) (lo' := [some (.ref 304), none, none]) (ml := 3) (k0 := 304) (by decide) (Or.inl rfl) (m_opb_of (ins := .invokevirtual 269) (len := 3) (tag := 5) (a := 230) (b := 0) (c := 0) (q := 1708) (by decide +kernel)) (by decide +kernel) rfl (show m_isO 230 304 (SH, _) = true from m_isO_of (by decide +kernel)) (Nat.le_of_ble_eq_true rfl) rfl rfl (ok_m_next X (d + 3) F _ _ _ hc8) ?_
  refine m_R_sg (by decide) [(.aload_n 0, 1, 0, 0, 0, 0, 0)] (by decide +kernel) (show m_sgl X _ _ _ _ _ = some (88, [some (.ref 304), some (.int v1), some (.long (m.2 304)), none, w4], [.ref 304], (SH, q8.2.1, q8.2.2)) from rfl) ?_
  obtain ⟨q9, hc9, h⟩ := Option.bind_eq_some_iff.mp h
  refine m_R_cV (v := (some (.int q9.1))) (h1 := (SH, q9.2)) (rest := []) (lo' := [some (.ref 304), none, none, none]) (ml := 4) (k0 := 304) (by decide) (Or.inl rfl) (m_opb_of (ins := .invokevirtual 330) (len := 3) (tag := 5) (a := 239) (b := 0) (c := 0) (q := 1757) (by decide +kernel)) (by decide +kernel) rfl (show m_isO 239 304 (SH, _) = true from m_isO_of (by decide +kernel)) (Nat.le_of_ble_eq_true rfl) rfl rfl (hg239 _ _ _ hc9) ?_
  refine m_R_sg (by decide) [(.istore 4, 2, 0, 4, 0, 0, 0), (.lload_n 2, 1, 0, 2, 0, 0, 0), (.ldc2_w 333, 3, 0, 60, 0, 0, 1804), (.lcmp, 1, 0, 0, 0, 0, 0)] (by decide +kernel) (show m_sgl X _ _ _ _ _ = some (98, [some (.ref 304), some (.int v1), some (.long (m.2 304)), none, some (.int q9.1)], [.int (lg_cmp (m.2 304) (60 : Int64))], (SH, q9.2.1, q9.2.2)) from rfl) ?_
  rcases m_ite h with ⟨c72, h⟩ | ⟨c72, h⟩
  · refine m_R_1 (by decide) (m_opb_of (ins := .ifCond .ne 12) (len := 3) (tag := 0) (a := 110) (b := 0) (c := 0) (q := 0) (by decide +kernel)) (if_pos c72) ?_
    refine m_R_sg (by decide) [(.iload_n 1, 1, 0, 1, 0, 0, 0), (.iload 4, 2, 0, 4, 0, 0, 0)] (by decide +kernel) (show m_sgl X _ _ _ _ _ = some (104, [some (.ref 304), some (.int v1), some (.long (m.2 304)), none, some (.int q9.1)], [.int q9.1, .int v1], (SH, q9.2.1, q9.2.2)) from rfl) ?_
    rcases m_ite h with ⟨c73, h⟩ | ⟨c73, h⟩
    · refine m_R_1 (by decide) (m_opb_of (ins := .if_icmp .ge 33) (len := 3) (tag := 0) (a := 137) (b := 0) (c := 0) (q := 0) (by decide +kernel)) (if_pos c73) ?_
      exact ok_m_not_137 X d F g hg235 hg236 hg237 hg239 hg240 hg241 _ _ _ _ _ _ _ _ h
    · refine m_R_1 (by decide) (m_opb_of (ins := .if_icmp .ge 33) (len := 3) (tag := 0) (a := 137) (b := 0) (c := 0) (q := 0) (by decide +kernel)) (if_neg c73) ?_
      refine m_R_sg (by decide) [(.goto 26, 3, 0, 133, 0, 0, 0)] (by decide +kernel) (show m_sgl X _ _ _ _ _ = some (133, [some (.ref 304), some (.int v1), some (.long (m.2 304)), none, some (.int q9.1)], [], (SH, q9.2.1, q9.2.2)) from rfl) ?_
      exact ok_m_not_133 X d F g hg235 hg236 hg237 hg239 hg240 hg241 _ _ _ _ _ _ _ _ h
  · refine m_R_1 (by decide) (m_opb_of (ins := .ifCond .ne 12) (len := 3) (tag := 0) (a := 110) (b := 0) (c := 0) (q := 0) (by decide +kernel)) (if_neg c72) ?_
    refine m_R_sg (by decide) [(.lload_n 2, 1, 0, 2, 0, 0, 0), (.ldc2_w 335, 3, 0, 61, 0, 0, 1805), (.lcmp, 1, 0, 0, 0, 0, 0)] (by decide +kernel) (show m_sgl X _ _ _ _ _ = some (115, [some (.ref 304), some (.int v1), some (.long (m.2 304)), none, some (.int q9.1)], [.int (lg_cmp (m.2 304) (61 : Int64))], (SH, q9.2.1, q9.2.2)) from rfl) ?_
    rcases m_ite h with ⟨c74, h⟩ | ⟨c74, h⟩
    · refine m_R_1 (by decide) (m_opb_of (ins := .ifCond .ne 12) (len := 3) (tag := 0) (a := 127) (b := 0) (c := 0) (q := 0) (by decide +kernel)) (if_pos c74) ?_
      refine m_R_sg (by decide) [(.iload_n 1, 1, 0, 1, 0, 0, 0), (.iload 4, 2, 0, 4, 0, 0, 0)] (by decide +kernel) (show m_sgl X _ _ _ _ _ = some (121, [some (.ref 304), some (.int v1), some (.long (m.2 304)), none, some (.int q9.1)], [.int q9.1, .int v1], (SH, q9.2.1, q9.2.2)) from rfl) ?_
      rcases m_ite h with ⟨c75, h⟩ | ⟨c75, h⟩
      · refine m_R_1 (by decide) (m_opb_of (ins := .if_icmp .ne 16) (len := 3) (tag := 0) (a := 137) (b := 0) (c := 0) (q := 0) (by decide +kernel)) (if_pos c75) ?_
        refine m_R_sg (by decide) [(.goto 9, 3, 0, 133, 0, 0, 0)] (by decide +kernel) (show m_sgl X _ _ _ _ _ = some (133, [some (.ref 304), some (.int v1), some (.long (m.2 304)), none, some (.int q9.1)], [], (SH, q9.2.1, q9.2.2)) from rfl) ?_
        exact ok_m_not_133 X d F g hg235 hg236 hg237 hg239 hg240 hg241 _ _ _ _ _ _ _ _ h
      · refine m_R_1 (by decide) (m_opb_of (ins := .if_icmp .ne 16) (len := 3) (tag := 0) (a := 137) (b := 0) (c := 0) (q := 0) (by decide +kernel)) (if_neg c75) ?_
        exact ok_m_not_137 X d F g hg235 hg236 hg237 hg239 hg240 hg241 _ _ _ _ _ _ _ _ h
    · refine m_R_1 (by decide) (m_opb_of (ins := .ifCond .ne 12) (len := 3) (tag := 0) (a := 127) (b := 0) (c := 0) (q := 0) (by decide +kernel)) (if_neg c74) ?_
      refine m_R_sg (by decide) [(.iload_n 1, 1, 0, 1, 0, 0, 0), (.iload 4, 2, 0, 4, 0, 0, 0)] (by decide +kernel) (show m_sgl X _ _ _ _ _ = some (130, [some (.ref 304), some (.int v1), some (.long (m.2 304)), none, some (.int q9.1)], [.int q9.1, .int v1], (SH, q9.2.1, q9.2.2)) from rfl) ?_
      rcases m_ite h with ⟨c76, h⟩ | ⟨c76, h⟩
      · refine m_R_1 (by decide) (m_opb_of (ins := .if_icmp .le 7) (len := 3) (tag := 0) (a := 137) (b := 0) (c := 0) (q := 0) (by decide +kernel)) (if_pos c76) ?_
        exact ok_m_not_137 X d F g hg235 hg236 hg237 hg239 hg240 hg241 _ _ _ _ _ _ _ _ h
      · refine m_R_1 (by decide) (m_opb_of (ins := .if_icmp .le 7) (len := 3) (tag := 0) (a := 137) (b := 0) (c := 0) (q := 0) (by decide +kernel)) (if_neg c76) ?_
        exact ok_m_not_133 X d F g hg235 hg236 hg237 hg239 hg240 hg241 _ _ _ _ _ _ _ _ h
def f_m_not (F : Nat) (g : Nat → mM → Option (Int32 × mM))   (m : mM) : Option (Int32 × mM) := ((f_m_isWord F (10631 : Int64) m).bind fun q1 => (if q1.1 = 0 then ((g 239 q1.2).bind fun q2 => ((f_m_isSign F (60 : Int32) q2.2).bind fun q3 => (if q3.1 = 0 then ((f_m_isSign F (61 : Int32) q3.2).bind fun q4 => (if q4.1 = 0 then ((f_m_isSign F (62 : Int32) q4.2).bind fun q5 => (if q5.1 = 0 then some (q2.1, q5.2) else f_m_not_78 F g q2.1 q5.2)) else f_m_not_78 F g q2.1 q4.2)) else f_m_not_78 F g q2.1 q3.2))) else ((f_m_opens F q1.2).bind fun q6 => (if q6.1 = 0 then some ((0 : Int32), q6.2) else ((g 237 q6.2).bind fun q7 => (if q7.1 = 0 then f_m_not_43 F g (1 : Int32) ((m_up q7.2.1 304 16 ((q7.2.1 304 16) - (1 : Int32))), q7.2.2) else f_m_not_43 F g (0 : Int32) ((m_up q7.2.1 304 16 ((q7.2.1 304 16) - (1 : Int32))), q7.2.2)))))))
theorem ok_m_not (X : mX) (d F : Nat) (g : Nat → mM → Option (Int32 × mM)) (hg235 : ∀  (m : mM) (r : Int32) (m' : mM), g 235  m = some (r, m') → m_R X (d + 4) 235 0 [some (.ref 304), none, none] [] (SH, m) (some (.int r), (SH, m'))) (hg236 : ∀  (m : mM) (r : Int32) (m' : mM), g 236  m = some (r, m') → m_R X (d + 4) 236 0 [some (.ref 304), none, none] [] (SH, m) (some (.int r), (SH, m'))) (hg237 : ∀  (m : mM) (r : Int32) (m' : mM), g 237  m = some (r, m') → m_R X (d + 4) 237 0 [some (.ref 304), none, none, none, none] [] (SH, m) (some (.int r), (SH, m'))) (hg239 : ∀  (m : mM) (r : Int32) (m' : mM), g 239  m = some (r, m') → m_R X (d + 4) 239 0 [some (.ref 304), none, none, none] [] (SH, m) (some (.int r), (SH, m'))) (hg240 : ∀  (m : mM) (r : Int32) (m' : mM), g 240  m = some (r, m') → m_R X (d + 4) 240 0 [some (.ref 304), none, none, none, none] [] (SH, m) (some (.int r), (SH, m'))) (hg241 : ∀  (m : mM) (r : Int32) (m' : mM), g 241  m = some (r, m') → m_R X (d + 4) 241 0 [some (.ref 304), none] [] (SH, m) (some (.int r), (SH, m'))) : ∀   (m : mM) (r : Int32) (m' : mM), f_m_not F g  m = some (r, m') → m_R X (d + 5) 237 0 [some (.ref 304), none, none, none, none] [] (SH, m) (some (.int r), (SH, m')) := by
  intro m r m' h
  unfold f_m_not at h
  refine m_R_sg (by decide) [(.aload_n 0, 1, 0, 0, 0, 0, 0), (.ldc2_w 325, 3, 0, 10631, 0, 0, 1752)] (by decide +kernel) (show m_sgl X _ _ _ _ _ = some (4, [some (.ref 304), none, none, none, none], [.long (10631 : Int64), .ref 304], (SH, m.1, m.2)) from rfl) ?_
  obtain ⟨q1, hc1, h⟩ := Option.bind_eq_some_iff.mp h
  refine m_R_cV (v := (some (.int q1.1))) (h1 := (SH, q1.2)) (rest := []) (lo' := [some (.ref 304), some (.long (10631 : Int64)), none]) (ml := 3) (k0 := 304) (by decide) (Or.inl rfl) (m_opb_of (ins := .invokevirtual 273) (len := 3) (tag := 5) (a := 233) (b := 1) (c := 0) (q := 1726) (by decide +kernel)) (by decide +kernel) rfl (show m_isO 233 304 (SH, _) = true from m_isO_of (by decide +kernel)) (Nat.le_of_ble_eq_true rfl) rfl rfl (ok_m_isWord X (d + 4) F _ _ _ _ hc1) ?_
  rcases m_ite h with ⟨c77, h⟩ | ⟨c77, h⟩
  · refine m_R_1 (by decide) (m_opb_of (ins := .ifCond .eq 37) (len := 3) (tag := 0) (a := 44) (b := 0) (c := 0) (q := 0) (by decide +kernel)) (if_pos c77) ?_
    refine m_R_sg (by decide) [(.aload_n 0, 1, 0, 0, 0, 0, 0)] (by decide +kernel) (show m_sgl X _ _ _ _ _ = some (45, [some (.ref 304), none, none, none, none], [.ref 304], (SH, q1.2.1, q1.2.2)) from rfl) ?_
    obtain ⟨q2, hc2, h⟩ := Option.bind_eq_some_iff.mp h
    refine m_R_cV (v := (some (.int q2.1))) (h1 := (SH, q2.2)) (rest := []) (lo' := [some (.ref 304), none, none, none]) (ml := 4) (k0 := 304) (by decide) (Or.inl rfl) (m_opb_of (ins := .invokevirtual 330) (len := 3) (tag := 5) (a := 239) (b := 0) (c := 0) (q := 1757) (by decide +kernel)) (by decide +kernel) rfl (show m_isO 239 304 (SH, _) = true from m_isO_of (by decide +kernel)) (Nat.le_of_ble_eq_true rfl) rfl rfl (hg239 _ _ _ hc2) ?_
    refine m_R_sg (by decide) [(.istore_n 1, 1, 0, 1, 0, 0, 0), (.aload_n 0, 1, 0, 0, 0, 0, 0), (.bipush 60, 2, 0, 60, 0, 0, 0)] (by decide +kernel) (show m_sgl X _ _ _ _ _ = some (52, [some (.ref 304), some (.int q2.1), none, none, none], [.int (60 : Int32), .ref 304], (SH, q2.2.1, q2.2.2)) from rfl) ?_
    obtain ⟨q3, hc3, h⟩ := Option.bind_eq_some_iff.mp h
    refine m_R_cV (v := (some (.int q3.1))) (h1 := (SH, q3.2)) (rest := []) (lo' := [some (.ref 304), some (.int (60 : Int32))]) (ml := 2) (k0 := 304) (by decide) (Or.inl rfl) (m_opb_of (ins := .invokevirtual 301) (len := 3) (tag := 5) (a := 242) (b := 1) (c := 0) (q := 1769) (by decide +kernel)) (by decide +kernel) rfl (show m_isO 242 304 (SH, _) = true from m_isO_of (by decide +kernel)) (Nat.le_of_ble_eq_true rfl) rfl rfl (ok_m_isSign X (d + 4) F _ _ _ _ hc3) ?_
    rcases m_ite h with ⟨c78, h⟩ | ⟨c78, h⟩
    · refine m_R_1 (by decide) (m_opb_of (ins := .ifCond .ne 23) (len := 3) (tag := 0) (a := 78) (b := 0) (c := 0) (q := 0) (by decide +kernel)) (if_pos c78) ?_
      refine m_R_sg (by decide) [(.aload_n 0, 1, 0, 0, 0, 0, 0), (.bipush 61, 2, 0, 61, 0, 0, 0)] (by decide +kernel) (show m_sgl X _ _ _ _ _ = some (61, [some (.ref 304), some (.int q2.1), none, none, none], [.int (61 : Int32), .ref 304], (SH, q3.2.1, q3.2.2)) from rfl) ?_
      obtain ⟨q4, hc4, h⟩ := Option.bind_eq_some_iff.mp h
      refine m_R_cV (v := (some (.int q4.1))) (h1 := (SH, q4.2)) (rest := []) (lo' := [some (.ref 304), some (.int (61 : Int32))]) (ml := 2) (k0 := 304) (by decide) (Or.inl rfl) (m_opb_of (ins := .invokevirtual 301) (len := 3) (tag := 5) (a := 242) (b := 1) (c := 0) (q := 1769) (by decide +kernel)) (by decide +kernel) rfl (show m_isO 242 304 (SH, _) = true from m_isO_of (by decide +kernel)) (Nat.le_of_ble_eq_true rfl) rfl rfl (ok_m_isSign X (d + 4) F _ _ _ _ hc4) ?_
      rcases m_ite h with ⟨c79, h⟩ | ⟨c79, h⟩
      · refine m_R_1 (by decide) (m_opb_of (ins := .ifCond .ne 14) (len := 3) (tag := 0) (a := 78) (b := 0) (c := 0) (q := 0) (by decide +kernel)) (if_pos c79) ?_
        refine m_R_sg (by decide) [(.aload_n 0, 1, 0, 0, 0, 0, 0), (.bipush 62, 2, 0, 62, 0, 0, 0)] (by decide +kernel) (show m_sgl X _ _ _ _ _ = some (70, [some (.ref 304), some (.int q2.1), none, none, none], [.int (62 : Int32), .ref 304], (SH, q4.2.1, q4.2.2)) from rfl) ?_
        obtain ⟨q5, hc5, h⟩ := Option.bind_eq_some_iff.mp h
        refine m_R_cV (v := (some (.int q5.1))) (h1 := (SH, q5.2)) (rest := []) (lo' := [some (.ref 304), some (.int (62 : Int32))]) (ml := 2) (k0 := 304) (by decide) (Or.inl rfl) (m_opb_of (ins := .invokevirtual 301) (len := 3) (tag := 5) (a := 242) (b := 1) (c := 0) (q := 1769) (by decide +kernel)) (by decide +kernel) rfl (show m_isO 242 304 (SH, _) = true from m_isO_of (by decide +kernel)) (Nat.le_of_ble_eq_true rfl) rfl rfl (ok_m_isSign X (d + 4) F _ _ _ _ hc5) ?_
        rcases m_ite h with ⟨c80, h⟩ | ⟨c80, h⟩
        · refine m_R_1 (by decide) (m_opb_of (ins := .ifCond .ne 5) (len := 3) (tag := 0) (a := 78) (b := 0) (c := 0) (q := 0) (by decide +kernel)) (if_pos c80) ?_
          refine m_R_sg (by decide) [(.iload_n 1, 1, 0, 1, 0, 0, 0)] (by decide +kernel) (show m_sgl X _ _ _ _ _ = some (77, [some (.ref 304), some (.int q2.1), none, none, none], [.int q2.1], (SH, q5.2.1, q5.2.2)) from rfl) ?_
          obtain ⟨rfl, rfl⟩ := m_some h
          exact m_R_iret (by decide) (m_opb_of (ins := .ireturn) (len := 1) (tag := 1) (a := 0) (b := 0) (c := 0) (q := 0) (by decide +kernel)) (Or.inl rfl)
        · refine m_R_1 (by decide) (m_opb_of (ins := .ifCond .ne 5) (len := 3) (tag := 0) (a := 78) (b := 0) (c := 0) (q := 0) (by decide +kernel)) (if_neg c80) ?_
          exact ok_m_not_78 X d F g hg235 hg236 hg237 hg239 hg240 hg241 _ _ _ _ _ _ _ h
      · refine m_R_1 (by decide) (m_opb_of (ins := .ifCond .ne 14) (len := 3) (tag := 0) (a := 78) (b := 0) (c := 0) (q := 0) (by decide +kernel)) (if_neg c79) ?_
        exact ok_m_not_78 X d F g hg235 hg236 hg237 hg239 hg240 hg241 _ _ _ _ _ _ _ h
    · refine m_R_1 (by decide) (m_opb_of (ins := .ifCond .ne 23) (len := 3) (tag := 0) (a := 78) (b := 0) (c := 0) (q := 0) (by decide +kernel)) (if_neg c78) ?_
      exact ok_m_not_78 X d F g hg235 hg236 hg237 hg239 hg240 hg241 _ _ _ _ _ _ _ h
  · refine m_R_1 (by decide) (m_opb_of (ins := .ifCond .eq 37) (len := 3) (tag := 0) (a := 44) (b := 0) (c := 0) (q := 0) (by decide +kernel)) (if_neg c77) ?_
    refine m_R_sg (by decide) [(.aload_n 0, 1, 0, 0, 0, 0, 0)] (by decide +kernel) (show m_sgl X _ _ _ _ _ = some (11, [some (.ref 304), none, none, none, none], [.ref 304], (SH, q1.2.1, q1.2.2)) from rfl) ?_
    obtain ⟨q6, hc6, h⟩ := Option.bind_eq_some_iff.mp h
    refine m_R_cV (v := (some (.int q6.1))) (h1 := (SH, q6.2)) (rest := []) (lo' := [some (.ref 304)]) (ml := 1) (k0 := 304) (by decide) (Or.inl rfl) (m_opb_of (ins := .invokevirtual 304) (len := 3) (tag := 5) (a := 238) (b := 0) (c := 0) (q := 1753) (by decide +kernel)) (by decide +kernel) rfl (show m_isO 238 304 (SH, _) = true from m_isO_of (by decide +kernel)) (Nat.le_of_ble_eq_true rfl) rfl rfl (ok_m_opens X (d + 2) F _ _ _ hc6) ?_
    rcases m_ite h with ⟨c81, h⟩ | ⟨c81, h⟩
    · refine m_R_1 (by decide) (m_opb_of (ins := .ifCond .ne 5) (len := 3) (tag := 0) (a := 19) (b := 0) (c := 0) (q := 0) (by decide +kernel)) (if_pos c81) ?_
      refine m_R_sg (by decide) [(.iconst 0, 1, 0, 0, 0, 0, 0)] (by decide +kernel) (show m_sgl X _ _ _ _ _ = some (18, [some (.ref 304), none, none, none, none], [.int (0 : Int32)], (SH, q6.2.1, q6.2.2)) from rfl) ?_
      obtain ⟨rfl, rfl⟩ := m_some h
      exact m_R_iret (by decide) (m_opb_of (ins := .ireturn) (len := 1) (tag := 1) (a := 0) (b := 0) (c := 0) (q := 0) (by decide +kernel)) (Or.inl rfl)
    · refine m_R_1 (by decide) (m_opb_of (ins := .ifCond .ne 5) (len := 3) (tag := 0) (a := 19) (b := 0) (c := 0) (q := 0) (by decide +kernel)) (if_neg c81) ?_
      refine m_R_sg (by decide) [(.aload_n 0, 1, 0, 0, 0, 0, 0)] (by decide +kernel) (show m_sgl X _ _ _ _ _ = some (20, [some (.ref 304), none, none, none, none], [.ref 304], (SH, q6.2.1, q6.2.2)) from rfl) ?_
      obtain ⟨q7, hc7, h⟩ := Option.bind_eq_some_iff.mp h
      refine m_R_cV (v := (some (.int q7.1))) (h1 := (SH, q7.2)) (rest := []) (lo' := [some (.ref 304), none, none, none, none]) (ml := 5) (k0 := 304) (by decide) (Or.inl rfl) (m_opb_of (ins := .invokevirtual 327) (len := 3) (tag := 5) (a := 237) (b := 0) (c := 0) (q := 1748) (by decide +kernel)) (by decide +kernel) rfl (show m_isO 237 304 (SH, _) = true from m_isO_of (by decide +kernel)) (Nat.le_of_ble_eq_true rfl) rfl rfl (hg237 _ _ _ hc7) ?_
      refine m_R_sg (by decide) [(.istore_n 1, 1, 0, 1, 0, 0, 0), (.aload_n 0, 1, 0, 0, 0, 0, 0), (.dup, 1, 0, 0, 0, 0, 0), (.getfield 263, 3, 0, 12, 16, 0, 1511), (.iconst 1, 1, 0, 1, 0, 0, 0), (.isub, 1, 0, 0, 0, 0, 0), (.putfield 263, 3, 0, 12, 16, 0, 1511), (.iload_n 1, 1, 0, 1, 0, 0, 0)] (by decide +kernel) (show m_sgl X _ _ _ _ _ = some (35, [some (.ref 304), some (.int q7.1), none, none, none], [.int q7.1], (SH, (m_up q7.2.1 304 16 ((q7.2.1 304 16) - (1 : Int32))), q7.2.2)) from rfl) ?_
      rcases m_ite h with ⟨c82, h⟩ | ⟨c82, h⟩
      · refine m_R_1 (by decide) (m_opb_of (ins := .ifCond .ne 7) (len := 3) (tag := 0) (a := 42) (b := 0) (c := 0) (q := 0) (by decide +kernel)) (if_pos c82) ?_
        refine m_R_sg (by decide) [(.iconst 1, 1, 0, 1, 0, 0, 0), (.goto 4, 3, 0, 43, 0, 0, 0)] (by decide +kernel) (show m_sgl X _ _ _ _ _ = some (43, [some (.ref 304), some (.int q7.1), none, none, none], [.int (1 : Int32)], (SH, (m_up q7.2.1 304 16 ((q7.2.1 304 16) - (1 : Int32))), q7.2.2)) from rfl) ?_
        exact ok_m_not_43 X d F g hg235 hg236 hg237 hg239 hg240 hg241 _ _ _ _ _ _ _ _ _ h
      · refine m_R_1 (by decide) (m_opb_of (ins := .ifCond .ne 7) (len := 3) (tag := 0) (a := 42) (b := 0) (c := 0) (q := 0) (by decide +kernel)) (if_neg c82) ?_
        refine m_R_sg (by decide) [(.iconst 0, 1, 0, 0, 0, 0, 0)] (by decide +kernel) (show m_sgl X _ _ _ _ _ = some (43, [some (.ref 304), some (.int q7.1), none, none, none], [.int (0 : Int32)], (SH, (m_up q7.2.1 304 16 ((q7.2.1 304 16) - (1 : Int32))), q7.2.2)) from rfl) ?_
        exact ok_m_not_43 X d F g hg235 hg236 hg237 hg239 hg240 hg241 _ _ _ _ _ _ _ _ _ h
def f_m_added_62 (F : Nat) (g : Nat → mM → Option (Int32 × mM)) (k5 : Int32 → mM → Option (Int32 × mM)) (s0 : Int32) (m : mM) : Option (Int32 × mM) := k5 s0 m
theorem ok_m_added_62 (X : mX) (d F : Nat) (g : Nat → mM → Option (Int32 × mM)) (hg235 : ∀  (m : mM) (r : Int32) (m' : mM), g 235  m = some (r, m') → m_R X (d + 4) 235 0 [some (.ref 304), none, none] [] (SH, m) (some (.int r), (SH, m'))) (hg236 : ∀  (m : mM) (r : Int32) (m' : mM), g 236  m = some (r, m') → m_R X (d + 4) 236 0 [some (.ref 304), none, none] [] (SH, m) (some (.int r), (SH, m'))) (hg237 : ∀  (m : mM) (r : Int32) (m' : mM), g 237  m = some (r, m') → m_R X (d + 4) 237 0 [some (.ref 304), none, none, none, none] [] (SH, m) (some (.int r), (SH, m'))) (hg239 : ∀  (m : mM) (r : Int32) (m' : mM), g 239  m = some (r, m') → m_R X (d + 4) 239 0 [some (.ref 304), none, none, none] [] (SH, m) (some (.int r), (SH, m'))) (hg240 : ∀  (m : mM) (r : Int32) (m' : mM), g 240  m = some (r, m') → m_R X (d + 4) 240 0 [some (.ref 304), none, none, none, none] [] (SH, m) (some (.int r), (SH, m'))) (hg241 : ∀  (m : mM) (r : Int32) (m' : mM), g 241  m = some (r, m') → m_R X (d + 4) 241 0 [some (.ref 304), none] [] (SH, m) (some (.int r), (SH, m'))) (k5 : Int32 → mM → Option (Int32 × mM)) (hk5 : ∀ (v1 : Int32) (w2 : Option Value) (w3 : Option Value) (m : mM) (r : Int32) (m' : mM), k5 v1 m = some (r, m') → m_R X (d + 5) 239 5 [some (.ref 304), some (.int v1), w2, w3] [] (SH, m) (some (.int r), (SH, m'))) : ∀ (s0 : Int32) (w1 : Option Value) (w2 : Option Value) (w3 : Option Value) (m : mM) (r : Int32) (m' : mM), f_m_added_62 F g k5 s0 m = some (r, m') → m_R X (d + 5) 239 62 [some (.ref 304), w1, w2, w3] [.int s0] (SH, m) (some (.int r), (SH, m')) := by
  intro s0 w1 w2 w3 m r m' h
  unfold f_m_added_62 at h
  refine m_R_sg (by decide) [(.istore_n 1, 1, 0, 1, 0, 0, 0), (.goto (-58), 3, 0, 5, 0, 0, 0)] (by decide +kernel) (show m_sgl X _ _ _ _ _ = some (5, [some (.ref 304), some (.int s0), w2, w3], [], (SH, m.1, m.2)) from rfl) ?_
  exact hk5 _ _ _ _ _ _ h
def f_m_added_39 (F : Nat) (g : Nat → mM → Option (Int32 × mM)) (k5 : Int32 → mM → Option (Int32 × mM)) (v1 : Int32) (s0 : Int32) (m : mM) : Option (Int32 × mM) := ((f_m_next F m).bind fun q4 => ((g 240 q4.2).bind fun q5 => (if s0 = 0 then f_m_added_62 F g k5 (v1 - q5.1) q5.2 else f_m_added_62 F g k5 (v1 + q5.1) q5.2)))
theorem ok_m_added_39 (X : mX) (d F : Nat) (g : Nat → mM → Option (Int32 × mM)) (hg235 : ∀  (m : mM) (r : Int32) (m' : mM), g 235  m = some (r, m') → m_R X (d + 4) 235 0 [some (.ref 304), none, none] [] (SH, m) (some (.int r), (SH, m'))) (hg236 : ∀  (m : mM) (r : Int32) (m' : mM), g 236  m = some (r, m') → m_R X (d + 4) 236 0 [some (.ref 304), none, none] [] (SH, m) (some (.int r), (SH, m'))) (hg237 : ∀  (m : mM) (r : Int32) (m' : mM), g 237  m = some (r, m') → m_R X (d + 4) 237 0 [some (.ref 304), none, none, none, none] [] (SH, m) (some (.int r), (SH, m'))) (hg239 : ∀  (m : mM) (r : Int32) (m' : mM), g 239  m = some (r, m') → m_R X (d + 4) 239 0 [some (.ref 304), none, none, none] [] (SH, m) (some (.int r), (SH, m'))) (hg240 : ∀  (m : mM) (r : Int32) (m' : mM), g 240  m = some (r, m') → m_R X (d + 4) 240 0 [some (.ref 304), none, none, none, none] [] (SH, m) (some (.int r), (SH, m'))) (hg241 : ∀  (m : mM) (r : Int32) (m' : mM), g 241  m = some (r, m') → m_R X (d + 4) 241 0 [some (.ref 304), none] [] (SH, m) (some (.int r), (SH, m'))) (k5 : Int32 → mM → Option (Int32 × mM)) (hk5 : ∀ (v1 : Int32) (w2 : Option Value) (w3 : Option Value) (m : mM) (r : Int32) (m' : mM), k5 v1 m = some (r, m') → m_R X (d + 5) 239 5 [some (.ref 304), some (.int v1), w2, w3] [] (SH, m) (some (.int r), (SH, m'))) : ∀ (v1 : Int32) (s0 : Int32) (w2 : Option Value) (w3 : Option Value) (m : mM) (r : Int32) (m' : mM), f_m_added_39 F g k5 v1 s0 m = some (r, m') → m_R X (d + 5) 239 39 [some (.ref 304), some (.int v1), w2, w3] [.int s0] (SH, m) (some (.int r), (SH, m')) := by
  intro v1 s0 w2 w3 m r m' h
  unfold f_m_added_39 at h
  refine m_R_sg (by decide) [(.istore_n 2, 1, 0, 2, 0, 0, 0), (.aload_n 0, 1, 0, 0, 0, 0, 0)] (by decide +kernel) (show m_sgl X _ _ _ _ _ = some (41, [some (.ref 304), some (.int v1), some (.int s0), w3], [.ref 304], (SH, m.1, m.2)) from rfl) ?_
  obtain ⟨q4, hc4, h⟩ := Option.bind_eq_some_iff.mp h
  refine m_R_cV (v := none) (h1 := (SH, q4.2)) (rest := []) (lo' := [some (.ref 304), none, none]) (ml := 3) (k0 := 304) (by decide) (Or.inl rfl) (m_opb_of (ins := .invokevirtual 269) (len := 3) (tag := 5) (a := 230) (b := 0) (c := 0) (q := 1708) (by decide +kernel)) (by decide +kernel) rfl (show m_isO 230 304 (SH, _) = true from m_isO_of (by decide +kernel)) (Nat.le_of_ble_eq_true rfl) rfl rfl (ok_m_next X (d + 3) F _ _ _ hc4) ?_
  refine m_R_sg (by decide) [(.aload_n 0, 1, 0, 0, 0, 0, 0)] (by decide +kernel) (show m_sgl X _ _ _ _ _ = some (45, [some (.ref 304), some (.int v1), some (.int s0), w3], [.ref 304], (SH, q4.2.1, q4.2.2)) from rfl) ?_
  obtain ⟨q5, hc5, h⟩ := Option.bind_eq_some_iff.mp h
  refine m_R_cV (v := (some (.int q5.1))) (h1 := (SH, q5.2)) (rest := []) (lo' := [some (.ref 304), none, none, none, none]) (ml := 5) (k0 := 304) (by decide) (Or.inl rfl) (m_opb_of (ins := .invokevirtual 320) (len := 3) (tag := 5) (a := 240) (b := 0) (c := 0) (q := 1761) (by decide +kernel)) (by decide +kernel) rfl (show m_isO 240 304 (SH, _) = true from m_isO_of (by decide +kernel)) (Nat.le_of_ble_eq_true rfl) rfl rfl (hg240 _ _ _ hc5) ?_
  refine m_R_sg (by decide) [(.istore_n 3, 1, 0, 3, 0, 0, 0), (.iload_n 2, 1, 0, 2, 0, 0, 0)] (by decide +kernel) (show m_sgl X _ _ _ _ _ = some (50, [some (.ref 304), some (.int v1), some (.int s0), some (.int q5.1)], [.int s0], (SH, q5.2.1, q5.2.2)) from rfl) ?_
  rcases m_ite h with ⟨c83, h⟩ | ⟨c83, h⟩
  · refine m_R_1 (by decide) (m_opb_of (ins := .ifCond .eq 9) (len := 3) (tag := 0) (a := 59) (b := 0) (c := 0) (q := 0) (by decide +kernel)) (if_pos c83) ?_
    refine m_R_sg (by decide) [(.iload_n 1, 1, 0, 1, 0, 0, 0), (.iload_n 3, 1, 0, 3, 0, 0, 0), (.isub, 1, 0, 0, 0, 0, 0)] (by decide +kernel) (show m_sgl X _ _ _ _ _ = some (62, [some (.ref 304), some (.int v1), some (.int s0), some (.int q5.1)], [.int (v1 - q5.1)], (SH, q5.2.1, q5.2.2)) from rfl) ?_
    exact ok_m_added_62 X d F g hg235 hg236 hg237 hg239 hg240 hg241 _ hk5 _ _ _ _ _ _ _ h
  · refine m_R_1 (by decide) (m_opb_of (ins := .ifCond .eq 9) (len := 3) (tag := 0) (a := 59) (b := 0) (c := 0) (q := 0) (by decide +kernel)) (if_neg c83) ?_
    refine m_R_sg (by decide) [(.iload_n 1, 1, 0, 1, 0, 0, 0), (.iload_n 3, 1, 0, 3, 0, 0, 0), (.iadd, 1, 0, 0, 0, 0, 0), (.goto 6, 3, 0, 62, 0, 0, 0)] (by decide +kernel) (show m_sgl X _ _ _ _ _ = some (62, [some (.ref 304), some (.int v1), some (.int s0), some (.int q5.1)], [.int (v1 + q5.1)], (SH, q5.2.1, q5.2.2)) from rfl) ?_
    exact ok_m_added_62 X d F g hg235 hg236 hg237 hg239 hg240 hg241 _ hk5 _ _ _ _ _ _ _ h
def f_m_added_23 (F : Nat) (g : Nat → mM → Option (Int32 × mM)) (k5 : Int32 → mM → Option (Int32 × mM)) (v1 : Int32) (m : mM) : Option (Int32 × mM) := (if (lg_cmp (m.2 304) (43 : Int64)) = 0 then f_m_added_39 F g k5 v1 (1 : Int32) m else f_m_added_39 F g k5 v1 (0 : Int32) m)
theorem ok_m_added_23 (X : mX) (d F : Nat) (g : Nat → mM → Option (Int32 × mM)) (hg235 : ∀  (m : mM) (r : Int32) (m' : mM), g 235  m = some (r, m') → m_R X (d + 4) 235 0 [some (.ref 304), none, none] [] (SH, m) (some (.int r), (SH, m'))) (hg236 : ∀  (m : mM) (r : Int32) (m' : mM), g 236  m = some (r, m') → m_R X (d + 4) 236 0 [some (.ref 304), none, none] [] (SH, m) (some (.int r), (SH, m'))) (hg237 : ∀  (m : mM) (r : Int32) (m' : mM), g 237  m = some (r, m') → m_R X (d + 4) 237 0 [some (.ref 304), none, none, none, none] [] (SH, m) (some (.int r), (SH, m'))) (hg239 : ∀  (m : mM) (r : Int32) (m' : mM), g 239  m = some (r, m') → m_R X (d + 4) 239 0 [some (.ref 304), none, none, none] [] (SH, m) (some (.int r), (SH, m'))) (hg240 : ∀  (m : mM) (r : Int32) (m' : mM), g 240  m = some (r, m') → m_R X (d + 4) 240 0 [some (.ref 304), none, none, none, none] [] (SH, m) (some (.int r), (SH, m'))) (hg241 : ∀  (m : mM) (r : Int32) (m' : mM), g 241  m = some (r, m') → m_R X (d + 4) 241 0 [some (.ref 304), none] [] (SH, m) (some (.int r), (SH, m'))) (k5 : Int32 → mM → Option (Int32 × mM)) (hk5 : ∀ (v1 : Int32) (w2 : Option Value) (w3 : Option Value) (m : mM) (r : Int32) (m' : mM), k5 v1 m = some (r, m') → m_R X (d + 5) 239 5 [some (.ref 304), some (.int v1), w2, w3] [] (SH, m) (some (.int r), (SH, m'))) : ∀ (v1 : Int32) (w2 : Option Value) (w3 : Option Value) (m : mM) (r : Int32) (m' : mM), f_m_added_23 F g k5 v1 m = some (r, m') → m_R X (d + 5) 239 23 [some (.ref 304), some (.int v1), w2, w3] [] (SH, m) (some (.int r), (SH, m')) := by
  intro v1 w2 w3 m r m' h
  unfold f_m_added_23 at h
  refine m_R_sg (by decide) [(.aload_n 0, 1, 0, 0, 0, 0, 0), (.getfield 242, 3, 0, 12, 14, 2, 1509), (.ldc2_w 323, 3, 0, 43, 0, 0, 1803), (.lcmp, 1, 0, 0, 0, 0, 0)] (by decide +kernel) (show m_sgl X _ _ _ _ _ = some (31, [some (.ref 304), some (.int v1), w2, w3], [.int (lg_cmp (m.2 304) (43 : Int64))], (SH, m.1, m.2)) from rfl) ?_
  rcases m_ite h with ⟨c84, h⟩ | ⟨c84, h⟩
  · refine m_R_1 (by decide) (m_opb_of (ins := .ifCond .ne 7) (len := 3) (tag := 0) (a := 38) (b := 0) (c := 0) (q := 0) (by decide +kernel)) (if_pos c84) ?_
    refine m_R_sg (by decide) [(.iconst 1, 1, 0, 1, 0, 0, 0), (.goto 4, 3, 0, 39, 0, 0, 0)] (by decide +kernel) (show m_sgl X _ _ _ _ _ = some (39, [some (.ref 304), some (.int v1), w2, w3], [.int (1 : Int32)], (SH, m.1, m.2)) from rfl) ?_
    exact ok_m_added_39 X d F g hg235 hg236 hg237 hg239 hg240 hg241 _ hk5 _ _ _ _ _ _ _ h
  · refine m_R_1 (by decide) (m_opb_of (ins := .ifCond .ne 7) (len := 3) (tag := 0) (a := 38) (b := 0) (c := 0) (q := 0) (by decide +kernel)) (if_neg c84) ?_
    refine m_R_sg (by decide) [(.iconst 0, 1, 0, 0, 0, 0, 0)] (by decide +kernel) (show m_sgl X _ _ _ _ _ = some (39, [some (.ref 304), some (.int v1), w2, w3], [.int (0 : Int32)], (SH, m.1, m.2)) from rfl) ?_
    exact ok_m_added_39 X d F g hg235 hg236 hg237 hg239 hg240 hg241 _ hk5 _ _ _ _ _ _ _ h
def f_m_added_5 (F : Nat) (g : Nat → mM → Option (Int32 × mM))  : Nat → Int32 → mM → Option (Int32 × mM)
  | 0, _, _ => none
  | n + 1, v1, m => ((f_m_isSign F (43 : Int32) m).bind fun q2 => (if q2.1 = 0 then ((f_m_isSign F (45 : Int32) q2.2).bind fun q3 => (if q3.1 = 0 then some (v1, q3.2) else f_m_added_23 F g (f_m_added_5 F g n) v1 q3.2)) else f_m_added_23 F g (f_m_added_5 F g n) v1 q2.2))
theorem ok_m_added_5 (X : mX) (d F : Nat) (g : Nat → mM → Option (Int32 × mM)) (hg235 : ∀  (m : mM) (r : Int32) (m' : mM), g 235  m = some (r, m') → m_R X (d + 4) 235 0 [some (.ref 304), none, none] [] (SH, m) (some (.int r), (SH, m'))) (hg236 : ∀  (m : mM) (r : Int32) (m' : mM), g 236  m = some (r, m') → m_R X (d + 4) 236 0 [some (.ref 304), none, none] [] (SH, m) (some (.int r), (SH, m'))) (hg237 : ∀  (m : mM) (r : Int32) (m' : mM), g 237  m = some (r, m') → m_R X (d + 4) 237 0 [some (.ref 304), none, none, none, none] [] (SH, m) (some (.int r), (SH, m'))) (hg239 : ∀  (m : mM) (r : Int32) (m' : mM), g 239  m = some (r, m') → m_R X (d + 4) 239 0 [some (.ref 304), none, none, none] [] (SH, m) (some (.int r), (SH, m'))) (hg240 : ∀  (m : mM) (r : Int32) (m' : mM), g 240  m = some (r, m') → m_R X (d + 4) 240 0 [some (.ref 304), none, none, none, none] [] (SH, m) (some (.int r), (SH, m'))) (hg241 : ∀  (m : mM) (r : Int32) (m' : mM), g 241  m = some (r, m') → m_R X (d + 4) 241 0 [some (.ref 304), none] [] (SH, m) (some (.int r), (SH, m'))) : ∀ (n : Nat) (v1 : Int32) (w2 : Option Value) (w3 : Option Value) (m : mM) (r : Int32) (m' : mM), f_m_added_5 F g n v1 m = some (r, m') → m_R X (d + 5) 239 5 [some (.ref 304), some (.int v1), w2, w3] [] (SH, m) (some (.int r), (SH, m')) := by
  intro n
  induction n with
  | zero => intro v1 w2 w3 m r m' h; cases h
  | succ n ih =>
    intro v1 w2 w3 m r m' h
    simp only [f_m_added_5] at h
    refine m_R_sg (by decide) [(.aload_n 0, 1, 0, 0, 0, 0, 0), (.bipush 43, 2, 0, 43, 0, 0, 0)] (by decide +kernel) (show m_sgl X _ _ _ _ _ = some (8, [some (.ref 304), some (.int v1), w2, w3], [.int (43 : Int32), .ref 304], (SH, m.1, m.2)) from rfl) ?_
    obtain ⟨q2, hc2, h⟩ := Option.bind_eq_some_iff.mp h
    refine m_R_cV (v := (some (.int q2.1))) (h1 := (SH, q2.2)) (rest := []) (lo' := [some (.ref 304), some (.int (43 : Int32))]) (ml := 2) (k0 := 304) (by decide) (Or.inl rfl) (m_opb_of (ins := .invokevirtual 301) (len := 3) (tag := 5) (a := 242) (b := 1) (c := 0) (q := 1769) (by decide +kernel)) (by decide +kernel) rfl (show m_isO 242 304 (SH, _) = true from m_isO_of (by decide +kernel)) (Nat.le_of_ble_eq_true rfl) rfl rfl (ok_m_isSign X (d + 4) F _ _ _ _ hc2) ?_
    rcases m_ite h with ⟨c85, h⟩ | ⟨c85, h⟩
    · refine m_R_1 (by decide) (m_opb_of (ins := .ifCond .ne 12) (len := 3) (tag := 0) (a := 23) (b := 0) (c := 0) (q := 0) (by decide +kernel)) (if_pos c85) ?_
      refine m_R_sg (by decide) [(.aload_n 0, 1, 0, 0, 0, 0, 0), (.bipush 45, 2, 0, 45, 0, 0, 0)] (by decide +kernel) (show m_sgl X _ _ _ _ _ = some (17, [some (.ref 304), some (.int v1), w2, w3], [.int (45 : Int32), .ref 304], (SH, q2.2.1, q2.2.2)) from rfl) ?_
      obtain ⟨q3, hc3, h⟩ := Option.bind_eq_some_iff.mp h
      refine m_R_cV (v := (some (.int q3.1))) (h1 := (SH, q3.2)) (rest := []) (lo' := [some (.ref 304), some (.int (45 : Int32))]) (ml := 2) (k0 := 304) (by decide) (Or.inl rfl) (m_opb_of (ins := .invokevirtual 301) (len := 3) (tag := 5) (a := 242) (b := 1) (c := 0) (q := 1769) (by decide +kernel)) (by decide +kernel) rfl (show m_isO 242 304 (SH, _) = true from m_isO_of (by decide +kernel)) (Nat.le_of_ble_eq_true rfl) rfl rfl (ok_m_isSign X (d + 4) F _ _ _ _ hc3) ?_
      rcases m_ite h with ⟨c86, h⟩ | ⟨c86, h⟩
      · refine m_R_1 (by decide) (m_opb_of (ins := .ifCond .eq 46) (len := 3) (tag := 0) (a := 66) (b := 0) (c := 0) (q := 0) (by decide +kernel)) (if_pos c86) ?_
        refine m_R_sg (by decide) [(.iload_n 1, 1, 0, 1, 0, 0, 0)] (by decide +kernel) (show m_sgl X _ _ _ _ _ = some (67, [some (.ref 304), some (.int v1), w2, w3], [.int v1], (SH, q3.2.1, q3.2.2)) from rfl) ?_
        obtain ⟨rfl, rfl⟩ := m_some h
        exact m_R_iret (by decide) (m_opb_of (ins := .ireturn) (len := 1) (tag := 1) (a := 0) (b := 0) (c := 0) (q := 0) (by decide +kernel)) (Or.inl rfl)
      · refine m_R_1 (by decide) (m_opb_of (ins := .ifCond .eq 46) (len := 3) (tag := 0) (a := 66) (b := 0) (c := 0) (q := 0) (by decide +kernel)) (if_neg c86) ?_
        exact ok_m_added_23 X d F g hg235 hg236 hg237 hg239 hg240 hg241 _ (fun a0 a1 a2 m r m' h => ih a0 a1 a2 m r m' h) _ _ _ _ _ _ h
    · refine m_R_1 (by decide) (m_opb_of (ins := .ifCond .ne 12) (len := 3) (tag := 0) (a := 23) (b := 0) (c := 0) (q := 0) (by decide +kernel)) (if_neg c85) ?_
      exact ok_m_added_23 X d F g hg235 hg236 hg237 hg239 hg240 hg241 _ (fun a0 a1 a2 m r m' h => ih a0 a1 a2 m r m' h) _ _ _ _ _ _ h
def f_m_added (F : Nat) (g : Nat → mM → Option (Int32 × mM))   (m : mM) : Option (Int32 × mM) := ((g 240 m).bind fun q1 => f_m_added_5 F g F q1.1 q1.2)
theorem ok_m_added (X : mX) (d F : Nat) (g : Nat → mM → Option (Int32 × mM)) (hg235 : ∀  (m : mM) (r : Int32) (m' : mM), g 235  m = some (r, m') → m_R X (d + 4) 235 0 [some (.ref 304), none, none] [] (SH, m) (some (.int r), (SH, m'))) (hg236 : ∀  (m : mM) (r : Int32) (m' : mM), g 236  m = some (r, m') → m_R X (d + 4) 236 0 [some (.ref 304), none, none] [] (SH, m) (some (.int r), (SH, m'))) (hg237 : ∀  (m : mM) (r : Int32) (m' : mM), g 237  m = some (r, m') → m_R X (d + 4) 237 0 [some (.ref 304), none, none, none, none] [] (SH, m) (some (.int r), (SH, m'))) (hg239 : ∀  (m : mM) (r : Int32) (m' : mM), g 239  m = some (r, m') → m_R X (d + 4) 239 0 [some (.ref 304), none, none, none] [] (SH, m) (some (.int r), (SH, m'))) (hg240 : ∀  (m : mM) (r : Int32) (m' : mM), g 240  m = some (r, m') → m_R X (d + 4) 240 0 [some (.ref 304), none, none, none, none] [] (SH, m) (some (.int r), (SH, m'))) (hg241 : ∀  (m : mM) (r : Int32) (m' : mM), g 241  m = some (r, m') → m_R X (d + 4) 241 0 [some (.ref 304), none] [] (SH, m) (some (.int r), (SH, m'))) : ∀   (m : mM) (r : Int32) (m' : mM), f_m_added F g  m = some (r, m') → m_R X (d + 5) 239 0 [some (.ref 304), none, none, none] [] (SH, m) (some (.int r), (SH, m')) := by
  intro m r m' h
  unfold f_m_added at h
  refine m_R_sg (by decide) [(.aload_n 0, 1, 0, 0, 0, 0, 0)] (by decide +kernel) (show m_sgl X _ _ _ _ _ = some (1, [some (.ref 304), none, none, none], [.ref 304], (SH, m.1, m.2)) from rfl) ?_
  obtain ⟨q1, hc1, h⟩ := Option.bind_eq_some_iff.mp h
  refine m_R_cV (v := (some (.int q1.1))) (h1 := (SH, q1.2)) (rest := []) (lo' := [some (.ref 304), none, none, none, none]) (ml := 5) (k0 := 304) (by decide) (Or.inl rfl) (m_opb_of (ins := .invokevirtual 320) (len := 3) (tag := 5) (a := 240) (b := 0) (c := 0) (q := 1761) (by decide +kernel)) (by decide +kernel) rfl (show m_isO 240 304 (SH, _) = true from m_isO_of (by decide +kernel)) (Nat.le_of_ble_eq_true rfl) rfl rfl (hg240 _ _ _ hc1) ?_
  refine m_R_sg (by decide) [(.istore_n 1, 1, 0, 1, 0, 0, 0)] (by decide +kernel) (show m_sgl X _ _ _ _ _ = some (5, [some (.ref 304), some (.int q1.1), none, none], [], (SH, q1.2.1, q1.2.2)) from rfl) ?_
  exact ok_m_added_5 X d F g hg235 hg236 hg237 hg239 hg240 hg241 F _ _ _ _ _ _ h
def f_m_term_117 (F : Nat) (g : Nat → mM → Option (Int32 × mM)) (k5 : Int32 → mM → Option (Int32 × mM)) (v1 : Int32) (m : mM) : Option (Int32 × mM) := k5 v1 m
theorem ok_m_term_117 (X : mX) (d F : Nat) (g : Nat → mM → Option (Int32 × mM)) (hg235 : ∀  (m : mM) (r : Int32) (m' : mM), g 235  m = some (r, m') → m_R X (d + 4) 235 0 [some (.ref 304), none, none] [] (SH, m) (some (.int r), (SH, m'))) (hg236 : ∀  (m : mM) (r : Int32) (m' : mM), g 236  m = some (r, m') → m_R X (d + 4) 236 0 [some (.ref 304), none, none] [] (SH, m) (some (.int r), (SH, m'))) (hg237 : ∀  (m : mM) (r : Int32) (m' : mM), g 237  m = some (r, m') → m_R X (d + 4) 237 0 [some (.ref 304), none, none, none, none] [] (SH, m) (some (.int r), (SH, m'))) (hg239 : ∀  (m : mM) (r : Int32) (m' : mM), g 239  m = some (r, m') → m_R X (d + 4) 239 0 [some (.ref 304), none, none, none] [] (SH, m) (some (.int r), (SH, m'))) (hg240 : ∀  (m : mM) (r : Int32) (m' : mM), g 240  m = some (r, m') → m_R X (d + 4) 240 0 [some (.ref 304), none, none, none, none] [] (SH, m) (some (.int r), (SH, m'))) (hg241 : ∀  (m : mM) (r : Int32) (m' : mM), g 241  m = some (r, m') → m_R X (d + 4) 241 0 [some (.ref 304), none] [] (SH, m) (some (.int r), (SH, m'))) (k5 : Int32 → mM → Option (Int32 × mM)) (hk5 : ∀ (v1 : Int32) (w2 : Option Value) (w3 : Option Value) (w4 : Option Value) (m : mM) (r : Int32) (m' : mM), k5 v1 m = some (r, m') → m_R X (d + 5) 240 5 [some (.ref 304), some (.int v1), w2, w3, w4] [] (SH, m) (some (.int r), (SH, m'))) : ∀ (v1 : Int32) (w2 : Option Value) (w3 : Option Value) (w4 : Option Value) (m : mM) (r : Int32) (m' : mM), f_m_term_117 F g k5 v1 m = some (r, m') → m_R X (d + 5) 240 117 [some (.ref 304), some (.int v1), w2, w3, w4] [] (SH, m) (some (.int r), (SH, m')) := by
  intro v1 w2 w3 w4 m r m' h
  unfold f_m_term_117 at h
  refine m_R_sg (by decide) [(.goto (-112), 3, 0, 5, 0, 0, 0)] (by decide +kernel) (show m_sgl X _ _ _ _ _ = some (5, [some (.ref 304), some (.int v1), w2, w3, w4], [], (SH, m.1, m.2)) from rfl) ?_
  exact hk5 _ _ _ _ _ _ _ h
def f_m_term_93 (F : Nat) (g : Nat → mM → Option (Int32 × mM)) (k5 : Int32 → mM → Option (Int32 × mM)) (s0 : Int32) (m : mM) : Option (Int32 × mM) := f_m_term_117 F g k5 s0 m
theorem ok_m_term_93 (X : mX) (d F : Nat) (g : Nat → mM → Option (Int32 × mM)) (hg235 : ∀  (m : mM) (r : Int32) (m' : mM), g 235  m = some (r, m') → m_R X (d + 4) 235 0 [some (.ref 304), none, none] [] (SH, m) (some (.int r), (SH, m'))) (hg236 : ∀  (m : mM) (r : Int32) (m' : mM), g 236  m = some (r, m') → m_R X (d + 4) 236 0 [some (.ref 304), none, none] [] (SH, m) (some (.int r), (SH, m'))) (hg237 : ∀  (m : mM) (r : Int32) (m' : mM), g 237  m = some (r, m') → m_R X (d + 4) 237 0 [some (.ref 304), none, none, none, none] [] (SH, m) (some (.int r), (SH, m'))) (hg239 : ∀  (m : mM) (r : Int32) (m' : mM), g 239  m = some (r, m') → m_R X (d + 4) 239 0 [some (.ref 304), none, none, none] [] (SH, m) (some (.int r), (SH, m'))) (hg240 : ∀  (m : mM) (r : Int32) (m' : mM), g 240  m = some (r, m') → m_R X (d + 4) 240 0 [some (.ref 304), none, none, none, none] [] (SH, m) (some (.int r), (SH, m'))) (hg241 : ∀  (m : mM) (r : Int32) (m' : mM), g 241  m = some (r, m') → m_R X (d + 4) 241 0 [some (.ref 304), none] [] (SH, m) (some (.int r), (SH, m'))) (k5 : Int32 → mM → Option (Int32 × mM)) (hk5 : ∀ (v1 : Int32) (w2 : Option Value) (w3 : Option Value) (w4 : Option Value) (m : mM) (r : Int32) (m' : mM), k5 v1 m = some (r, m') → m_R X (d + 5) 240 5 [some (.ref 304), some (.int v1), w2, w3, w4] [] (SH, m) (some (.int r), (SH, m'))) : ∀ (s0 : Int32) (w1 : Option Value) (w2 : Option Value) (w3 : Option Value) (w4 : Option Value) (m : mM) (r : Int32) (m' : mM), f_m_term_93 F g k5 s0 m = some (r, m') → m_R X (d + 5) 240 93 [some (.ref 304), w1, w2, w3, w4] [.int s0] (SH, m) (some (.int r), (SH, m')) := by
  intro s0 w1 w2 w3 w4 m r m' h
  unfold f_m_term_93 at h
  refine m_R_sg (by decide) [(.istore_n 1, 1, 0, 1, 0, 0, 0), (.goto 23, 3, 0, 117, 0, 0, 0)] (by decide +kernel) (show m_sgl X _ _ _ _ _ = some (117, [some (.ref 304), some (.int s0), w2, w3, w4], [], (SH, m.1, m.2)) from rfl) ?_
  exact ok_m_term_117 X d F g hg235 hg236 hg237 hg239 hg240 hg241 _ hk5 _ _ _ _ _ _ _ h
def f_m_term_116 (F : Nat) (g : Nat → mM → Option (Int32 × mM)) (k5 : Int32 → mM → Option (Int32 × mM)) (s0 : Int32) (m : mM) : Option (Int32 × mM) := f_m_term_117 F g k5 s0 m
theorem ok_m_term_116 (X : mX) (d F : Nat) (g : Nat → mM → Option (Int32 × mM)) (hg235 : ∀  (m : mM) (r : Int32) (m' : mM), g 235  m = some (r, m') → m_R X (d + 4) 235 0 [some (.ref 304), none, none] [] (SH, m) (some (.int r), (SH, m'))) (hg236 : ∀  (m : mM) (r : Int32) (m' : mM), g 236  m = some (r, m') → m_R X (d + 4) 236 0 [some (.ref 304), none, none] [] (SH, m) (some (.int r), (SH, m'))) (hg237 : ∀  (m : mM) (r : Int32) (m' : mM), g 237  m = some (r, m') → m_R X (d + 4) 237 0 [some (.ref 304), none, none, none, none] [] (SH, m) (some (.int r), (SH, m'))) (hg239 : ∀  (m : mM) (r : Int32) (m' : mM), g 239  m = some (r, m') → m_R X (d + 4) 239 0 [some (.ref 304), none, none, none] [] (SH, m) (some (.int r), (SH, m'))) (hg240 : ∀  (m : mM) (r : Int32) (m' : mM), g 240  m = some (r, m') → m_R X (d + 4) 240 0 [some (.ref 304), none, none, none, none] [] (SH, m) (some (.int r), (SH, m'))) (hg241 : ∀  (m : mM) (r : Int32) (m' : mM), g 241  m = some (r, m') → m_R X (d + 4) 241 0 [some (.ref 304), none] [] (SH, m) (some (.int r), (SH, m'))) (k5 : Int32 → mM → Option (Int32 × mM)) (hk5 : ∀ (v1 : Int32) (w2 : Option Value) (w3 : Option Value) (w4 : Option Value) (m : mM) (r : Int32) (m' : mM), k5 v1 m = some (r, m') → m_R X (d + 5) 240 5 [some (.ref 304), some (.int v1), w2, w3, w4] [] (SH, m) (some (.int r), (SH, m'))) : ∀ (s0 : Int32) (w1 : Option Value) (w2 : Option Value) (w3 : Option Value) (w4 : Option Value) (m : mM) (r : Int32) (m' : mM), f_m_term_116 F g k5 s0 m = some (r, m') → m_R X (d + 5) 240 116 [some (.ref 304), w1, w2, w3, w4] [.int s0] (SH, m) (some (.int r), (SH, m')) := by
  intro s0 w1 w2 w3 w4 m r m' h
  unfold f_m_term_116 at h
  refine m_R_sg (by decide) [(.istore_n 1, 1, 0, 1, 0, 0, 0)] (by decide +kernel) (show m_sgl X _ _ _ _ _ = some (117, [some (.ref 304), some (.int s0), w2, w3, w4], [], (SH, m.1, m.2)) from rfl) ?_
  exact ok_m_term_117 X d F g hg235 hg236 hg237 hg239 hg240 hg241 _ hk5 _ _ _ _ _ _ _ h
def f_m_term_32 (F : Nat) (g : Nat → mM → Option (Int32 × mM)) (k5 : Int32 → mM → Option (Int32 × mM)) (v1 : Int32) (m : mM) : Option (Int32 × mM) := ((f_m_next F m).bind fun q5 => ((g 241 q5.2).bind fun q6 => (if (lg_cmp (m.2 304) (42 : Int64)) = 0 then f_m_term_117 F g k5 (v1 * q6.1) q6.2 else (if q6.1 = 0 then f_m_term_117 F g k5 (0 : Int32) q6.2 else (if q6.1 = (-1 : Int32) then (if (lg_cmp (m.2 304) (47 : Int64)) = 0 then f_m_term_93 F g k5 (-v1) q6.2 else f_m_term_93 F g k5 (0 : Int32) q6.2) else (if (lg_cmp (m.2 304) (47 : Int64)) = 0 then f_m_term_116 F g k5 (v1 / q6.1) q6.2 else f_m_term_116 F g k5 (v1 - v1 / q6.1 * q6.1) q6.2))))))
theorem ok_m_term_32 (X : mX) (d F : Nat) (g : Nat → mM → Option (Int32 × mM)) (hg235 : ∀  (m : mM) (r : Int32) (m' : mM), g 235  m = some (r, m') → m_R X (d + 4) 235 0 [some (.ref 304), none, none] [] (SH, m) (some (.int r), (SH, m'))) (hg236 : ∀  (m : mM) (r : Int32) (m' : mM), g 236  m = some (r, m') → m_R X (d + 4) 236 0 [some (.ref 304), none, none] [] (SH, m) (some (.int r), (SH, m'))) (hg237 : ∀  (m : mM) (r : Int32) (m' : mM), g 237  m = some (r, m') → m_R X (d + 4) 237 0 [some (.ref 304), none, none, none, none] [] (SH, m) (some (.int r), (SH, m'))) (hg239 : ∀  (m : mM) (r : Int32) (m' : mM), g 239  m = some (r, m') → m_R X (d + 4) 239 0 [some (.ref 304), none, none, none] [] (SH, m) (some (.int r), (SH, m'))) (hg240 : ∀  (m : mM) (r : Int32) (m' : mM), g 240  m = some (r, m') → m_R X (d + 4) 240 0 [some (.ref 304), none, none, none, none] [] (SH, m) (some (.int r), (SH, m'))) (hg241 : ∀  (m : mM) (r : Int32) (m' : mM), g 241  m = some (r, m') → m_R X (d + 4) 241 0 [some (.ref 304), none] [] (SH, m) (some (.int r), (SH, m'))) (k5 : Int32 → mM → Option (Int32 × mM)) (hk5 : ∀ (v1 : Int32) (w2 : Option Value) (w3 : Option Value) (w4 : Option Value) (m : mM) (r : Int32) (m' : mM), k5 v1 m = some (r, m') → m_R X (d + 5) 240 5 [some (.ref 304), some (.int v1), w2, w3, w4] [] (SH, m) (some (.int r), (SH, m'))) : ∀ (v1 : Int32) (w2 : Option Value) (w3 : Option Value) (w4 : Option Value) (m : mM) (r : Int32) (m' : mM), f_m_term_32 F g k5 v1 m = some (r, m') → m_R X (d + 5) 240 32 [some (.ref 304), some (.int v1), w2, w3, w4] [] (SH, m) (some (.int r), (SH, m')) := by
  intro v1 w2 w3 w4 m r m' h
  unfold f_m_term_32 at h
  refine m_R_sg (by decide) [(.aload_n 0, 1, 0, 0, 0, 0, 0), (.getfield 242, 3, 0, 12, 14, 2, 1509), (.lstore_n 2, 1, 0, 2, 0, 0, 0), (.aload_n 0, 1, 0, 0, 0, 0, 0)] (by decide +kernel) (show m_sgl X _ _ _ _ _ = some (38, [some (.ref 304), some (.int v1), some (.long (m.2 304)), none, w4], [.ref 304], (SH, m.1, m.2)) from rfl) ?_
  obtain ⟨q5, hc5, h⟩ := Option.bind_eq_some_iff.mp h
  refine m_R_cV (v := none) (h1 := (SH, q5.2)) (rest := []) (lo' := [some (.ref 304), none, none]) (ml := 3) (k0 := 304) (by decide) (Or.inl rfl) (m_opb_of (ins := .invokevirtual 269) (len := 3) (tag := 5) (a := 230) (b := 0) (c := 0) (q := 1708) (by decide +kernel)) (by decide +kernel) rfl (show m_isO 230 304 (SH, _) = true from m_isO_of (by decide +kernel)) (Nat.le_of_ble_eq_true rfl) rfl rfl (ok_m_next X (d + 3) F _ _ _ hc5) ?_
  refine m_R_sg (by decide) [(.aload_n 0, 1, 0, 0, 0, 0, 0)] (by decide +kernel) (show m_sgl X _ _ _ _ _ = some (42, [some (.ref 304), some (.int v1), some (.long (m.2 304)), none, w4], [.ref 304], (SH, q5.2.1, q5.2.2)) from rfl) ?_
  obtain ⟨q6, hc6, h⟩ := Option.bind_eq_some_iff.mp h
  refine m_R_cV (v := (some (.int q6.1))) (h1 := (SH, q6.2)) (rest := []) (lo' := [some (.ref 304), none]) (ml := 2) (k0 := 304) (by decide) (Or.inl rfl) (m_opb_of (ins := .invokevirtual 307) (len := 3) (tag := 5) (a := 241) (b := 0) (c := 0) (q := 1765) (by decide +kernel)) (by decide +kernel) rfl (show m_isO 241 304 (SH, _) = true from m_isO_of (by decide +kernel)) (Nat.le_of_ble_eq_true rfl) rfl rfl (hg241 _ _ _ hc6) ?_
  refine m_R_sg (by decide) [(.istore 4, 2, 0, 4, 0, 0, 0), (.lload_n 2, 1, 0, 2, 0, 0, 0), (.ldc2_w 316, 3, 0, 42, 0, 0, 1801), (.lcmp, 1, 0, 0, 0, 0, 0)] (by decide +kernel) (show m_sgl X _ _ _ _ _ = some (52, [some (.ref 304), some (.int v1), some (.long (m.2 304)), none, some (.int q6.1)], [.int (lg_cmp (m.2 304) (42 : Int64))], (SH, q6.2.1, q6.2.2)) from rfl) ?_
  rcases m_ite h with ⟨c87, h⟩ | ⟨c87, h⟩
  · refine m_R_1 (by decide) (m_opb_of (ins := .ifCond .ne 11) (len := 3) (tag := 0) (a := 63) (b := 0) (c := 0) (q := 0) (by decide +kernel)) (if_pos c87) ?_
    refine m_R_sg (by decide) [(.iload_n 1, 1, 0, 1, 0, 0, 0), (.iload 4, 2, 0, 4, 0, 0, 0), (.imul, 1, 0, 0, 0, 0, 0), (.istore_n 1, 1, 0, 1, 0, 0, 0), (.goto 57, 3, 0, 117, 0, 0, 0)] (by decide +kernel) (show m_sgl X _ _ _ _ _ = some (117, [some (.ref 304), some (.int (v1 * q6.1)), some (.long (m.2 304)), none, some (.int q6.1)], [], (SH, q6.2.1, q6.2.2)) from rfl) ?_
    exact ok_m_term_117 X d F g hg235 hg236 hg237 hg239 hg240 hg241 _ hk5 _ _ _ _ _ _ _ h
  · refine m_R_1 (by decide) (m_opb_of (ins := .ifCond .ne 11) (len := 3) (tag := 0) (a := 63) (b := 0) (c := 0) (q := 0) (by decide +kernel)) (if_neg c87) ?_
    refine m_R_sg (by decide) [(.iload 4, 2, 0, 4, 0, 0, 0)] (by decide +kernel) (show m_sgl X _ _ _ _ _ = some (65, [some (.ref 304), some (.int v1), some (.long (m.2 304)), none, some (.int q6.1)], [.int q6.1], (SH, q6.2.1, q6.2.2)) from rfl) ?_
    rcases m_ite h with ⟨c88, h⟩ | ⟨c88, h⟩
    · refine m_R_1 (by decide) (m_opb_of (ins := .ifCond .ne 8) (len := 3) (tag := 0) (a := 73) (b := 0) (c := 0) (q := 0) (by decide +kernel)) (if_pos c88) ?_
      refine m_R_sg (by decide) [(.iconst 0, 1, 0, 0, 0, 0, 0), (.istore_n 1, 1, 0, 1, 0, 0, 0), (.goto 47, 3, 0, 117, 0, 0, 0)] (by decide +kernel) (show m_sgl X _ _ _ _ _ = some (117, [some (.ref 304), some (.int (0 : Int32)), some (.long (m.2 304)), none, some (.int q6.1)], [], (SH, q6.2.1, q6.2.2)) from rfl) ?_
      exact ok_m_term_117 X d F g hg235 hg236 hg237 hg239 hg240 hg241 _ hk5 _ _ _ _ _ _ _ h
    · refine m_R_1 (by decide) (m_opb_of (ins := .ifCond .ne 8) (len := 3) (tag := 0) (a := 73) (b := 0) (c := 0) (q := 0) (by decide +kernel)) (if_neg c88) ?_
      refine m_R_sg (by decide) [(.iload 4, 2, 0, 4, 0, 0, 0), (.iconst (-1), 1, 0, 1, 1, 0, 0)] (by decide +kernel) (show m_sgl X _ _ _ _ _ = some (76, [some (.ref 304), some (.int v1), some (.long (m.2 304)), none, some (.int q6.1)], [.int (-1 : Int32), .int q6.1], (SH, q6.2.1, q6.2.2)) from rfl) ?_
      rcases m_ite h with ⟨c89, h⟩ | ⟨c89, h⟩
      · refine m_R_1 (by decide) (m_opb_of (ins := .if_icmp .ne 21) (len := 3) (tag := 0) (a := 97) (b := 0) (c := 0) (q := 0) (by decide +kernel)) (if_pos c89) ?_
        refine m_R_sg (by decide) [(.lload_n 2, 1, 0, 2, 0, 0, 0), (.ldc2_w 318, 3, 0, 47, 0, 0, 1802), (.lcmp, 1, 0, 0, 0, 0, 0)] (by decide +kernel) (show m_sgl X _ _ _ _ _ = some (84, [some (.ref 304), some (.int v1), some (.long (m.2 304)), none, some (.int q6.1)], [.int (lg_cmp (m.2 304) (47 : Int64))], (SH, q6.2.1, q6.2.2)) from rfl) ?_
        rcases m_ite h with ⟨c90, h⟩ | ⟨c90, h⟩
        · refine m_R_1 (by decide) (m_opb_of (ins := .ifCond .ne 8) (len := 3) (tag := 0) (a := 92) (b := 0) (c := 0) (q := 0) (by decide +kernel)) (if_pos c90) ?_
          refine m_R_sg (by decide) [(.iload_n 1, 1, 0, 1, 0, 0, 0), (.ineg, 1, 0, 0, 0, 0, 0), (.goto 4, 3, 0, 93, 0, 0, 0)] (by decide +kernel) (show m_sgl X _ _ _ _ _ = some (93, [some (.ref 304), some (.int v1), some (.long (m.2 304)), none, some (.int q6.1)], [.int (-v1)], (SH, q6.2.1, q6.2.2)) from rfl) ?_
          exact ok_m_term_93 X d F g hg235 hg236 hg237 hg239 hg240 hg241 _ hk5 _ _ _ _ _ _ _ _ h
        · refine m_R_1 (by decide) (m_opb_of (ins := .ifCond .ne 8) (len := 3) (tag := 0) (a := 92) (b := 0) (c := 0) (q := 0) (by decide +kernel)) (if_neg c90) ?_
          refine m_R_sg (by decide) [(.iconst 0, 1, 0, 0, 0, 0, 0)] (by decide +kernel) (show m_sgl X _ _ _ _ _ = some (93, [some (.ref 304), some (.int v1), some (.long (m.2 304)), none, some (.int q6.1)], [.int (0 : Int32)], (SH, q6.2.1, q6.2.2)) from rfl) ?_
          exact ok_m_term_93 X d F g hg235 hg236 hg237 hg239 hg240 hg241 _ hk5 _ _ _ _ _ _ _ _ h
      · refine m_R_1 (by decide) (m_opb_of (ins := .if_icmp .ne 21) (len := 3) (tag := 0) (a := 97) (b := 0) (c := 0) (q := 0) (by decide +kernel)) (if_neg c89) ?_
        refine m_R_sg (by decide) [(.lload_n 2, 1, 0, 2, 0, 0, 0), (.ldc2_w 318, 3, 0, 47, 0, 0, 1802), (.lcmp, 1, 0, 0, 0, 0, 0)] (by decide +kernel) (show m_sgl X _ _ _ _ _ = some (102, [some (.ref 304), some (.int v1), some (.long (m.2 304)), none, some (.int q6.1)], [.int (lg_cmp (m.2 304) (47 : Int64))], (SH, q6.2.1, q6.2.2)) from rfl) ?_
        rcases m_ite h with ⟨c91, h⟩ | ⟨c91, h⟩
        · refine m_R_1 (by decide) (m_opb_of (ins := .ifCond .ne 10) (len := 3) (tag := 0) (a := 112) (b := 0) (c := 0) (q := 0) (by decide +kernel)) (if_pos c91) ?_
          refine m_R_sg (by decide) [(.iload_n 1, 1, 0, 1, 0, 0, 0), (.iload 4, 2, 0, 4, 0, 0, 0)] (by decide +kernel) (show m_sgl X _ _ _ _ _ = some (108, [some (.ref 304), some (.int v1), some (.long (m.2 304)), none, some (.int q6.1)], [.int q6.1, .int v1], (SH, q6.2.1, q6.2.2)) from rfl) ?_
          refine m_R_1 (by decide) (m_opb_of (ins := .idiv) (len := 1) (tag := 0) (a := 0) (b := 0) (c := 0) (q := 0) (by decide +kernel)) (m_s_idiv c88) ?_
          refine m_R_sg (by decide) [(.goto 7, 3, 0, 116, 0, 0, 0)] (by decide +kernel) (show m_sgl X _ _ _ _ _ = some (116, [some (.ref 304), some (.int v1), some (.long (m.2 304)), none, some (.int q6.1)], [.int (v1 / q6.1)], (SH, q6.2.1, q6.2.2)) from rfl) ?_
          exact ok_m_term_116 X d F g hg235 hg236 hg237 hg239 hg240 hg241 _ hk5 _ _ _ _ _ _ _ _ h
        · refine m_R_1 (by decide) (m_opb_of (ins := .ifCond .ne 10) (len := 3) (tag := 0) (a := 112) (b := 0) (c := 0) (q := 0) (by decide +kernel)) (if_neg c91) ?_
          refine m_R_sg (by decide) [(.iload_n 1, 1, 0, 1, 0, 0, 0), (.iload 4, 2, 0, 4, 0, 0, 0)] (by decide +kernel) (show m_sgl X _ _ _ _ _ = some (115, [some (.ref 304), some (.int v1), some (.long (m.2 304)), none, some (.int q6.1)], [.int q6.1, .int v1], (SH, q6.2.1, q6.2.2)) from rfl) ?_
          refine m_R_1 (by decide) (m_opb_of (ins := .irem) (len := 1) (tag := 0) (a := 0) (b := 0) (c := 0) (q := 0) (by decide +kernel)) (m_s_irem c88) ?_
          exact ok_m_term_116 X d F g hg235 hg236 hg237 hg239 hg240 hg241 _ hk5 _ _ _ _ _ _ _ _ h
def f_m_term_5 (F : Nat) (g : Nat → mM → Option (Int32 × mM))  : Nat → Int32 → mM → Option (Int32 × mM)
  | 0, _, _ => none
  | n + 1, v1, m => ((f_m_isSign F (42 : Int32) m).bind fun q2 => (if q2.1 = 0 then ((f_m_isSign F (47 : Int32) q2.2).bind fun q3 => (if q3.1 = 0 then ((f_m_isSign F (37 : Int32) q3.2).bind fun q4 => (if q4.1 = 0 then some (v1, q4.2) else f_m_term_32 F g (f_m_term_5 F g n) v1 q4.2)) else f_m_term_32 F g (f_m_term_5 F g n) v1 q3.2)) else f_m_term_32 F g (f_m_term_5 F g n) v1 q2.2))
theorem ok_m_term_5 (X : mX) (d F : Nat) (g : Nat → mM → Option (Int32 × mM)) (hg235 : ∀  (m : mM) (r : Int32) (m' : mM), g 235  m = some (r, m') → m_R X (d + 4) 235 0 [some (.ref 304), none, none] [] (SH, m) (some (.int r), (SH, m'))) (hg236 : ∀  (m : mM) (r : Int32) (m' : mM), g 236  m = some (r, m') → m_R X (d + 4) 236 0 [some (.ref 304), none, none] [] (SH, m) (some (.int r), (SH, m'))) (hg237 : ∀  (m : mM) (r : Int32) (m' : mM), g 237  m = some (r, m') → m_R X (d + 4) 237 0 [some (.ref 304), none, none, none, none] [] (SH, m) (some (.int r), (SH, m'))) (hg239 : ∀  (m : mM) (r : Int32) (m' : mM), g 239  m = some (r, m') → m_R X (d + 4) 239 0 [some (.ref 304), none, none, none] [] (SH, m) (some (.int r), (SH, m'))) (hg240 : ∀  (m : mM) (r : Int32) (m' : mM), g 240  m = some (r, m') → m_R X (d + 4) 240 0 [some (.ref 304), none, none, none, none] [] (SH, m) (some (.int r), (SH, m'))) (hg241 : ∀  (m : mM) (r : Int32) (m' : mM), g 241  m = some (r, m') → m_R X (d + 4) 241 0 [some (.ref 304), none] [] (SH, m) (some (.int r), (SH, m'))) : ∀ (n : Nat) (v1 : Int32) (w2 : Option Value) (w3 : Option Value) (w4 : Option Value) (m : mM) (r : Int32) (m' : mM), f_m_term_5 F g n v1 m = some (r, m') → m_R X (d + 5) 240 5 [some (.ref 304), some (.int v1), w2, w3, w4] [] (SH, m) (some (.int r), (SH, m')) := by
  intro n
  induction n with
  | zero => intro v1 w2 w3 w4 m r m' h; cases h
  | succ n ih =>
    intro v1 w2 w3 w4 m r m' h
    simp only [f_m_term_5] at h
    refine m_R_sg (by decide) [(.aload_n 0, 1, 0, 0, 0, 0, 0), (.bipush 42, 2, 0, 42, 0, 0, 0)] (by decide +kernel) (show m_sgl X _ _ _ _ _ = some (8, [some (.ref 304), some (.int v1), w2, w3, w4], [.int (42 : Int32), .ref 304], (SH, m.1, m.2)) from rfl) ?_
    obtain ⟨q2, hc2, h⟩ := Option.bind_eq_some_iff.mp h
    refine m_R_cV (v := (some (.int q2.1))) (h1 := (SH, q2.2)) (rest := []) (lo' := [some (.ref 304), some (.int (42 : Int32))]) (ml := 2) (k0 := 304) (by decide) (Or.inl rfl) (m_opb_of (ins := .invokevirtual 301) (len := 3) (tag := 5) (a := 242) (b := 1) (c := 0) (q := 1769) (by decide +kernel)) (by decide +kernel) rfl (show m_isO 242 304 (SH, _) = true from m_isO_of (by decide +kernel)) (Nat.le_of_ble_eq_true rfl) rfl rfl (ok_m_isSign X (d + 4) F _ _ _ _ hc2) ?_
    rcases m_ite h with ⟨c92, h⟩ | ⟨c92, h⟩
    · refine m_R_1 (by decide) (m_opb_of (ins := .ifCond .ne 21) (len := 3) (tag := 0) (a := 32) (b := 0) (c := 0) (q := 0) (by decide +kernel)) (if_pos c92) ?_
      refine m_R_sg (by decide) [(.aload_n 0, 1, 0, 0, 0, 0, 0), (.bipush 47, 2, 0, 47, 0, 0, 0)] (by decide +kernel) (show m_sgl X _ _ _ _ _ = some (17, [some (.ref 304), some (.int v1), w2, w3, w4], [.int (47 : Int32), .ref 304], (SH, q2.2.1, q2.2.2)) from rfl) ?_
      obtain ⟨q3, hc3, h⟩ := Option.bind_eq_some_iff.mp h
      refine m_R_cV (v := (some (.int q3.1))) (h1 := (SH, q3.2)) (rest := []) (lo' := [some (.ref 304), some (.int (47 : Int32))]) (ml := 2) (k0 := 304) (by decide) (Or.inl rfl) (m_opb_of (ins := .invokevirtual 301) (len := 3) (tag := 5) (a := 242) (b := 1) (c := 0) (q := 1769) (by decide +kernel)) (by decide +kernel) rfl (show m_isO 242 304 (SH, _) = true from m_isO_of (by decide +kernel)) (Nat.le_of_ble_eq_true rfl) rfl rfl (ok_m_isSign X (d + 4) F _ _ _ _ hc3) ?_
      rcases m_ite h with ⟨c93, h⟩ | ⟨c93, h⟩
      · refine m_R_1 (by decide) (m_opb_of (ins := .ifCond .ne 12) (len := 3) (tag := 0) (a := 32) (b := 0) (c := 0) (q := 0) (by decide +kernel)) (if_pos c93) ?_
        refine m_R_sg (by decide) [(.aload_n 0, 1, 0, 0, 0, 0, 0), (.bipush 37, 2, 0, 37, 0, 0, 0)] (by decide +kernel) (show m_sgl X _ _ _ _ _ = some (26, [some (.ref 304), some (.int v1), w2, w3, w4], [.int (37 : Int32), .ref 304], (SH, q3.2.1, q3.2.2)) from rfl) ?_
        obtain ⟨q4, hc4, h⟩ := Option.bind_eq_some_iff.mp h
        refine m_R_cV (v := (some (.int q4.1))) (h1 := (SH, q4.2)) (rest := []) (lo' := [some (.ref 304), some (.int (37 : Int32))]) (ml := 2) (k0 := 304) (by decide) (Or.inl rfl) (m_opb_of (ins := .invokevirtual 301) (len := 3) (tag := 5) (a := 242) (b := 1) (c := 0) (q := 1769) (by decide +kernel)) (by decide +kernel) rfl (show m_isO 242 304 (SH, _) = true from m_isO_of (by decide +kernel)) (Nat.le_of_ble_eq_true rfl) rfl rfl (ok_m_isSign X (d + 4) F _ _ _ _ hc4) ?_
        rcases m_ite h with ⟨c94, h⟩ | ⟨c94, h⟩
        · refine m_R_1 (by decide) (m_opb_of (ins := .ifCond .eq 91) (len := 3) (tag := 0) (a := 120) (b := 0) (c := 0) (q := 0) (by decide +kernel)) (if_pos c94) ?_
          refine m_R_sg (by decide) [(.iload_n 1, 1, 0, 1, 0, 0, 0)] (by decide +kernel) (show m_sgl X _ _ _ _ _ = some (121, [some (.ref 304), some (.int v1), w2, w3, w4], [.int v1], (SH, q4.2.1, q4.2.2)) from rfl) ?_
          obtain ⟨rfl, rfl⟩ := m_some h
          exact m_R_iret (by decide) (m_opb_of (ins := .ireturn) (len := 1) (tag := 1) (a := 0) (b := 0) (c := 0) (q := 0) (by decide +kernel)) (Or.inl rfl)
        · refine m_R_1 (by decide) (m_opb_of (ins := .ifCond .eq 91) (len := 3) (tag := 0) (a := 120) (b := 0) (c := 0) (q := 0) (by decide +kernel)) (if_neg c94) ?_
          exact ok_m_term_32 X d F g hg235 hg236 hg237 hg239 hg240 hg241 _ (fun a0 a1 a2 a3 m r m' h => ih a0 a1 a2 a3 m r m' h) _ _ _ _ _ _ _ h
      · refine m_R_1 (by decide) (m_opb_of (ins := .ifCond .ne 12) (len := 3) (tag := 0) (a := 32) (b := 0) (c := 0) (q := 0) (by decide +kernel)) (if_neg c93) ?_
        exact ok_m_term_32 X d F g hg235 hg236 hg237 hg239 hg240 hg241 _ (fun a0 a1 a2 a3 m r m' h => ih a0 a1 a2 a3 m r m' h) _ _ _ _ _ _ _ h
    · refine m_R_1 (by decide) (m_opb_of (ins := .ifCond .ne 21) (len := 3) (tag := 0) (a := 32) (b := 0) (c := 0) (q := 0) (by decide +kernel)) (if_neg c92) ?_
      exact ok_m_term_32 X d F g hg235 hg236 hg237 hg239 hg240 hg241 _ (fun a0 a1 a2 a3 m r m' h => ih a0 a1 a2 a3 m r m' h) _ _ _ _ _ _ _ h
def f_m_term (F : Nat) (g : Nat → mM → Option (Int32 × mM))   (m : mM) : Option (Int32 × mM) := ((g 241 m).bind fun q1 => f_m_term_5 F g F q1.1 q1.2)
theorem ok_m_term (X : mX) (d F : Nat) (g : Nat → mM → Option (Int32 × mM)) (hg235 : ∀  (m : mM) (r : Int32) (m' : mM), g 235  m = some (r, m') → m_R X (d + 4) 235 0 [some (.ref 304), none, none] [] (SH, m) (some (.int r), (SH, m'))) (hg236 : ∀  (m : mM) (r : Int32) (m' : mM), g 236  m = some (r, m') → m_R X (d + 4) 236 0 [some (.ref 304), none, none] [] (SH, m) (some (.int r), (SH, m'))) (hg237 : ∀  (m : mM) (r : Int32) (m' : mM), g 237  m = some (r, m') → m_R X (d + 4) 237 0 [some (.ref 304), none, none, none, none] [] (SH, m) (some (.int r), (SH, m'))) (hg239 : ∀  (m : mM) (r : Int32) (m' : mM), g 239  m = some (r, m') → m_R X (d + 4) 239 0 [some (.ref 304), none, none, none] [] (SH, m) (some (.int r), (SH, m'))) (hg240 : ∀  (m : mM) (r : Int32) (m' : mM), g 240  m = some (r, m') → m_R X (d + 4) 240 0 [some (.ref 304), none, none, none, none] [] (SH, m) (some (.int r), (SH, m'))) (hg241 : ∀  (m : mM) (r : Int32) (m' : mM), g 241  m = some (r, m') → m_R X (d + 4) 241 0 [some (.ref 304), none] [] (SH, m) (some (.int r), (SH, m'))) : ∀   (m : mM) (r : Int32) (m' : mM), f_m_term F g  m = some (r, m') → m_R X (d + 5) 240 0 [some (.ref 304), none, none, none, none] [] (SH, m) (some (.int r), (SH, m')) := by
  intro m r m' h
  unfold f_m_term at h
  refine m_R_sg (by decide) [(.aload_n 0, 1, 0, 0, 0, 0, 0)] (by decide +kernel) (show m_sgl X _ _ _ _ _ = some (1, [some (.ref 304), none, none, none, none], [.ref 304], (SH, m.1, m.2)) from rfl) ?_
  obtain ⟨q1, hc1, h⟩ := Option.bind_eq_some_iff.mp h
  refine m_R_cV (v := (some (.int q1.1))) (h1 := (SH, q1.2)) (rest := []) (lo' := [some (.ref 304), none]) (ml := 2) (k0 := 304) (by decide) (Or.inl rfl) (m_opb_of (ins := .invokevirtual 307) (len := 3) (tag := 5) (a := 241) (b := 0) (c := 0) (q := 1765) (by decide +kernel)) (by decide +kernel) rfl (show m_isO 241 304 (SH, _) = true from m_isO_of (by decide +kernel)) (Nat.le_of_ble_eq_true rfl) rfl rfl (hg241 _ _ _ hc1) ?_
  refine m_R_sg (by decide) [(.istore_n 1, 1, 0, 1, 0, 0, 0)] (by decide +kernel) (show m_sgl X _ _ _ _ _ = some (5, [some (.ref 304), some (.int q1.1), none, none, none], [], (SH, q1.2.1, q1.2.2)) from rfl) ?_
  exact ok_m_term_5 X d F g hg235 hg236 hg237 hg239 hg240 hg241 F _ _ _ _ _ _ _ h
def f_m_one_161 (F : Nat) (g : Nat → mM → Option (Int32 × mM))  (v1 : Int32) (m : mM) : Option (Int32 × mM) := some (v1, m)
theorem ok_m_one_161 (X : mX) (d F : Nat) (g : Nat → mM → Option (Int32 × mM)) (hg235 : ∀  (m : mM) (r : Int32) (m' : mM), g 235  m = some (r, m') → m_R X (d + 4) 235 0 [some (.ref 304), none, none] [] (SH, m) (some (.int r), (SH, m'))) (hg236 : ∀  (m : mM) (r : Int32) (m' : mM), g 236  m = some (r, m') → m_R X (d + 4) 236 0 [some (.ref 304), none, none] [] (SH, m) (some (.int r), (SH, m'))) (hg237 : ∀  (m : mM) (r : Int32) (m' : mM), g 237  m = some (r, m') → m_R X (d + 4) 237 0 [some (.ref 304), none, none, none, none] [] (SH, m) (some (.int r), (SH, m'))) (hg239 : ∀  (m : mM) (r : Int32) (m' : mM), g 239  m = some (r, m') → m_R X (d + 4) 239 0 [some (.ref 304), none, none, none] [] (SH, m) (some (.int r), (SH, m'))) (hg240 : ∀  (m : mM) (r : Int32) (m' : mM), g 240  m = some (r, m') → m_R X (d + 4) 240 0 [some (.ref 304), none, none, none, none] [] (SH, m) (some (.int r), (SH, m'))) (hg241 : ∀  (m : mM) (r : Int32) (m' : mM), g 241  m = some (r, m') → m_R X (d + 4) 241 0 [some (.ref 304), none] [] (SH, m) (some (.int r), (SH, m'))) : ∀ (v1 : Int32) (w0 : Option Value) (m : mM) (r : Int32) (m' : mM), f_m_one_161 F g v1 m = some (r, m') → m_R X (d + 5) 241 161 [w0, some (.int v1)] [] (SH, m) (some (.int r), (SH, m')) := by
  intro v1 w0 m r m' h
  unfold f_m_one_161 at h
  refine m_R_sg (by decide) [(.iload_n 1, 1, 0, 1, 0, 0, 0)] (by decide +kernel) (show m_sgl X _ _ _ _ _ = some (162, [w0, some (.int v1)], [.int v1], (SH, m.1, m.2)) from rfl) ?_
  obtain ⟨rfl, rfl⟩ := m_some h
  exact m_R_iret (by decide) (m_opb_of (ins := .ireturn) (len := 1) (tag := 1) (a := 0) (b := 0) (c := 0) (q := 0) (by decide +kernel)) (Or.inl rfl)
def f_m_one_71 (F : Nat) (g : Nat → mM → Option (Int32 × mM))  (v1 : Int32) (m : mM) : Option (Int32 × mM) := (if ((m_up m.1 304 16 ((m.1 304 16) - (1 : Int32))) 304 17) = 0 then ((f_m_next F ((m_up m.1 304 16 ((m.1 304 16) - (1 : Int32))), m.2)).bind fun q10 => f_m_one_161 F g v1 q10.2) else f_m_one_161 F g v1 ((m_up m.1 304 16 ((m.1 304 16) - (1 : Int32))), m.2))
theorem ok_m_one_71 (X : mX) (d F : Nat) (g : Nat → mM → Option (Int32 × mM)) (hg235 : ∀  (m : mM) (r : Int32) (m' : mM), g 235  m = some (r, m') → m_R X (d + 4) 235 0 [some (.ref 304), none, none] [] (SH, m) (some (.int r), (SH, m'))) (hg236 : ∀  (m : mM) (r : Int32) (m' : mM), g 236  m = some (r, m') → m_R X (d + 4) 236 0 [some (.ref 304), none, none] [] (SH, m) (some (.int r), (SH, m'))) (hg237 : ∀  (m : mM) (r : Int32) (m' : mM), g 237  m = some (r, m') → m_R X (d + 4) 237 0 [some (.ref 304), none, none, none, none] [] (SH, m) (some (.int r), (SH, m'))) (hg239 : ∀  (m : mM) (r : Int32) (m' : mM), g 239  m = some (r, m') → m_R X (d + 4) 239 0 [some (.ref 304), none, none, none] [] (SH, m) (some (.int r), (SH, m'))) (hg240 : ∀  (m : mM) (r : Int32) (m' : mM), g 240  m = some (r, m') → m_R X (d + 4) 240 0 [some (.ref 304), none, none, none, none] [] (SH, m) (some (.int r), (SH, m'))) (hg241 : ∀  (m : mM) (r : Int32) (m' : mM), g 241  m = some (r, m') → m_R X (d + 4) 241 0 [some (.ref 304), none] [] (SH, m) (some (.int r), (SH, m'))) : ∀ (v1 : Int32)  (m : mM) (r : Int32) (m' : mM), f_m_one_71 F g v1 m = some (r, m') → m_R X (d + 5) 241 71 [some (.ref 304), some (.int v1)] [] (SH, m) (some (.int r), (SH, m')) := by
  intro v1 m r m' h
  unfold f_m_one_71 at h
  refine m_R_sg (by decide) [(.aload_n 0, 1, 0, 0, 0, 0, 0), (.dup, 1, 0, 0, 0, 0, 0), (.getfield 263, 3, 0, 12, 16, 0, 1511), (.iconst 1, 1, 0, 1, 0, 0, 0), (.isub, 1, 0, 0, 0, 0, 0), (.putfield 263, 3, 0, 12, 16, 0, 1511), (.aload_n 0, 1, 0, 0, 0, 0, 0), (.getfield 256, 3, 0, 12, 17, 1, 1512)] (by decide +kernel) (show m_sgl X _ _ _ _ _ = some (85, [some (.ref 304), some (.int v1)], [.int ((m_up m.1 304 16 ((m.1 304 16) - (1 : Int32))) 304 17)], (SH, (m_up m.1 304 16 ((m.1 304 16) - (1 : Int32))), m.2)) from rfl) ?_
  rcases m_ite h with ⟨c95, h⟩ | ⟨c95, h⟩
  · refine m_R_1 (by decide) (m_opb_of (ins := .ifCond .ne 76) (len := 3) (tag := 0) (a := 161) (b := 0) (c := 0) (q := 0) (by decide +kernel)) (if_pos c95) ?_
    refine m_R_sg (by decide) [(.aload_n 0, 1, 0, 0, 0, 0, 0)] (by decide +kernel) (show m_sgl X _ _ _ _ _ = some (89, [some (.ref 304), some (.int v1)], [.ref 304], (SH, (m_up m.1 304 16 ((m.1 304 16) - (1 : Int32))), m.2)) from rfl) ?_
    obtain ⟨q10, hc10, h⟩ := Option.bind_eq_some_iff.mp h
    refine m_R_cV (v := none) (h1 := (SH, q10.2)) (rest := []) (lo' := [some (.ref 304), none, none]) (ml := 3) (k0 := 304) (by decide) (Or.inl rfl) (m_opb_of (ins := .invokevirtual 269) (len := 3) (tag := 5) (a := 230) (b := 0) (c := 0) (q := 1708) (by decide +kernel)) (by decide +kernel) rfl (show m_isO 230 304 (SH, _) = true from m_isO_of (by decide +kernel)) (Nat.le_of_ble_eq_true rfl) rfl rfl (ok_m_next X (d + 3) F _ _ _ hc10) ?_
    refine m_R_sg (by decide) [(.goto 69, 3, 0, 161, 0, 0, 0)] (by decide +kernel) (show m_sgl X _ _ _ _ _ = some (161, [some (.ref 304), some (.int v1)], [], (SH, q10.2.1, q10.2.2)) from rfl) ?_
    exact ok_m_one_161 X d F g hg235 hg236 hg237 hg239 hg240 hg241 _ _ _ _ _ h
  · refine m_R_1 (by decide) (m_opb_of (ins := .ifCond .ne 76) (len := 3) (tag := 0) (a := 161) (b := 0) (c := 0) (q := 0) (by decide +kernel)) (if_neg c95) ?_
    exact ok_m_one_161 X d F g hg235 hg236 hg237 hg239 hg240 hg241 _ _ _ _ _ h
def f_m_one_157 (F : Nat) (g : Nat → mM → Option (Int32 × mM))  (v1 : Int32) (m : mM) : Option (Int32 × mM) := ((f_m_fail F m).bind fun q13 => f_m_one_161 F g v1 q13.2)
theorem ok_m_one_157 (X : mX) (d F : Nat) (g : Nat → mM → Option (Int32 × mM)) (hg235 : ∀  (m : mM) (r : Int32) (m' : mM), g 235  m = some (r, m') → m_R X (d + 4) 235 0 [some (.ref 304), none, none] [] (SH, m) (some (.int r), (SH, m'))) (hg236 : ∀  (m : mM) (r : Int32) (m' : mM), g 236  m = some (r, m') → m_R X (d + 4) 236 0 [some (.ref 304), none, none] [] (SH, m) (some (.int r), (SH, m'))) (hg237 : ∀  (m : mM) (r : Int32) (m' : mM), g 237  m = some (r, m') → m_R X (d + 4) 237 0 [some (.ref 304), none, none, none, none] [] (SH, m) (some (.int r), (SH, m'))) (hg239 : ∀  (m : mM) (r : Int32) (m' : mM), g 239  m = some (r, m') → m_R X (d + 4) 239 0 [some (.ref 304), none, none, none] [] (SH, m) (some (.int r), (SH, m'))) (hg240 : ∀  (m : mM) (r : Int32) (m' : mM), g 240  m = some (r, m') → m_R X (d + 4) 240 0 [some (.ref 304), none, none, none, none] [] (SH, m) (some (.int r), (SH, m'))) (hg241 : ∀  (m : mM) (r : Int32) (m' : mM), g 241  m = some (r, m') → m_R X (d + 4) 241 0 [some (.ref 304), none] [] (SH, m) (some (.int r), (SH, m'))) : ∀ (v1 : Int32)  (m : mM) (r : Int32) (m' : mM), f_m_one_157 F g v1 m = some (r, m') → m_R X (d + 5) 241 157 [some (.ref 304), some (.int v1)] [] (SH, m) (some (.int r), (SH, m')) := by
  intro v1 m r m' h
  unfold f_m_one_157 at h
  refine m_R_sg (by decide) [(.aload_n 0, 1, 0, 0, 0, 0, 0)] (by decide +kernel) (show m_sgl X _ _ _ _ _ = some (158, [some (.ref 304), some (.int v1)], [.ref 304], (SH, m.1, m.2)) from rfl) ?_
  obtain ⟨q13, hc13, h⟩ := Option.bind_eq_some_iff.mp h
  refine m_R_cV (v := none) (h1 := (SH, q13.2)) (rest := []) (lo' := [some (.ref 304)]) (ml := 1) (k0 := 304) (by decide) (Or.inl rfl) (m_opb_of (ins := .invokevirtual 266) (len := 3) (tag := 5) (a := 234) (b := 0) (c := 0) (q := 1736) (by decide +kernel)) (by decide +kernel) rfl (show m_isO 234 304 (SH, _) = true from m_isO_of (by decide +kernel)) (Nat.le_of_ble_eq_true rfl) rfl rfl (ok_m_fail X (d + 4) F _ _ _ hc13) ?_
  exact ok_m_one_161 X d F g hg235 hg236 hg237 hg239 hg240 hg241 _ _ _ _ _ h
def f_m_one_123 (F : Nat) (g : Nat → mM → Option (Int32 × mM))  (v1 : Int32) (m : mM) : Option (Int32 × mM) := (if (m.1 304 17) = 0 then (if (m.1 304 12) = (1 : Int32) then ((f_m_name_ F m).bind fun q11 => (if (q11.2.1 304 17) = 0 then ((f_m_next F q11.2).bind fun q12 => f_m_one_161 F g q11.1 q12.2) else f_m_one_161 F g q11.1 q11.2)) else f_m_one_157 F g v1 m) else f_m_one_157 F g v1 m)
theorem ok_m_one_123 (X : mX) (d F : Nat) (g : Nat → mM → Option (Int32 × mM)) (hg235 : ∀  (m : mM) (r : Int32) (m' : mM), g 235  m = some (r, m') → m_R X (d + 4) 235 0 [some (.ref 304), none, none] [] (SH, m) (some (.int r), (SH, m'))) (hg236 : ∀  (m : mM) (r : Int32) (m' : mM), g 236  m = some (r, m') → m_R X (d + 4) 236 0 [some (.ref 304), none, none] [] (SH, m) (some (.int r), (SH, m'))) (hg237 : ∀  (m : mM) (r : Int32) (m' : mM), g 237  m = some (r, m') → m_R X (d + 4) 237 0 [some (.ref 304), none, none, none, none] [] (SH, m) (some (.int r), (SH, m'))) (hg239 : ∀  (m : mM) (r : Int32) (m' : mM), g 239  m = some (r, m') → m_R X (d + 4) 239 0 [some (.ref 304), none, none, none] [] (SH, m) (some (.int r), (SH, m'))) (hg240 : ∀  (m : mM) (r : Int32) (m' : mM), g 240  m = some (r, m') → m_R X (d + 4) 240 0 [some (.ref 304), none, none, none, none] [] (SH, m) (some (.int r), (SH, m'))) (hg241 : ∀  (m : mM) (r : Int32) (m' : mM), g 241  m = some (r, m') → m_R X (d + 4) 241 0 [some (.ref 304), none] [] (SH, m) (some (.int r), (SH, m'))) : ∀ (v1 : Int32)  (m : mM) (r : Int32) (m' : mM), f_m_one_123 F g v1 m = some (r, m') → m_R X (d + 5) 241 123 [some (.ref 304), some (.int v1)] [] (SH, m) (some (.int r), (SH, m')) := by
  intro v1 m r m' h
  unfold f_m_one_123 at h
  refine m_R_sg (by decide) [(.aload_n 0, 1, 0, 0, 0, 0, 0), (.getfield 256, 3, 0, 12, 17, 1, 1512)] (by decide +kernel) (show m_sgl X _ _ _ _ _ = some (127, [some (.ref 304), some (.int v1)], [.int (m.1 304 17)], (SH, m.1, m.2)) from rfl) ?_
  rcases m_ite h with ⟨c96, h⟩ | ⟨c96, h⟩
  · refine m_R_1 (by decide) (m_opb_of (ins := .ifCond .ne 30) (len := 3) (tag := 0) (a := 157) (b := 0) (c := 0) (q := 0) (by decide +kernel)) (if_pos c96) ?_
    refine m_R_sg (by decide) [(.aload_n 0, 1, 0, 0, 0, 0, 0), (.getfield 239, 3, 0, 12, 12, 0, 1507), (.iconst 1, 1, 0, 1, 0, 0, 0)] (by decide +kernel) (show m_sgl X _ _ _ _ _ = some (135, [some (.ref 304), some (.int v1)], [.int (1 : Int32), .int (m.1 304 12)], (SH, m.1, m.2)) from rfl) ?_
    rcases m_ite h with ⟨c97, h⟩ | ⟨c97, h⟩
    · refine m_R_1 (by decide) (m_opb_of (ins := .if_icmp .ne 22) (len := 3) (tag := 0) (a := 157) (b := 0) (c := 0) (q := 0) (by decide +kernel)) (if_pos c97) ?_
      refine m_R_sg (by decide) [(.aload_n 0, 1, 0, 0, 0, 0, 0)] (by decide +kernel) (show m_sgl X _ _ _ _ _ = some (139, [some (.ref 304), some (.int v1)], [.ref 304], (SH, m.1, m.2)) from rfl) ?_
      obtain ⟨q11, hc11, h⟩ := Option.bind_eq_some_iff.mp h
      refine m_R_cV (v := (some (.int q11.1))) (h1 := (SH, q11.2)) (rest := []) (lo' := [some (.ref 304), none]) (ml := 2) (k0 := 304) (by decide) (Or.inl rfl) (m_opb_of (ins := .invokevirtual 313) (len := 3) (tag := 5) (a := 243) (b := 0) (c := 0) (q := 1773) (by decide +kernel)) (by decide +kernel) rfl (show m_isO 243 304 (SH, _) = true from m_isO_of (by decide +kernel)) (Nat.le_of_ble_eq_true rfl) rfl rfl (ok_m_name_ X (d + 0) F _ _ _ hc11) ?_
      refine m_R_sg (by decide) [(.istore_n 1, 1, 0, 1, 0, 0, 0), (.aload_n 0, 1, 0, 0, 0, 0, 0), (.getfield 256, 3, 0, 12, 17, 1, 1512)] (by decide +kernel) (show m_sgl X _ _ _ _ _ = some (147, [some (.ref 304), some (.int q11.1)], [.int (q11.2.1 304 17)], (SH, q11.2.1, q11.2.2)) from rfl) ?_
      rcases m_ite h with ⟨c98, h⟩ | ⟨c98, h⟩
      · refine m_R_1 (by decide) (m_opb_of (ins := .ifCond .ne 14) (len := 3) (tag := 0) (a := 161) (b := 0) (c := 0) (q := 0) (by decide +kernel)) (if_pos c98) ?_
        refine m_R_sg (by decide) [(.aload_n 0, 1, 0, 0, 0, 0, 0)] (by decide +kernel) (show m_sgl X _ _ _ _ _ = some (151, [some (.ref 304), some (.int q11.1)], [.ref 304], (SH, q11.2.1, q11.2.2)) from rfl) ?_
        obtain ⟨q12, hc12, h⟩ := Option.bind_eq_some_iff.mp h
        refine m_R_cV (v := none) (h1 := (SH, q12.2)) (rest := []) (lo' := [some (.ref 304), none, none]) (ml := 3) (k0 := 304) (by decide) (Or.inl rfl) (m_opb_of (ins := .invokevirtual 269) (len := 3) (tag := 5) (a := 230) (b := 0) (c := 0) (q := 1708) (by decide +kernel)) (by decide +kernel) rfl (show m_isO 230 304 (SH, _) = true from m_isO_of (by decide +kernel)) (Nat.le_of_ble_eq_true rfl) rfl rfl (ok_m_next X (d + 3) F _ _ _ hc12) ?_
        refine m_R_sg (by decide) [(.goto 7, 3, 0, 161, 0, 0, 0)] (by decide +kernel) (show m_sgl X _ _ _ _ _ = some (161, [some (.ref 304), some (.int q11.1)], [], (SH, q12.2.1, q12.2.2)) from rfl) ?_
        exact ok_m_one_161 X d F g hg235 hg236 hg237 hg239 hg240 hg241 _ _ _ _ _ h
      · refine m_R_1 (by decide) (m_opb_of (ins := .ifCond .ne 14) (len := 3) (tag := 0) (a := 161) (b := 0) (c := 0) (q := 0) (by decide +kernel)) (if_neg c98) ?_
        exact ok_m_one_161 X d F g hg235 hg236 hg237 hg239 hg240 hg241 _ _ _ _ _ h
    · refine m_R_1 (by decide) (m_opb_of (ins := .if_icmp .ne 22) (len := 3) (tag := 0) (a := 157) (b := 0) (c := 0) (q := 0) (by decide +kernel)) (if_neg c97) ?_
      exact ok_m_one_157 X d F g hg235 hg236 hg237 hg239 hg240 hg241 _ _ _ _ h
  · refine m_R_1 (by decide) (m_opb_of (ins := .ifCond .ne 30) (len := 3) (tag := 0) (a := 157) (b := 0) (c := 0) (q := 0) (by decide +kernel)) (if_neg c96) ?_
    exact ok_m_one_157 X d F g hg235 hg236 hg237 hg239 hg240 hg241 _ _ _ _ h
def f_m_one (F : Nat) (g : Nat → mM → Option (Int32 × mM))   (m : mM) : Option (Int32 × mM) := ((f_m_isSign F (45 : Int32) m).bind fun q1 => (if q1.1 = 0 then ((f_m_isSign F (40 : Int32) q1.2).bind fun q2 => (if q2.1 = 0 then (if (q2.2.1 304 17) = 0 then (if (q2.2.1 304 12) = (2 : Int32) then ((f_m_next F q2.2).bind fun q3 => f_m_one_161 F g (q2.2.2 304).toInt32 q3.2) else f_m_one_123 F g (0 : Int32) q2.2) else f_m_one_123 F g (0 : Int32) q2.2) else ((f_m_opens F q2.2).bind fun q4 => (if q4.1 = 0 then f_m_one_161 F g (0 : Int32) q4.2 else ((g 235 q4.2).bind fun q5 => ((f_m_isSign F (41 : Int32) q5.2).bind fun q6 => (if q6.1 = 0 then ((f_m_fail F q6.2).bind fun q7 => f_m_one_71 F g q5.1 q7.2) else f_m_one_71 F g q5.1 q6.2))))))) else ((f_m_opens F q1.2).bind fun q8 => (if q8.1 = 0 then f_m_one_161 F g (0 : Int32) q8.2 else ((g 241 q8.2).bind fun q9 => f_m_one_161 F g (-q9.1) ((m_up q9.2.1 304 16 ((q9.2.1 304 16) - (1 : Int32))), q9.2.2))))))
theorem ok_m_one (X : mX) (d F : Nat) (g : Nat → mM → Option (Int32 × mM)) (hg235 : ∀  (m : mM) (r : Int32) (m' : mM), g 235  m = some (r, m') → m_R X (d + 4) 235 0 [some (.ref 304), none, none] [] (SH, m) (some (.int r), (SH, m'))) (hg236 : ∀  (m : mM) (r : Int32) (m' : mM), g 236  m = some (r, m') → m_R X (d + 4) 236 0 [some (.ref 304), none, none] [] (SH, m) (some (.int r), (SH, m'))) (hg237 : ∀  (m : mM) (r : Int32) (m' : mM), g 237  m = some (r, m') → m_R X (d + 4) 237 0 [some (.ref 304), none, none, none, none] [] (SH, m) (some (.int r), (SH, m'))) (hg239 : ∀  (m : mM) (r : Int32) (m' : mM), g 239  m = some (r, m') → m_R X (d + 4) 239 0 [some (.ref 304), none, none, none] [] (SH, m) (some (.int r), (SH, m'))) (hg240 : ∀  (m : mM) (r : Int32) (m' : mM), g 240  m = some (r, m') → m_R X (d + 4) 240 0 [some (.ref 304), none, none, none, none] [] (SH, m) (some (.int r), (SH, m'))) (hg241 : ∀  (m : mM) (r : Int32) (m' : mM), g 241  m = some (r, m') → m_R X (d + 4) 241 0 [some (.ref 304), none] [] (SH, m) (some (.int r), (SH, m'))) : ∀   (m : mM) (r : Int32) (m' : mM), f_m_one F g  m = some (r, m') → m_R X (d + 5) 241 0 [some (.ref 304), none] [] (SH, m) (some (.int r), (SH, m')) := by
  intro m r m' h
  unfold f_m_one at h
  refine m_R_sg (by decide) [(.iconst 0, 1, 0, 0, 0, 0, 0), (.istore_n 1, 1, 0, 1, 0, 0, 0), (.aload_n 0, 1, 0, 0, 0, 0, 0), (.bipush 45, 2, 0, 45, 0, 0, 0)] (by decide +kernel) (show m_sgl X _ _ _ _ _ = some (5, [some (.ref 304), some (.int (0 : Int32))], [.int (45 : Int32), .ref 304], (SH, m.1, m.2)) from rfl) ?_
  obtain ⟨q1, hc1, h⟩ := Option.bind_eq_some_iff.mp h
  refine m_R_cV (v := (some (.int q1.1))) (h1 := (SH, q1.2)) (rest := []) (lo' := [some (.ref 304), some (.int (45 : Int32))]) (ml := 2) (k0 := 304) (by decide) (Or.inl rfl) (m_opb_of (ins := .invokevirtual 301) (len := 3) (tag := 5) (a := 242) (b := 1) (c := 0) (q := 1769) (by decide +kernel)) (by decide +kernel) rfl (show m_isO 242 304 (SH, _) = true from m_isO_of (by decide +kernel)) (Nat.le_of_ble_eq_true rfl) rfl rfl (ok_m_isSign X (d + 4) F _ _ _ _ hc1) ?_
  rcases m_ite h with ⟨c99, h⟩ | ⟨c99, h⟩
  · refine m_R_1 (by decide) (m_opb_of (ins := .ifCond .eq 29) (len := 3) (tag := 0) (a := 37) (b := 0) (c := 0) (q := 0) (by decide +kernel)) (if_pos c99) ?_
    refine m_R_sg (by decide) [(.aload_n 0, 1, 0, 0, 0, 0, 0), (.bipush 40, 2, 0, 40, 0, 0, 0)] (by decide +kernel) (show m_sgl X _ _ _ _ _ = some (40, [some (.ref 304), some (.int (0 : Int32))], [.int (40 : Int32), .ref 304], (SH, q1.2.1, q1.2.2)) from rfl) ?_
    obtain ⟨q2, hc2, h⟩ := Option.bind_eq_some_iff.mp h
    refine m_R_cV (v := (some (.int q2.1))) (h1 := (SH, q2.2)) (rest := []) (lo' := [some (.ref 304), some (.int (40 : Int32))]) (ml := 2) (k0 := 304) (by decide) (Or.inl rfl) (m_opb_of (ins := .invokevirtual 301) (len := 3) (tag := 5) (a := 242) (b := 1) (c := 0) (q := 1769) (by decide +kernel)) (by decide +kernel) rfl (show m_isO 242 304 (SH, _) = true from m_isO_of (by decide +kernel)) (Nat.le_of_ble_eq_true rfl) rfl rfl (ok_m_isSign X (d + 4) F _ _ _ _ hc2) ?_
    rcases m_ite h with ⟨c100, h⟩ | ⟨c100, h⟩
    · refine m_R_1 (by decide) (m_opb_of (ins := .ifCond .eq 52) (len := 3) (tag := 0) (a := 95) (b := 0) (c := 0) (q := 0) (by decide +kernel)) (if_pos c100) ?_
      refine m_R_sg (by decide) [(.aload_n 0, 1, 0, 0, 0, 0, 0), (.getfield 256, 3, 0, 12, 17, 1, 1512)] (by decide +kernel) (show m_sgl X _ _ _ _ _ = some (99, [some (.ref 304), some (.int (0 : Int32))], [.int (q2.2.1 304 17)], (SH, q2.2.1, q2.2.2)) from rfl) ?_
      rcases m_ite h with ⟨c101, h⟩ | ⟨c101, h⟩
      · refine m_R_1 (by decide) (m_opb_of (ins := .ifCond .ne 24) (len := 3) (tag := 0) (a := 123) (b := 0) (c := 0) (q := 0) (by decide +kernel)) (if_pos c101) ?_
        refine m_R_sg (by decide) [(.aload_n 0, 1, 0, 0, 0, 0, 0), (.getfield 239, 3, 0, 12, 12, 0, 1507), (.iconst 2, 1, 0, 2, 0, 0, 0)] (by decide +kernel) (show m_sgl X _ _ _ _ _ = some (107, [some (.ref 304), some (.int (0 : Int32))], [.int (2 : Int32), .int (q2.2.1 304 12)], (SH, q2.2.1, q2.2.2)) from rfl) ?_
        rcases m_ite h with ⟨c102, h⟩ | ⟨c102, h⟩
        · refine m_R_1 (by decide) (m_opb_of (ins := .if_icmp .ne 16) (len := 3) (tag := 0) (a := 123) (b := 0) (c := 0) (q := 0) (by decide +kernel)) (if_pos c102) ?_
          refine m_R_sg (by decide) [(.aload_n 0, 1, 0, 0, 0, 0, 0), (.getfield 242, 3, 0, 12, 14, 2, 1509), (.l2i, 1, 0, 0, 0, 0, 0), (.istore_n 1, 1, 0, 1, 0, 0, 0), (.aload_n 0, 1, 0, 0, 0, 0, 0)] (by decide +kernel) (show m_sgl X _ _ _ _ _ = some (117, [some (.ref 304), some (.int (q2.2.2 304).toInt32)], [.ref 304], (SH, q2.2.1, q2.2.2)) from rfl) ?_
          obtain ⟨q3, hc3, h⟩ := Option.bind_eq_some_iff.mp h
          refine m_R_cV (v := none) (h1 := (SH, q3.2)) (rest := []) (lo' := [some (.ref 304), none, none]) (ml := 3) (k0 := 304) (by decide) (Or.inl rfl) (m_opb_of (ins := .invokevirtual 269) (len := 3) (tag := 5) (a := 230) (b := 0) (c := 0) (q := 1708) (by decide +kernel)) (by decide +kernel) rfl (show m_isO 230 304 (SH, _) = true from m_isO_of (by decide +kernel)) (Nat.le_of_ble_eq_true rfl) rfl rfl (ok_m_next X (d + 3) F _ _ _ hc3) ?_
          refine m_R_sg (by decide) [(.goto 41, 3, 0, 161, 0, 0, 0)] (by decide +kernel) (show m_sgl X _ _ _ _ _ = some (161, [some (.ref 304), some (.int (q2.2.2 304).toInt32)], [], (SH, q3.2.1, q3.2.2)) from rfl) ?_
          exact ok_m_one_161 X d F g hg235 hg236 hg237 hg239 hg240 hg241 _ _ _ _ _ h
        · refine m_R_1 (by decide) (m_opb_of (ins := .if_icmp .ne 16) (len := 3) (tag := 0) (a := 123) (b := 0) (c := 0) (q := 0) (by decide +kernel)) (if_neg c102) ?_
          exact ok_m_one_123 X d F g hg235 hg236 hg237 hg239 hg240 hg241 _ _ _ _ h
      · refine m_R_1 (by decide) (m_opb_of (ins := .ifCond .ne 24) (len := 3) (tag := 0) (a := 123) (b := 0) (c := 0) (q := 0) (by decide +kernel)) (if_neg c101) ?_
        exact ok_m_one_123 X d F g hg235 hg236 hg237 hg239 hg240 hg241 _ _ _ _ h
    · refine m_R_1 (by decide) (m_opb_of (ins := .ifCond .eq 52) (len := 3) (tag := 0) (a := 95) (b := 0) (c := 0) (q := 0) (by decide +kernel)) (if_neg c100) ?_
      refine m_R_sg (by decide) [(.aload_n 0, 1, 0, 0, 0, 0, 0)] (by decide +kernel) (show m_sgl X _ _ _ _ _ = some (47, [some (.ref 304), some (.int (0 : Int32))], [.ref 304], (SH, q2.2.1, q2.2.2)) from rfl) ?_
      obtain ⟨q4, hc4, h⟩ := Option.bind_eq_some_iff.mp h
      refine m_R_cV (v := (some (.int q4.1))) (h1 := (SH, q4.2)) (rest := []) (lo' := [some (.ref 304)]) (ml := 1) (k0 := 304) (by decide) (Or.inl rfl) (m_opb_of (ins := .invokevirtual 304) (len := 3) (tag := 5) (a := 238) (b := 0) (c := 0) (q := 1753) (by decide +kernel)) (by decide +kernel) rfl (show m_isO 238 304 (SH, _) = true from m_isO_of (by decide +kernel)) (Nat.le_of_ble_eq_true rfl) rfl rfl (ok_m_opens X (d + 2) F _ _ _ hc4) ?_
      rcases m_ite h with ⟨c103, h⟩ | ⟨c103, h⟩
      · refine m_R_1 (by decide) (m_opb_of (ins := .ifCond .eq 111) (len := 3) (tag := 0) (a := 161) (b := 0) (c := 0) (q := 0) (by decide +kernel)) (if_pos c103) ?_
        exact ok_m_one_161 X d F g hg235 hg236 hg237 hg239 hg240 hg241 _ _ _ _ _ h
      · refine m_R_1 (by decide) (m_opb_of (ins := .ifCond .eq 111) (len := 3) (tag := 0) (a := 161) (b := 0) (c := 0) (q := 0) (by decide +kernel)) (if_neg c103) ?_
        refine m_R_sg (by decide) [(.aload_n 0, 1, 0, 0, 0, 0, 0)] (by decide +kernel) (show m_sgl X _ _ _ _ _ = some (54, [some (.ref 304), some (.int (0 : Int32))], [.ref 304], (SH, q4.2.1, q4.2.2)) from rfl) ?_
        obtain ⟨q5, hc5, h⟩ := Option.bind_eq_some_iff.mp h
        refine m_R_cV (v := (some (.int q5.1))) (h1 := (SH, q5.2)) (rest := []) (lo' := [some (.ref 304), none, none]) (ml := 3) (k0 := 304) (by decide) (Or.inl rfl) (m_opb_of (ins := .invokevirtual 310) (len := 3) (tag := 5) (a := 235) (b := 0) (c := 0) (q := 1740) (by decide +kernel)) (by decide +kernel) rfl (show m_isO 235 304 (SH, _) = true from m_isO_of (by decide +kernel)) (Nat.le_of_ble_eq_true rfl) rfl rfl (hg235 _ _ _ hc5) ?_
        refine m_R_sg (by decide) [(.istore_n 1, 1, 0, 1, 0, 0, 0), (.aload_n 0, 1, 0, 0, 0, 0, 0), (.bipush 41, 2, 0, 41, 0, 0, 0)] (by decide +kernel) (show m_sgl X _ _ _ _ _ = some (61, [some (.ref 304), some (.int q5.1)], [.int (41 : Int32), .ref 304], (SH, q5.2.1, q5.2.2)) from rfl) ?_
        obtain ⟨q6, hc6, h⟩ := Option.bind_eq_some_iff.mp h
        refine m_R_cV (v := (some (.int q6.1))) (h1 := (SH, q6.2)) (rest := []) (lo' := [some (.ref 304), some (.int (41 : Int32))]) (ml := 2) (k0 := 304) (by decide) (Or.inl rfl) (m_opb_of (ins := .invokevirtual 301) (len := 3) (tag := 5) (a := 242) (b := 1) (c := 0) (q := 1769) (by decide +kernel)) (by decide +kernel) rfl (show m_isO 242 304 (SH, _) = true from m_isO_of (by decide +kernel)) (Nat.le_of_ble_eq_true rfl) rfl rfl (ok_m_isSign X (d + 4) F _ _ _ _ hc6) ?_
        rcases m_ite h with ⟨c104, h⟩ | ⟨c104, h⟩
        · refine m_R_1 (by decide) (m_opb_of (ins := .ifCond .ne 7) (len := 3) (tag := 0) (a := 71) (b := 0) (c := 0) (q := 0) (by decide +kernel)) (if_pos c104) ?_
          refine m_R_sg (by decide) [(.aload_n 0, 1, 0, 0, 0, 0, 0)] (by decide +kernel) (show m_sgl X _ _ _ _ _ = some (68, [some (.ref 304), some (.int q5.1)], [.ref 304], (SH, q6.2.1, q6.2.2)) from rfl) ?_
          obtain ⟨q7, hc7, h⟩ := Option.bind_eq_some_iff.mp h
          refine m_R_cV (v := none) (h1 := (SH, q7.2)) (rest := []) (lo' := [some (.ref 304)]) (ml := 1) (k0 := 304) (by decide) (Or.inl rfl) (m_opb_of (ins := .invokevirtual 266) (len := 3) (tag := 5) (a := 234) (b := 0) (c := 0) (q := 1736) (by decide +kernel)) (by decide +kernel) rfl (show m_isO 234 304 (SH, _) = true from m_isO_of (by decide +kernel)) (Nat.le_of_ble_eq_true rfl) rfl rfl (ok_m_fail X (d + 4) F _ _ _ hc7) ?_
          exact ok_m_one_71 X d F g hg235 hg236 hg237 hg239 hg240 hg241 _ _ _ _ h
        · refine m_R_1 (by decide) (m_opb_of (ins := .ifCond .ne 7) (len := 3) (tag := 0) (a := 71) (b := 0) (c := 0) (q := 0) (by decide +kernel)) (if_neg c104) ?_
          exact ok_m_one_71 X d F g hg235 hg236 hg237 hg239 hg240 hg241 _ _ _ _ h
  · refine m_R_1 (by decide) (m_opb_of (ins := .ifCond .eq 29) (len := 3) (tag := 0) (a := 37) (b := 0) (c := 0) (q := 0) (by decide +kernel)) (if_neg c99) ?_
    refine m_R_sg (by decide) [(.aload_n 0, 1, 0, 0, 0, 0, 0)] (by decide +kernel) (show m_sgl X _ _ _ _ _ = some (12, [some (.ref 304), some (.int (0 : Int32))], [.ref 304], (SH, q1.2.1, q1.2.2)) from rfl) ?_
    obtain ⟨q8, hc8, h⟩ := Option.bind_eq_some_iff.mp h
    refine m_R_cV (v := (some (.int q8.1))) (h1 := (SH, q8.2)) (rest := []) (lo' := [some (.ref 304)]) (ml := 1) (k0 := 304) (by decide) (Or.inl rfl) (m_opb_of (ins := .invokevirtual 304) (len := 3) (tag := 5) (a := 238) (b := 0) (c := 0) (q := 1753) (by decide +kernel)) (by decide +kernel) rfl (show m_isO 238 304 (SH, _) = true from m_isO_of (by decide +kernel)) (Nat.le_of_ble_eq_true rfl) rfl rfl (ok_m_opens X (d + 2) F _ _ _ hc8) ?_
    rcases m_ite h with ⟨c105, h⟩ | ⟨c105, h⟩
    · refine m_R_1 (by decide) (m_opb_of (ins := .ifCond .eq 146) (len := 3) (tag := 0) (a := 161) (b := 0) (c := 0) (q := 0) (by decide +kernel)) (if_pos c105) ?_
      exact ok_m_one_161 X d F g hg235 hg236 hg237 hg239 hg240 hg241 _ _ _ _ _ h
    · refine m_R_1 (by decide) (m_opb_of (ins := .ifCond .eq 146) (len := 3) (tag := 0) (a := 161) (b := 0) (c := 0) (q := 0) (by decide +kernel)) (if_neg c105) ?_
      refine m_R_sg (by decide) [(.aload_n 0, 1, 0, 0, 0, 0, 0)] (by decide +kernel) (show m_sgl X _ _ _ _ _ = some (19, [some (.ref 304), some (.int (0 : Int32))], [.ref 304], (SH, q8.2.1, q8.2.2)) from rfl) ?_
      obtain ⟨q9, hc9, h⟩ := Option.bind_eq_some_iff.mp h
      refine m_R_cV (v := (some (.int q9.1))) (h1 := (SH, q9.2)) (rest := []) (lo' := [some (.ref 304), none]) (ml := 2) (k0 := 304) (by decide) (Or.inl rfl) (m_opb_of (ins := .invokevirtual 307) (len := 3) (tag := 5) (a := 241) (b := 0) (c := 0) (q := 1765) (by decide +kernel)) (by decide +kernel) rfl (show m_isO 241 304 (SH, _) = true from m_isO_of (by decide +kernel)) (Nat.le_of_ble_eq_true rfl) rfl rfl (hg241 _ _ _ hc9) ?_
      refine m_R_sg (by decide) [(.ineg, 1, 0, 0, 0, 0, 0), (.istore_n 1, 1, 0, 1, 0, 0, 0), (.aload_n 0, 1, 0, 0, 0, 0, 0), (.dup, 1, 0, 0, 0, 0, 0), (.getfield 263, 3, 0, 12, 16, 0, 1511), (.iconst 1, 1, 0, 1, 0, 0, 0), (.isub, 1, 0, 0, 0, 0, 0), (.putfield 263, 3, 0, 12, 16, 0, 1511), (.goto 127, 3, 0, 161, 0, 0, 0)] (by decide +kernel) (show m_sgl X _ _ _ _ _ = some (161, [some (.ref 304), some (.int (-q9.1))], [], (SH, (m_up q9.2.1 304 16 ((q9.2.1 304 16) - (1 : Int32))), q9.2.2)) from rfl) ?_
      exact ok_m_one_161 X d F g hg235 hg236 hg237 hg239 hg240 hg241 _ _ _ _ _ h
def f_grp_M (F : Nat) : Nat → Nat → mM → Option (Int32 × mM)
  | 0, _, _ => none
  | n + 1, t, m => (if t = 235 then f_m_either F (f_grp_M F n) m else (if t = 236 then f_m_both F (f_grp_M F n) m else (if t = 237 then f_m_not F (f_grp_M F n) m else (if t = 239 then f_m_added F (f_grp_M F n) m else (if t = 240 then f_m_term F (f_grp_M F n) m else (if t = 241 then f_m_one F (f_grp_M F n) m else none))))))
theorem ok_grp_M (X : mX) (F : Nat) : ∀ (n d : Nat), (∀  (m : mM) (r : Int32) (m' : mM), f_grp_M F n 235  m = some (r, m') → m_R X (d + n + 4) 235 0 [some (.ref 304), none, none] [] (SH, m) (some (.int r), (SH, m'))) ∧ (∀  (m : mM) (r : Int32) (m' : mM), f_grp_M F n 236  m = some (r, m') → m_R X (d + n + 4) 236 0 [some (.ref 304), none, none] [] (SH, m) (some (.int r), (SH, m'))) ∧ (∀  (m : mM) (r : Int32) (m' : mM), f_grp_M F n 237  m = some (r, m') → m_R X (d + n + 4) 237 0 [some (.ref 304), none, none, none, none] [] (SH, m) (some (.int r), (SH, m'))) ∧ (∀  (m : mM) (r : Int32) (m' : mM), f_grp_M F n 239  m = some (r, m') → m_R X (d + n + 4) 239 0 [some (.ref 304), none, none, none] [] (SH, m) (some (.int r), (SH, m'))) ∧ (∀  (m : mM) (r : Int32) (m' : mM), f_grp_M F n 240  m = some (r, m') → m_R X (d + n + 4) 240 0 [some (.ref 304), none, none, none, none] [] (SH, m) (some (.int r), (SH, m'))) ∧ (∀  (m : mM) (r : Int32) (m' : mM), f_grp_M F n 241  m = some (r, m') → m_R X (d + n + 4) 241 0 [some (.ref 304), none] [] (SH, m) (some (.int r), (SH, m'))) := by
  intro n
  induction n with
  | zero => intro d; exact ⟨(by intro m r m' h; cases h), (by intro m r m' h; cases h), (by intro m r m' h; cases h), (by intro m r m' h; cases h), (by intro m r m' h; cases h), (by intro m r m' h; cases h)⟩
  | succ n ih =>
    intro d
    obtain ⟨i235, i236, i237, i239, i240, i241⟩ := ih d
    refine ⟨?_, ?_, ?_, ?_, ?_, ?_⟩
    · intro m r m' h
      rcases m_ite h with ⟨_, h⟩ | ⟨z, _⟩
      · exact ok_m_either X (d + n) F _ i235 i236 i237 i239 i240 i241 m r m' h
      · exact absurd rfl z
    · intro m r m' h
      rcases m_ite h with ⟨z, _⟩ | ⟨_, h⟩; exact absurd z (by decide)
      rcases m_ite h with ⟨_, h⟩ | ⟨z, _⟩
      · exact ok_m_both X (d + n) F _ i235 i236 i237 i239 i240 i241 m r m' h
      · exact absurd rfl z
    · intro m r m' h
      rcases m_ite h with ⟨z, _⟩ | ⟨_, h⟩; exact absurd z (by decide)
      rcases m_ite h with ⟨z, _⟩ | ⟨_, h⟩; exact absurd z (by decide)
      rcases m_ite h with ⟨_, h⟩ | ⟨z, _⟩
      · exact ok_m_not X (d + n) F _ i235 i236 i237 i239 i240 i241 m r m' h
      · exact absurd rfl z
    · intro m r m' h
      rcases m_ite h with ⟨z, _⟩ | ⟨_, h⟩; exact absurd z (by decide)
      rcases m_ite h with ⟨z, _⟩ | ⟨_, h⟩; exact absurd z (by decide)
      rcases m_ite h with ⟨z, _⟩ | ⟨_, h⟩; exact absurd z (by decide)
      rcases m_ite h with ⟨_, h⟩ | ⟨z, _⟩
      · exact ok_m_added X (d + n) F _ i235 i236 i237 i239 i240 i241 m r m' h
      · exact absurd rfl z
    · intro m r m' h
      rcases m_ite h with ⟨z, _⟩ | ⟨_, h⟩; exact absurd z (by decide)
      rcases m_ite h with ⟨z, _⟩ | ⟨_, h⟩; exact absurd z (by decide)
      rcases m_ite h with ⟨z, _⟩ | ⟨_, h⟩; exact absurd z (by decide)
      rcases m_ite h with ⟨z, _⟩ | ⟨_, h⟩; exact absurd z (by decide)
      rcases m_ite h with ⟨_, h⟩ | ⟨z, _⟩
      · exact ok_m_term X (d + n) F _ i235 i236 i237 i239 i240 i241 m r m' h
      · exact absurd rfl z
    · intro m r m' h
      rcases m_ite h with ⟨z, _⟩ | ⟨_, h⟩; exact absurd z (by decide)
      rcases m_ite h with ⟨z, _⟩ | ⟨_, h⟩; exact absurd z (by decide)
      rcases m_ite h with ⟨z, _⟩ | ⟨_, h⟩; exact absurd z (by decide)
      rcases m_ite h with ⟨z, _⟩ | ⟨_, h⟩; exact absurd z (by decide)
      rcases m_ite h with ⟨z, _⟩ | ⟨_, h⟩; exact absurd z (by decide)
      rcases m_ite h with ⟨_, h⟩ | ⟨z, _⟩
      · exact ok_m_one X (d + n) F _ i235 i236 i237 i239 i240 i241 m r m' h
      · exact absurd rfl z
def f_m_either_w (F : Nat)  (m : mM) : Option (Int32 × mM) := f_grp_M F 60 235  m
theorem ok_m_either_w (X : mX) (d F : Nat) : ∀  (m : mM) (r : Int32) (m' : mM), f_m_either_w F  m = some (r, m') → m_R X (d + 64) 235 0 [some (.ref 304), none, none] [] (SH, m) (some (.int r), (SH, m')) := by
  obtain ⟨j235, j236, j237, j239, j240, j241⟩ := ok_grp_M X F 60 d
  exact j235
def f_m_both_w (F : Nat)  (m : mM) : Option (Int32 × mM) := f_grp_M F 60 236  m
theorem ok_m_both_w (X : mX) (d F : Nat) : ∀  (m : mM) (r : Int32) (m' : mM), f_m_both_w F  m = some (r, m') → m_R X (d + 64) 236 0 [some (.ref 304), none, none] [] (SH, m) (some (.int r), (SH, m')) := by
  obtain ⟨j235, j236, j237, j239, j240, j241⟩ := ok_grp_M X F 60 d
  exact j236
def f_m_not_w (F : Nat)  (m : mM) : Option (Int32 × mM) := f_grp_M F 60 237  m
theorem ok_m_not_w (X : mX) (d F : Nat) : ∀  (m : mM) (r : Int32) (m' : mM), f_m_not_w F  m = some (r, m') → m_R X (d + 64) 237 0 [some (.ref 304), none, none, none, none] [] (SH, m) (some (.int r), (SH, m')) := by
  obtain ⟨j235, j236, j237, j239, j240, j241⟩ := ok_grp_M X F 60 d
  exact j237
def f_m_added_w (F : Nat)  (m : mM) : Option (Int32 × mM) := f_grp_M F 60 239  m
theorem ok_m_added_w (X : mX) (d F : Nat) : ∀  (m : mM) (r : Int32) (m' : mM), f_m_added_w F  m = some (r, m') → m_R X (d + 64) 239 0 [some (.ref 304), none, none, none] [] (SH, m) (some (.int r), (SH, m')) := by
  obtain ⟨j235, j236, j237, j239, j240, j241⟩ := ok_grp_M X F 60 d
  exact j239
def f_m_term_w (F : Nat)  (m : mM) : Option (Int32 × mM) := f_grp_M F 60 240  m
theorem ok_m_term_w (X : mX) (d F : Nat) : ∀  (m : mM) (r : Int32) (m' : mM), f_m_term_w F  m = some (r, m') → m_R X (d + 64) 240 0 [some (.ref 304), none, none, none, none] [] (SH, m) (some (.int r), (SH, m')) := by
  obtain ⟨j235, j236, j237, j239, j240, j241⟩ := ok_grp_M X F 60 d
  exact j240
def f_m_one_w (F : Nat)  (m : mM) : Option (Int32 × mM) := f_grp_M F 60 241  m
theorem ok_m_one_w (X : mX) (d F : Nat) : ∀  (m : mM) (r : Int32) (m' : mM), f_m_one_w F  m = some (r, m') → m_R X (d + 64) 241 0 [some (.ref 304), none] [] (SH, m) (some (.int r), (SH, m')) := by
  obtain ⟨j235, j236, j237, j239, j240, j241⟩ := ok_grp_M X F 60 d
  exact j241
def f_m_readText_123 (F : Nat)    (m : mM) : Option (Unit × mM) := some ((), m)
theorem ok_m_readText_123 (X : mX) (d F : Nat) : ∀  (w0 : Option Value) (w1 : Option Value) (m : mM) (r : Unit) (m' : mM), f_m_readText_123 F  m = some (r, m') → m_R X (d + 65) 229 123 [w0, w1] [] (SH, m) (none, (SH, m')) := by
  intro w0 w1 m r m' h
  unfold f_m_readText_123 at h
  obtain ⟨rfl, rfl⟩ := m_some h
  exact m_R_vret (by decide) (m_opb_of (ins := .return_) (len := 1) (tag := 3) (a := 0) (b := 0) (c := 0) (q := 0) (by decide +kernel))
def f_m_readText_105 (F : Nat)    (m : mM) : Option (Unit × mM) := (if (m.1 304 17) = 0 then (if (m.1 304 12) = 0 then f_m_readText_123 F m else ((f_m_fail F m).bind fun q9 => f_m_readText_123 F q9.2)) else f_m_readText_123 F m)
theorem ok_m_readText_105 (X : mX) (d F : Nat) : ∀  (w1 : Option Value) (m : mM) (r : Unit) (m' : mM), f_m_readText_105 F  m = some (r, m') → m_R X (d + 65) 229 105 [some (.ref 304), w1] [] (SH, m) (none, (SH, m')) := by
  intro w1 m r m' h
  unfold f_m_readText_105 at h
  refine m_R_sg (by decide) [(.aload_n 0, 1, 0, 0, 0, 0, 0), (.getfield 256, 3, 0, 12, 17, 1, 1512)] (by decide +kernel) (show m_sgl X _ _ _ _ _ = some (109, [some (.ref 304), w1], [.int (m.1 304 17)], (SH, m.1, m.2)) from rfl) ?_
  rcases m_ite h with ⟨c106, h⟩ | ⟨c106, h⟩
  · refine m_R_1 (by decide) (m_opb_of (ins := .ifCond .ne 14) (len := 3) (tag := 0) (a := 123) (b := 0) (c := 0) (q := 0) (by decide +kernel)) (if_pos c106) ?_
    refine m_R_sg (by decide) [(.aload_n 0, 1, 0, 0, 0, 0, 0), (.getfield 239, 3, 0, 12, 12, 0, 1507)] (by decide +kernel) (show m_sgl X _ _ _ _ _ = some (116, [some (.ref 304), w1], [.int (m.1 304 12)], (SH, m.1, m.2)) from rfl) ?_
    rcases m_ite h with ⟨c107, h⟩ | ⟨c107, h⟩
    · refine m_R_1 (by decide) (m_opb_of (ins := .ifCond .eq 7) (len := 3) (tag := 0) (a := 123) (b := 0) (c := 0) (q := 0) (by decide +kernel)) (if_pos c107) ?_
      exact ok_m_readText_123 X d F _ _ _ _ _ h
    · refine m_R_1 (by decide) (m_opb_of (ins := .ifCond .eq 7) (len := 3) (tag := 0) (a := 123) (b := 0) (c := 0) (q := 0) (by decide +kernel)) (if_neg c107) ?_
      refine m_R_sg (by decide) [(.aload_n 0, 1, 0, 0, 0, 0, 0)] (by decide +kernel) (show m_sgl X _ _ _ _ _ = some (120, [some (.ref 304), w1], [.ref 304], (SH, m.1, m.2)) from rfl) ?_
      obtain ⟨q9, hc9, h⟩ := Option.bind_eq_some_iff.mp h
      refine m_R_cV (v := none) (h1 := (SH, q9.2)) (rest := []) (lo' := [some (.ref 304)]) (ml := 1) (k0 := 304) (by decide) (Or.inl rfl) (m_opb_of (ins := .invokevirtual 266) (len := 3) (tag := 5) (a := 234) (b := 0) (c := 0) (q := 1736) (by decide +kernel)) (by decide +kernel) rfl (show m_isO 234 304 (SH, _) = true from m_isO_of (by decide +kernel)) (Nat.le_of_ble_eq_true rfl) rfl rfl (ok_m_fail X (d + 64) F _ _ _ hc9) ?_
      exact ok_m_readText_123 X d F _ _ _ _ _ h
  · refine m_R_1 (by decide) (m_opb_of (ins := .ifCond .ne 14) (len := 3) (tag := 0) (a := 123) (b := 0) (c := 0) (q := 0) (by decide +kernel)) (if_neg c106) ?_
    exact ok_m_readText_123 X d F _ _ _ _ _ h
def f_m_readText_102 (F : Nat)   (s1 : Int32) (m : mM) : Option (Unit × mM) := (if s1 = 0 ∨ s1 = 1 then f_m_readText_105 F ((m_up m.1 304 22 s1), m.2) else none)
theorem ok_m_readText_102 (X : mX) (d F : Nat) : ∀ (s1 : Int32) (w1 : Option Value) (m : mM) (r : Unit) (m' : mM), f_m_readText_102 F s1 m = some (r, m') → m_R X (d + 65) 229 102 [some (.ref 304), w1] [.int s1, .ref 304] (SH, m) (none, (SH, m')) := by
  intro s1 w1 m r m' h
  unfold f_m_readText_102 at h
  obtain ⟨c108, h⟩ := m_ite_p h
  refine m_R_1 (by decide) (m_opb_of (ins := .putfield 367) (len := 3) (tag := 0) (a := 12) (b := 22) (c := 1) (q := 1517) (by decide +kernel)) (m_s_putz sh_304 (Nat.le_of_ble_eq_true rfl) (Or.inr ⟨rfl, c108⟩)) ?_
  exact ok_m_readText_105 X d F _ _ _ _ h
def f_m_readText_67 (F : Nat)   (s1 : Int32) (m : mM) : Option (Unit × mM) := ((f_m_isWord F (249 : Int64) ((m_up (m_up m.1 304 21 s1) 304 22 (1 : Int32)), m.2)).bind fun q6 => (if q6.1 = 0 then f_m_readText_105 F q6.2 else ((f_m_next F q6.2).bind fun q7 => ((f_m_either_w F q7.2).bind fun q8 => (if q8.1 = 0 then f_m_readText_102 F (0 : Int32) q8.2 else f_m_readText_102 F (1 : Int32) q8.2)))))
theorem ok_m_readText_67 (X : mX) (d F : Nat) : ∀ (s1 : Int32) (w1 : Option Value) (m : mM) (r : Unit) (m' : mM), f_m_readText_67 F s1 m = some (r, m') → m_R X (d + 65) 229 67 [some (.ref 304), w1] [.int s1, .ref 304] (SH, m) (none, (SH, m')) := by
  intro s1 w1 m r m' h
  unfold f_m_readText_67 at h
  refine m_R_sg (by decide) [(.putfield 364, 3, 0, 12, 21, 0, 1516), (.aload_n 0, 1, 0, 0, 0, 0, 0), (.iconst 1, 1, 0, 1, 0, 0, 0), (.putfield 367, 3, 0, 12, 22, 1, 1517), (.aload_n 0, 1, 0, 0, 0, 0, 0), (.ldc2_w 370, 3, 0, 249, 0, 0, 1808)] (by decide +kernel) (show m_sgl X _ _ _ _ _ = some (79, [some (.ref 304), w1], [.long (249 : Int64), .ref 304], (SH, (m_up (m_up m.1 304 21 s1) 304 22 (1 : Int32)), m.2)) from rfl) ?_
  obtain ⟨q6, hc6, h⟩ := Option.bind_eq_some_iff.mp h
  refine m_R_cV (v := (some (.int q6.1))) (h1 := (SH, q6.2)) (rest := []) (lo' := [some (.ref 304), some (.long (249 : Int64)), none]) (ml := 3) (k0 := 304) (by decide) (Or.inl rfl) (m_opb_of (ins := .invokevirtual 273) (len := 3) (tag := 5) (a := 233) (b := 1) (c := 0) (q := 1726) (by decide +kernel)) (by decide +kernel) rfl (show m_isO 233 304 (SH, _) = true from m_isO_of (by decide +kernel)) (Nat.le_of_ble_eq_true rfl) rfl rfl (ok_m_isWord X (d + 64) F _ _ _ _ hc6) ?_
  rcases m_ite h with ⟨c109, h⟩ | ⟨c109, h⟩
  · refine m_R_1 (by decide) (m_opb_of (ins := .ifCond .eq 23) (len := 3) (tag := 0) (a := 105) (b := 0) (c := 0) (q := 0) (by decide +kernel)) (if_pos c109) ?_
    exact ok_m_readText_105 X d F _ _ _ _ h
  · refine m_R_1 (by decide) (m_opb_of (ins := .ifCond .eq 23) (len := 3) (tag := 0) (a := 105) (b := 0) (c := 0) (q := 0) (by decide +kernel)) (if_neg c109) ?_
    refine m_R_sg (by decide) [(.aload_n 0, 1, 0, 0, 0, 0, 0)] (by decide +kernel) (show m_sgl X _ _ _ _ _ = some (86, [some (.ref 304), w1], [.ref 304], (SH, q6.2.1, q6.2.2)) from rfl) ?_
    obtain ⟨q7, hc7, h⟩ := Option.bind_eq_some_iff.mp h
    refine m_R_cV (v := none) (h1 := (SH, q7.2)) (rest := []) (lo' := [some (.ref 304), none, none]) (ml := 3) (k0 := 304) (by decide) (Or.inl rfl) (m_opb_of (ins := .invokevirtual 269) (len := 3) (tag := 5) (a := 230) (b := 0) (c := 0) (q := 1708) (by decide +kernel)) (by decide +kernel) rfl (show m_isO 230 304 (SH, _) = true from m_isO_of (by decide +kernel)) (Nat.le_of_ble_eq_true rfl) rfl rfl (ok_m_next X (d + 63) F _ _ _ hc7) ?_
    refine m_R_sg (by decide) [(.aload_n 0, 1, 0, 0, 0, 0, 0), (.aload_n 0, 1, 0, 0, 0, 0, 0)] (by decide +kernel) (show m_sgl X _ _ _ _ _ = some (91, [some (.ref 304), w1], [.ref 304, .ref 304], (SH, q7.2.1, q7.2.2)) from rfl) ?_
    obtain ⟨q8, hc8, h⟩ := Option.bind_eq_some_iff.mp h
    refine m_R_cV (v := (some (.int q8.1))) (h1 := (SH, q8.2)) (rest := [.ref 304]) (lo' := [some (.ref 304), none, none]) (ml := 3) (k0 := 304) (by decide) (Or.inl rfl) (m_opb_of (ins := .invokevirtual 310) (len := 3) (tag := 5) (a := 235) (b := 0) (c := 0) (q := 1740) (by decide +kernel)) (by decide +kernel) rfl (show m_isO 235 304 (SH, _) = true from m_isO_of (by decide +kernel)) (Nat.le_of_ble_eq_true rfl) rfl rfl (ok_m_either_w X (d + 0) F _ _ _ hc8) ?_
    rcases m_ite h with ⟨c110, h⟩ | ⟨c110, h⟩
    · refine m_R_1 (by decide) (m_opb_of (ins := .ifCond .eq 7) (len := 3) (tag := 0) (a := 101) (b := 0) (c := 0) (q := 0) (by decide +kernel)) (if_pos c110) ?_
      refine m_R_sg (by decide) [(.iconst 0, 1, 0, 0, 0, 0, 0)] (by decide +kernel) (show m_sgl X _ _ _ _ _ = some (102, [some (.ref 304), w1], [.int (0 : Int32), .ref 304], (SH, q8.2.1, q8.2.2)) from rfl) ?_
      exact ok_m_readText_102 X d F _ _ _ _ _ h
    · refine m_R_1 (by decide) (m_opb_of (ins := .ifCond .eq 7) (len := 3) (tag := 0) (a := 101) (b := 0) (c := 0) (q := 0) (by decide +kernel)) (if_neg c110) ?_
      refine m_R_sg (by decide) [(.iconst 1, 1, 0, 1, 0, 0, 0), (.goto 4, 3, 0, 102, 0, 0, 0)] (by decide +kernel) (show m_sgl X _ _ _ _ _ = some (102, [some (.ref 304), w1], [.int (1 : Int32), .ref 304], (SH, q8.2.1, q8.2.2)) from rfl) ?_
      exact ok_m_readText_102 X d F _ _ _ _ _ h
def f_m_readText_51 (F : Nat)    (m : mM) : Option (Unit × mM) := (if (m.1 304 17) = 0 then ((f_m_either_w F m).bind fun q5 => f_m_readText_67 F q5.1 q5.2) else f_m_readText_67 F (0 : Int32) m)
theorem ok_m_readText_51 (X : mX) (d F : Nat) : ∀  (w1 : Option Value) (m : mM) (r : Unit) (m' : mM), f_m_readText_51 F  m = some (r, m') → m_R X (d + 65) 229 51 [some (.ref 304), w1] [] (SH, m) (none, (SH, m')) := by
  intro w1 m r m' h
  unfold f_m_readText_51 at h
  refine m_R_sg (by decide) [(.aload_n 0, 1, 0, 0, 0, 0, 0), (.aload_n 0, 1, 0, 0, 0, 0, 0), (.getfield 256, 3, 0, 12, 17, 1, 1512)] (by decide +kernel) (show m_sgl X _ _ _ _ _ = some (56, [some (.ref 304), w1], [.int (m.1 304 17), .ref 304], (SH, m.1, m.2)) from rfl) ?_
  rcases m_ite h with ⟨c111, h⟩ | ⟨c111, h⟩
  · refine m_R_1 (by decide) (m_opb_of (ins := .ifCond .eq 7) (len := 3) (tag := 0) (a := 63) (b := 0) (c := 0) (q := 0) (by decide +kernel)) (if_pos c111) ?_
    refine m_R_sg (by decide) [(.aload_n 0, 1, 0, 0, 0, 0, 0)] (by decide +kernel) (show m_sgl X _ _ _ _ _ = some (64, [some (.ref 304), w1], [.ref 304, .ref 304], (SH, m.1, m.2)) from rfl) ?_
    obtain ⟨q5, hc5, h⟩ := Option.bind_eq_some_iff.mp h
    refine m_R_cV (v := (some (.int q5.1))) (h1 := (SH, q5.2)) (rest := [.ref 304]) (lo' := [some (.ref 304), none, none]) (ml := 3) (k0 := 304) (by decide) (Or.inl rfl) (m_opb_of (ins := .invokevirtual 310) (len := 3) (tag := 5) (a := 235) (b := 0) (c := 0) (q := 1740) (by decide +kernel)) (by decide +kernel) rfl (show m_isO 235 304 (SH, _) = true from m_isO_of (by decide +kernel)) (Nat.le_of_ble_eq_true rfl) rfl rfl (ok_m_either_w X (d + 0) F _ _ _ hc5) ?_
    exact ok_m_readText_67 X d F _ _ _ _ _ h
  · refine m_R_1 (by decide) (m_opb_of (ins := .ifCond .eq 7) (len := 3) (tag := 0) (a := 63) (b := 0) (c := 0) (q := 0) (by decide +kernel)) (if_neg c111) ?_
    refine m_R_sg (by decide) [(.iconst 0, 1, 0, 0, 0, 0, 0), (.goto 7, 3, 0, 67, 0, 0, 0)] (by decide +kernel) (show m_sgl X _ _ _ _ _ = some (67, [some (.ref 304), w1], [.int (0 : Int32), .ref 304], (SH, m.1, m.2)) from rfl) ?_
    exact ok_m_readText_67 X d F _ _ _ _ _ h
def f_m_readText (F : Nat)   (v1 : Int32) (m : mM) : Option (Unit × mM) := ((f_m_next F ((m_up (m_up (m_up (m_up m.1 304 19 v1) 304 15 (0 : Int32)) 304 16 (0 : Int32)) 304 17 (0 : Int32)), m.2)).bind fun q1 => ((f_m_keyHere F q1.2).bind fun q2 => (if ((m_up q2.2.1 304 20 q2.1) 304 20) = (-1 : Int32) then ((f_m_fail F ((m_up q2.2.1 304 20 q2.1), q2.2.2)).bind fun q3 => f_m_readText_51 F q3.2) else ((f_m_next F ((m_up q2.2.1 304 20 q2.1), q2.2.2)).bind fun q4 => f_m_readText_51 F q4.2))))
theorem ok_m_readText (X : mX) (d F : Nat) : ∀ (v1 : Int32)  (m : mM) (r : Unit) (m' : mM), f_m_readText F v1 m = some (r, m') → m_R X (d + 65) 229 0 [some (.ref 304), some (.int v1)] [] (SH, m) (none, (SH, m')) := by
  intro v1 m r m' h
  unfold f_m_readText at h
  refine m_R_sg (by decide) [(.aload_n 0, 1, 0, 0, 0, 0, 0), (.iload_n 1, 1, 0, 1, 0, 0, 0), (.putfield 290, 3, 0, 12, 19, 0, 1514), (.aload_n 0, 1, 0, 0, 0, 0, 0), (.iconst 0, 1, 0, 0, 0, 0, 0), (.putfield 230, 3, 0, 12, 15, 0, 1510), (.aload_n 0, 1, 0, 0, 0, 0, 0), (.iconst 0, 1, 0, 0, 0, 0, 0), (.putfield 263, 3, 0, 12, 16, 0, 1511), (.aload_n 0, 1, 0, 0, 0, 0, 0), (.iconst 0, 1, 0, 0, 0, 0, 0), (.putfield 256, 3, 0, 12, 17, 1, 1512), (.aload_n 0, 1, 0, 0, 0, 0, 0)] (by decide +kernel) (show m_sgl X _ _ _ _ _ = some (21, [some (.ref 304), some (.int v1)], [.ref 304], (SH, (m_up (m_up (m_up (m_up m.1 304 19 v1) 304 15 (0 : Int32)) 304 16 (0 : Int32)) 304 17 (0 : Int32)), m.2)) from rfl) ?_
  obtain ⟨q1, hc1, h⟩ := Option.bind_eq_some_iff.mp h
  refine m_R_cV (v := none) (h1 := (SH, q1.2)) (rest := []) (lo' := [some (.ref 304), none, none]) (ml := 3) (k0 := 304) (by decide) (Or.inl rfl) (m_opb_of (ins := .invokevirtual 269) (len := 3) (tag := 5) (a := 230) (b := 0) (c := 0) (q := 1708) (by decide +kernel)) (by decide +kernel) rfl (show m_isO 230 304 (SH, _) = true from m_isO_of (by decide +kernel)) (Nat.le_of_ble_eq_true rfl) rfl rfl (ok_m_next X (d + 63) F _ _ _ hc1) ?_
  refine m_R_sg (by decide) [(.aload_n 0, 1, 0, 0, 0, 0, 0), (.aload_n 0, 1, 0, 0, 0, 0, 0)] (by decide +kernel) (show m_sgl X _ _ _ _ _ = some (26, [some (.ref 304), some (.int v1)], [.ref 304, .ref 304], (SH, q1.2.1, q1.2.2)) from rfl) ?_
  obtain ⟨q2, hc2, h⟩ := Option.bind_eq_some_iff.mp h
  refine m_R_cV (v := (some (.int q2.1))) (h1 := (SH, q2.2)) (rest := [.ref 304]) (lo' := [some (.ref 304)]) (ml := 1) (k0 := 304) (by decide) (Or.inl rfl) (m_opb_of (ins := .invokevirtual 358) (len := 3) (tag := 5) (a := 232) (b := 0) (c := 0) (q := 1721) (by decide +kernel)) (by decide +kernel) rfl (show m_isO 232 304 (SH, _) = true from m_isO_of (by decide +kernel)) (Nat.le_of_ble_eq_true rfl) rfl rfl (ok_m_keyHere X (d + 63) F _ _ _ hc2) ?_
  refine m_R_sg (by decide) [(.putfield 361, 3, 0, 12, 20, 0, 1515), (.aload_n 0, 1, 0, 0, 0, 0, 0), (.getfield 361, 3, 0, 12, 20, 0, 1515), (.iconst (-1), 1, 0, 1, 1, 0, 0)] (by decide +kernel) (show m_sgl X _ _ _ _ _ = some (37, [some (.ref 304), some (.int v1)], [.int (-1 : Int32), .int ((m_up q2.2.1 304 20 q2.1) 304 20)], (SH, (m_up q2.2.1 304 20 q2.1), q2.2.2)) from rfl) ?_
  rcases m_ite h with ⟨c112, h⟩ | ⟨c112, h⟩
  · refine m_R_1 (by decide) (m_opb_of (ins := .if_icmp .ne 10) (len := 3) (tag := 0) (a := 47) (b := 0) (c := 0) (q := 0) (by decide +kernel)) (if_pos c112) ?_
    refine m_R_sg (by decide) [(.aload_n 0, 1, 0, 0, 0, 0, 0)] (by decide +kernel) (show m_sgl X _ _ _ _ _ = some (41, [some (.ref 304), some (.int v1)], [.ref 304], (SH, (m_up q2.2.1 304 20 q2.1), q2.2.2)) from rfl) ?_
    obtain ⟨q3, hc3, h⟩ := Option.bind_eq_some_iff.mp h
    refine m_R_cV (v := none) (h1 := (SH, q3.2)) (rest := []) (lo' := [some (.ref 304)]) (ml := 1) (k0 := 304) (by decide) (Or.inl rfl) (m_opb_of (ins := .invokevirtual 266) (len := 3) (tag := 5) (a := 234) (b := 0) (c := 0) (q := 1736) (by decide +kernel)) (by decide +kernel) rfl (show m_isO 234 304 (SH, _) = true from m_isO_of (by decide +kernel)) (Nat.le_of_ble_eq_true rfl) rfl rfl (ok_m_fail X (d + 64) F _ _ _ hc3) ?_
    refine m_R_sg (by decide) [(.goto 7, 3, 0, 51, 0, 0, 0)] (by decide +kernel) (show m_sgl X _ _ _ _ _ = some (51, [some (.ref 304), some (.int v1)], [], (SH, q3.2.1, q3.2.2)) from rfl) ?_
    exact ok_m_readText_51 X d F _ _ _ _ h
  · refine m_R_1 (by decide) (m_opb_of (ins := .if_icmp .ne 10) (len := 3) (tag := 0) (a := 47) (b := 0) (c := 0) (q := 0) (by decide +kernel)) (if_neg c112) ?_
    refine m_R_sg (by decide) [(.aload_n 0, 1, 0, 0, 0, 0, 0)] (by decide +kernel) (show m_sgl X _ _ _ _ _ = some (48, [some (.ref 304), some (.int v1)], [.ref 304], (SH, (m_up q2.2.1 304 20 q2.1), q2.2.2)) from rfl) ?_
    obtain ⟨q4, hc4, h⟩ := Option.bind_eq_some_iff.mp h
    refine m_R_cV (v := none) (h1 := (SH, q4.2)) (rest := []) (lo' := [some (.ref 304), none, none]) (ml := 3) (k0 := 304) (by decide) (Or.inl rfl) (m_opb_of (ins := .invokevirtual 269) (len := 3) (tag := 5) (a := 230) (b := 0) (c := 0) (q := 1708) (by decide +kernel)) (by decide +kernel) rfl (show m_isO 230 304 (SH, _) = true from m_isO_of (by decide +kernel)) (Nat.le_of_ble_eq_true rfl) rfl rfl (ok_m_next X (d + 63) F _ _ _ hc4) ?_
    exact ok_m_readText_51 X d F _ _ _ _ h
def f_Reader_isLetter_17 (F : Nat)   (s0 : Int32) (m : mM) : Option (Int32 × mM) := (if s0 = 0 ∨ s0 = 1 then some (s0, m) else none)
theorem ok_Reader_isLetter_17 (X : mX) (d F : Nat) : ∀ (s0 : Int32) (w0 : Option Value) (m : mM) (r : Int32) (m' : mM), f_Reader_isLetter_17 F s0 m = some (r, m') → m_R X (d + 0) 124 17 [w0] [.int s0] (SH, m) (some (.int r), (SH, m')) := by
  intro s0 w0 m r m' h
  unfold f_Reader_isLetter_17 at h
  obtain ⟨c0, h⟩ := m_ite_p h
  obtain ⟨rfl, rfl⟩ := m_some h
  exact m_R_iret (by decide) (m_opb_of (ins := .ireturn) (len := 1) (tag := 1) (a := 1) (b := 0) (c := 0) (q := 0) (by decide +kernel)) (Or.inr c0)
def f_Reader_isLetter_16 (F : Nat)    (m : mM) : Option (Int32 × mM) := f_Reader_isLetter_17 F (0 : Int32) m
theorem ok_Reader_isLetter_16 (X : mX) (d F : Nat) : ∀  (w0 : Option Value) (m : mM) (r : Int32) (m' : mM), f_Reader_isLetter_16 F  m = some (r, m') → m_R X (d + 0) 124 16 [w0] [] (SH, m) (some (.int r), (SH, m')) := by
  intro w0 m r m' h
  unfold f_Reader_isLetter_16 at h
  refine m_R_sg (by decide) [(.iconst 0, 1, 0, 0, 0, 0, 0)] (by decide +kernel) (show m_sgl X _ _ _ _ _ = some (17, [w0], [.int (0 : Int32)], (SH, m.1, m.2)) from rfl) ?_
  exact ok_Reader_isLetter_17 X d F _ _ _ _ _ h
def f_Reader_isLetter (F : Nat)   (v0 : Int32) (m : mM) : Option (Int32 × mM) := (if v0 < (97 : Int32) then f_Reader_isLetter_16 F m else (if (122 : Int32) < v0 then f_Reader_isLetter_16 F m else f_Reader_isLetter_17 F (1 : Int32) m))
theorem ok_Reader_isLetter (X : mX) (d F : Nat) : ∀ (v0 : Int32)  (m : mM) (r : Int32) (m' : mM), f_Reader_isLetter F v0 m = some (r, m') → m_R X (d + 0) 124 0 [some (.int v0)] [] (SH, m) (some (.int r), (SH, m')) := by
  intro v0 m r m' h
  unfold f_Reader_isLetter at h
  refine m_R_sg (by decide) [(.iload_n 0, 1, 0, 0, 0, 0, 0), (.bipush 97, 2, 0, 97, 0, 0, 0)] (by decide +kernel) (show m_sgl X _ _ _ _ _ = some (3, [some (.int v0)], [.int (97 : Int32), .int v0], (SH, m.1, m.2)) from rfl) ?_
  rcases m_ite h with ⟨c113, h⟩ | ⟨c113, h⟩
  · refine m_R_1 (by decide) (m_opb_of (ins := .if_icmp .lt 13) (len := 3) (tag := 0) (a := 16) (b := 0) (c := 0) (q := 0) (by decide +kernel)) (if_pos c113) ?_
    exact ok_Reader_isLetter_16 X d F _ _ _ _ h
  · refine m_R_1 (by decide) (m_opb_of (ins := .if_icmp .lt 13) (len := 3) (tag := 0) (a := 16) (b := 0) (c := 0) (q := 0) (by decide +kernel)) (if_neg c113) ?_
    refine m_R_sg (by decide) [(.iload_n 0, 1, 0, 0, 0, 0, 0), (.bipush 122, 2, 0, 122, 0, 0, 0)] (by decide +kernel) (show m_sgl X _ _ _ _ _ = some (9, [some (.int v0)], [.int (122 : Int32), .int v0], (SH, m.1, m.2)) from rfl) ?_
    rcases m_ite h with ⟨c114, h⟩ | ⟨c114, h⟩
    · refine m_R_1 (by decide) (m_opb_of (ins := .if_icmp .gt 7) (len := 3) (tag := 0) (a := 16) (b := 0) (c := 0) (q := 0) (by decide +kernel)) (if_pos c114) ?_
      exact ok_Reader_isLetter_16 X d F _ _ _ _ h
    · refine m_R_1 (by decide) (m_opb_of (ins := .if_icmp .gt 7) (len := 3) (tag := 0) (a := 16) (b := 0) (c := 0) (q := 0) (by decide +kernel)) (if_neg c114) ?_
      refine m_R_sg (by decide) [(.iconst 1, 1, 0, 1, 0, 0, 0), (.goto 4, 3, 0, 17, 0, 0, 0)] (by decide +kernel) (show m_sgl X _ _ _ _ _ = some (17, [some (.int v0)], [.int (1 : Int32)], (SH, m.1, m.2)) from rfl) ?_
      exact ok_Reader_isLetter_17 X d F _ _ _ _ _ h
def f_Reader_isDigit_17 (F : Nat)   (s0 : Int32) (m : mM) : Option (Int32 × mM) := (if s0 = 0 ∨ s0 = 1 then some (s0, m) else none)
theorem ok_Reader_isDigit_17 (X : mX) (d F : Nat) : ∀ (s0 : Int32) (w0 : Option Value) (m : mM) (r : Int32) (m' : mM), f_Reader_isDigit_17 F s0 m = some (r, m') → m_R X (d + 0) 127 17 [w0] [.int s0] (SH, m) (some (.int r), (SH, m')) := by
  intro s0 w0 m r m' h
  unfold f_Reader_isDigit_17 at h
  obtain ⟨c0, h⟩ := m_ite_p h
  obtain ⟨rfl, rfl⟩ := m_some h
  exact m_R_iret (by decide) (m_opb_of (ins := .ireturn) (len := 1) (tag := 1) (a := 1) (b := 0) (c := 0) (q := 0) (by decide +kernel)) (Or.inr c0)
def f_Reader_isDigit_16 (F : Nat)    (m : mM) : Option (Int32 × mM) := f_Reader_isDigit_17 F (0 : Int32) m
theorem ok_Reader_isDigit_16 (X : mX) (d F : Nat) : ∀  (w0 : Option Value) (m : mM) (r : Int32) (m' : mM), f_Reader_isDigit_16 F  m = some (r, m') → m_R X (d + 0) 127 16 [w0] [] (SH, m) (some (.int r), (SH, m')) := by
  intro w0 m r m' h
  unfold f_Reader_isDigit_16 at h
  refine m_R_sg (by decide) [(.iconst 0, 1, 0, 0, 0, 0, 0)] (by decide +kernel) (show m_sgl X _ _ _ _ _ = some (17, [w0], [.int (0 : Int32)], (SH, m.1, m.2)) from rfl) ?_
  exact ok_Reader_isDigit_17 X d F _ _ _ _ _ h
def f_Reader_isDigit (F : Nat)   (v0 : Int32) (m : mM) : Option (Int32 × mM) := (if v0 < (48 : Int32) then f_Reader_isDigit_16 F m else (if (57 : Int32) < v0 then f_Reader_isDigit_16 F m else f_Reader_isDigit_17 F (1 : Int32) m))
theorem ok_Reader_isDigit (X : mX) (d F : Nat) : ∀ (v0 : Int32)  (m : mM) (r : Int32) (m' : mM), f_Reader_isDigit F v0 m = some (r, m') → m_R X (d + 0) 127 0 [some (.int v0)] [] (SH, m) (some (.int r), (SH, m')) := by
  intro v0 m r m' h
  unfold f_Reader_isDigit at h
  refine m_R_sg (by decide) [(.iload_n 0, 1, 0, 0, 0, 0, 0), (.bipush 48, 2, 0, 48, 0, 0, 0)] (by decide +kernel) (show m_sgl X _ _ _ _ _ = some (3, [some (.int v0)], [.int (48 : Int32), .int v0], (SH, m.1, m.2)) from rfl) ?_
  rcases m_ite h with ⟨c115, h⟩ | ⟨c115, h⟩
  · refine m_R_1 (by decide) (m_opb_of (ins := .if_icmp .lt 13) (len := 3) (tag := 0) (a := 16) (b := 0) (c := 0) (q := 0) (by decide +kernel)) (if_pos c115) ?_
    exact ok_Reader_isDigit_16 X d F _ _ _ _ h
  · refine m_R_1 (by decide) (m_opb_of (ins := .if_icmp .lt 13) (len := 3) (tag := 0) (a := 16) (b := 0) (c := 0) (q := 0) (by decide +kernel)) (if_neg c115) ?_
    refine m_R_sg (by decide) [(.iload_n 0, 1, 0, 0, 0, 0, 0), (.bipush 57, 2, 0, 57, 0, 0, 0)] (by decide +kernel) (show m_sgl X _ _ _ _ _ = some (9, [some (.int v0)], [.int (57 : Int32), .int v0], (SH, m.1, m.2)) from rfl) ?_
    rcases m_ite h with ⟨c116, h⟩ | ⟨c116, h⟩
    · refine m_R_1 (by decide) (m_opb_of (ins := .if_icmp .gt 7) (len := 3) (tag := 0) (a := 16) (b := 0) (c := 0) (q := 0) (by decide +kernel)) (if_pos c116) ?_
      exact ok_Reader_isDigit_16 X d F _ _ _ _ h
    · refine m_R_1 (by decide) (m_opb_of (ins := .if_icmp .gt 7) (len := 3) (tag := 0) (a := 16) (b := 0) (c := 0) (q := 0) (by decide +kernel)) (if_neg c116) ?_
      refine m_R_sg (by decide) [(.iconst 1, 1, 0, 1, 0, 0, 0), (.goto 4, 3, 0, 17, 0, 0, 0)] (by decide +kernel) (show m_sgl X _ _ _ _ _ = some (17, [some (.int v0)], [.int (1 : Int32)], (SH, m.1, m.2)) from rfl) ?_
      exact ok_Reader_isDigit_17 X d F _ _ _ _ _ h
def f_Reader_isSign (F : Nat)   (v0 : Int32) (m : mM) : Option (Int32 × mM) := (if v0 = (37 : Int32) then some ((1 : Int32), m) else (if v0 = (38 : Int32) then some ((0 : Int32), m) else (if v0 = (39 : Int32) then some ((0 : Int32), m) else (if v0 = (40 : Int32) then some ((1 : Int32), m) else (if v0 = (41 : Int32) then some ((1 : Int32), m) else (if v0 = (42 : Int32) then some ((1 : Int32), m) else (if v0 = (43 : Int32) then some ((1 : Int32), m) else (if v0 = (44 : Int32) then some ((0 : Int32), m) else (if v0 = (45 : Int32) then some ((1 : Int32), m) else (if v0 = (46 : Int32) then some ((0 : Int32), m) else (if v0 = (47 : Int32) then some ((1 : Int32), m) else (if v0 = (48 : Int32) then some ((0 : Int32), m) else (if v0 = (49 : Int32) then some ((0 : Int32), m) else (if v0 = (50 : Int32) then some ((0 : Int32), m) else (if v0 = (51 : Int32) then some ((0 : Int32), m) else (if v0 = (52 : Int32) then some ((0 : Int32), m) else (if v0 = (53 : Int32) then some ((0 : Int32), m) else (if v0 = (54 : Int32) then some ((0 : Int32), m) else (if v0 = (55 : Int32) then some ((0 : Int32), m) else (if v0 = (56 : Int32) then some ((0 : Int32), m) else (if v0 = (57 : Int32) then some ((0 : Int32), m) else (if v0 = (58 : Int32) then some ((0 : Int32), m) else (if v0 = (59 : Int32) then some ((0 : Int32), m) else (if v0 = (60 : Int32) then some ((1 : Int32), m) else (if v0 = (61 : Int32) then some ((1 : Int32), m) else (if v0 = (62 : Int32) then some ((1 : Int32), m) else some ((0 : Int32), m)))))))))))))))))))))))))))
theorem ok_Reader_isSign (X : mX) (d F : Nat) : ∀ (v0 : Int32)  (m : mM) (r : Int32) (m' : mM), f_Reader_isSign F v0 m = some (r, m') → m_R X (d + 0) 129 0 [some (.int v0)] [] (SH, m) (some (.int r), (SH, m')) := by
  intro v0 m r m' h
  unfold f_Reader_isSign at h
  refine m_R_sg (by decide) [(.iload_n 0, 1, 0, 0, 0, 0, 0)] (by decide +kernel) (show m_sgl X _ _ _ _ _ = some (1, [some (.int v0)], [.int v0], (SH, m.1, m.2)) from rfl) ?_
  rcases m_ite h with ⟨c0, h⟩ | ⟨d0, h⟩
  · refine m_R_1 (by decide) (m_opb_of (ins := .tableswitch 121 37 62 #[119, 121, 121, 119, 119, 119, 119, 121, 119, 121, 119, 121, 121, 121, 121, 121, 121, 121, 121, 121, 121, 121, 121, 119, 119, 119]) (len := 119) (tag := 0) (a := 0) (b := 0) (c := 0) (q := 0) (by decide +kernel)) (m_s_sw (by rw [c0]; decide) (by rw [c0]; rfl) (by decide) (t := 120) rfl) ?_
    refine m_R_sg (by decide) [(.iconst 1, 1, 0, 1, 0, 0, 0)] (by decide +kernel) (show m_sgl X _ _ _ _ _ = some (121, [some (.int v0)], [.int (1 : Int32)], (SH, m.1, m.2)) from rfl) ?_
    obtain ⟨rfl, rfl⟩ := m_some h
    exact m_R_iret (by decide) (m_opb_of (ins := .ireturn) (len := 1) (tag := 1) (a := 1) (b := 0) (c := 0) (q := 0) (by decide +kernel)) (Or.inr (Or.inr rfl))
  rcases m_ite h with ⟨c0, h⟩ | ⟨d1, h⟩
  · refine m_R_1 (by decide) (m_opb_of (ins := .tableswitch 121 37 62 #[119, 121, 121, 119, 119, 119, 119, 121, 119, 121, 119, 121, 121, 121, 121, 121, 121, 121, 121, 121, 121, 121, 121, 119, 119, 119]) (len := 119) (tag := 0) (a := 0) (b := 0) (c := 0) (q := 0) (by decide +kernel)) (m_s_sw (by rw [c0]; decide) (by rw [c0]; rfl) (by decide) (t := 122) rfl) ?_
    refine m_R_sg (by decide) [(.iconst 0, 1, 0, 0, 0, 0, 0)] (by decide +kernel) (show m_sgl X _ _ _ _ _ = some (123, [some (.int v0)], [.int (0 : Int32)], (SH, m.1, m.2)) from rfl) ?_
    obtain ⟨rfl, rfl⟩ := m_some h
    exact m_R_iret (by decide) (m_opb_of (ins := .ireturn) (len := 1) (tag := 1) (a := 1) (b := 0) (c := 0) (q := 0) (by decide +kernel)) (Or.inr (Or.inl rfl))
  rcases m_ite h with ⟨c0, h⟩ | ⟨d2, h⟩
  · refine m_R_1 (by decide) (m_opb_of (ins := .tableswitch 121 37 62 #[119, 121, 121, 119, 119, 119, 119, 121, 119, 121, 119, 121, 121, 121, 121, 121, 121, 121, 121, 121, 121, 121, 121, 119, 119, 119]) (len := 119) (tag := 0) (a := 0) (b := 0) (c := 0) (q := 0) (by decide +kernel)) (m_s_sw (by rw [c0]; decide) (by rw [c0]; rfl) (by decide) (t := 122) rfl) ?_
    refine m_R_sg (by decide) [(.iconst 0, 1, 0, 0, 0, 0, 0)] (by decide +kernel) (show m_sgl X _ _ _ _ _ = some (123, [some (.int v0)], [.int (0 : Int32)], (SH, m.1, m.2)) from rfl) ?_
    obtain ⟨rfl, rfl⟩ := m_some h
    exact m_R_iret (by decide) (m_opb_of (ins := .ireturn) (len := 1) (tag := 1) (a := 1) (b := 0) (c := 0) (q := 0) (by decide +kernel)) (Or.inr (Or.inl rfl))
  rcases m_ite h with ⟨c0, h⟩ | ⟨d3, h⟩
  · refine m_R_1 (by decide) (m_opb_of (ins := .tableswitch 121 37 62 #[119, 121, 121, 119, 119, 119, 119, 121, 119, 121, 119, 121, 121, 121, 121, 121, 121, 121, 121, 121, 121, 121, 121, 119, 119, 119]) (len := 119) (tag := 0) (a := 0) (b := 0) (c := 0) (q := 0) (by decide +kernel)) (m_s_sw (by rw [c0]; decide) (by rw [c0]; rfl) (by decide) (t := 120) rfl) ?_
    refine m_R_sg (by decide) [(.iconst 1, 1, 0, 1, 0, 0, 0)] (by decide +kernel) (show m_sgl X _ _ _ _ _ = some (121, [some (.int v0)], [.int (1 : Int32)], (SH, m.1, m.2)) from rfl) ?_
    obtain ⟨rfl, rfl⟩ := m_some h
    exact m_R_iret (by decide) (m_opb_of (ins := .ireturn) (len := 1) (tag := 1) (a := 1) (b := 0) (c := 0) (q := 0) (by decide +kernel)) (Or.inr (Or.inr rfl))
  rcases m_ite h with ⟨c0, h⟩ | ⟨d4, h⟩
  · refine m_R_1 (by decide) (m_opb_of (ins := .tableswitch 121 37 62 #[119, 121, 121, 119, 119, 119, 119, 121, 119, 121, 119, 121, 121, 121, 121, 121, 121, 121, 121, 121, 121, 121, 121, 119, 119, 119]) (len := 119) (tag := 0) (a := 0) (b := 0) (c := 0) (q := 0) (by decide +kernel)) (m_s_sw (by rw [c0]; decide) (by rw [c0]; rfl) (by decide) (t := 120) rfl) ?_
    refine m_R_sg (by decide) [(.iconst 1, 1, 0, 1, 0, 0, 0)] (by decide +kernel) (show m_sgl X _ _ _ _ _ = some (121, [some (.int v0)], [.int (1 : Int32)], (SH, m.1, m.2)) from rfl) ?_
    obtain ⟨rfl, rfl⟩ := m_some h
    exact m_R_iret (by decide) (m_opb_of (ins := .ireturn) (len := 1) (tag := 1) (a := 1) (b := 0) (c := 0) (q := 0) (by decide +kernel)) (Or.inr (Or.inr rfl))
  rcases m_ite h with ⟨c0, h⟩ | ⟨d5, h⟩
  · refine m_R_1 (by decide) (m_opb_of (ins := .tableswitch 121 37 62 #[119, 121, 121, 119, 119, 119, 119, 121, 119, 121, 119, 121, 121, 121, 121, 121, 121, 121, 121, 121, 121, 121, 121, 119, 119, 119]) (len := 119) (tag := 0) (a := 0) (b := 0) (c := 0) (q := 0) (by decide +kernel)) (m_s_sw (by rw [c0]; decide) (by rw [c0]; rfl) (by decide) (t := 120) rfl) ?_
    refine m_R_sg (by decide) [(.iconst 1, 1, 0, 1, 0, 0, 0)] (by decide +kernel) (show m_sgl X _ _ _ _ _ = some (121, [some (.int v0)], [.int (1 : Int32)], (SH, m.1, m.2)) from rfl) ?_
    obtain ⟨rfl, rfl⟩ := m_some h
    exact m_R_iret (by decide) (m_opb_of (ins := .ireturn) (len := 1) (tag := 1) (a := 1) (b := 0) (c := 0) (q := 0) (by decide +kernel)) (Or.inr (Or.inr rfl))
  rcases m_ite h with ⟨c0, h⟩ | ⟨d6, h⟩
  · refine m_R_1 (by decide) (m_opb_of (ins := .tableswitch 121 37 62 #[119, 121, 121, 119, 119, 119, 119, 121, 119, 121, 119, 121, 121, 121, 121, 121, 121, 121, 121, 121, 121, 121, 121, 119, 119, 119]) (len := 119) (tag := 0) (a := 0) (b := 0) (c := 0) (q := 0) (by decide +kernel)) (m_s_sw (by rw [c0]; decide) (by rw [c0]; rfl) (by decide) (t := 120) rfl) ?_
    refine m_R_sg (by decide) [(.iconst 1, 1, 0, 1, 0, 0, 0)] (by decide +kernel) (show m_sgl X _ _ _ _ _ = some (121, [some (.int v0)], [.int (1 : Int32)], (SH, m.1, m.2)) from rfl) ?_
    obtain ⟨rfl, rfl⟩ := m_some h
    exact m_R_iret (by decide) (m_opb_of (ins := .ireturn) (len := 1) (tag := 1) (a := 1) (b := 0) (c := 0) (q := 0) (by decide +kernel)) (Or.inr (Or.inr rfl))
  rcases m_ite h with ⟨c0, h⟩ | ⟨d7, h⟩
  · refine m_R_1 (by decide) (m_opb_of (ins := .tableswitch 121 37 62 #[119, 121, 121, 119, 119, 119, 119, 121, 119, 121, 119, 121, 121, 121, 121, 121, 121, 121, 121, 121, 121, 121, 121, 119, 119, 119]) (len := 119) (tag := 0) (a := 0) (b := 0) (c := 0) (q := 0) (by decide +kernel)) (m_s_sw (by rw [c0]; decide) (by rw [c0]; rfl) (by decide) (t := 122) rfl) ?_
    refine m_R_sg (by decide) [(.iconst 0, 1, 0, 0, 0, 0, 0)] (by decide +kernel) (show m_sgl X _ _ _ _ _ = some (123, [some (.int v0)], [.int (0 : Int32)], (SH, m.1, m.2)) from rfl) ?_
    obtain ⟨rfl, rfl⟩ := m_some h
    exact m_R_iret (by decide) (m_opb_of (ins := .ireturn) (len := 1) (tag := 1) (a := 1) (b := 0) (c := 0) (q := 0) (by decide +kernel)) (Or.inr (Or.inl rfl))
  rcases m_ite h with ⟨c0, h⟩ | ⟨d8, h⟩
  · refine m_R_1 (by decide) (m_opb_of (ins := .tableswitch 121 37 62 #[119, 121, 121, 119, 119, 119, 119, 121, 119, 121, 119, 121, 121, 121, 121, 121, 121, 121, 121, 121, 121, 121, 121, 119, 119, 119]) (len := 119) (tag := 0) (a := 0) (b := 0) (c := 0) (q := 0) (by decide +kernel)) (m_s_sw (by rw [c0]; decide) (by rw [c0]; rfl) (by decide) (t := 120) rfl) ?_
    refine m_R_sg (by decide) [(.iconst 1, 1, 0, 1, 0, 0, 0)] (by decide +kernel) (show m_sgl X _ _ _ _ _ = some (121, [some (.int v0)], [.int (1 : Int32)], (SH, m.1, m.2)) from rfl) ?_
    obtain ⟨rfl, rfl⟩ := m_some h
    exact m_R_iret (by decide) (m_opb_of (ins := .ireturn) (len := 1) (tag := 1) (a := 1) (b := 0) (c := 0) (q := 0) (by decide +kernel)) (Or.inr (Or.inr rfl))
  rcases m_ite h with ⟨c0, h⟩ | ⟨d9, h⟩
  · refine m_R_1 (by decide) (m_opb_of (ins := .tableswitch 121 37 62 #[119, 121, 121, 119, 119, 119, 119, 121, 119, 121, 119, 121, 121, 121, 121, 121, 121, 121, 121, 121, 121, 121, 121, 119, 119, 119]) (len := 119) (tag := 0) (a := 0) (b := 0) (c := 0) (q := 0) (by decide +kernel)) (m_s_sw (by rw [c0]; decide) (by rw [c0]; rfl) (by decide) (t := 122) rfl) ?_
    refine m_R_sg (by decide) [(.iconst 0, 1, 0, 0, 0, 0, 0)] (by decide +kernel) (show m_sgl X _ _ _ _ _ = some (123, [some (.int v0)], [.int (0 : Int32)], (SH, m.1, m.2)) from rfl) ?_
    obtain ⟨rfl, rfl⟩ := m_some h
    exact m_R_iret (by decide) (m_opb_of (ins := .ireturn) (len := 1) (tag := 1) (a := 1) (b := 0) (c := 0) (q := 0) (by decide +kernel)) (Or.inr (Or.inl rfl))
  rcases m_ite h with ⟨c0, h⟩ | ⟨d10, h⟩
  · refine m_R_1 (by decide) (m_opb_of (ins := .tableswitch 121 37 62 #[119, 121, 121, 119, 119, 119, 119, 121, 119, 121, 119, 121, 121, 121, 121, 121, 121, 121, 121, 121, 121, 121, 121, 119, 119, 119]) (len := 119) (tag := 0) (a := 0) (b := 0) (c := 0) (q := 0) (by decide +kernel)) (m_s_sw (by rw [c0]; decide) (by rw [c0]; rfl) (by decide) (t := 120) rfl) ?_
    refine m_R_sg (by decide) [(.iconst 1, 1, 0, 1, 0, 0, 0)] (by decide +kernel) (show m_sgl X _ _ _ _ _ = some (121, [some (.int v0)], [.int (1 : Int32)], (SH, m.1, m.2)) from rfl) ?_
    obtain ⟨rfl, rfl⟩ := m_some h
    exact m_R_iret (by decide) (m_opb_of (ins := .ireturn) (len := 1) (tag := 1) (a := 1) (b := 0) (c := 0) (q := 0) (by decide +kernel)) (Or.inr (Or.inr rfl))
  rcases m_ite h with ⟨c0, h⟩ | ⟨d11, h⟩
  · refine m_R_1 (by decide) (m_opb_of (ins := .tableswitch 121 37 62 #[119, 121, 121, 119, 119, 119, 119, 121, 119, 121, 119, 121, 121, 121, 121, 121, 121, 121, 121, 121, 121, 121, 121, 119, 119, 119]) (len := 119) (tag := 0) (a := 0) (b := 0) (c := 0) (q := 0) (by decide +kernel)) (m_s_sw (by rw [c0]; decide) (by rw [c0]; rfl) (by decide) (t := 122) rfl) ?_
    refine m_R_sg (by decide) [(.iconst 0, 1, 0, 0, 0, 0, 0)] (by decide +kernel) (show m_sgl X _ _ _ _ _ = some (123, [some (.int v0)], [.int (0 : Int32)], (SH, m.1, m.2)) from rfl) ?_
    obtain ⟨rfl, rfl⟩ := m_some h
    exact m_R_iret (by decide) (m_opb_of (ins := .ireturn) (len := 1) (tag := 1) (a := 1) (b := 0) (c := 0) (q := 0) (by decide +kernel)) (Or.inr (Or.inl rfl))
  rcases m_ite h with ⟨c0, h⟩ | ⟨d12, h⟩
  · refine m_R_1 (by decide) (m_opb_of (ins := .tableswitch 121 37 62 #[119, 121, 121, 119, 119, 119, 119, 121, 119, 121, 119, 121, 121, 121, 121, 121, 121, 121, 121, 121, 121, 121, 121, 119, 119, 119]) (len := 119) (tag := 0) (a := 0) (b := 0) (c := 0) (q := 0) (by decide +kernel)) (m_s_sw (by rw [c0]; decide) (by rw [c0]; rfl) (by decide) (t := 122) rfl) ?_
    refine m_R_sg (by decide) [(.iconst 0, 1, 0, 0, 0, 0, 0)] (by decide +kernel) (show m_sgl X _ _ _ _ _ = some (123, [some (.int v0)], [.int (0 : Int32)], (SH, m.1, m.2)) from rfl) ?_
    obtain ⟨rfl, rfl⟩ := m_some h
    exact m_R_iret (by decide) (m_opb_of (ins := .ireturn) (len := 1) (tag := 1) (a := 1) (b := 0) (c := 0) (q := 0) (by decide +kernel)) (Or.inr (Or.inl rfl))
  rcases m_ite h with ⟨c0, h⟩ | ⟨d13, h⟩
  · refine m_R_1 (by decide) (m_opb_of (ins := .tableswitch 121 37 62 #[119, 121, 121, 119, 119, 119, 119, 121, 119, 121, 119, 121, 121, 121, 121, 121, 121, 121, 121, 121, 121, 121, 121, 119, 119, 119]) (len := 119) (tag := 0) (a := 0) (b := 0) (c := 0) (q := 0) (by decide +kernel)) (m_s_sw (by rw [c0]; decide) (by rw [c0]; rfl) (by decide) (t := 122) rfl) ?_
    refine m_R_sg (by decide) [(.iconst 0, 1, 0, 0, 0, 0, 0)] (by decide +kernel) (show m_sgl X _ _ _ _ _ = some (123, [some (.int v0)], [.int (0 : Int32)], (SH, m.1, m.2)) from rfl) ?_
    obtain ⟨rfl, rfl⟩ := m_some h
    exact m_R_iret (by decide) (m_opb_of (ins := .ireturn) (len := 1) (tag := 1) (a := 1) (b := 0) (c := 0) (q := 0) (by decide +kernel)) (Or.inr (Or.inl rfl))
  rcases m_ite h with ⟨c0, h⟩ | ⟨d14, h⟩
  · refine m_R_1 (by decide) (m_opb_of (ins := .tableswitch 121 37 62 #[119, 121, 121, 119, 119, 119, 119, 121, 119, 121, 119, 121, 121, 121, 121, 121, 121, 121, 121, 121, 121, 121, 121, 119, 119, 119]) (len := 119) (tag := 0) (a := 0) (b := 0) (c := 0) (q := 0) (by decide +kernel)) (m_s_sw (by rw [c0]; decide) (by rw [c0]; rfl) (by decide) (t := 122) rfl) ?_
    refine m_R_sg (by decide) [(.iconst 0, 1, 0, 0, 0, 0, 0)] (by decide +kernel) (show m_sgl X _ _ _ _ _ = some (123, [some (.int v0)], [.int (0 : Int32)], (SH, m.1, m.2)) from rfl) ?_
    obtain ⟨rfl, rfl⟩ := m_some h
    exact m_R_iret (by decide) (m_opb_of (ins := .ireturn) (len := 1) (tag := 1) (a := 1) (b := 0) (c := 0) (q := 0) (by decide +kernel)) (Or.inr (Or.inl rfl))
  rcases m_ite h with ⟨c0, h⟩ | ⟨d15, h⟩
  · refine m_R_1 (by decide) (m_opb_of (ins := .tableswitch 121 37 62 #[119, 121, 121, 119, 119, 119, 119, 121, 119, 121, 119, 121, 121, 121, 121, 121, 121, 121, 121, 121, 121, 121, 121, 119, 119, 119]) (len := 119) (tag := 0) (a := 0) (b := 0) (c := 0) (q := 0) (by decide +kernel)) (m_s_sw (by rw [c0]; decide) (by rw [c0]; rfl) (by decide) (t := 122) rfl) ?_
    refine m_R_sg (by decide) [(.iconst 0, 1, 0, 0, 0, 0, 0)] (by decide +kernel) (show m_sgl X _ _ _ _ _ = some (123, [some (.int v0)], [.int (0 : Int32)], (SH, m.1, m.2)) from rfl) ?_
    obtain ⟨rfl, rfl⟩ := m_some h
    exact m_R_iret (by decide) (m_opb_of (ins := .ireturn) (len := 1) (tag := 1) (a := 1) (b := 0) (c := 0) (q := 0) (by decide +kernel)) (Or.inr (Or.inl rfl))
  rcases m_ite h with ⟨c0, h⟩ | ⟨d16, h⟩
  · refine m_R_1 (by decide) (m_opb_of (ins := .tableswitch 121 37 62 #[119, 121, 121, 119, 119, 119, 119, 121, 119, 121, 119, 121, 121, 121, 121, 121, 121, 121, 121, 121, 121, 121, 121, 119, 119, 119]) (len := 119) (tag := 0) (a := 0) (b := 0) (c := 0) (q := 0) (by decide +kernel)) (m_s_sw (by rw [c0]; decide) (by rw [c0]; rfl) (by decide) (t := 122) rfl) ?_
    refine m_R_sg (by decide) [(.iconst 0, 1, 0, 0, 0, 0, 0)] (by decide +kernel) (show m_sgl X _ _ _ _ _ = some (123, [some (.int v0)], [.int (0 : Int32)], (SH, m.1, m.2)) from rfl) ?_
    obtain ⟨rfl, rfl⟩ := m_some h
    exact m_R_iret (by decide) (m_opb_of (ins := .ireturn) (len := 1) (tag := 1) (a := 1) (b := 0) (c := 0) (q := 0) (by decide +kernel)) (Or.inr (Or.inl rfl))
  rcases m_ite h with ⟨c0, h⟩ | ⟨d17, h⟩
  · refine m_R_1 (by decide) (m_opb_of (ins := .tableswitch 121 37 62 #[119, 121, 121, 119, 119, 119, 119, 121, 119, 121, 119, 121, 121, 121, 121, 121, 121, 121, 121, 121, 121, 121, 121, 119, 119, 119]) (len := 119) (tag := 0) (a := 0) (b := 0) (c := 0) (q := 0) (by decide +kernel)) (m_s_sw (by rw [c0]; decide) (by rw [c0]; rfl) (by decide) (t := 122) rfl) ?_
    refine m_R_sg (by decide) [(.iconst 0, 1, 0, 0, 0, 0, 0)] (by decide +kernel) (show m_sgl X _ _ _ _ _ = some (123, [some (.int v0)], [.int (0 : Int32)], (SH, m.1, m.2)) from rfl) ?_
    obtain ⟨rfl, rfl⟩ := m_some h
    exact m_R_iret (by decide) (m_opb_of (ins := .ireturn) (len := 1) (tag := 1) (a := 1) (b := 0) (c := 0) (q := 0) (by decide +kernel)) (Or.inr (Or.inl rfl))
  rcases m_ite h with ⟨c0, h⟩ | ⟨d18, h⟩
  · refine m_R_1 (by decide) (m_opb_of (ins := .tableswitch 121 37 62 #[119, 121, 121, 119, 119, 119, 119, 121, 119, 121, 119, 121, 121, 121, 121, 121, 121, 121, 121, 121, 121, 121, 121, 119, 119, 119]) (len := 119) (tag := 0) (a := 0) (b := 0) (c := 0) (q := 0) (by decide +kernel)) (m_s_sw (by rw [c0]; decide) (by rw [c0]; rfl) (by decide) (t := 122) rfl) ?_
    refine m_R_sg (by decide) [(.iconst 0, 1, 0, 0, 0, 0, 0)] (by decide +kernel) (show m_sgl X _ _ _ _ _ = some (123, [some (.int v0)], [.int (0 : Int32)], (SH, m.1, m.2)) from rfl) ?_
    obtain ⟨rfl, rfl⟩ := m_some h
    exact m_R_iret (by decide) (m_opb_of (ins := .ireturn) (len := 1) (tag := 1) (a := 1) (b := 0) (c := 0) (q := 0) (by decide +kernel)) (Or.inr (Or.inl rfl))
  rcases m_ite h with ⟨c0, h⟩ | ⟨d19, h⟩
  · refine m_R_1 (by decide) (m_opb_of (ins := .tableswitch 121 37 62 #[119, 121, 121, 119, 119, 119, 119, 121, 119, 121, 119, 121, 121, 121, 121, 121, 121, 121, 121, 121, 121, 121, 121, 119, 119, 119]) (len := 119) (tag := 0) (a := 0) (b := 0) (c := 0) (q := 0) (by decide +kernel)) (m_s_sw (by rw [c0]; decide) (by rw [c0]; rfl) (by decide) (t := 122) rfl) ?_
    refine m_R_sg (by decide) [(.iconst 0, 1, 0, 0, 0, 0, 0)] (by decide +kernel) (show m_sgl X _ _ _ _ _ = some (123, [some (.int v0)], [.int (0 : Int32)], (SH, m.1, m.2)) from rfl) ?_
    obtain ⟨rfl, rfl⟩ := m_some h
    exact m_R_iret (by decide) (m_opb_of (ins := .ireturn) (len := 1) (tag := 1) (a := 1) (b := 0) (c := 0) (q := 0) (by decide +kernel)) (Or.inr (Or.inl rfl))
  rcases m_ite h with ⟨c0, h⟩ | ⟨d20, h⟩
  · refine m_R_1 (by decide) (m_opb_of (ins := .tableswitch 121 37 62 #[119, 121, 121, 119, 119, 119, 119, 121, 119, 121, 119, 121, 121, 121, 121, 121, 121, 121, 121, 121, 121, 121, 121, 119, 119, 119]) (len := 119) (tag := 0) (a := 0) (b := 0) (c := 0) (q := 0) (by decide +kernel)) (m_s_sw (by rw [c0]; decide) (by rw [c0]; rfl) (by decide) (t := 122) rfl) ?_
    refine m_R_sg (by decide) [(.iconst 0, 1, 0, 0, 0, 0, 0)] (by decide +kernel) (show m_sgl X _ _ _ _ _ = some (123, [some (.int v0)], [.int (0 : Int32)], (SH, m.1, m.2)) from rfl) ?_
    obtain ⟨rfl, rfl⟩ := m_some h
    exact m_R_iret (by decide) (m_opb_of (ins := .ireturn) (len := 1) (tag := 1) (a := 1) (b := 0) (c := 0) (q := 0) (by decide +kernel)) (Or.inr (Or.inl rfl))
  rcases m_ite h with ⟨c0, h⟩ | ⟨d21, h⟩
  · refine m_R_1 (by decide) (m_opb_of (ins := .tableswitch 121 37 62 #[119, 121, 121, 119, 119, 119, 119, 121, 119, 121, 119, 121, 121, 121, 121, 121, 121, 121, 121, 121, 121, 121, 121, 119, 119, 119]) (len := 119) (tag := 0) (a := 0) (b := 0) (c := 0) (q := 0) (by decide +kernel)) (m_s_sw (by rw [c0]; decide) (by rw [c0]; rfl) (by decide) (t := 122) rfl) ?_
    refine m_R_sg (by decide) [(.iconst 0, 1, 0, 0, 0, 0, 0)] (by decide +kernel) (show m_sgl X _ _ _ _ _ = some (123, [some (.int v0)], [.int (0 : Int32)], (SH, m.1, m.2)) from rfl) ?_
    obtain ⟨rfl, rfl⟩ := m_some h
    exact m_R_iret (by decide) (m_opb_of (ins := .ireturn) (len := 1) (tag := 1) (a := 1) (b := 0) (c := 0) (q := 0) (by decide +kernel)) (Or.inr (Or.inl rfl))
  rcases m_ite h with ⟨c0, h⟩ | ⟨d22, h⟩
  · refine m_R_1 (by decide) (m_opb_of (ins := .tableswitch 121 37 62 #[119, 121, 121, 119, 119, 119, 119, 121, 119, 121, 119, 121, 121, 121, 121, 121, 121, 121, 121, 121, 121, 121, 121, 119, 119, 119]) (len := 119) (tag := 0) (a := 0) (b := 0) (c := 0) (q := 0) (by decide +kernel)) (m_s_sw (by rw [c0]; decide) (by rw [c0]; rfl) (by decide) (t := 122) rfl) ?_
    refine m_R_sg (by decide) [(.iconst 0, 1, 0, 0, 0, 0, 0)] (by decide +kernel) (show m_sgl X _ _ _ _ _ = some (123, [some (.int v0)], [.int (0 : Int32)], (SH, m.1, m.2)) from rfl) ?_
    obtain ⟨rfl, rfl⟩ := m_some h
    exact m_R_iret (by decide) (m_opb_of (ins := .ireturn) (len := 1) (tag := 1) (a := 1) (b := 0) (c := 0) (q := 0) (by decide +kernel)) (Or.inr (Or.inl rfl))
  rcases m_ite h with ⟨c0, h⟩ | ⟨d23, h⟩
  · refine m_R_1 (by decide) (m_opb_of (ins := .tableswitch 121 37 62 #[119, 121, 121, 119, 119, 119, 119, 121, 119, 121, 119, 121, 121, 121, 121, 121, 121, 121, 121, 121, 121, 121, 121, 119, 119, 119]) (len := 119) (tag := 0) (a := 0) (b := 0) (c := 0) (q := 0) (by decide +kernel)) (m_s_sw (by rw [c0]; decide) (by rw [c0]; rfl) (by decide) (t := 120) rfl) ?_
    refine m_R_sg (by decide) [(.iconst 1, 1, 0, 1, 0, 0, 0)] (by decide +kernel) (show m_sgl X _ _ _ _ _ = some (121, [some (.int v0)], [.int (1 : Int32)], (SH, m.1, m.2)) from rfl) ?_
    obtain ⟨rfl, rfl⟩ := m_some h
    exact m_R_iret (by decide) (m_opb_of (ins := .ireturn) (len := 1) (tag := 1) (a := 1) (b := 0) (c := 0) (q := 0) (by decide +kernel)) (Or.inr (Or.inr rfl))
  rcases m_ite h with ⟨c0, h⟩ | ⟨d24, h⟩
  · refine m_R_1 (by decide) (m_opb_of (ins := .tableswitch 121 37 62 #[119, 121, 121, 119, 119, 119, 119, 121, 119, 121, 119, 121, 121, 121, 121, 121, 121, 121, 121, 121, 121, 121, 121, 119, 119, 119]) (len := 119) (tag := 0) (a := 0) (b := 0) (c := 0) (q := 0) (by decide +kernel)) (m_s_sw (by rw [c0]; decide) (by rw [c0]; rfl) (by decide) (t := 120) rfl) ?_
    refine m_R_sg (by decide) [(.iconst 1, 1, 0, 1, 0, 0, 0)] (by decide +kernel) (show m_sgl X _ _ _ _ _ = some (121, [some (.int v0)], [.int (1 : Int32)], (SH, m.1, m.2)) from rfl) ?_
    obtain ⟨rfl, rfl⟩ := m_some h
    exact m_R_iret (by decide) (m_opb_of (ins := .ireturn) (len := 1) (tag := 1) (a := 1) (b := 0) (c := 0) (q := 0) (by decide +kernel)) (Or.inr (Or.inr rfl))
  rcases m_ite h with ⟨c0, h⟩ | ⟨d25, h⟩
  · refine m_R_1 (by decide) (m_opb_of (ins := .tableswitch 121 37 62 #[119, 121, 121, 119, 119, 119, 119, 121, 119, 121, 119, 121, 121, 121, 121, 121, 121, 121, 121, 121, 121, 121, 121, 119, 119, 119]) (len := 119) (tag := 0) (a := 0) (b := 0) (c := 0) (q := 0) (by decide +kernel)) (m_s_sw (by rw [c0]; decide) (by rw [c0]; rfl) (by decide) (t := 120) rfl) ?_
    refine m_R_sg (by decide) [(.iconst 1, 1, 0, 1, 0, 0, 0)] (by decide +kernel) (show m_sgl X _ _ _ _ _ = some (121, [some (.int v0)], [.int (1 : Int32)], (SH, m.1, m.2)) from rfl) ?_
    obtain ⟨rfl, rfl⟩ := m_some h
    exact m_R_iret (by decide) (m_opb_of (ins := .ireturn) (len := 1) (tag := 1) (a := 1) (b := 0) (c := 0) (q := 0) (by decide +kernel)) (Or.inr (Or.inr rfl))
  refine m_R_1 (by decide) (m_opb_of (ins := .tableswitch 121 37 62 #[119, 121, 121, 119, 119, 119, 119, 121, 119, 121, 119, 121, 121, 121, 121, 121, 121, 121, 121, 121, 121, 121, 121, 119, 119, 119]) (len := 119) (tag := 0) (a := 0) (b := 0) (c := 0) (q := 0) (by decide +kernel)) (m_s_swd (m_swx 26 (fun j hj => match j, hj with | 0, _ => fun e => d0 (e.trans (by decide)) | 1, _ => fun e => d1 (e.trans (by decide)) | 2, _ => fun e => d2 (e.trans (by decide)) | 3, _ => fun e => d3 (e.trans (by decide)) | 4, _ => fun e => d4 (e.trans (by decide)) | 5, _ => fun e => d5 (e.trans (by decide)) | 6, _ => fun e => d6 (e.trans (by decide)) | 7, _ => fun e => d7 (e.trans (by decide)) | 8, _ => fun e => d8 (e.trans (by decide)) | 9, _ => fun e => d9 (e.trans (by decide)) | 10, _ => fun e => d10 (e.trans (by decide)) | 11, _ => fun e => d11 (e.trans (by decide)) | 12, _ => fun e => d12 (e.trans (by decide)) | 13, _ => fun e => d13 (e.trans (by decide)) | 14, _ => fun e => d14 (e.trans (by decide)) | 15, _ => fun e => d15 (e.trans (by decide)) | 16, _ => fun e => d16 (e.trans (by decide)) | 17, _ => fun e => d17 (e.trans (by decide)) | 18, _ => fun e => d18 (e.trans (by decide)) | 19, _ => fun e => d19 (e.trans (by decide)) | 20, _ => fun e => d20 (e.trans (by decide)) | 21, _ => fun e => d21 (e.trans (by decide)) | 22, _ => fun e => d22 (e.trans (by decide)) | 23, _ => fun e => d23 (e.trans (by decide)) | 24, _ => fun e => d24 (e.trans (by decide)) | 25, _ => fun e => d25 (e.trans (by decide)) | j + 26, hj => absurd hj (by omega))) (by decide) (t := 122) rfl) ?_
  refine m_R_sg (by decide) [(.iconst 0, 1, 0, 0, 0, 0, 0)] (by decide +kernel) (show m_sgl X _ _ _ _ _ = some (123, [some (.int v0)], [.int (0 : Int32)], (SH, m.1, m.2)) from rfl) ?_
  obtain ⟨rfl, rfl⟩ := m_some h
  exact m_R_iret (by decide) (m_opb_of (ins := .ireturn) (len := 1) (tag := 1) (a := 1) (b := 0) (c := 0) (q := 0) (by decide +kernel)) (Or.inr (Or.inl rfl))
def f_Reader_readNumber_87 (F : Nat)   (s1 : Int32) (m : mM) : Option (Unit × mM) := some ((), ((m_up m.1 114 8 s1), m.2))
theorem ok_Reader_readNumber_87 (X : mX) (d F : Nat) : ∀ (s1 : Int32) (w0 : Option Value) (m : mM) (r : Unit) (m' : mM), f_Reader_readNumber_87 F s1 m = some (r, m') → m_R X (d + 1) 128 87 [w0] [.int s1, .ref 114] (SH, m) (none, (SH, m')) := by
  intro s1 w0 m r m' h
  unfold f_Reader_readNumber_87 at h
  refine m_R_sg (by decide) [(.putfield 34, 3, 0, 5, 8, 0, 604)] (by decide +kernel) (show m_sgl X _ _ _ _ _ = some (90, [w0], [], (SH, (m_up m.1 114 8 s1), m.2)) from rfl) ?_
  obtain ⟨rfl, rfl⟩ := m_some h
  exact m_R_vret (by decide) (m_opb_of (ins := .return_) (len := 1) (tag := 3) (a := 0) (b := 0) (c := 0) (q := 0) (by decide +kernel))
def f_Reader_readNumber_68 (F : Nat)    (m : mM) : Option (Unit × mM) := (if ((m.1 114 6) - (m.1 114 9)) ≤ (5 : Int32) then f_Reader_readNumber_87 F (2 : Int32) m else f_Reader_readNumber_87 F (1 : Int32) m)
theorem ok_Reader_readNumber_68 (X : mX) (d F : Nat) : ∀   (m : mM) (r : Unit) (m' : mM), f_Reader_readNumber_68 F  m = some (r, m') → m_R X (d + 1) 128 68 [some (.ref 114)] [] (SH, m) (none, (SH, m')) := by
  intro m r m' h
  unfold f_Reader_readNumber_68 at h
  refine m_R_sg (by decide) [(.aload_n 0, 1, 0, 0, 0, 0, 0), (.aload_n 0, 1, 0, 0, 0, 0, 0), (.getfield 22, 3, 0, 5, 6, 0, 602), (.aload_n 0, 1, 0, 0, 0, 0, 0), (.getfield 53, 3, 0, 5, 9, 0, 605), (.isub, 1, 0, 0, 0, 0, 0), (.iconst 5, 1, 0, 5, 0, 0, 0)] (by decide +kernel) (show m_sgl X _ _ _ _ _ = some (79, [some (.ref 114)], [.int (5 : Int32), .int ((m.1 114 6) - (m.1 114 9)), .ref 114], (SH, m.1, m.2)) from rfl) ?_
  rcases m_ite h with ⟨c117, h⟩ | ⟨c117, h⟩
  · refine m_R_1 (by decide) (m_opb_of (ins := .if_icmp .le 7) (len := 3) (tag := 0) (a := 86) (b := 0) (c := 0) (q := 0) (by decide +kernel)) (if_pos c117) ?_
    refine m_R_sg (by decide) [(.iconst 2, 1, 0, 2, 0, 0, 0)] (by decide +kernel) (show m_sgl X _ _ _ _ _ = some (87, [some (.ref 114)], [.int (2 : Int32), .ref 114], (SH, m.1, m.2)) from rfl) ?_
    exact ok_Reader_readNumber_87 X d F _ _ _ _ _ h
  · refine m_R_1 (by decide) (m_opb_of (ins := .if_icmp .le 7) (len := 3) (tag := 0) (a := 86) (b := 0) (c := 0) (q := 0) (by decide +kernel)) (if_neg c117) ?_
    refine m_R_sg (by decide) [(.iconst 1, 1, 0, 1, 0, 0, 0), (.goto 4, 3, 0, 87, 0, 0, 0)] (by decide +kernel) (show m_sgl X _ _ _ _ _ = some (87, [some (.ref 114)], [.int (1 : Int32), .ref 114], (SH, m.1, m.2)) from rfl) ?_
    exact ok_Reader_readNumber_87 X d F _ _ _ _ _ h
def f_Reader_readNumber_5 (F : Nat)   : Nat → mM → Option (Unit × mM)
  | 0, _ => none
  | n + 1, m => (if (m.1 114 2) ≤ (m.1 114 6) then f_Reader_readNumber_68 F m else (if (m.1 114 6) < 0 ∨ 120 ≤ (m.1 114 6).toNatClampNeg then none else ((f_Reader_isDigit F (m.1 115 (m.1 114 6).toNatClampNeg) m).bind fun q1 => (if q1.1 = 0 then f_Reader_readNumber_68 F q1.2 else (if (q1.2.1 114 6) < 0 ∨ 120 ≤ (q1.2.1 114 6).toNatClampNeg then none else f_Reader_readNumber_5 F n ((m_up (m_up q1.2.1 114 10 ((((10 : Int32) * (q1.2.1 114 10)) + (q1.2.1 115 (q1.2.1 114 6).toNatClampNeg)) - (48 : Int32))) 114 6 (((m_up q1.2.1 114 10 ((((10 : Int32) * (q1.2.1 114 10)) + (q1.2.1 115 (q1.2.1 114 6).toNatClampNeg)) - (48 : Int32))) 114 6) + (1 : Int32))), q1.2.2))))))
theorem ok_Reader_readNumber_5 (X : mX) (d F : Nat) : ∀ (n : Nat)   (m : mM) (r : Unit) (m' : mM), f_Reader_readNumber_5 F n  m = some (r, m') → m_R X (d + 1) 128 5 [some (.ref 114)] [] (SH, m) (none, (SH, m')) := by
  intro n
  induction n with
  | zero => intro m r m' h; cases h
  | succ n ih =>
    intro m r m' h
    simp only [f_Reader_readNumber_5] at h
    refine m_R_sg (by decide) [(.aload_n 0, 1, 0, 0, 0, 0, 0), (.getfield 22, 3, 0, 5, 6, 0, 602), (.aload_n 0, 1, 0, 0, 0, 0, 0), (.getfield 18, 3, 0, 5, 2, 0, 594)] (by decide +kernel) (show m_sgl X _ _ _ _ _ = some (13, [some (.ref 114)], [.int (m.1 114 2), .int (m.1 114 6)], (SH, m.1, m.2)) from rfl) ?_
    rcases m_ite h with ⟨c118, h⟩ | ⟨c118, h⟩
    · refine m_R_1 (by decide) (m_opb_of (ins := .if_icmp .ge 55) (len := 3) (tag := 0) (a := 68) (b := 0) (c := 0) (q := 0) (by decide +kernel)) (if_pos c118) ?_
      exact ok_Reader_readNumber_68 X d F _ _ _ h
    · refine m_R_1 (by decide) (m_opb_of (ins := .if_icmp .ge 55) (len := 3) (tag := 0) (a := 68) (b := 0) (c := 0) (q := 0) (by decide +kernel)) (if_neg c118) ?_
      refine m_R_sg (by decide) [(.aload_n 0, 1, 0, 0, 0, 0, 0), (.getfield 9, 3, 0, 5, 0, 3, 591), (.aload_n 0, 1, 0, 0, 0, 0, 0), (.getfield 22, 3, 0, 5, 6, 0, 602)] (by decide +kernel) (show m_sgl X _ _ _ _ _ = some (24, [some (.ref 114)], [.int (m.1 114 6), .ref 115], (SH, m.1, m.2)) from rfl) ?_
      obtain ⟨c119, h⟩ := m_ite_n h
      refine m_R_1 (by decide) (m_opb_of (ins := .iaload) (len := 1) (tag := 0) (a := 0) (b := 0) (c := 0) (q := 0) (by decide +kernel)) (m_s_iald sh_115 (by decide) c119) ?_
      obtain ⟨q1, hc1, h⟩ := Option.bind_eq_some_iff.mp h
      refine m_R_cS (v := (some (.int q1.1))) (h1 := (SH, q1.2)) (rest := []) (lo' := [some (.int (m.1 115 (m.1 114 6).toNatClampNeg))]) (ml := 1) (by decide) (m_opb_of (ins := .invokestatic 87) (len := 3) (tag := 4) (a := 127) (b := 1) (c := 0) (q := 1183) (by decide +kernel)) (by decide +kernel) (Nat.le_of_ble_eq_true rfl) rfl (Nat.le_of_ble_eq_true rfl) rfl rfl (ok_Reader_isDigit X (d + 0) F _ _ _ _ hc1) ?_
      rcases m_ite h with ⟨c120, h⟩ | ⟨c120, h⟩
      · refine m_R_1 (by decide) (m_opb_of (ins := .ifCond .eq 40) (len := 3) (tag := 0) (a := 68) (b := 0) (c := 0) (q := 0) (by decide +kernel)) (if_pos c120) ?_
        exact ok_Reader_readNumber_68 X d F _ _ _ h
      · refine m_R_1 (by decide) (m_opb_of (ins := .ifCond .eq 40) (len := 3) (tag := 0) (a := 68) (b := 0) (c := 0) (q := 0) (by decide +kernel)) (if_neg c120) ?_
        refine m_R_sg (by decide) [(.aload_n 0, 1, 0, 0, 0, 0, 0), (.bipush 10, 2, 0, 10, 0, 0, 0), (.aload_n 0, 1, 0, 0, 0, 0, 0), (.getfield 40, 3, 0, 5, 10, 0, 606), (.imul, 1, 0, 0, 0, 0, 0), (.aload_n 0, 1, 0, 0, 0, 0, 0), (.getfield 9, 3, 0, 5, 0, 3, 591), (.aload_n 0, 1, 0, 0, 0, 0, 0), (.getfield 22, 3, 0, 5, 6, 0, 602)] (by decide +kernel) (show m_sgl X _ _ _ _ _ = some (47, [some (.ref 114)], [.int (q1.2.1 114 6), .ref 115, .int ((10 : Int32) * (q1.2.1 114 10)), .ref 114], (SH, q1.2.1, q1.2.2)) from rfl) ?_
        obtain ⟨c121, h⟩ := m_ite_n h
        refine m_R_1 (by decide) (m_opb_of (ins := .iaload) (len := 1) (tag := 0) (a := 0) (b := 0) (c := 0) (q := 0) (by decide +kernel)) (m_s_iald sh_115 (by decide) c121) ?_
        refine m_R_sg (by decide) [(.iadd, 1, 0, 0, 0, 0, 0), (.bipush 48, 2, 0, 48, 0, 0, 0), (.isub, 1, 0, 0, 0, 0, 0), (.putfield 40, 3, 0, 5, 10, 0, 606), (.aload_n 0, 1, 0, 0, 0, 0, 0), (.dup, 1, 0, 0, 0, 0, 0), (.getfield 22, 3, 0, 5, 6, 0, 602), (.iconst 1, 1, 0, 1, 0, 0, 0), (.iadd, 1, 0, 0, 0, 0, 0), (.putfield 22, 3, 0, 5, 6, 0, 602), (.goto (-60), 3, 0, 5, 0, 0, 0)] (by decide +kernel) (show m_sgl X _ _ _ _ _ = some (5, [some (.ref 114)], [], (SH, (m_up (m_up q1.2.1 114 10 ((((10 : Int32) * (q1.2.1 114 10)) + (q1.2.1 115 (q1.2.1 114 6).toNatClampNeg)) - (48 : Int32))) 114 6 (((m_up q1.2.1 114 10 ((((10 : Int32) * (q1.2.1 114 10)) + (q1.2.1 115 (q1.2.1 114 6).toNatClampNeg)) - (48 : Int32))) 114 6) + (1 : Int32))), q1.2.2)) from rfl) ?_
        exact ih _ _ _ h
def f_Reader_readNumber (F : Nat)    (m : mM) : Option (Unit × mM) := f_Reader_readNumber_5 F F ((m_up m.1 114 10 (0 : Int32)), m.2)
theorem ok_Reader_readNumber (X : mX) (d F : Nat) : ∀   (m : mM) (r : Unit) (m' : mM), f_Reader_readNumber F  m = some (r, m') → m_R X (d + 1) 128 0 [some (.ref 114)] [] (SH, m) (none, (SH, m')) := by
  intro m r m' h
  unfold f_Reader_readNumber at h
  refine m_R_sg (by decide) [(.aload_n 0, 1, 0, 0, 0, 0, 0), (.iconst 0, 1, 0, 0, 0, 0, 0), (.putfield 40, 3, 0, 5, 10, 0, 606)] (by decide +kernel) (show m_sgl X _ _ _ _ _ = some (5, [some (.ref 114)], [], (SH, (m_up m.1 114 10 (0 : Int32)), m.2)) from rfl) ?_
  exact ok_Reader_readNumber_5 X d F F _ _ _ h
def f_Reader_readWord_116 (F : Nat)    (m : mM) : Option (Unit × mM) := some ((), m)
theorem ok_Reader_readWord_116 (X : mX) (d F : Nat) : ∀  (w0 : Option Value) (w1 : Option Value) (m : mM) (r : Unit) (m' : mM), f_Reader_readWord_116 F  m = some (r, m') → m_R X (d + 4) 125 116 [w0, w1] [] (SH, m) (none, (SH, m')) := by
  intro w0 w1 m r m' h
  unfold f_Reader_readWord_116 at h
  obtain ⟨rfl, rfl⟩ := m_some h
  exact m_R_vret (by decide) (m_opb_of (ins := .return_) (len := 1) (tag := 3) (a := 0) (b := 0) (c := 0) (q := 0) (by decide +kernel))
def f_Reader_readWord_39 (F : Nat)    (m : mM) : Option (Unit × mM) := ((((m_wd (m.1 115) 120 (m.1 114 9) (m.1 114 6) m_txt 0 (m.1 114 9) 1).map (fun r => (r, m)))).bind fun q2 => (if q2.1 = (-1 : Int32) then f_Reader_readWord_116 F ((m_up (m_up q2.2.1 114 10 q2.1) 114 8 (1 : Int32)), q2.2.2) else (if (7 : Int32) ≤ q2.1 then (if (17 : Int32) ≤ q2.1 then f_Reader_readWord_116 F ((m_up (m_up q2.2.1 114 10 q2.1) 114 8 (((5 : Int32) + q2.1) - (17 : Int32))), q2.2.2) else f_Reader_readWord_116 F ((m_up (m_up (m_up q2.2.1 114 10 q2.1) 114 8 (4 : Int32)) 114 10 (q2.1 - (7 : Int32))), q2.2.2)) else f_Reader_readWord_116 F ((m_up (m_up q2.2.1 114 10 q2.1) 114 8 (3 : Int32)), q2.2.2))))
theorem ok_Reader_readWord_39 (X : mX) (d F : Nat) : ∀  (w1 : Option Value) (m : mM) (r : Unit) (m' : mM), f_Reader_readWord_39 F  m = some (r, m') → m_R X (d + 4) 125 39 [some (.ref 114), w1] [] (SH, m) (none, (SH, m')) := by
  intro w1 m r m' h
  unfold f_Reader_readWord_39 at h
  refine m_R_sg (by decide) [(.aload_n 0, 1, 0, 0, 0, 0, 0), (.aload_n 0, 1, 0, 0, 0, 0, 0), (.getfield 53, 3, 0, 5, 9, 0, 605), (.aload_n 0, 1, 0, 0, 0, 0, 0), (.getfield 22, 3, 0, 5, 6, 0, 602)] (by decide +kernel) (show m_sgl X _ _ _ _ _ = some (48, [some (.ref 114), w1], [.int (m.1 114 6), .int (m.1 114 9), .ref 114], (SH, m.1, m.2)) from rfl) ?_
  obtain ⟨q2, hc2, h⟩ := Option.bind_eq_some_iff.mp h
  refine m_R_cV (v := (some (.int q2.1))) (h1 := (SH, q2.2)) (rest := []) (lo' := [some (.ref 114), some (.int (m.1 114 9)), some (.int (m.1 114 6)), none, none, none, none, none]) (ml := 8) (k0 := 114) (by decide) (Or.inl rfl) (m_opb_of (ins := .invokevirtual 96) (len := 3) (tag := 5) (a := 126) (b := 2) (c := 0) (q := 1130) (by decide +kernel)) (by decide +kernel) rfl (show m_isO 126 114 (SH, _) = true from m_isO_of (by decide +kernel)) (Nat.le_of_ble_eq_true rfl) rfl rfl (m_R_wal (d := d + 0) hc2) ?_
  refine m_R_sg (by decide) [(.istore_n 1, 1, 0, 1, 0, 0, 0), (.aload_n 0, 1, 0, 0, 0, 0, 0), (.iload_n 1, 1, 0, 1, 0, 0, 0), (.putfield 40, 3, 0, 5, 10, 0, 606), (.iload_n 1, 1, 0, 1, 0, 0, 0), (.iconst (-1), 1, 0, 1, 1, 0, 0)] (by decide +kernel) (show m_sgl X _ _ _ _ _ = some (59, [some (.ref 114), some (.int q2.1)], [.int (-1 : Int32), .int q2.1], (SH, (m_up q2.2.1 114 10 q2.1), q2.2.2)) from rfl) ?_
  rcases m_ite h with ⟨c122, h⟩ | ⟨c122, h⟩
  · refine m_R_1 (by decide) (m_opb_of (ins := .if_icmp .ne 11) (len := 3) (tag := 0) (a := 70) (b := 0) (c := 0) (q := 0) (by decide +kernel)) (if_pos c122) ?_
    refine m_R_sg (by decide) [(.aload_n 0, 1, 0, 0, 0, 0, 0), (.iconst 1, 1, 0, 1, 0, 0, 0), (.putfield 34, 3, 0, 5, 8, 0, 604), (.goto 49, 3, 0, 116, 0, 0, 0)] (by decide +kernel) (show m_sgl X _ _ _ _ _ = some (116, [some (.ref 114), some (.int q2.1)], [], (SH, (m_up (m_up q2.2.1 114 10 q2.1) 114 8 (1 : Int32)), q2.2.2)) from rfl) ?_
    exact ok_Reader_readWord_116 X d F _ _ _ _ _ h
  · refine m_R_1 (by decide) (m_opb_of (ins := .if_icmp .ne 11) (len := 3) (tag := 0) (a := 70) (b := 0) (c := 0) (q := 0) (by decide +kernel)) (if_neg c122) ?_
    refine m_R_sg (by decide) [(.iload_n 1, 1, 0, 1, 0, 0, 0), (.bipush 7, 2, 0, 7, 0, 0, 0)] (by decide +kernel) (show m_sgl X _ _ _ _ _ = some (73, [some (.ref 114), some (.int q2.1)], [.int (7 : Int32), .int q2.1], (SH, (m_up q2.2.1 114 10 q2.1), q2.2.2)) from rfl) ?_
    rcases m_ite h with ⟨c123, h⟩ | ⟨c123, h⟩
    · refine m_R_1 (by decide) (m_opb_of (ins := .if_icmp .ge 11) (len := 3) (tag := 0) (a := 84) (b := 0) (c := 0) (q := 0) (by decide +kernel)) (if_pos c123) ?_
      refine m_R_sg (by decide) [(.iload_n 1, 1, 0, 1, 0, 0, 0), (.bipush 17, 2, 0, 17, 0, 0, 0)] (by decide +kernel) (show m_sgl X _ _ _ _ _ = some (87, [some (.ref 114), some (.int q2.1)], [.int (17 : Int32), .int q2.1], (SH, (m_up q2.2.1 114 10 q2.1), q2.2.2)) from rfl) ?_
      rcases m_ite h with ⟨c124, h⟩ | ⟨c124, h⟩
      · refine m_R_1 (by decide) (m_opb_of (ins := .if_icmp .ge 19) (len := 3) (tag := 0) (a := 106) (b := 0) (c := 0) (q := 0) (by decide +kernel)) (if_pos c124) ?_
        refine m_R_sg (by decide) [(.aload_n 0, 1, 0, 0, 0, 0, 0), (.iconst 5, 1, 0, 5, 0, 0, 0), (.iload_n 1, 1, 0, 1, 0, 0, 0), (.iadd, 1, 0, 0, 0, 0, 0), (.bipush 17, 2, 0, 17, 0, 0, 0), (.isub, 1, 0, 0, 0, 0, 0), (.putfield 34, 3, 0, 5, 8, 0, 604)] (by decide +kernel) (show m_sgl X _ _ _ _ _ = some (116, [some (.ref 114), some (.int q2.1)], [], (SH, (m_up (m_up q2.2.1 114 10 q2.1) 114 8 (((5 : Int32) + q2.1) - (17 : Int32))), q2.2.2)) from rfl) ?_
        exact ok_Reader_readWord_116 X d F _ _ _ _ _ h
      · refine m_R_1 (by decide) (m_opb_of (ins := .if_icmp .ge 19) (len := 3) (tag := 0) (a := 106) (b := 0) (c := 0) (q := 0) (by decide +kernel)) (if_neg c124) ?_
        refine m_R_sg (by decide) [(.aload_n 0, 1, 0, 0, 0, 0, 0), (.iconst 4, 1, 0, 4, 0, 0, 0), (.putfield 34, 3, 0, 5, 8, 0, 604), (.aload_n 0, 1, 0, 0, 0, 0, 0), (.iload_n 1, 1, 0, 1, 0, 0, 0), (.bipush 7, 2, 0, 7, 0, 0, 0), (.isub, 1, 0, 0, 0, 0, 0), (.putfield 40, 3, 0, 5, 10, 0, 606), (.goto 13, 3, 0, 116, 0, 0, 0)] (by decide +kernel) (show m_sgl X _ _ _ _ _ = some (116, [some (.ref 114), some (.int q2.1)], [], (SH, (m_up (m_up (m_up q2.2.1 114 10 q2.1) 114 8 (4 : Int32)) 114 10 (q2.1 - (7 : Int32))), q2.2.2)) from rfl) ?_
        exact ok_Reader_readWord_116 X d F _ _ _ _ _ h
    · refine m_R_1 (by decide) (m_opb_of (ins := .if_icmp .ge 11) (len := 3) (tag := 0) (a := 84) (b := 0) (c := 0) (q := 0) (by decide +kernel)) (if_neg c123) ?_
      refine m_R_sg (by decide) [(.aload_n 0, 1, 0, 0, 0, 0, 0), (.iconst 3, 1, 0, 3, 0, 0, 0), (.putfield 34, 3, 0, 5, 8, 0, 604), (.goto 35, 3, 0, 116, 0, 0, 0)] (by decide +kernel) (show m_sgl X _ _ _ _ _ = some (116, [some (.ref 114), some (.int q2.1)], [], (SH, (m_up (m_up q2.2.1 114 10 q2.1) 114 8 (3 : Int32)), q2.2.2)) from rfl) ?_
      exact ok_Reader_readWord_116 X d F _ _ _ _ _ h
def f_Reader_readWord_0 (F : Nat)   : Nat → mM → Option (Unit × mM)
  | 0, _ => none
  | n + 1, m => (if (m.1 114 2) ≤ (m.1 114 6) then f_Reader_readWord_39 F m else (if (m.1 114 6) < 0 ∨ 120 ≤ (m.1 114 6).toNatClampNeg then none else ((f_Reader_isLetter F (m.1 115 (m.1 114 6).toNatClampNeg) m).bind fun q1 => (if q1.1 = 0 then f_Reader_readWord_39 F q1.2 else f_Reader_readWord_0 F n ((m_up q1.2.1 114 6 ((q1.2.1 114 6) + (1 : Int32))), q1.2.2)))))
theorem ok_Reader_readWord_0 (X : mX) (d F : Nat) : ∀ (n : Nat)  (w1 : Option Value) (m : mM) (r : Unit) (m' : mM), f_Reader_readWord_0 F n  m = some (r, m') → m_R X (d + 4) 125 0 [some (.ref 114), w1] [] (SH, m) (none, (SH, m')) := by
  intro n
  induction n with
  | zero => intro w1 m r m' h; cases h
  | succ n ih =>
    intro w1 m r m' h
    simp only [f_Reader_readWord_0] at h
    refine m_R_sg (by decide) [(.aload_n 0, 1, 0, 0, 0, 0, 0), (.getfield 22, 3, 0, 5, 6, 0, 602), (.aload_n 0, 1, 0, 0, 0, 0, 0), (.getfield 18, 3, 0, 5, 2, 0, 594)] (by decide +kernel) (show m_sgl X _ _ _ _ _ = some (8, [some (.ref 114), w1], [.int (m.1 114 2), .int (m.1 114 6)], (SH, m.1, m.2)) from rfl) ?_
    rcases m_ite h with ⟨c125, h⟩ | ⟨c125, h⟩
    · refine m_R_1 (by decide) (m_opb_of (ins := .if_icmp .ge 31) (len := 3) (tag := 0) (a := 39) (b := 0) (c := 0) (q := 0) (by decide +kernel)) (if_pos c125) ?_
      exact ok_Reader_readWord_39 X d F _ _ _ _ h
    · refine m_R_1 (by decide) (m_opb_of (ins := .if_icmp .ge 31) (len := 3) (tag := 0) (a := 39) (b := 0) (c := 0) (q := 0) (by decide +kernel)) (if_neg c125) ?_
      refine m_R_sg (by decide) [(.aload_n 0, 1, 0, 0, 0, 0, 0), (.getfield 9, 3, 0, 5, 0, 3, 591), (.aload_n 0, 1, 0, 0, 0, 0, 0), (.getfield 22, 3, 0, 5, 6, 0, 602)] (by decide +kernel) (show m_sgl X _ _ _ _ _ = some (19, [some (.ref 114), w1], [.int (m.1 114 6), .ref 115], (SH, m.1, m.2)) from rfl) ?_
      obtain ⟨c126, h⟩ := m_ite_n h
      refine m_R_1 (by decide) (m_opb_of (ins := .iaload) (len := 1) (tag := 0) (a := 0) (b := 0) (c := 0) (q := 0) (by decide +kernel)) (m_s_iald sh_115 (by decide) c126) ?_
      obtain ⟨q1, hc1, h⟩ := Option.bind_eq_some_iff.mp h
      refine m_R_cS (v := (some (.int q1.1))) (h1 := (SH, q1.2)) (rest := []) (lo' := [some (.int (m.1 115 (m.1 114 6).toNatClampNeg))]) (ml := 1) (by decide) (m_opb_of (ins := .invokestatic 80) (len := 3) (tag := 4) (a := 124) (b := 1) (c := 0) (q := 1123) (by decide +kernel)) (by decide +kernel) (Nat.le_of_ble_eq_true rfl) rfl (Nat.le_of_ble_eq_true rfl) rfl rfl (ok_Reader_isLetter X (d + 3) F _ _ _ _ hc1) ?_
      rcases m_ite h with ⟨c127, h⟩ | ⟨c127, h⟩
      · refine m_R_1 (by decide) (m_opb_of (ins := .ifCond .eq 16) (len := 3) (tag := 0) (a := 39) (b := 0) (c := 0) (q := 0) (by decide +kernel)) (if_pos c127) ?_
        exact ok_Reader_readWord_39 X d F _ _ _ _ h
      · refine m_R_1 (by decide) (m_opb_of (ins := .ifCond .eq 16) (len := 3) (tag := 0) (a := 39) (b := 0) (c := 0) (q := 0) (by decide +kernel)) (if_neg c127) ?_
        refine m_R_sg (by decide) [(.aload_n 0, 1, 0, 0, 0, 0, 0), (.dup, 1, 0, 0, 0, 0, 0), (.getfield 22, 3, 0, 5, 6, 0, 602), (.iconst 1, 1, 0, 1, 0, 0, 0), (.iadd, 1, 0, 0, 0, 0, 0), (.putfield 22, 3, 0, 5, 6, 0, 602), (.goto (-36), 3, 0, 0, 0, 0, 0)] (by decide +kernel) (show m_sgl X _ _ _ _ _ = some (0, [some (.ref 114), w1], [], (SH, (m_up q1.2.1 114 6 ((q1.2.1 114 6) + (1 : Int32))), q1.2.2)) from rfl) ?_
        exact ih _ _ _ _ h
def f_Reader_readWord (F : Nat)    (m : mM) : Option (Unit × mM) := f_Reader_readWord_0 F F m
theorem ok_Reader_readWord (X : mX) (d F : Nat) : ∀   (m : mM) (r : Unit) (m' : mM), f_Reader_readWord F  m = some (r, m') → m_R X (d + 4) 125 0 [some (.ref 114), none] [] (SH, m) (none, (SH, m')) := by
  intro m r m' h
  unfold f_Reader_readWord at h
  exact ok_Reader_readWord_0 X d F F _ _ _ _ h
def f_Reader_nextToken_151 (F : Nat)    (m : mM) : Option (Unit × mM) := some ((), m)
theorem ok_Reader_nextToken_151 (X : mX) (d F : Nat) : ∀  (w0 : Option Value) (m : mM) (r : Unit) (m' : mM), f_Reader_nextToken_151 F  m = some (r, m') → m_R X (d + 5) 123 151 [w0] [] (SH, m) (none, (SH, m')) := by
  intro w0 m r m' h
  unfold f_Reader_nextToken_151 at h
  obtain ⟨rfl, rfl⟩ := m_some h
  exact m_R_vret (by decide) (m_opb_of (ins := .return_) (len := 1) (tag := 3) (a := 0) (b := 0) (c := 0) (q := 0) (by decide +kernel))
def f_Reader_nextToken_138 (F : Nat)   (s1 : Int32) (m : mM) : Option (Unit × mM) := f_Reader_nextToken_151 F ((m_up (m_up m.1 114 8 s1) 114 6 (((m_up m.1 114 8 s1) 114 6) + (1 : Int32))), m.2)
theorem ok_Reader_nextToken_138 (X : mX) (d F : Nat) : ∀ (s1 : Int32)  (m : mM) (r : Unit) (m' : mM), f_Reader_nextToken_138 F s1 m = some (r, m') → m_R X (d + 5) 123 138 [some (.ref 114)] [.int s1, .ref 114] (SH, m) (none, (SH, m')) := by
  intro s1 m r m' h
  unfold f_Reader_nextToken_138 at h
  refine m_R_sg (by decide) [(.putfield 34, 3, 0, 5, 8, 0, 604), (.aload_n 0, 1, 0, 0, 0, 0, 0), (.dup, 1, 0, 0, 0, 0, 0), (.getfield 22, 3, 0, 5, 6, 0, 602), (.iconst 1, 1, 0, 1, 0, 0, 0), (.iadd, 1, 0, 0, 0, 0, 0), (.putfield 22, 3, 0, 5, 6, 0, 602)] (by decide +kernel) (show m_sgl X _ _ _ _ _ = some (151, [some (.ref 114)], [], (SH, (m_up (m_up m.1 114 8 s1) 114 6 (((m_up m.1 114 8 s1) 114 6) + (1 : Int32))), m.2)) from rfl) ?_
  exact ok_Reader_nextToken_151 X d F _ _ _ _ h
def f_Reader_nextToken_38 (F : Nat)    (m : mM) : Option (Unit × mM) := (if ((m_up m.1 114 9 (m.1 114 6)) 114 6) < ((m_up m.1 114 9 (m.1 114 6)) 114 2) then (if ((m_up m.1 114 9 (m.1 114 6)) 114 6) < 0 ∨ 120 ≤ ((m_up m.1 114 9 (m.1 114 6)) 114 6).toNatClampNeg then none else ((f_Reader_isLetter F ((m_up m.1 114 9 (m.1 114 6)) 115 ((m_up m.1 114 9 (m.1 114 6)) 114 6).toNatClampNeg) ((m_up m.1 114 9 (m.1 114 6)), m.2)).bind fun q1 => (if q1.1 = 0 then (if (q1.2.1 114 6) < 0 ∨ 120 ≤ (q1.2.1 114 6).toNatClampNeg then none else ((f_Reader_isDigit F (q1.2.1 115 (q1.2.1 114 6).toNatClampNeg) q1.2).bind fun q2 => (if q2.1 = 0 then (if (q2.2.1 114 6) < 0 ∨ 120 ≤ (q2.2.1 114 6).toNatClampNeg then none else ((f_Reader_isSign F (q2.2.1 115 (q2.2.1 114 6).toNatClampNeg) q2.2).bind fun q3 => (if q3.1 = 0 then f_Reader_nextToken_138 F (1 : Int32) q3.2 else (if (q3.2.1 114 6) < 0 ∨ 120 ≤ (q3.2.1 114 6).toNatClampNeg then none else f_Reader_nextToken_138 F (q3.2.1 115 (q3.2.1 114 6).toNatClampNeg) q3.2)))) else ((f_Reader_readNumber F q2.2).bind fun q4 => f_Reader_nextToken_151 F q4.2)))) else ((f_Reader_readWord F q1.2).bind fun q5 => f_Reader_nextToken_151 F q5.2)))) else f_Reader_nextToken_151 F ((m_up (m_up m.1 114 9 (m.1 114 6)) 114 8 (0 : Int32)), m.2))
theorem ok_Reader_nextToken_38 (X : mX) (d F : Nat) : ∀   (m : mM) (r : Unit) (m' : mM), f_Reader_nextToken_38 F  m = some (r, m') → m_R X (d + 5) 123 38 [some (.ref 114)] [] (SH, m) (none, (SH, m')) := by
  intro m r m' h
  unfold f_Reader_nextToken_38 at h
  refine m_R_sg (by decide) [(.aload_n 0, 1, 0, 0, 0, 0, 0), (.aload_n 0, 1, 0, 0, 0, 0, 0), (.getfield 22, 3, 0, 5, 6, 0, 602), (.putfield 53, 3, 0, 5, 9, 0, 605), (.aload_n 0, 1, 0, 0, 0, 0, 0), (.getfield 22, 3, 0, 5, 6, 0, 602), (.aload_n 0, 1, 0, 0, 0, 0, 0), (.getfield 18, 3, 0, 5, 2, 0, 594)] (by decide +kernel) (show m_sgl X _ _ _ _ _ = some (54, [some (.ref 114)], [.int ((m_up m.1 114 9 (m.1 114 6)) 114 2), .int ((m_up m.1 114 9 (m.1 114 6)) 114 6)], (SH, (m_up m.1 114 9 (m.1 114 6)), m.2)) from rfl) ?_
  rcases m_ite h with ⟨c128, h⟩ | ⟨c128, h⟩
  · refine m_R_1 (by decide) (m_opb_of (ins := .if_icmp .lt 11) (len := 3) (tag := 0) (a := 65) (b := 0) (c := 0) (q := 0) (by decide +kernel)) (if_pos c128) ?_
    refine m_R_sg (by decide) [(.aload_n 0, 1, 0, 0, 0, 0, 0), (.getfield 9, 3, 0, 5, 0, 3, 591), (.aload_n 0, 1, 0, 0, 0, 0, 0), (.getfield 22, 3, 0, 5, 6, 0, 602)] (by decide +kernel) (show m_sgl X _ _ _ _ _ = some (73, [some (.ref 114)], [.int ((m_up m.1 114 9 (m.1 114 6)) 114 6), .ref 115], (SH, (m_up m.1 114 9 (m.1 114 6)), m.2)) from rfl) ?_
    obtain ⟨c129, h⟩ := m_ite_n h
    refine m_R_1 (by decide) (m_opb_of (ins := .iaload) (len := 1) (tag := 0) (a := 0) (b := 0) (c := 0) (q := 0) (by decide +kernel)) (m_s_iald sh_115 (by decide) c129) ?_
    obtain ⟨q1, hc1, h⟩ := Option.bind_eq_some_iff.mp h
    refine m_R_cS (v := (some (.int q1.1))) (h1 := (SH, q1.2)) (rest := []) (lo' := [some (.int ((m_up m.1 114 9 (m.1 114 6)) 115 ((m_up m.1 114 9 (m.1 114 6)) 114 6).toNatClampNeg))]) (ml := 1) (by decide) (m_opb_of (ins := .invokestatic 80) (len := 3) (tag := 4) (a := 124) (b := 1) (c := 0) (q := 1123) (by decide +kernel)) (by decide +kernel) (Nat.le_of_ble_eq_true rfl) rfl (Nat.le_of_ble_eq_true rfl) rfl rfl (ok_Reader_isLetter X (d + 4) F _ _ _ _ hc1) ?_
    rcases m_ite h with ⟨c130, h⟩ | ⟨c130, h⟩
    · refine m_R_1 (by decide) (m_opb_of (ins := .ifCond .eq 10) (len := 3) (tag := 0) (a := 87) (b := 0) (c := 0) (q := 0) (by decide +kernel)) (if_pos c130) ?_
      refine m_R_sg (by decide) [(.aload_n 0, 1, 0, 0, 0, 0, 0), (.getfield 9, 3, 0, 5, 0, 3, 591), (.aload_n 0, 1, 0, 0, 0, 0, 0), (.getfield 22, 3, 0, 5, 6, 0, 602)] (by decide +kernel) (show m_sgl X _ _ _ _ _ = some (95, [some (.ref 114)], [.int (q1.2.1 114 6), .ref 115], (SH, q1.2.1, q1.2.2)) from rfl) ?_
      obtain ⟨c131, h⟩ := m_ite_n h
      refine m_R_1 (by decide) (m_opb_of (ins := .iaload) (len := 1) (tag := 0) (a := 0) (b := 0) (c := 0) (q := 0) (by decide +kernel)) (m_s_iald sh_115 (by decide) c131) ?_
      obtain ⟨q2, hc2, h⟩ := Option.bind_eq_some_iff.mp h
      refine m_R_cS (v := (some (.int q2.1))) (h1 := (SH, q2.2)) (rest := []) (lo' := [some (.int (q1.2.1 115 (q1.2.1 114 6).toNatClampNeg))]) (ml := 1) (by decide) (m_opb_of (ins := .invokestatic 87) (len := 3) (tag := 4) (a := 127) (b := 1) (c := 0) (q := 1183) (by decide +kernel)) (by decide +kernel) (Nat.le_of_ble_eq_true rfl) rfl (Nat.le_of_ble_eq_true rfl) rfl rfl (ok_Reader_isDigit X (d + 4) F _ _ _ _ hc2) ?_
      rcases m_ite h with ⟨c132, h⟩ | ⟨c132, h⟩
      · refine m_R_1 (by decide) (m_opb_of (ins := .ifCond .eq 10) (len := 3) (tag := 0) (a := 109) (b := 0) (c := 0) (q := 0) (by decide +kernel)) (if_pos c132) ?_
        refine m_R_sg (by decide) [(.aload_n 0, 1, 0, 0, 0, 0, 0), (.aload_n 0, 1, 0, 0, 0, 0, 0), (.getfield 9, 3, 0, 5, 0, 3, 591), (.aload_n 0, 1, 0, 0, 0, 0, 0), (.getfield 22, 3, 0, 5, 6, 0, 602)] (by decide +kernel) (show m_sgl X _ _ _ _ _ = some (118, [some (.ref 114)], [.int (q2.2.1 114 6), .ref 115, .ref 114], (SH, q2.2.1, q2.2.2)) from rfl) ?_
        obtain ⟨c133, h⟩ := m_ite_n h
        refine m_R_1 (by decide) (m_opb_of (ins := .iaload) (len := 1) (tag := 0) (a := 0) (b := 0) (c := 0) (q := 0) (by decide +kernel)) (m_s_iald sh_115 (by decide) c133) ?_
        obtain ⟨q3, hc3, h⟩ := Option.bind_eq_some_iff.mp h
        refine m_R_cS (v := (some (.int q3.1))) (h1 := (SH, q3.2)) (rest := [.ref 114]) (lo' := [some (.int (q2.2.1 115 (q2.2.1 114 6).toNatClampNeg))]) (ml := 1) (by decide) (m_opb_of (ins := .invokestatic 93) (len := 3) (tag := 4) (a := 129) (b := 1) (c := 0) (q := 1190) (by decide +kernel)) (by decide +kernel) (Nat.le_of_ble_eq_true rfl) rfl (Nat.le_of_ble_eq_true rfl) rfl rfl (ok_Reader_isSign X (d + 4) F _ _ _ _ hc3) ?_
        rcases m_ite h with ⟨c134, h⟩ | ⟨c134, h⟩
        · refine m_R_1 (by decide) (m_opb_of (ins := .ifCond .eq 15) (len := 3) (tag := 0) (a := 137) (b := 0) (c := 0) (q := 0) (by decide +kernel)) (if_pos c134) ?_
          refine m_R_sg (by decide) [(.iconst 1, 1, 0, 1, 0, 0, 0)] (by decide +kernel) (show m_sgl X _ _ _ _ _ = some (138, [some (.ref 114)], [.int (1 : Int32), .ref 114], (SH, q3.2.1, q3.2.2)) from rfl) ?_
          exact ok_Reader_nextToken_138 X d F _ _ _ _ h
        · refine m_R_1 (by decide) (m_opb_of (ins := .ifCond .eq 15) (len := 3) (tag := 0) (a := 137) (b := 0) (c := 0) (q := 0) (by decide +kernel)) (if_neg c134) ?_
          refine m_R_sg (by decide) [(.aload_n 0, 1, 0, 0, 0, 0, 0), (.getfield 9, 3, 0, 5, 0, 3, 591), (.aload_n 0, 1, 0, 0, 0, 0, 0), (.getfield 22, 3, 0, 5, 6, 0, 602)] (by decide +kernel) (show m_sgl X _ _ _ _ _ = some (133, [some (.ref 114)], [.int (q3.2.1 114 6), .ref 115, .ref 114], (SH, q3.2.1, q3.2.2)) from rfl) ?_
          obtain ⟨c135, h⟩ := m_ite_n h
          refine m_R_1 (by decide) (m_opb_of (ins := .iaload) (len := 1) (tag := 0) (a := 0) (b := 0) (c := 0) (q := 0) (by decide +kernel)) (m_s_iald sh_115 (by decide) c135) ?_
          refine m_R_sg (by decide) [(.goto 4, 3, 0, 138, 0, 0, 0)] (by decide +kernel) (show m_sgl X _ _ _ _ _ = some (138, [some (.ref 114)], [.int (q3.2.1 115 (q3.2.1 114 6).toNatClampNeg), .ref 114], (SH, q3.2.1, q3.2.2)) from rfl) ?_
          exact ok_Reader_nextToken_138 X d F _ _ _ _ h
      · refine m_R_1 (by decide) (m_opb_of (ins := .ifCond .eq 10) (len := 3) (tag := 0) (a := 109) (b := 0) (c := 0) (q := 0) (by decide +kernel)) (if_neg c132) ?_
        refine m_R_sg (by decide) [(.aload_n 0, 1, 0, 0, 0, 0, 0)] (by decide +kernel) (show m_sgl X _ _ _ _ _ = some (103, [some (.ref 114)], [.ref 114], (SH, q2.2.1, q2.2.2)) from rfl) ?_
        obtain ⟨q4, hc4, h⟩ := Option.bind_eq_some_iff.mp h
        refine m_R_cV (v := none) (h1 := (SH, q4.2)) (rest := []) (lo' := [some (.ref 114)]) (ml := 1) (k0 := 114) (by decide) (Or.inl rfl) (m_opb_of (ins := .invokevirtual 90) (len := 3) (tag := 5) (a := 128) (b := 0) (c := 0) (q := 1186) (by decide +kernel)) (by decide +kernel) rfl (show m_isO 128 114 (SH, _) = true from m_isO_of (by decide +kernel)) (Nat.le_of_ble_eq_true rfl) rfl rfl (ok_Reader_readNumber X (d + 3) F _ _ _ hc4) ?_
        refine m_R_sg (by decide) [(.goto 45, 3, 0, 151, 0, 0, 0)] (by decide +kernel) (show m_sgl X _ _ _ _ _ = some (151, [some (.ref 114)], [], (SH, q4.2.1, q4.2.2)) from rfl) ?_
        exact ok_Reader_nextToken_151 X d F _ _ _ _ h
    · refine m_R_1 (by decide) (m_opb_of (ins := .ifCond .eq 10) (len := 3) (tag := 0) (a := 87) (b := 0) (c := 0) (q := 0) (by decide +kernel)) (if_neg c130) ?_
      refine m_R_sg (by decide) [(.aload_n 0, 1, 0, 0, 0, 0, 0)] (by decide +kernel) (show m_sgl X _ _ _ _ _ = some (81, [some (.ref 114)], [.ref 114], (SH, q1.2.1, q1.2.2)) from rfl) ?_
      obtain ⟨q5, hc5, h⟩ := Option.bind_eq_some_iff.mp h
      refine m_R_cV (v := none) (h1 := (SH, q5.2)) (rest := []) (lo' := [some (.ref 114), none]) (ml := 2) (k0 := 114) (by decide) (Or.inl rfl) (m_opb_of (ins := .invokevirtual 84) (len := 3) (tag := 5) (a := 125) (b := 0) (c := 0) (q := 1126) (by decide +kernel)) (by decide +kernel) rfl (show m_isO 125 114 (SH, _) = true from m_isO_of (by decide +kernel)) (Nat.le_of_ble_eq_true rfl) rfl rfl (ok_Reader_readWord X (d + 0) F _ _ _ hc5) ?_
      refine m_R_sg (by decide) [(.goto 67, 3, 0, 151, 0, 0, 0)] (by decide +kernel) (show m_sgl X _ _ _ _ _ = some (151, [some (.ref 114)], [], (SH, q5.2.1, q5.2.2)) from rfl) ?_
      exact ok_Reader_nextToken_151 X d F _ _ _ _ h
  · refine m_R_1 (by decide) (m_opb_of (ins := .if_icmp .lt 11) (len := 3) (tag := 0) (a := 65) (b := 0) (c := 0) (q := 0) (by decide +kernel)) (if_neg c128) ?_
    refine m_R_sg (by decide) [(.aload_n 0, 1, 0, 0, 0, 0, 0), (.iconst 0, 1, 0, 0, 0, 0, 0), (.putfield 34, 3, 0, 5, 8, 0, 604), (.goto 89, 3, 0, 151, 0, 0, 0)] (by decide +kernel) (show m_sgl X _ _ _ _ _ = some (151, [some (.ref 114)], [], (SH, (m_up (m_up m.1 114 9 (m.1 114 6)) 114 8 (0 : Int32)), m.2)) from rfl) ?_
    exact ok_Reader_nextToken_151 X d F _ _ _ _ h
def f_Reader_nextToken_0 (F : Nat)   : Nat → mM → Option (Unit × mM)
  | 0, _ => none
  | n + 1, m => (if (m.1 114 2) ≤ (m.1 114 6) then f_Reader_nextToken_38 F m else (if (m.1 114 6) < 0 ∨ 120 ≤ (m.1 114 6).toNatClampNeg then none else (if (m.1 115 (m.1 114 6).toNatClampNeg) = (32 : Int32) then f_Reader_nextToken_0 F n ((m_up m.1 114 6 ((m.1 114 6) + (1 : Int32))), m.2) else f_Reader_nextToken_38 F m)))
theorem ok_Reader_nextToken_0 (X : mX) (d F : Nat) : ∀ (n : Nat)   (m : mM) (r : Unit) (m' : mM), f_Reader_nextToken_0 F n  m = some (r, m') → m_R X (d + 5) 123 0 [some (.ref 114)] [] (SH, m) (none, (SH, m')) := by
  intro n
  induction n with
  | zero => intro m r m' h; cases h
  | succ n ih =>
    intro m r m' h
    simp only [f_Reader_nextToken_0] at h
    refine m_R_sg (by decide) [(.aload_n 0, 1, 0, 0, 0, 0, 0), (.getfield 22, 3, 0, 5, 6, 0, 602), (.aload_n 0, 1, 0, 0, 0, 0, 0), (.getfield 18, 3, 0, 5, 2, 0, 594)] (by decide +kernel) (show m_sgl X _ _ _ _ _ = some (8, [some (.ref 114)], [.int (m.1 114 2), .int (m.1 114 6)], (SH, m.1, m.2)) from rfl) ?_
    rcases m_ite h with ⟨c136, h⟩ | ⟨c136, h⟩
    · refine m_R_1 (by decide) (m_opb_of (ins := .if_icmp .ge 30) (len := 3) (tag := 0) (a := 38) (b := 0) (c := 0) (q := 0) (by decide +kernel)) (if_pos c136) ?_
      exact ok_Reader_nextToken_38 X d F _ _ _ h
    · refine m_R_1 (by decide) (m_opb_of (ins := .if_icmp .ge 30) (len := 3) (tag := 0) (a := 38) (b := 0) (c := 0) (q := 0) (by decide +kernel)) (if_neg c136) ?_
      refine m_R_sg (by decide) [(.aload_n 0, 1, 0, 0, 0, 0, 0), (.getfield 9, 3, 0, 5, 0, 3, 591), (.aload_n 0, 1, 0, 0, 0, 0, 0), (.getfield 22, 3, 0, 5, 6, 0, 602)] (by decide +kernel) (show m_sgl X _ _ _ _ _ = some (19, [some (.ref 114)], [.int (m.1 114 6), .ref 115], (SH, m.1, m.2)) from rfl) ?_
      obtain ⟨c137, h⟩ := m_ite_n h
      refine m_R_1 (by decide) (m_opb_of (ins := .iaload) (len := 1) (tag := 0) (a := 0) (b := 0) (c := 0) (q := 0) (by decide +kernel)) (m_s_iald sh_115 (by decide) c137) ?_
      refine m_R_sg (by decide) [(.bipush 32, 2, 0, 32, 0, 0, 0)] (by decide +kernel) (show m_sgl X _ _ _ _ _ = some (22, [some (.ref 114)], [.int (32 : Int32), .int (m.1 115 (m.1 114 6).toNatClampNeg)], (SH, m.1, m.2)) from rfl) ?_
      rcases m_ite h with ⟨c138, h⟩ | ⟨c138, h⟩
      · refine m_R_1 (by decide) (m_opb_of (ins := .if_icmp .ne 16) (len := 3) (tag := 0) (a := 38) (b := 0) (c := 0) (q := 0) (by decide +kernel)) (if_pos c138) ?_
        refine m_R_sg (by decide) [(.aload_n 0, 1, 0, 0, 0, 0, 0), (.dup, 1, 0, 0, 0, 0, 0), (.getfield 22, 3, 0, 5, 6, 0, 602), (.iconst 1, 1, 0, 1, 0, 0, 0), (.iadd, 1, 0, 0, 0, 0, 0), (.putfield 22, 3, 0, 5, 6, 0, 602), (.goto (-35), 3, 0, 0, 0, 0, 0)] (by decide +kernel) (show m_sgl X _ _ _ _ _ = some (0, [some (.ref 114)], [], (SH, (m_up m.1 114 6 ((m.1 114 6) + (1 : Int32))), m.2)) from rfl) ?_
        exact ih _ _ _ h
      · refine m_R_1 (by decide) (m_opb_of (ins := .if_icmp .ne 16) (len := 3) (tag := 0) (a := 38) (b := 0) (c := 0) (q := 0) (by decide +kernel)) (if_neg c138) ?_
        exact ok_Reader_nextToken_38 X d F _ _ _ h
def f_Reader_nextToken (F : Nat)    (m : mM) : Option (Unit × mM) := f_Reader_nextToken_0 F F m
theorem ok_Reader_nextToken (X : mX) (d F : Nat) : ∀   (m : mM) (r : Unit) (m' : mM), f_Reader_nextToken F  m = some (r, m') → m_R X (d + 5) 123 0 [some (.ref 114)] [] (SH, m) (none, (SH, m')) := by
  intro m r m' h
  unfold f_Reader_nextToken at h
  exact ok_Reader_nextToken_0 X d F F _ _ _ h
def f_Reader_addCode_32 (F : Nat)    (m : mM) : Option (Unit × mM) := some ((), m)
theorem ok_Reader_addCode_32 (X : mX) (d F : Nat) : ∀  (w0 : Option Value) (w1 : Option Value) (m : mM) (r : Unit) (m' : mM), f_Reader_addCode_32 F  m = some (r, m') → m_R X (d + 0) 134 32 [w0, w1] [] (SH, m) (none, (SH, m')) := by
  intro w0 w1 m r m' h
  unfold f_Reader_addCode_32 at h
  obtain ⟨rfl, rfl⟩ := m_some h
  exact m_R_vret (by decide) (m_opb_of (ins := .return_) (len := 1) (tag := 3) (a := 0) (b := 0) (c := 0) (q := 0) (by decide +kernel))
def f_Reader_addCode (F : Nat)   (v1 : Int32) (m : mM) : Option (Unit × mM) := (if (Int32.ofNat 120) ≤ (m.1 114 3) then f_Reader_addCode_32 F m else (if (m.1 114 3) < 0 ∨ 120 ≤ (m.1 114 3).toNatClampNeg then none else f_Reader_addCode_32 F ((m_up (m_up m.1 116 (m.1 114 3).toNatClampNeg v1) 114 3 (((m_up m.1 116 (m.1 114 3).toNatClampNeg v1) 114 3) + (1 : Int32))), m.2)))
theorem ok_Reader_addCode (X : mX) (d F : Nat) : ∀ (v1 : Int32)  (m : mM) (r : Unit) (m' : mM), f_Reader_addCode F v1 m = some (r, m') → m_R X (d + 0) 134 0 [some (.ref 114), some (.int v1)] [] (SH, m) (none, (SH, m')) := by
  intro v1 m r m' h
  unfold f_Reader_addCode at h
  refine m_R_sg (by decide) [(.aload_n 0, 1, 0, 0, 0, 0, 0), (.getfield 25, 3, 0, 5, 3, 0, 596), (.aload_n 0, 1, 0, 0, 0, 0, 0), (.getfield 15, 3, 0, 5, 1, 3, 592), (.arraylength, 1, 0, 0, 0, 0, 0)] (by decide +kernel) (show m_sgl X _ _ _ _ _ = some (9, [some (.ref 114), some (.int v1)], [.int (Int32.ofNat 120), .int (m.1 114 3)], (SH, m.1, m.2)) from rfl) ?_
  rcases m_ite h with ⟨c139, h⟩ | ⟨c139, h⟩
  · refine m_R_1 (by decide) (m_opb_of (ins := .if_icmp .ge 23) (len := 3) (tag := 0) (a := 32) (b := 0) (c := 0) (q := 0) (by decide +kernel)) (if_pos c139) ?_
    exact ok_Reader_addCode_32 X d F _ _ _ _ _ h
  · refine m_R_1 (by decide) (m_opb_of (ins := .if_icmp .ge 23) (len := 3) (tag := 0) (a := 32) (b := 0) (c := 0) (q := 0) (by decide +kernel)) (if_neg c139) ?_
    refine m_R_sg (by decide) [(.aload_n 0, 1, 0, 0, 0, 0, 0), (.getfield 15, 3, 0, 5, 1, 3, 592), (.aload_n 0, 1, 0, 0, 0, 0, 0), (.getfield 25, 3, 0, 5, 3, 0, 596), (.iload_n 1, 1, 0, 1, 0, 0, 0)] (by decide +kernel) (show m_sgl X _ _ _ _ _ = some (21, [some (.ref 114), some (.int v1)], [.int v1, .int (m.1 114 3), .ref 116], (SH, m.1, m.2)) from rfl) ?_
    obtain ⟨c140, h⟩ := m_ite_n h
    refine m_R_1 (by decide) (m_opb_of (ins := .iastore) (len := 1) (tag := 0) (a := 0) (b := 0) (c := 0) (q := 0) (by decide +kernel)) (m_s_iast sh_116 c140) ?_
    refine m_R_sg (by decide) [(.aload_n 0, 1, 0, 0, 0, 0, 0), (.dup, 1, 0, 0, 0, 0, 0), (.getfield 25, 3, 0, 5, 3, 0, 596), (.iconst 1, 1, 0, 1, 0, 0, 0), (.iadd, 1, 0, 0, 0, 0, 0), (.putfield 25, 3, 0, 5, 3, 0, 596)] (by decide +kernel) (show m_sgl X _ _ _ _ _ = some (32, [some (.ref 114), some (.int v1)], [], (SH, (m_up (m_up m.1 116 (m.1 114 3).toNatClampNeg v1) 114 3 (((m_up m.1 116 (m.1 114 3).toNatClampNeg v1) 114 3) + (1 : Int32))), m.2)) from rfl) ?_
    exact ok_Reader_addCode_32 X d F _ _ _ _ _ h
def f_Reader_stop_16 (F : Nat)    (m : mM) : Option (Unit × mM) := some ((), ((m_up m.1 114 8 (1 : Int32)), m.2))
theorem ok_Reader_stop_16 (X : mX) (d F : Nat) : ∀   (m : mM) (r : Unit) (m' : mM), f_Reader_stop_16 F  m = some (r, m') → m_R X (d + 0) 130 16 [some (.ref 114)] [] (SH, m) (none, (SH, m')) := by
  intro m r m' h
  unfold f_Reader_stop_16 at h
  refine m_R_sg (by decide) [(.aload_n 0, 1, 0, 0, 0, 0, 0), (.iconst 1, 1, 0, 1, 0, 0, 0), (.putfield 34, 3, 0, 5, 8, 0, 604)] (by decide +kernel) (show m_sgl X _ _ _ _ _ = some (21, [some (.ref 114)], [], (SH, (m_up m.1 114 8 (1 : Int32)), m.2)) from rfl) ?_
  obtain ⟨rfl, rfl⟩ := m_some h
  exact m_R_vret (by decide) (m_opb_of (ins := .return_) (len := 1) (tag := 3) (a := 0) (b := 0) (c := 0) (q := 0) (by decide +kernel))
def f_Reader_stop (F : Nat)    (m : mM) : Option (Unit × mM) := (if (m.1 114 7) = (-1 : Int32) then f_Reader_stop_16 F ((m_up m.1 114 7 (m.1 114 9)), m.2) else f_Reader_stop_16 F m)
theorem ok_Reader_stop (X : mX) (d F : Nat) : ∀   (m : mM) (r : Unit) (m' : mM), f_Reader_stop F  m = some (r, m') → m_R X (d + 0) 130 0 [some (.ref 114)] [] (SH, m) (none, (SH, m')) := by
  intro m r m' h
  unfold f_Reader_stop at h
  refine m_R_sg (by decide) [(.aload_n 0, 1, 0, 0, 0, 0, 0), (.getfield 28, 3, 0, 5, 7, 0, 603), (.iconst (-1), 1, 0, 1, 1, 0, 0)] (by decide +kernel) (show m_sgl X _ _ _ _ _ = some (5, [some (.ref 114)], [.int (-1 : Int32), .int (m.1 114 7)], (SH, m.1, m.2)) from rfl) ?_
  rcases m_ite h with ⟨c141, h⟩ | ⟨c141, h⟩
  · refine m_R_1 (by decide) (m_opb_of (ins := .if_icmp .ne 11) (len := 3) (tag := 0) (a := 16) (b := 0) (c := 0) (q := 0) (by decide +kernel)) (if_pos c141) ?_
    refine m_R_sg (by decide) [(.aload_n 0, 1, 0, 0, 0, 0, 0), (.aload_n 0, 1, 0, 0, 0, 0, 0), (.getfield 53, 3, 0, 5, 9, 0, 605), (.putfield 28, 3, 0, 5, 7, 0, 603)] (by decide +kernel) (show m_sgl X _ _ _ _ _ = some (16, [some (.ref 114)], [], (SH, (m_up m.1 114 7 (m.1 114 9)), m.2)) from rfl) ?_
    exact ok_Reader_stop_16 X d F _ _ _ h
  · refine m_R_1 (by decide) (m_opb_of (ins := .if_icmp .ne 11) (len := 3) (tag := 0) (a := 16) (b := 0) (c := 0) (q := 0) (by decide +kernel)) (if_neg c141) ?_
    exact ok_Reader_stop_16 X d F _ _ _ h
def f_Texts_codeOfComparison (F : Nat)   (v0 : Int32) (m : mM) : Option (Int32 × mM) := (if v0 = (60 : Int32) then some ((-16 : Int32), m) else (if v0 = (61 : Int32) then some ((-15 : Int32), m) else (if v0 = (62 : Int32) then some ((-17 : Int32), m) else some ((0 : Int32), m))))
theorem ok_Texts_codeOfComparison (X : mX) (d F : Nat) : ∀ (v0 : Int32)  (m : mM) (r : Int32) (m' : mM), f_Texts_codeOfComparison F v0 m = some (r, m') → m_R X (d + 0) 138 0 [some (.int v0)] [] (SH, m) (some (.int r), (SH, m')) := by
  intro v0 m r m' h
  unfold f_Texts_codeOfComparison at h
  refine m_R_sg (by decide) [(.iload_n 0, 1, 0, 0, 0, 0, 0)] (by decide +kernel) (show m_sgl X _ _ _ _ _ = some (1, [some (.int v0)], [.int v0], (SH, m.1, m.2)) from rfl) ?_
  rcases m_ite h with ⟨c0, h⟩ | ⟨d0, h⟩
  · refine m_R_1 (by decide) (m_opb_of (ins := .tableswitch 36 60 62 #[30, 27, 33]) (len := 27) (tag := 0) (a := 0) (b := 0) (c := 0) (q := 0) (by decide +kernel)) (m_s_sw (by rw [c0]; decide) (by rw [c0]; rfl) (by decide) (t := 31) rfl) ?_
    refine m_R_sg (by decide) [(.bipush (-16), 2, 0, 16, 1, 0, 0)] (by decide +kernel) (show m_sgl X _ _ _ _ _ = some (33, [some (.int v0)], [.int (-16 : Int32)], (SH, m.1, m.2)) from rfl) ?_
    obtain ⟨rfl, rfl⟩ := m_some h
    exact m_R_iret (by decide) (m_opb_of (ins := .ireturn) (len := 1) (tag := 1) (a := 0) (b := 0) (c := 0) (q := 0) (by decide +kernel)) (Or.inl rfl)
  rcases m_ite h with ⟨c0, h⟩ | ⟨d1, h⟩
  · refine m_R_1 (by decide) (m_opb_of (ins := .tableswitch 36 60 62 #[30, 27, 33]) (len := 27) (tag := 0) (a := 0) (b := 0) (c := 0) (q := 0) (by decide +kernel)) (m_s_sw (by rw [c0]; decide) (by rw [c0]; rfl) (by decide) (t := 28) rfl) ?_
    refine m_R_sg (by decide) [(.bipush (-15), 2, 0, 15, 1, 0, 0)] (by decide +kernel) (show m_sgl X _ _ _ _ _ = some (30, [some (.int v0)], [.int (-15 : Int32)], (SH, m.1, m.2)) from rfl) ?_
    obtain ⟨rfl, rfl⟩ := m_some h
    exact m_R_iret (by decide) (m_opb_of (ins := .ireturn) (len := 1) (tag := 1) (a := 0) (b := 0) (c := 0) (q := 0) (by decide +kernel)) (Or.inl rfl)
  rcases m_ite h with ⟨c0, h⟩ | ⟨d2, h⟩
  · refine m_R_1 (by decide) (m_opb_of (ins := .tableswitch 36 60 62 #[30, 27, 33]) (len := 27) (tag := 0) (a := 0) (b := 0) (c := 0) (q := 0) (by decide +kernel)) (m_s_sw (by rw [c0]; decide) (by rw [c0]; rfl) (by decide) (t := 34) rfl) ?_
    refine m_R_sg (by decide) [(.bipush (-17), 2, 0, 17, 1, 0, 0)] (by decide +kernel) (show m_sgl X _ _ _ _ _ = some (36, [some (.int v0)], [.int (-17 : Int32)], (SH, m.1, m.2)) from rfl) ?_
    obtain ⟨rfl, rfl⟩ := m_some h
    exact m_R_iret (by decide) (m_opb_of (ins := .ireturn) (len := 1) (tag := 1) (a := 0) (b := 0) (c := 0) (q := 0) (by decide +kernel)) (Or.inl rfl)
  refine m_R_1 (by decide) (m_opb_of (ins := .tableswitch 36 60 62 #[30, 27, 33]) (len := 27) (tag := 0) (a := 0) (b := 0) (c := 0) (q := 0) (by decide +kernel)) (m_s_swd (m_swx 3 (fun j hj => match j, hj with | 0, _ => fun e => d0 (e.trans (by decide)) | 1, _ => fun e => d1 (e.trans (by decide)) | 2, _ => fun e => d2 (e.trans (by decide)) | j + 3, hj => absurd hj (by omega))) (by decide) (t := 37) rfl) ?_
  refine m_R_sg (by decide) [(.iconst 0, 1, 0, 0, 0, 0, 0)] (by decide +kernel) (show m_sgl X _ _ _ _ _ = some (38, [some (.int v0)], [.int (0 : Int32)], (SH, m.1, m.2)) from rfl) ?_
  obtain ⟨rfl, rfl⟩ := m_some h
  exact m_R_iret (by decide) (m_opb_of (ins := .ireturn) (len := 1) (tag := 1) (a := 0) (b := 0) (c := 0) (q := 0) (by decide +kernel)) (Or.inl rfl)
def f_Reader_readOrs_43 (F : Nat) (g : Nat → Int32 → mM → Option (Unit × mM))   (m : mM) : Option (Unit × mM) := some ((), m)
theorem ok_Reader_readOrs_43 (X : mX) (d F : Nat) (g : Nat → Int32 → mM → Option (Unit × mM)) (hg131 : ∀ (v1 : Int32) (m : mM) (r : Unit) (m' : mM), g 131 v1 m = some (r, m') → m_R X (d + 5) 131 0 [some (.ref 114), some (.int v1), none] [] (SH, m) (none, (SH, m'))) (hg132 : ∀ (v1 : Int32) (m : mM) (r : Unit) (m' : mM), g 132 v1 m = some (r, m') → m_R X (d + 5) 132 0 [some (.ref 114), some (.int v1), none] [] (SH, m) (none, (SH, m'))) (hg133 : ∀ (v1 : Int32) (m : mM) (r : Unit) (m' : mM), g 133 v1 m = some (r, m') → m_R X (d + 5) 133 0 [some (.ref 114), some (.int v1), none] [] (SH, m) (none, (SH, m'))) (hg135 : ∀ (v1 : Int32) (m : mM) (r : Unit) (m' : mM), g 135 v1 m = some (r, m') → m_R X (d + 5) 135 0 [some (.ref 114), some (.int v1), none, none] [] (SH, m) (none, (SH, m'))) (hg136 : ∀ (v1 : Int32) (m : mM) (r : Unit) (m' : mM), g 136 v1 m = some (r, m') → m_R X (d + 5) 136 0 [some (.ref 114), some (.int v1), none, none] [] (SH, m) (none, (SH, m'))) (hg137 : ∀ (v1 : Int32) (m : mM) (r : Unit) (m' : mM), g 137 v1 m = some (r, m') → m_R X (d + 5) 137 0 [some (.ref 114), some (.int v1), none] [] (SH, m) (none, (SH, m'))) : ∀  (w0 : Option Value) (w1 : Option Value) (w2 : Option Value) (m : mM) (r : Unit) (m' : mM), f_Reader_readOrs_43 F g  m = some (r, m') → m_R X (d + 6) 131 43 [w0, w1, w2] [] (SH, m) (none, (SH, m')) := by
  intro w0 w1 w2 m r m' h
  unfold f_Reader_readOrs_43 at h
  obtain ⟨rfl, rfl⟩ := m_some h
  exact m_R_vret (by decide) (m_opb_of (ins := .return_) (len := 1) (tag := 3) (a := 0) (b := 0) (c := 0) (q := 0) (by decide +kernel))
def f_Reader_readOrs_7 (F : Nat) (g : Nat → Int32 → mM → Option (Unit × mM))  : Nat → Int32 → Int32 → mM → Option (Unit × mM)
  | 0, _, _, _ => none
  | n + 1, v1, v2, m => (if (120 : Int32) ≤ v2 then f_Reader_readOrs_43 F g m else (if (m.1 114 8) = (6 : Int32) then ((f_Reader_nextToken F m).bind fun q2 => ((g 132 v1 q2.2).bind fun q3 => ((f_Reader_addCode F (-13 : Int32) q3.2).bind fun q4 => f_Reader_readOrs_7 F g n v1 (v2 + (1 : Int32)) q4.2))) else f_Reader_readOrs_43 F g m))
theorem ok_Reader_readOrs_7 (X : mX) (d F : Nat) (g : Nat → Int32 → mM → Option (Unit × mM)) (hg131 : ∀ (v1 : Int32) (m : mM) (r : Unit) (m' : mM), g 131 v1 m = some (r, m') → m_R X (d + 5) 131 0 [some (.ref 114), some (.int v1), none] [] (SH, m) (none, (SH, m'))) (hg132 : ∀ (v1 : Int32) (m : mM) (r : Unit) (m' : mM), g 132 v1 m = some (r, m') → m_R X (d + 5) 132 0 [some (.ref 114), some (.int v1), none] [] (SH, m) (none, (SH, m'))) (hg133 : ∀ (v1 : Int32) (m : mM) (r : Unit) (m' : mM), g 133 v1 m = some (r, m') → m_R X (d + 5) 133 0 [some (.ref 114), some (.int v1), none] [] (SH, m) (none, (SH, m'))) (hg135 : ∀ (v1 : Int32) (m : mM) (r : Unit) (m' : mM), g 135 v1 m = some (r, m') → m_R X (d + 5) 135 0 [some (.ref 114), some (.int v1), none, none] [] (SH, m) (none, (SH, m'))) (hg136 : ∀ (v1 : Int32) (m : mM) (r : Unit) (m' : mM), g 136 v1 m = some (r, m') → m_R X (d + 5) 136 0 [some (.ref 114), some (.int v1), none, none] [] (SH, m) (none, (SH, m'))) (hg137 : ∀ (v1 : Int32) (m : mM) (r : Unit) (m' : mM), g 137 v1 m = some (r, m') → m_R X (d + 5) 137 0 [some (.ref 114), some (.int v1), none] [] (SH, m) (none, (SH, m'))) : ∀ (n : Nat) (v1 : Int32) (v2 : Int32)  (m : mM) (r : Unit) (m' : mM), f_Reader_readOrs_7 F g n v1 v2 m = some (r, m') → m_R X (d + 6) 131 7 [some (.ref 114), some (.int v1), some (.int v2)] [] (SH, m) (none, (SH, m')) := by
  intro n
  induction n with
  | zero => intro v1 v2 m r m' h; cases h
  | succ n ih =>
    intro v1 v2 m r m' h
    simp only [f_Reader_readOrs_7] at h
    refine m_R_sg (by decide) [(.iload_n 2, 1, 0, 2, 0, 0, 0), (.bipush 120, 2, 0, 120, 0, 0, 0)] (by decide +kernel) (show m_sgl X _ _ _ _ _ = some (10, [some (.ref 114), some (.int v1), some (.int v2)], [.int (120 : Int32), .int v2], (SH, m.1, m.2)) from rfl) ?_
    rcases m_ite h with ⟨c142, h⟩ | ⟨c142, h⟩
    · refine m_R_1 (by decide) (m_opb_of (ins := .if_icmp .ge 33) (len := 3) (tag := 0) (a := 43) (b := 0) (c := 0) (q := 0) (by decide +kernel)) (if_pos c142) ?_
      exact ok_Reader_readOrs_43 X d F g hg131 hg132 hg133 hg135 hg136 hg137 _ _ _ _ _ _ h
    · refine m_R_1 (by decide) (m_opb_of (ins := .if_icmp .ge 33) (len := 3) (tag := 0) (a := 43) (b := 0) (c := 0) (q := 0) (by decide +kernel)) (if_neg c142) ?_
      refine m_R_sg (by decide) [(.aload_n 0, 1, 0, 0, 0, 0, 0), (.getfield 34, 3, 0, 5, 8, 0, 604), (.bipush 6, 2, 0, 6, 0, 0, 0)] (by decide +kernel) (show m_sgl X _ _ _ _ _ = some (19, [some (.ref 114), some (.int v1), some (.int v2)], [.int (6 : Int32), .int (m.1 114 8)], (SH, m.1, m.2)) from rfl) ?_
      rcases m_ite h with ⟨c143, h⟩ | ⟨c143, h⟩
      · refine m_R_1 (by decide) (m_opb_of (ins := .if_icmp .ne 24) (len := 3) (tag := 0) (a := 43) (b := 0) (c := 0) (q := 0) (by decide +kernel)) (if_pos c143) ?_
        refine m_R_sg (by decide) [(.aload_n 0, 1, 0, 0, 0, 0, 0)] (by decide +kernel) (show m_sgl X _ _ _ _ _ = some (23, [some (.ref 114), some (.int v1), some (.int v2)], [.ref 114], (SH, m.1, m.2)) from rfl) ?_
        obtain ⟨q2, hc2, h⟩ := Option.bind_eq_some_iff.mp h
        refine m_R_cV (v := none) (h1 := (SH, q2.2)) (rest := []) (lo' := [some (.ref 114)]) (ml := 1) (k0 := 114) (by decide) (Or.inl rfl) (m_opb_of (ins := .invokevirtual 31) (len := 3) (tag := 5) (a := 123) (b := 0) (c := 0) (q := 1119) (by decide +kernel)) (by decide +kernel) rfl (show m_isO 123 114 (SH, _) = true from m_isO_of (by decide +kernel)) (Nat.le_of_ble_eq_true rfl) rfl rfl (ok_Reader_nextToken X (d + 0) F _ _ _ hc2) ?_
        refine m_R_sg (by decide) [(.aload_n 0, 1, 0, 0, 0, 0, 0), (.iload_n 1, 1, 0, 1, 0, 0, 0)] (by decide +kernel) (show m_sgl X _ _ _ _ _ = some (28, [some (.ref 114), some (.int v1), some (.int v2)], [.int v1, .ref 114], (SH, q2.2.1, q2.2.2)) from rfl) ?_
        obtain ⟨q3, hc3, h⟩ := Option.bind_eq_some_iff.mp h
        refine m_R_cV (v := none) (h1 := (SH, q3.2)) (rest := []) (lo' := [some (.ref 114), some (.int v1), none]) (ml := 3) (k0 := 114) (by decide) (Or.inl rfl) (m_opb_of (ins := .invokevirtual 56) (len := 3) (tag := 5) (a := 132) (b := 1) (c := 0) (q := 1201) (by decide +kernel)) (by decide +kernel) rfl (show m_isO 132 114 (SH, _) = true from m_isO_of (by decide +kernel)) (Nat.le_of_ble_eq_true rfl) rfl rfl (hg132 _ _ _ _ hc3) ?_
        refine m_R_sg (by decide) [(.aload_n 0, 1, 0, 0, 0, 0, 0), (.bipush (-13), 2, 0, 13, 1, 0, 0)] (by decide +kernel) (show m_sgl X _ _ _ _ _ = some (34, [some (.ref 114), some (.int v1), some (.int v2)], [.int (-13 : Int32), .ref 114], (SH, q3.2.1, q3.2.2)) from rfl) ?_
        obtain ⟨q4, hc4, h⟩ := Option.bind_eq_some_iff.mp h
        refine m_R_cV (v := none) (h1 := (SH, q4.2)) (rest := []) (lo' := [some (.ref 114), some (.int (-13 : Int32))]) (ml := 2) (k0 := 114) (by decide) (Or.inl rfl) (m_opb_of (ins := .invokevirtual 61) (len := 3) (tag := 5) (a := 134) (b := 1) (c := 0) (q := 1209) (by decide +kernel)) (by decide +kernel) rfl (show m_isO 134 114 (SH, _) = true from m_isO_of (by decide +kernel)) (Nat.le_of_ble_eq_true rfl) rfl rfl (ok_Reader_addCode X (d + 5) F _ _ _ _ hc4) ?_
        refine m_R_sg (by decide) [(.iinc 2 1, 3, 0, 2, 1, 0, 0), (.goto (-33), 3, 0, 7, 0, 0, 0)] (by decide +kernel) (show m_sgl X _ _ _ _ _ = some (7, [some (.ref 114), some (.int v1), some (.int (v2 + (1 : Int32)))], [], (SH, q4.2.1, q4.2.2)) from rfl) ?_
        exact ih _ _ _ _ _ h
      · refine m_R_1 (by decide) (m_opb_of (ins := .if_icmp .ne 24) (len := 3) (tag := 0) (a := 43) (b := 0) (c := 0) (q := 0) (by decide +kernel)) (if_neg c143) ?_
        exact ok_Reader_readOrs_43 X d F g hg131 hg132 hg133 hg135 hg136 hg137 _ _ _ _ _ _ h
def f_Reader_readOrs (F : Nat) (g : Nat → Int32 → mM → Option (Unit × mM))  (v1 : Int32) (m : mM) : Option (Unit × mM) := ((g 132 v1 m).bind fun q1 => f_Reader_readOrs_7 F g F v1 (0 : Int32) q1.2)
theorem ok_Reader_readOrs (X : mX) (d F : Nat) (g : Nat → Int32 → mM → Option (Unit × mM)) (hg131 : ∀ (v1 : Int32) (m : mM) (r : Unit) (m' : mM), g 131 v1 m = some (r, m') → m_R X (d + 5) 131 0 [some (.ref 114), some (.int v1), none] [] (SH, m) (none, (SH, m'))) (hg132 : ∀ (v1 : Int32) (m : mM) (r : Unit) (m' : mM), g 132 v1 m = some (r, m') → m_R X (d + 5) 132 0 [some (.ref 114), some (.int v1), none] [] (SH, m) (none, (SH, m'))) (hg133 : ∀ (v1 : Int32) (m : mM) (r : Unit) (m' : mM), g 133 v1 m = some (r, m') → m_R X (d + 5) 133 0 [some (.ref 114), some (.int v1), none] [] (SH, m) (none, (SH, m'))) (hg135 : ∀ (v1 : Int32) (m : mM) (r : Unit) (m' : mM), g 135 v1 m = some (r, m') → m_R X (d + 5) 135 0 [some (.ref 114), some (.int v1), none, none] [] (SH, m) (none, (SH, m'))) (hg136 : ∀ (v1 : Int32) (m : mM) (r : Unit) (m' : mM), g 136 v1 m = some (r, m') → m_R X (d + 5) 136 0 [some (.ref 114), some (.int v1), none, none] [] (SH, m) (none, (SH, m'))) (hg137 : ∀ (v1 : Int32) (m : mM) (r : Unit) (m' : mM), g 137 v1 m = some (r, m') → m_R X (d + 5) 137 0 [some (.ref 114), some (.int v1), none] [] (SH, m) (none, (SH, m'))) : ∀ (v1 : Int32)  (m : mM) (r : Unit) (m' : mM), f_Reader_readOrs F g v1 m = some (r, m') → m_R X (d + 6) 131 0 [some (.ref 114), some (.int v1), none] [] (SH, m) (none, (SH, m')) := by
  intro v1 m r m' h
  unfold f_Reader_readOrs at h
  refine m_R_sg (by decide) [(.aload_n 0, 1, 0, 0, 0, 0, 0), (.iload_n 1, 1, 0, 1, 0, 0, 0)] (by decide +kernel) (show m_sgl X _ _ _ _ _ = some (2, [some (.ref 114), some (.int v1), none], [.int v1, .ref 114], (SH, m.1, m.2)) from rfl) ?_
  obtain ⟨q1, hc1, h⟩ := Option.bind_eq_some_iff.mp h
  refine m_R_cV (v := none) (h1 := (SH, q1.2)) (rest := []) (lo' := [some (.ref 114), some (.int v1), none]) (ml := 3) (k0 := 114) (by decide) (Or.inl rfl) (m_opb_of (ins := .invokevirtual 56) (len := 3) (tag := 5) (a := 132) (b := 1) (c := 0) (q := 1201) (by decide +kernel)) (by decide +kernel) rfl (show m_isO 132 114 (SH, _) = true from m_isO_of (by decide +kernel)) (Nat.le_of_ble_eq_true rfl) rfl rfl (hg132 _ _ _ _ hc1) ?_
  refine m_R_sg (by decide) [(.iconst 0, 1, 0, 0, 0, 0, 0), (.istore_n 2, 1, 0, 2, 0, 0, 0)] (by decide +kernel) (show m_sgl X _ _ _ _ _ = some (7, [some (.ref 114), some (.int v1), some (.int (0 : Int32))], [], (SH, q1.2.1, q1.2.2)) from rfl) ?_
  exact ok_Reader_readOrs_7 X d F g hg131 hg132 hg133 hg135 hg136 hg137 F _ _ _ _ _ h
def f_Reader_readAnds_43 (F : Nat) (g : Nat → Int32 → mM → Option (Unit × mM))   (m : mM) : Option (Unit × mM) := some ((), m)
theorem ok_Reader_readAnds_43 (X : mX) (d F : Nat) (g : Nat → Int32 → mM → Option (Unit × mM)) (hg131 : ∀ (v1 : Int32) (m : mM) (r : Unit) (m' : mM), g 131 v1 m = some (r, m') → m_R X (d + 5) 131 0 [some (.ref 114), some (.int v1), none] [] (SH, m) (none, (SH, m'))) (hg132 : ∀ (v1 : Int32) (m : mM) (r : Unit) (m' : mM), g 132 v1 m = some (r, m') → m_R X (d + 5) 132 0 [some (.ref 114), some (.int v1), none] [] (SH, m) (none, (SH, m'))) (hg133 : ∀ (v1 : Int32) (m : mM) (r : Unit) (m' : mM), g 133 v1 m = some (r, m') → m_R X (d + 5) 133 0 [some (.ref 114), some (.int v1), none] [] (SH, m) (none, (SH, m'))) (hg135 : ∀ (v1 : Int32) (m : mM) (r : Unit) (m' : mM), g 135 v1 m = some (r, m') → m_R X (d + 5) 135 0 [some (.ref 114), some (.int v1), none, none] [] (SH, m) (none, (SH, m'))) (hg136 : ∀ (v1 : Int32) (m : mM) (r : Unit) (m' : mM), g 136 v1 m = some (r, m') → m_R X (d + 5) 136 0 [some (.ref 114), some (.int v1), none, none] [] (SH, m) (none, (SH, m'))) (hg137 : ∀ (v1 : Int32) (m : mM) (r : Unit) (m' : mM), g 137 v1 m = some (r, m') → m_R X (d + 5) 137 0 [some (.ref 114), some (.int v1), none] [] (SH, m) (none, (SH, m'))) : ∀  (w0 : Option Value) (w1 : Option Value) (w2 : Option Value) (m : mM) (r : Unit) (m' : mM), f_Reader_readAnds_43 F g  m = some (r, m') → m_R X (d + 6) 132 43 [w0, w1, w2] [] (SH, m) (none, (SH, m')) := by
  intro w0 w1 w2 m r m' h
  unfold f_Reader_readAnds_43 at h
  obtain ⟨rfl, rfl⟩ := m_some h
  exact m_R_vret (by decide) (m_opb_of (ins := .return_) (len := 1) (tag := 3) (a := 0) (b := 0) (c := 0) (q := 0) (by decide +kernel))
def f_Reader_readAnds_7 (F : Nat) (g : Nat → Int32 → mM → Option (Unit × mM))  : Nat → Int32 → Int32 → mM → Option (Unit × mM)
  | 0, _, _, _ => none
  | n + 1, v1, v2, m => (if (120 : Int32) ≤ v2 then f_Reader_readAnds_43 F g m else (if (m.1 114 8) = (7 : Int32) then ((f_Reader_nextToken F m).bind fun q2 => ((g 133 v1 q2.2).bind fun q3 => ((f_Reader_addCode F (-14 : Int32) q3.2).bind fun q4 => f_Reader_readAnds_7 F g n v1 (v2 + (1 : Int32)) q4.2))) else f_Reader_readAnds_43 F g m))
theorem ok_Reader_readAnds_7 (X : mX) (d F : Nat) (g : Nat → Int32 → mM → Option (Unit × mM)) (hg131 : ∀ (v1 : Int32) (m : mM) (r : Unit) (m' : mM), g 131 v1 m = some (r, m') → m_R X (d + 5) 131 0 [some (.ref 114), some (.int v1), none] [] (SH, m) (none, (SH, m'))) (hg132 : ∀ (v1 : Int32) (m : mM) (r : Unit) (m' : mM), g 132 v1 m = some (r, m') → m_R X (d + 5) 132 0 [some (.ref 114), some (.int v1), none] [] (SH, m) (none, (SH, m'))) (hg133 : ∀ (v1 : Int32) (m : mM) (r : Unit) (m' : mM), g 133 v1 m = some (r, m') → m_R X (d + 5) 133 0 [some (.ref 114), some (.int v1), none] [] (SH, m) (none, (SH, m'))) (hg135 : ∀ (v1 : Int32) (m : mM) (r : Unit) (m' : mM), g 135 v1 m = some (r, m') → m_R X (d + 5) 135 0 [some (.ref 114), some (.int v1), none, none] [] (SH, m) (none, (SH, m'))) (hg136 : ∀ (v1 : Int32) (m : mM) (r : Unit) (m' : mM), g 136 v1 m = some (r, m') → m_R X (d + 5) 136 0 [some (.ref 114), some (.int v1), none, none] [] (SH, m) (none, (SH, m'))) (hg137 : ∀ (v1 : Int32) (m : mM) (r : Unit) (m' : mM), g 137 v1 m = some (r, m') → m_R X (d + 5) 137 0 [some (.ref 114), some (.int v1), none] [] (SH, m) (none, (SH, m'))) : ∀ (n : Nat) (v1 : Int32) (v2 : Int32)  (m : mM) (r : Unit) (m' : mM), f_Reader_readAnds_7 F g n v1 v2 m = some (r, m') → m_R X (d + 6) 132 7 [some (.ref 114), some (.int v1), some (.int v2)] [] (SH, m) (none, (SH, m')) := by
  intro n
  induction n with
  | zero => intro v1 v2 m r m' h; cases h
  | succ n ih =>
    intro v1 v2 m r m' h
    simp only [f_Reader_readAnds_7] at h
    refine m_R_sg (by decide) [(.iload_n 2, 1, 0, 2, 0, 0, 0), (.bipush 120, 2, 0, 120, 0, 0, 0)] (by decide +kernel) (show m_sgl X _ _ _ _ _ = some (10, [some (.ref 114), some (.int v1), some (.int v2)], [.int (120 : Int32), .int v2], (SH, m.1, m.2)) from rfl) ?_
    rcases m_ite h with ⟨c144, h⟩ | ⟨c144, h⟩
    · refine m_R_1 (by decide) (m_opb_of (ins := .if_icmp .ge 33) (len := 3) (tag := 0) (a := 43) (b := 0) (c := 0) (q := 0) (by decide +kernel)) (if_pos c144) ?_
      exact ok_Reader_readAnds_43 X d F g hg131 hg132 hg133 hg135 hg136 hg137 _ _ _ _ _ _ h
    · refine m_R_1 (by decide) (m_opb_of (ins := .if_icmp .ge 33) (len := 3) (tag := 0) (a := 43) (b := 0) (c := 0) (q := 0) (by decide +kernel)) (if_neg c144) ?_
      refine m_R_sg (by decide) [(.aload_n 0, 1, 0, 0, 0, 0, 0), (.getfield 34, 3, 0, 5, 8, 0, 604), (.bipush 7, 2, 0, 7, 0, 0, 0)] (by decide +kernel) (show m_sgl X _ _ _ _ _ = some (19, [some (.ref 114), some (.int v1), some (.int v2)], [.int (7 : Int32), .int (m.1 114 8)], (SH, m.1, m.2)) from rfl) ?_
      rcases m_ite h with ⟨c145, h⟩ | ⟨c145, h⟩
      · refine m_R_1 (by decide) (m_opb_of (ins := .if_icmp .ne 24) (len := 3) (tag := 0) (a := 43) (b := 0) (c := 0) (q := 0) (by decide +kernel)) (if_pos c145) ?_
        refine m_R_sg (by decide) [(.aload_n 0, 1, 0, 0, 0, 0, 0)] (by decide +kernel) (show m_sgl X _ _ _ _ _ = some (23, [some (.ref 114), some (.int v1), some (.int v2)], [.ref 114], (SH, m.1, m.2)) from rfl) ?_
        obtain ⟨q2, hc2, h⟩ := Option.bind_eq_some_iff.mp h
        refine m_R_cV (v := none) (h1 := (SH, q2.2)) (rest := []) (lo' := [some (.ref 114)]) (ml := 1) (k0 := 114) (by decide) (Or.inl rfl) (m_opb_of (ins := .invokevirtual 31) (len := 3) (tag := 5) (a := 123) (b := 0) (c := 0) (q := 1119) (by decide +kernel)) (by decide +kernel) rfl (show m_isO 123 114 (SH, _) = true from m_isO_of (by decide +kernel)) (Nat.le_of_ble_eq_true rfl) rfl rfl (ok_Reader_nextToken X (d + 0) F _ _ _ hc2) ?_
        refine m_R_sg (by decide) [(.aload_n 0, 1, 0, 0, 0, 0, 0), (.iload_n 1, 1, 0, 1, 0, 0, 0)] (by decide +kernel) (show m_sgl X _ _ _ _ _ = some (28, [some (.ref 114), some (.int v1), some (.int v2)], [.int v1, .ref 114], (SH, q2.2.1, q2.2.2)) from rfl) ?_
        obtain ⟨q3, hc3, h⟩ := Option.bind_eq_some_iff.mp h
        refine m_R_cV (v := none) (h1 := (SH, q3.2)) (rest := []) (lo' := [some (.ref 114), some (.int v1), none]) (ml := 3) (k0 := 114) (by decide) (Or.inl rfl) (m_opb_of (ins := .invokevirtual 64) (len := 3) (tag := 5) (a := 133) (b := 1) (c := 0) (q := 1205) (by decide +kernel)) (by decide +kernel) rfl (show m_isO 133 114 (SH, _) = true from m_isO_of (by decide +kernel)) (Nat.le_of_ble_eq_true rfl) rfl rfl (hg133 _ _ _ _ hc3) ?_
        refine m_R_sg (by decide) [(.aload_n 0, 1, 0, 0, 0, 0, 0), (.bipush (-14), 2, 0, 14, 1, 0, 0)] (by decide +kernel) (show m_sgl X _ _ _ _ _ = some (34, [some (.ref 114), some (.int v1), some (.int v2)], [.int (-14 : Int32), .ref 114], (SH, q3.2.1, q3.2.2)) from rfl) ?_
        obtain ⟨q4, hc4, h⟩ := Option.bind_eq_some_iff.mp h
        refine m_R_cV (v := none) (h1 := (SH, q4.2)) (rest := []) (lo' := [some (.ref 114), some (.int (-14 : Int32))]) (ml := 2) (k0 := 114) (by decide) (Or.inl rfl) (m_opb_of (ins := .invokevirtual 61) (len := 3) (tag := 5) (a := 134) (b := 1) (c := 0) (q := 1209) (by decide +kernel)) (by decide +kernel) rfl (show m_isO 134 114 (SH, _) = true from m_isO_of (by decide +kernel)) (Nat.le_of_ble_eq_true rfl) rfl rfl (ok_Reader_addCode X (d + 5) F _ _ _ _ hc4) ?_
        refine m_R_sg (by decide) [(.iinc 2 1, 3, 0, 2, 1, 0, 0), (.goto (-33), 3, 0, 7, 0, 0, 0)] (by decide +kernel) (show m_sgl X _ _ _ _ _ = some (7, [some (.ref 114), some (.int v1), some (.int (v2 + (1 : Int32)))], [], (SH, q4.2.1, q4.2.2)) from rfl) ?_
        exact ih _ _ _ _ _ h
      · refine m_R_1 (by decide) (m_opb_of (ins := .if_icmp .ne 24) (len := 3) (tag := 0) (a := 43) (b := 0) (c := 0) (q := 0) (by decide +kernel)) (if_neg c145) ?_
        exact ok_Reader_readAnds_43 X d F g hg131 hg132 hg133 hg135 hg136 hg137 _ _ _ _ _ _ h
def f_Reader_readAnds (F : Nat) (g : Nat → Int32 → mM → Option (Unit × mM))  (v1 : Int32) (m : mM) : Option (Unit × mM) := ((g 133 v1 m).bind fun q1 => f_Reader_readAnds_7 F g F v1 (0 : Int32) q1.2)
theorem ok_Reader_readAnds (X : mX) (d F : Nat) (g : Nat → Int32 → mM → Option (Unit × mM)) (hg131 : ∀ (v1 : Int32) (m : mM) (r : Unit) (m' : mM), g 131 v1 m = some (r, m') → m_R X (d + 5) 131 0 [some (.ref 114), some (.int v1), none] [] (SH, m) (none, (SH, m'))) (hg132 : ∀ (v1 : Int32) (m : mM) (r : Unit) (m' : mM), g 132 v1 m = some (r, m') → m_R X (d + 5) 132 0 [some (.ref 114), some (.int v1), none] [] (SH, m) (none, (SH, m'))) (hg133 : ∀ (v1 : Int32) (m : mM) (r : Unit) (m' : mM), g 133 v1 m = some (r, m') → m_R X (d + 5) 133 0 [some (.ref 114), some (.int v1), none] [] (SH, m) (none, (SH, m'))) (hg135 : ∀ (v1 : Int32) (m : mM) (r : Unit) (m' : mM), g 135 v1 m = some (r, m') → m_R X (d + 5) 135 0 [some (.ref 114), some (.int v1), none, none] [] (SH, m) (none, (SH, m'))) (hg136 : ∀ (v1 : Int32) (m : mM) (r : Unit) (m' : mM), g 136 v1 m = some (r, m') → m_R X (d + 5) 136 0 [some (.ref 114), some (.int v1), none, none] [] (SH, m) (none, (SH, m'))) (hg137 : ∀ (v1 : Int32) (m : mM) (r : Unit) (m' : mM), g 137 v1 m = some (r, m') → m_R X (d + 5) 137 0 [some (.ref 114), some (.int v1), none] [] (SH, m) (none, (SH, m'))) : ∀ (v1 : Int32)  (m : mM) (r : Unit) (m' : mM), f_Reader_readAnds F g v1 m = some (r, m') → m_R X (d + 6) 132 0 [some (.ref 114), some (.int v1), none] [] (SH, m) (none, (SH, m')) := by
  intro v1 m r m' h
  unfold f_Reader_readAnds at h
  refine m_R_sg (by decide) [(.aload_n 0, 1, 0, 0, 0, 0, 0), (.iload_n 1, 1, 0, 1, 0, 0, 0)] (by decide +kernel) (show m_sgl X _ _ _ _ _ = some (2, [some (.ref 114), some (.int v1), none], [.int v1, .ref 114], (SH, m.1, m.2)) from rfl) ?_
  obtain ⟨q1, hc1, h⟩ := Option.bind_eq_some_iff.mp h
  refine m_R_cV (v := none) (h1 := (SH, q1.2)) (rest := []) (lo' := [some (.ref 114), some (.int v1), none]) (ml := 3) (k0 := 114) (by decide) (Or.inl rfl) (m_opb_of (ins := .invokevirtual 64) (len := 3) (tag := 5) (a := 133) (b := 1) (c := 0) (q := 1205) (by decide +kernel)) (by decide +kernel) rfl (show m_isO 133 114 (SH, _) = true from m_isO_of (by decide +kernel)) (Nat.le_of_ble_eq_true rfl) rfl rfl (hg133 _ _ _ _ hc1) ?_
  refine m_R_sg (by decide) [(.iconst 0, 1, 0, 0, 0, 0, 0), (.istore_n 2, 1, 0, 2, 0, 0, 0)] (by decide +kernel) (show m_sgl X _ _ _ _ _ = some (7, [some (.ref 114), some (.int v1), some (.int (0 : Int32))], [], (SH, q1.2.1, q1.2.2)) from rfl) ?_
  exact ok_Reader_readAnds_7 X d F g hg131 hg132 hg133 hg135 hg136 hg137 F _ _ _ _ _ h
def f_Reader_readNot_69 (F : Nat) (g : Nat → Int32 → mM → Option (Unit × mM))   (m : mM) : Option (Unit × mM) := some ((), m)
theorem ok_Reader_readNot_69 (X : mX) (d F : Nat) (g : Nat → Int32 → mM → Option (Unit × mM)) (hg131 : ∀ (v1 : Int32) (m : mM) (r : Unit) (m' : mM), g 131 v1 m = some (r, m') → m_R X (d + 5) 131 0 [some (.ref 114), some (.int v1), none] [] (SH, m) (none, (SH, m'))) (hg132 : ∀ (v1 : Int32) (m : mM) (r : Unit) (m' : mM), g 132 v1 m = some (r, m') → m_R X (d + 5) 132 0 [some (.ref 114), some (.int v1), none] [] (SH, m) (none, (SH, m'))) (hg133 : ∀ (v1 : Int32) (m : mM) (r : Unit) (m' : mM), g 133 v1 m = some (r, m') → m_R X (d + 5) 133 0 [some (.ref 114), some (.int v1), none] [] (SH, m) (none, (SH, m'))) (hg135 : ∀ (v1 : Int32) (m : mM) (r : Unit) (m' : mM), g 135 v1 m = some (r, m') → m_R X (d + 5) 135 0 [some (.ref 114), some (.int v1), none, none] [] (SH, m) (none, (SH, m'))) (hg136 : ∀ (v1 : Int32) (m : mM) (r : Unit) (m' : mM), g 136 v1 m = some (r, m') → m_R X (d + 5) 136 0 [some (.ref 114), some (.int v1), none, none] [] (SH, m) (none, (SH, m'))) (hg137 : ∀ (v1 : Int32) (m : mM) (r : Unit) (m' : mM), g 137 v1 m = some (r, m') → m_R X (d + 5) 137 0 [some (.ref 114), some (.int v1), none] [] (SH, m) (none, (SH, m'))) : ∀  (w0 : Option Value) (w1 : Option Value) (w2 : Option Value) (m : mM) (r : Unit) (m' : mM), f_Reader_readNot_69 F g  m = some (r, m') → m_R X (d + 6) 133 69 [w0, w1, w2] [] (SH, m) (none, (SH, m')) := by
  intro w0 w1 w2 m r m' h
  unfold f_Reader_readNot_69 at h
  obtain ⟨rfl, rfl⟩ := m_some h
  exact m_R_vret (by decide) (m_opb_of (ins := .return_) (len := 1) (tag := 3) (a := 0) (b := 0) (c := 0) (q := 0) (by decide +kernel))
def f_Reader_readNot (F : Nat) (g : Nat → Int32 → mM → Option (Unit × mM))  (v1 : Int32) (m : mM) : Option (Unit × mM) := (if (m.1 114 8) = (8 : Int32) then (if v1 < (6 : Int32) then ((f_Reader_nextToken F m).bind fun q1 => ((g 133 (v1 + (1 : Int32)) q1.2).bind fun q2 => ((f_Reader_addCode F (-11 : Int32) q2.2).bind fun q3 => some ((), q3.2)))) else ((f_Reader_stop F m).bind fun q4 => some ((), q4.2))) else ((g 135 v1 m).bind fun q5 => ((f_Texts_codeOfComparison F (q5.2.1 114 8) q5.2).bind fun q6 => (if q6.1 = 0 then f_Reader_readNot_69 F g q6.2 else ((f_Reader_nextToken F q6.2).bind fun q7 => ((g 135 v1 q7.2).bind fun q8 => ((f_Reader_addCode F q6.1 q8.2).bind fun q9 => f_Reader_readNot_69 F g q9.2)))))))
theorem ok_Reader_readNot (X : mX) (d F : Nat) (g : Nat → Int32 → mM → Option (Unit × mM)) (hg131 : ∀ (v1 : Int32) (m : mM) (r : Unit) (m' : mM), g 131 v1 m = some (r, m') → m_R X (d + 5) 131 0 [some (.ref 114), some (.int v1), none] [] (SH, m) (none, (SH, m'))) (hg132 : ∀ (v1 : Int32) (m : mM) (r : Unit) (m' : mM), g 132 v1 m = some (r, m') → m_R X (d + 5) 132 0 [some (.ref 114), some (.int v1), none] [] (SH, m) (none, (SH, m'))) (hg133 : ∀ (v1 : Int32) (m : mM) (r : Unit) (m' : mM), g 133 v1 m = some (r, m') → m_R X (d + 5) 133 0 [some (.ref 114), some (.int v1), none] [] (SH, m) (none, (SH, m'))) (hg135 : ∀ (v1 : Int32) (m : mM) (r : Unit) (m' : mM), g 135 v1 m = some (r, m') → m_R X (d + 5) 135 0 [some (.ref 114), some (.int v1), none, none] [] (SH, m) (none, (SH, m'))) (hg136 : ∀ (v1 : Int32) (m : mM) (r : Unit) (m' : mM), g 136 v1 m = some (r, m') → m_R X (d + 5) 136 0 [some (.ref 114), some (.int v1), none, none] [] (SH, m) (none, (SH, m'))) (hg137 : ∀ (v1 : Int32) (m : mM) (r : Unit) (m' : mM), g 137 v1 m = some (r, m') → m_R X (d + 5) 137 0 [some (.ref 114), some (.int v1), none] [] (SH, m) (none, (SH, m'))) : ∀ (v1 : Int32)  (m : mM) (r : Unit) (m' : mM), f_Reader_readNot F g v1 m = some (r, m') → m_R X (d + 6) 133 0 [some (.ref 114), some (.int v1), none] [] (SH, m) (none, (SH, m')) := by
  intro v1 m r m' h
  unfold f_Reader_readNot at h
  refine m_R_sg (by decide) [(.aload_n 0, 1, 0, 0, 0, 0, 0), (.getfield 34, 3, 0, 5, 8, 0, 604), (.bipush 8, 2, 0, 8, 0, 0, 0)] (by decide +kernel) (show m_sgl X _ _ _ _ _ = some (6, [some (.ref 114), some (.int v1), none], [.int (8 : Int32), .int (m.1 114 8)], (SH, m.1, m.2)) from rfl) ?_
  rcases m_ite h with ⟨c146, h⟩ | ⟨c146, h⟩
  · refine m_R_1 (by decide) (m_opb_of (ins := .if_icmp .ne 32) (len := 3) (tag := 0) (a := 38) (b := 0) (c := 0) (q := 0) (by decide +kernel)) (if_pos c146) ?_
    refine m_R_sg (by decide) [(.iload_n 1, 1, 0, 1, 0, 0, 0), (.bipush 6, 2, 0, 6, 0, 0, 0)] (by decide +kernel) (show m_sgl X _ _ _ _ _ = some (12, [some (.ref 114), some (.int v1), none], [.int (6 : Int32), .int v1], (SH, m.1, m.2)) from rfl) ?_
    rcases m_ite h with ⟨c147, h⟩ | ⟨c147, h⟩
    · refine m_R_1 (by decide) (m_opb_of (ins := .if_icmp .lt 8) (len := 3) (tag := 0) (a := 20) (b := 0) (c := 0) (q := 0) (by decide +kernel)) (if_pos c147) ?_
      refine m_R_sg (by decide) [(.aload_n 0, 1, 0, 0, 0, 0, 0)] (by decide +kernel) (show m_sgl X _ _ _ _ _ = some (21, [some (.ref 114), some (.int v1), none], [.ref 114], (SH, m.1, m.2)) from rfl) ?_
      obtain ⟨q1, hc1, h⟩ := Option.bind_eq_some_iff.mp h
      refine m_R_cV (v := none) (h1 := (SH, q1.2)) (rest := []) (lo' := [some (.ref 114)]) (ml := 1) (k0 := 114) (by decide) (Or.inl rfl) (m_opb_of (ins := .invokevirtual 31) (len := 3) (tag := 5) (a := 123) (b := 0) (c := 0) (q := 1119) (by decide +kernel)) (by decide +kernel) rfl (show m_isO 123 114 (SH, _) = true from m_isO_of (by decide +kernel)) (Nat.le_of_ble_eq_true rfl) rfl rfl (ok_Reader_nextToken X (d + 0) F _ _ _ hc1) ?_
      refine m_R_sg (by decide) [(.aload_n 0, 1, 0, 0, 0, 0, 0), (.iload_n 1, 1, 0, 1, 0, 0, 0), (.iconst 1, 1, 0, 1, 0, 0, 0), (.iadd, 1, 0, 0, 0, 0, 0)] (by decide +kernel) (show m_sgl X _ _ _ _ _ = some (28, [some (.ref 114), some (.int v1), none], [.int (v1 + (1 : Int32)), .ref 114], (SH, q1.2.1, q1.2.2)) from rfl) ?_
      obtain ⟨q2, hc2, h⟩ := Option.bind_eq_some_iff.mp h
      refine m_R_cV (v := none) (h1 := (SH, q2.2)) (rest := []) (lo' := [some (.ref 114), some (.int (v1 + (1 : Int32))), none]) (ml := 3) (k0 := 114) (by decide) (Or.inl rfl) (m_opb_of (ins := .invokevirtual 64) (len := 3) (tag := 5) (a := 133) (b := 1) (c := 0) (q := 1205) (by decide +kernel)) (by decide +kernel) rfl (show m_isO 133 114 (SH, _) = true from m_isO_of (by decide +kernel)) (Nat.le_of_ble_eq_true rfl) rfl rfl (hg133 _ _ _ _ hc2) ?_
      refine m_R_sg (by decide) [(.aload_n 0, 1, 0, 0, 0, 0, 0), (.bipush (-11), 2, 0, 11, 1, 0, 0)] (by decide +kernel) (show m_sgl X _ _ _ _ _ = some (34, [some (.ref 114), some (.int v1), none], [.int (-11 : Int32), .ref 114], (SH, q2.2.1, q2.2.2)) from rfl) ?_
      obtain ⟨q3, hc3, h⟩ := Option.bind_eq_some_iff.mp h
      refine m_R_cV (v := none) (h1 := (SH, q3.2)) (rest := []) (lo' := [some (.ref 114), some (.int (-11 : Int32))]) (ml := 2) (k0 := 114) (by decide) (Or.inl rfl) (m_opb_of (ins := .invokevirtual 61) (len := 3) (tag := 5) (a := 134) (b := 1) (c := 0) (q := 1209) (by decide +kernel)) (by decide +kernel) rfl (show m_isO 134 114 (SH, _) = true from m_isO_of (by decide +kernel)) (Nat.le_of_ble_eq_true rfl) rfl rfl (ok_Reader_addCode X (d + 5) F _ _ _ _ hc3) ?_
      obtain ⟨rfl, rfl⟩ := m_some h
      exact m_R_vret (by decide) (m_opb_of (ins := .return_) (len := 1) (tag := 3) (a := 0) (b := 0) (c := 0) (q := 0) (by decide +kernel))
    · refine m_R_1 (by decide) (m_opb_of (ins := .if_icmp .lt 8) (len := 3) (tag := 0) (a := 20) (b := 0) (c := 0) (q := 0) (by decide +kernel)) (if_neg c147) ?_
      refine m_R_sg (by decide) [(.aload_n 0, 1, 0, 0, 0, 0, 0)] (by decide +kernel) (show m_sgl X _ _ _ _ _ = some (16, [some (.ref 114), some (.int v1), none], [.ref 114], (SH, m.1, m.2)) from rfl) ?_
      obtain ⟨q4, hc4, h⟩ := Option.bind_eq_some_iff.mp h
      refine m_R_cV (v := none) (h1 := (SH, q4.2)) (rest := []) (lo' := [some (.ref 114)]) (ml := 1) (k0 := 114) (by decide) (Or.inl rfl) (m_opb_of (ins := .invokevirtual 37) (len := 3) (tag := 5) (a := 130) (b := 0) (c := 0) (q := 1193) (by decide +kernel)) (by decide +kernel) rfl (show m_isO 130 114 (SH, _) = true from m_isO_of (by decide +kernel)) (Nat.le_of_ble_eq_true rfl) rfl rfl (ok_Reader_stop X (d + 5) F _ _ _ hc4) ?_
      obtain ⟨rfl, rfl⟩ := m_some h
      exact m_R_vret (by decide) (m_opb_of (ins := .return_) (len := 1) (tag := 3) (a := 0) (b := 0) (c := 0) (q := 0) (by decide +kernel))
  · refine m_R_1 (by decide) (m_opb_of (ins := .if_icmp .ne 32) (len := 3) (tag := 0) (a := 38) (b := 0) (c := 0) (q := 0) (by decide +kernel)) (if_neg c146) ?_
    refine m_R_sg (by decide) [(.aload_n 0, 1, 0, 0, 0, 0, 0), (.iload_n 1, 1, 0, 1, 0, 0, 0)] (by decide +kernel) (show m_sgl X _ _ _ _ _ = some (40, [some (.ref 114), some (.int v1), none], [.int v1, .ref 114], (SH, m.1, m.2)) from rfl) ?_
    obtain ⟨q5, hc5, h⟩ := Option.bind_eq_some_iff.mp h
    refine m_R_cV (v := none) (h1 := (SH, q5.2)) (rest := []) (lo' := [some (.ref 114), some (.int v1), none, none]) (ml := 4) (k0 := 114) (by decide) (Or.inl rfl) (m_opb_of (ins := .invokevirtual 67) (len := 3) (tag := 5) (a := 135) (b := 1) (c := 0) (q := 1213) (by decide +kernel)) (by decide +kernel) rfl (show m_isO 135 114 (SH, _) = true from m_isO_of (by decide +kernel)) (Nat.le_of_ble_eq_true rfl) rfl rfl (hg135 _ _ _ _ hc5) ?_
    refine m_R_sg (by decide) [(.aload_n 0, 1, 0, 0, 0, 0, 0), (.getfield 34, 3, 0, 5, 8, 0, 604)] (by decide +kernel) (show m_sgl X _ _ _ _ _ = some (47, [some (.ref 114), some (.int v1), none], [.int (q5.2.1 114 8)], (SH, q5.2.1, q5.2.2)) from rfl) ?_
    obtain ⟨q6, hc6, h⟩ := Option.bind_eq_some_iff.mp h
    refine m_R_cS (v := (some (.int q6.1))) (h1 := (SH, q6.2)) (rest := []) (lo' := [some (.int (q5.2.1 114 8))]) (ml := 1) (by decide) (m_opb_of (ins := .invokestatic 70) (len := 3) (tag := 4) (a := 138) (b := 1) (c := 0) (q := 1225) (by decide +kernel)) (by decide +kernel) (Nat.le_of_ble_eq_true rfl) rfl (Nat.le_of_ble_eq_true rfl) rfl rfl (ok_Texts_codeOfComparison X (d + 5) F _ _ _ _ hc6) ?_
    refine m_R_sg (by decide) [(.istore_n 2, 1, 0, 2, 0, 0, 0), (.iload_n 2, 1, 0, 2, 0, 0, 0)] (by decide +kernel) (show m_sgl X _ _ _ _ _ = some (52, [some (.ref 114), some (.int v1), some (.int q6.1)], [.int q6.1], (SH, q6.2.1, q6.2.2)) from rfl) ?_
    rcases m_ite h with ⟨c148, h⟩ | ⟨c148, h⟩
    · refine m_R_1 (by decide) (m_opb_of (ins := .ifCond .eq 17) (len := 3) (tag := 0) (a := 69) (b := 0) (c := 0) (q := 0) (by decide +kernel)) (if_pos c148) ?_
      exact ok_Reader_readNot_69 X d F g hg131 hg132 hg133 hg135 hg136 hg137 _ _ _ _ _ _ h
    · refine m_R_1 (by decide) (m_opb_of (ins := .ifCond .eq 17) (len := 3) (tag := 0) (a := 69) (b := 0) (c := 0) (q := 0) (by decide +kernel)) (if_neg c148) ?_
      refine m_R_sg (by decide) [(.aload_n 0, 1, 0, 0, 0, 0, 0)] (by decide +kernel) (show m_sgl X _ _ _ _ _ = some (56, [some (.ref 114), some (.int v1), some (.int q6.1)], [.ref 114], (SH, q6.2.1, q6.2.2)) from rfl) ?_
      obtain ⟨q7, hc7, h⟩ := Option.bind_eq_some_iff.mp h
      refine m_R_cV (v := none) (h1 := (SH, q7.2)) (rest := []) (lo' := [some (.ref 114)]) (ml := 1) (k0 := 114) (by decide) (Or.inl rfl) (m_opb_of (ins := .invokevirtual 31) (len := 3) (tag := 5) (a := 123) (b := 0) (c := 0) (q := 1119) (by decide +kernel)) (by decide +kernel) rfl (show m_isO 123 114 (SH, _) = true from m_isO_of (by decide +kernel)) (Nat.le_of_ble_eq_true rfl) rfl rfl (ok_Reader_nextToken X (d + 0) F _ _ _ hc7) ?_
      refine m_R_sg (by decide) [(.aload_n 0, 1, 0, 0, 0, 0, 0), (.iload_n 1, 1, 0, 1, 0, 0, 0)] (by decide +kernel) (show m_sgl X _ _ _ _ _ = some (61, [some (.ref 114), some (.int v1), some (.int q6.1)], [.int v1, .ref 114], (SH, q7.2.1, q7.2.2)) from rfl) ?_
      obtain ⟨q8, hc8, h⟩ := Option.bind_eq_some_iff.mp h
      refine m_R_cV (v := none) (h1 := (SH, q8.2)) (rest := []) (lo' := [some (.ref 114), some (.int v1), none, none]) (ml := 4) (k0 := 114) (by decide) (Or.inl rfl) (m_opb_of (ins := .invokevirtual 67) (len := 3) (tag := 5) (a := 135) (b := 1) (c := 0) (q := 1213) (by decide +kernel)) (by decide +kernel) rfl (show m_isO 135 114 (SH, _) = true from m_isO_of (by decide +kernel)) (Nat.le_of_ble_eq_true rfl) rfl rfl (hg135 _ _ _ _ hc8) ?_
      refine m_R_sg (by decide) [(.aload_n 0, 1, 0, 0, 0, 0, 0), (.iload_n 2, 1, 0, 2, 0, 0, 0)] (by decide +kernel) (show m_sgl X _ _ _ _ _ = some (66, [some (.ref 114), some (.int v1), some (.int q6.1)], [.int q6.1, .ref 114], (SH, q8.2.1, q8.2.2)) from rfl) ?_
      obtain ⟨q9, hc9, h⟩ := Option.bind_eq_some_iff.mp h
      refine m_R_cV (v := none) (h1 := (SH, q9.2)) (rest := []) (lo' := [some (.ref 114), some (.int q6.1)]) (ml := 2) (k0 := 114) (by decide) (Or.inl rfl) (m_opb_of (ins := .invokevirtual 61) (len := 3) (tag := 5) (a := 134) (b := 1) (c := 0) (q := 1209) (by decide +kernel)) (by decide +kernel) rfl (show m_isO 134 114 (SH, _) = true from m_isO_of (by decide +kernel)) (Nat.le_of_ble_eq_true rfl) rfl rfl (ok_Reader_addCode X (d + 5) F _ _ _ _ hc9) ?_
      exact ok_Reader_readNot_69 X d F g hg131 hg132 hg133 hg135 hg136 hg137 _ _ _ _ _ _ h
def f_Reader_readSum_47 (F : Nat) (g : Nat → Int32 → mM → Option (Unit × mM)) (k7 : Int32 → Int32 → mM → Option (Unit × mM)) (v1 : Int32) (v2 : Int32) (s0 : Int32) (m : mM) : Option (Unit × mM) := ((f_Reader_nextToken F m).bind fun q2 => ((g 136 v1 q2.2).bind fun q3 => ((f_Reader_addCode F s0 q3.2).bind fun q4 => k7 v1 (v2 + (1 : Int32)) q4.2)))
theorem ok_Reader_readSum_47 (X : mX) (d F : Nat) (g : Nat → Int32 → mM → Option (Unit × mM)) (hg131 : ∀ (v1 : Int32) (m : mM) (r : Unit) (m' : mM), g 131 v1 m = some (r, m') → m_R X (d + 5) 131 0 [some (.ref 114), some (.int v1), none] [] (SH, m) (none, (SH, m'))) (hg132 : ∀ (v1 : Int32) (m : mM) (r : Unit) (m' : mM), g 132 v1 m = some (r, m') → m_R X (d + 5) 132 0 [some (.ref 114), some (.int v1), none] [] (SH, m) (none, (SH, m'))) (hg133 : ∀ (v1 : Int32) (m : mM) (r : Unit) (m' : mM), g 133 v1 m = some (r, m') → m_R X (d + 5) 133 0 [some (.ref 114), some (.int v1), none] [] (SH, m) (none, (SH, m'))) (hg135 : ∀ (v1 : Int32) (m : mM) (r : Unit) (m' : mM), g 135 v1 m = some (r, m') → m_R X (d + 5) 135 0 [some (.ref 114), some (.int v1), none, none] [] (SH, m) (none, (SH, m'))) (hg136 : ∀ (v1 : Int32) (m : mM) (r : Unit) (m' : mM), g 136 v1 m = some (r, m') → m_R X (d + 5) 136 0 [some (.ref 114), some (.int v1), none, none] [] (SH, m) (none, (SH, m'))) (hg137 : ∀ (v1 : Int32) (m : mM) (r : Unit) (m' : mM), g 137 v1 m = some (r, m') → m_R X (d + 5) 137 0 [some (.ref 114), some (.int v1), none] [] (SH, m) (none, (SH, m'))) (k7 : Int32 → Int32 → mM → Option (Unit × mM)) (hk7 : ∀ (v1 : Int32) (v2 : Int32) (w3 : Option Value) (m : mM) (r : Unit) (m' : mM), k7 v1 v2 m = some (r, m') → m_R X (d + 6) 135 7 [some (.ref 114), some (.int v1), some (.int v2), w3] [] (SH, m) (none, (SH, m'))) : ∀ (v1 : Int32) (v2 : Int32) (s0 : Int32) (w3 : Option Value) (m : mM) (r : Unit) (m' : mM), f_Reader_readSum_47 F g k7 v1 v2 s0 m = some (r, m') → m_R X (d + 6) 135 47 [some (.ref 114), some (.int v1), some (.int v2), w3] [.int s0] (SH, m) (none, (SH, m')) := by
  intro v1 v2 s0 w3 m r m' h
  unfold f_Reader_readSum_47 at h
  refine m_R_sg (by decide) [(.istore_n 3, 1, 0, 3, 0, 0, 0), (.aload_n 0, 1, 0, 0, 0, 0, 0)] (by decide +kernel) (show m_sgl X _ _ _ _ _ = some (49, [some (.ref 114), some (.int v1), some (.int v2), some (.int s0)], [.ref 114], (SH, m.1, m.2)) from rfl) ?_
  obtain ⟨q2, hc2, h⟩ := Option.bind_eq_some_iff.mp h
  refine m_R_cV (v := none) (h1 := (SH, q2.2)) (rest := []) (lo' := [some (.ref 114)]) (ml := 1) (k0 := 114) (by decide) (Or.inl rfl) (m_opb_of (ins := .invokevirtual 31) (len := 3) (tag := 5) (a := 123) (b := 0) (c := 0) (q := 1119) (by decide +kernel)) (by decide +kernel) rfl (show m_isO 123 114 (SH, _) = true from m_isO_of (by decide +kernel)) (Nat.le_of_ble_eq_true rfl) rfl rfl (ok_Reader_nextToken X (d + 0) F _ _ _ hc2) ?_
  refine m_R_sg (by decide) [(.aload_n 0, 1, 0, 0, 0, 0, 0), (.iload_n 1, 1, 0, 1, 0, 0, 0)] (by decide +kernel) (show m_sgl X _ _ _ _ _ = some (54, [some (.ref 114), some (.int v1), some (.int v2), some (.int s0)], [.int v1, .ref 114], (SH, q2.2.1, q2.2.2)) from rfl) ?_
  obtain ⟨q3, hc3, h⟩ := Option.bind_eq_some_iff.mp h
  refine m_R_cV (v := none) (h1 := (SH, q3.2)) (rest := []) (lo' := [some (.ref 114), some (.int v1), none, none]) (ml := 4) (k0 := 114) (by decide) (Or.inl rfl) (m_opb_of (ins := .invokevirtual 74) (len := 3) (tag := 5) (a := 136) (b := 1) (c := 0) (q := 1217) (by decide +kernel)) (by decide +kernel) rfl (show m_isO 136 114 (SH, _) = true from m_isO_of (by decide +kernel)) (Nat.le_of_ble_eq_true rfl) rfl rfl (hg136 _ _ _ _ hc3) ?_
  refine m_R_sg (by decide) [(.aload_n 0, 1, 0, 0, 0, 0, 0), (.iload_n 3, 1, 0, 3, 0, 0, 0)] (by decide +kernel) (show m_sgl X _ _ _ _ _ = some (59, [some (.ref 114), some (.int v1), some (.int v2), some (.int s0)], [.int s0, .ref 114], (SH, q3.2.1, q3.2.2)) from rfl) ?_
  obtain ⟨q4, hc4, h⟩ := Option.bind_eq_some_iff.mp h
  refine m_R_cV (v := none) (h1 := (SH, q4.2)) (rest := []) (lo' := [some (.ref 114), some (.int s0)]) (ml := 2) (k0 := 114) (by decide) (Or.inl rfl) (m_opb_of (ins := .invokevirtual 61) (len := 3) (tag := 5) (a := 134) (b := 1) (c := 0) (q := 1209) (by decide +kernel)) (by decide +kernel) rfl (show m_isO 134 114 (SH, _) = true from m_isO_of (by decide +kernel)) (Nat.le_of_ble_eq_true rfl) rfl rfl (ok_Reader_addCode X (d + 5) F _ _ _ _ hc4) ?_
  refine m_R_sg (by decide) [(.iinc 2 1, 3, 0, 2, 1, 0, 0), (.goto (-58), 3, 0, 7, 0, 0, 0)] (by decide +kernel) (show m_sgl X _ _ _ _ _ = some (7, [some (.ref 114), some (.int v1), some (.int (v2 + (1 : Int32))), some (.int s0)], [], (SH, q4.2.1, q4.2.2)) from rfl) ?_
  exact hk7 _ _ _ _ _ _ h
def f_Reader_readSum_31 (F : Nat) (g : Nat → Int32 → mM → Option (Unit × mM)) (k7 : Int32 → Int32 → mM → Option (Unit × mM)) (v1 : Int32) (v2 : Int32) (m : mM) : Option (Unit × mM) := (if (m.1 114 8) = (43 : Int32) then f_Reader_readSum_47 F g k7 v1 v2 (-18 : Int32) m else f_Reader_readSum_47 F g k7 v1 v2 (-19 : Int32) m)
theorem ok_Reader_readSum_31 (X : mX) (d F : Nat) (g : Nat → Int32 → mM → Option (Unit × mM)) (hg131 : ∀ (v1 : Int32) (m : mM) (r : Unit) (m' : mM), g 131 v1 m = some (r, m') → m_R X (d + 5) 131 0 [some (.ref 114), some (.int v1), none] [] (SH, m) (none, (SH, m'))) (hg132 : ∀ (v1 : Int32) (m : mM) (r : Unit) (m' : mM), g 132 v1 m = some (r, m') → m_R X (d + 5) 132 0 [some (.ref 114), some (.int v1), none] [] (SH, m) (none, (SH, m'))) (hg133 : ∀ (v1 : Int32) (m : mM) (r : Unit) (m' : mM), g 133 v1 m = some (r, m') → m_R X (d + 5) 133 0 [some (.ref 114), some (.int v1), none] [] (SH, m) (none, (SH, m'))) (hg135 : ∀ (v1 : Int32) (m : mM) (r : Unit) (m' : mM), g 135 v1 m = some (r, m') → m_R X (d + 5) 135 0 [some (.ref 114), some (.int v1), none, none] [] (SH, m) (none, (SH, m'))) (hg136 : ∀ (v1 : Int32) (m : mM) (r : Unit) (m' : mM), g 136 v1 m = some (r, m') → m_R X (d + 5) 136 0 [some (.ref 114), some (.int v1), none, none] [] (SH, m) (none, (SH, m'))) (hg137 : ∀ (v1 : Int32) (m : mM) (r : Unit) (m' : mM), g 137 v1 m = some (r, m') → m_R X (d + 5) 137 0 [some (.ref 114), some (.int v1), none] [] (SH, m) (none, (SH, m'))) (k7 : Int32 → Int32 → mM → Option (Unit × mM)) (hk7 : ∀ (v1 : Int32) (v2 : Int32) (w3 : Option Value) (m : mM) (r : Unit) (m' : mM), k7 v1 v2 m = some (r, m') → m_R X (d + 6) 135 7 [some (.ref 114), some (.int v1), some (.int v2), w3] [] (SH, m) (none, (SH, m'))) : ∀ (v1 : Int32) (v2 : Int32) (w3 : Option Value) (m : mM) (r : Unit) (m' : mM), f_Reader_readSum_31 F g k7 v1 v2 m = some (r, m') → m_R X (d + 6) 135 31 [some (.ref 114), some (.int v1), some (.int v2), w3] [] (SH, m) (none, (SH, m')) := by
  intro v1 v2 w3 m r m' h
  unfold f_Reader_readSum_31 at h
  refine m_R_sg (by decide) [(.aload_n 0, 1, 0, 0, 0, 0, 0), (.getfield 34, 3, 0, 5, 8, 0, 604), (.bipush 43, 2, 0, 43, 0, 0, 0)] (by decide +kernel) (show m_sgl X _ _ _ _ _ = some (37, [some (.ref 114), some (.int v1), some (.int v2), w3], [.int (43 : Int32), .int (m.1 114 8)], (SH, m.1, m.2)) from rfl) ?_
  rcases m_ite h with ⟨c149, h⟩ | ⟨c149, h⟩
  · refine m_R_1 (by decide) (m_opb_of (ins := .if_icmp .ne 8) (len := 3) (tag := 0) (a := 45) (b := 0) (c := 0) (q := 0) (by decide +kernel)) (if_pos c149) ?_
    refine m_R_sg (by decide) [(.bipush (-18), 2, 0, 18, 1, 0, 0), (.goto 5, 3, 0, 47, 0, 0, 0)] (by decide +kernel) (show m_sgl X _ _ _ _ _ = some (47, [some (.ref 114), some (.int v1), some (.int v2), w3], [.int (-18 : Int32)], (SH, m.1, m.2)) from rfl) ?_
    exact ok_Reader_readSum_47 X d F g hg131 hg132 hg133 hg135 hg136 hg137 _ hk7 _ _ _ _ _ _ _ h
  · refine m_R_1 (by decide) (m_opb_of (ins := .if_icmp .ne 8) (len := 3) (tag := 0) (a := 45) (b := 0) (c := 0) (q := 0) (by decide +kernel)) (if_neg c149) ?_
    refine m_R_sg (by decide) [(.bipush (-19), 2, 0, 19, 1, 0, 0)] (by decide +kernel) (show m_sgl X _ _ _ _ _ = some (47, [some (.ref 114), some (.int v1), some (.int v2), w3], [.int (-19 : Int32)], (SH, m.1, m.2)) from rfl) ?_
    exact ok_Reader_readSum_47 X d F g hg131 hg132 hg133 hg135 hg136 hg137 _ hk7 _ _ _ _ _ _ _ h
def f_Reader_readSum_68 (F : Nat) (g : Nat → Int32 → mM → Option (Unit × mM))   (m : mM) : Option (Unit × mM) := some ((), m)
theorem ok_Reader_readSum_68 (X : mX) (d F : Nat) (g : Nat → Int32 → mM → Option (Unit × mM)) (hg131 : ∀ (v1 : Int32) (m : mM) (r : Unit) (m' : mM), g 131 v1 m = some (r, m') → m_R X (d + 5) 131 0 [some (.ref 114), some (.int v1), none] [] (SH, m) (none, (SH, m'))) (hg132 : ∀ (v1 : Int32) (m : mM) (r : Unit) (m' : mM), g 132 v1 m = some (r, m') → m_R X (d + 5) 132 0 [some (.ref 114), some (.int v1), none] [] (SH, m) (none, (SH, m'))) (hg133 : ∀ (v1 : Int32) (m : mM) (r : Unit) (m' : mM), g 133 v1 m = some (r, m') → m_R X (d + 5) 133 0 [some (.ref 114), some (.int v1), none] [] (SH, m) (none, (SH, m'))) (hg135 : ∀ (v1 : Int32) (m : mM) (r : Unit) (m' : mM), g 135 v1 m = some (r, m') → m_R X (d + 5) 135 0 [some (.ref 114), some (.int v1), none, none] [] (SH, m) (none, (SH, m'))) (hg136 : ∀ (v1 : Int32) (m : mM) (r : Unit) (m' : mM), g 136 v1 m = some (r, m') → m_R X (d + 5) 136 0 [some (.ref 114), some (.int v1), none, none] [] (SH, m) (none, (SH, m'))) (hg137 : ∀ (v1 : Int32) (m : mM) (r : Unit) (m' : mM), g 137 v1 m = some (r, m') → m_R X (d + 5) 137 0 [some (.ref 114), some (.int v1), none] [] (SH, m) (none, (SH, m'))) : ∀  (w0 : Option Value) (w1 : Option Value) (w2 : Option Value) (w3 : Option Value) (m : mM) (r : Unit) (m' : mM), f_Reader_readSum_68 F g  m = some (r, m') → m_R X (d + 6) 135 68 [w0, w1, w2, w3] [] (SH, m) (none, (SH, m')) := by
  intro w0 w1 w2 w3 m r m' h
  unfold f_Reader_readSum_68 at h
  obtain ⟨rfl, rfl⟩ := m_some h
  exact m_R_vret (by decide) (m_opb_of (ins := .return_) (len := 1) (tag := 3) (a := 0) (b := 0) (c := 0) (q := 0) (by decide +kernel))
def f_Reader_readSum_7 (F : Nat) (g : Nat → Int32 → mM → Option (Unit × mM))  : Nat → Int32 → Int32 → mM → Option (Unit × mM)
  | 0, _, _, _ => none
  | n + 1, v1, v2, m => (if (120 : Int32) ≤ v2 then f_Reader_readSum_68 F g m else (if (m.1 114 8) = (43 : Int32) then f_Reader_readSum_31 F g (f_Reader_readSum_7 F g n) v1 v2 m else (if (m.1 114 8) = (45 : Int32) then f_Reader_readSum_31 F g (f_Reader_readSum_7 F g n) v1 v2 m else f_Reader_readSum_68 F g m)))
theorem ok_Reader_readSum_7 (X : mX) (d F : Nat) (g : Nat → Int32 → mM → Option (Unit × mM)) (hg131 : ∀ (v1 : Int32) (m : mM) (r : Unit) (m' : mM), g 131 v1 m = some (r, m') → m_R X (d + 5) 131 0 [some (.ref 114), some (.int v1), none] [] (SH, m) (none, (SH, m'))) (hg132 : ∀ (v1 : Int32) (m : mM) (r : Unit) (m' : mM), g 132 v1 m = some (r, m') → m_R X (d + 5) 132 0 [some (.ref 114), some (.int v1), none] [] (SH, m) (none, (SH, m'))) (hg133 : ∀ (v1 : Int32) (m : mM) (r : Unit) (m' : mM), g 133 v1 m = some (r, m') → m_R X (d + 5) 133 0 [some (.ref 114), some (.int v1), none] [] (SH, m) (none, (SH, m'))) (hg135 : ∀ (v1 : Int32) (m : mM) (r : Unit) (m' : mM), g 135 v1 m = some (r, m') → m_R X (d + 5) 135 0 [some (.ref 114), some (.int v1), none, none] [] (SH, m) (none, (SH, m'))) (hg136 : ∀ (v1 : Int32) (m : mM) (r : Unit) (m' : mM), g 136 v1 m = some (r, m') → m_R X (d + 5) 136 0 [some (.ref 114), some (.int v1), none, none] [] (SH, m) (none, (SH, m'))) (hg137 : ∀ (v1 : Int32) (m : mM) (r : Unit) (m' : mM), g 137 v1 m = some (r, m') → m_R X (d + 5) 137 0 [some (.ref 114), some (.int v1), none] [] (SH, m) (none, (SH, m'))) : ∀ (n : Nat) (v1 : Int32) (v2 : Int32) (w3 : Option Value) (m : mM) (r : Unit) (m' : mM), f_Reader_readSum_7 F g n v1 v2 m = some (r, m') → m_R X (d + 6) 135 7 [some (.ref 114), some (.int v1), some (.int v2), w3] [] (SH, m) (none, (SH, m')) := by
  intro n
  induction n with
  | zero => intro v1 v2 w3 m r m' h; cases h
  | succ n ih =>
    intro v1 v2 w3 m r m' h
    simp only [f_Reader_readSum_7] at h
    refine m_R_sg (by decide) [(.iload_n 2, 1, 0, 2, 0, 0, 0), (.bipush 120, 2, 0, 120, 0, 0, 0)] (by decide +kernel) (show m_sgl X _ _ _ _ _ = some (10, [some (.ref 114), some (.int v1), some (.int v2), w3], [.int (120 : Int32), .int v2], (SH, m.1, m.2)) from rfl) ?_
    rcases m_ite h with ⟨c150, h⟩ | ⟨c150, h⟩
    · refine m_R_1 (by decide) (m_opb_of (ins := .if_icmp .ge 58) (len := 3) (tag := 0) (a := 68) (b := 0) (c := 0) (q := 0) (by decide +kernel)) (if_pos c150) ?_
      exact ok_Reader_readSum_68 X d F g hg131 hg132 hg133 hg135 hg136 hg137 _ _ _ _ _ _ _ h
    · refine m_R_1 (by decide) (m_opb_of (ins := .if_icmp .ge 58) (len := 3) (tag := 0) (a := 68) (b := 0) (c := 0) (q := 0) (by decide +kernel)) (if_neg c150) ?_
      refine m_R_sg (by decide) [(.aload_n 0, 1, 0, 0, 0, 0, 0), (.getfield 34, 3, 0, 5, 8, 0, 604), (.bipush 43, 2, 0, 43, 0, 0, 0)] (by decide +kernel) (show m_sgl X _ _ _ _ _ = some (19, [some (.ref 114), some (.int v1), some (.int v2), w3], [.int (43 : Int32), .int (m.1 114 8)], (SH, m.1, m.2)) from rfl) ?_
      rcases m_ite h with ⟨c151, h⟩ | ⟨c151, h⟩
      · refine m_R_1 (by decide) (m_opb_of (ins := .if_icmp .eq 12) (len := 3) (tag := 0) (a := 31) (b := 0) (c := 0) (q := 0) (by decide +kernel)) (if_pos c151) ?_
        exact ok_Reader_readSum_31 X d F g hg131 hg132 hg133 hg135 hg136 hg137 _ (fun a0 a1 a2 m r m' h => ih a0 a1 a2 m r m' h) _ _ _ _ _ _ h
      · refine m_R_1 (by decide) (m_opb_of (ins := .if_icmp .eq 12) (len := 3) (tag := 0) (a := 31) (b := 0) (c := 0) (q := 0) (by decide +kernel)) (if_neg c151) ?_
        refine m_R_sg (by decide) [(.aload_n 0, 1, 0, 0, 0, 0, 0), (.getfield 34, 3, 0, 5, 8, 0, 604), (.bipush 45, 2, 0, 45, 0, 0, 0)] (by decide +kernel) (show m_sgl X _ _ _ _ _ = some (28, [some (.ref 114), some (.int v1), some (.int v2), w3], [.int (45 : Int32), .int (m.1 114 8)], (SH, m.1, m.2)) from rfl) ?_
        rcases m_ite h with ⟨c152, h⟩ | ⟨c152, h⟩
        · refine m_R_1 (by decide) (m_opb_of (ins := .if_icmp .ne 40) (len := 3) (tag := 0) (a := 68) (b := 0) (c := 0) (q := 0) (by decide +kernel)) (if_pos c152) ?_
          exact ok_Reader_readSum_31 X d F g hg131 hg132 hg133 hg135 hg136 hg137 _ (fun a0 a1 a2 m r m' h => ih a0 a1 a2 m r m' h) _ _ _ _ _ _ h
        · refine m_R_1 (by decide) (m_opb_of (ins := .if_icmp .ne 40) (len := 3) (tag := 0) (a := 68) (b := 0) (c := 0) (q := 0) (by decide +kernel)) (if_neg c152) ?_
          exact ok_Reader_readSum_68 X d F g hg131 hg132 hg133 hg135 hg136 hg137 _ _ _ _ _ _ _ h
def f_Reader_readSum (F : Nat) (g : Nat → Int32 → mM → Option (Unit × mM))  (v1 : Int32) (m : mM) : Option (Unit × mM) := ((g 136 v1 m).bind fun q1 => f_Reader_readSum_7 F g F v1 (0 : Int32) q1.2)
theorem ok_Reader_readSum (X : mX) (d F : Nat) (g : Nat → Int32 → mM → Option (Unit × mM)) (hg131 : ∀ (v1 : Int32) (m : mM) (r : Unit) (m' : mM), g 131 v1 m = some (r, m') → m_R X (d + 5) 131 0 [some (.ref 114), some (.int v1), none] [] (SH, m) (none, (SH, m'))) (hg132 : ∀ (v1 : Int32) (m : mM) (r : Unit) (m' : mM), g 132 v1 m = some (r, m') → m_R X (d + 5) 132 0 [some (.ref 114), some (.int v1), none] [] (SH, m) (none, (SH, m'))) (hg133 : ∀ (v1 : Int32) (m : mM) (r : Unit) (m' : mM), g 133 v1 m = some (r, m') → m_R X (d + 5) 133 0 [some (.ref 114), some (.int v1), none] [] (SH, m) (none, (SH, m'))) (hg135 : ∀ (v1 : Int32) (m : mM) (r : Unit) (m' : mM), g 135 v1 m = some (r, m') → m_R X (d + 5) 135 0 [some (.ref 114), some (.int v1), none, none] [] (SH, m) (none, (SH, m'))) (hg136 : ∀ (v1 : Int32) (m : mM) (r : Unit) (m' : mM), g 136 v1 m = some (r, m') → m_R X (d + 5) 136 0 [some (.ref 114), some (.int v1), none, none] [] (SH, m) (none, (SH, m'))) (hg137 : ∀ (v1 : Int32) (m : mM) (r : Unit) (m' : mM), g 137 v1 m = some (r, m') → m_R X (d + 5) 137 0 [some (.ref 114), some (.int v1), none] [] (SH, m) (none, (SH, m'))) : ∀ (v1 : Int32)  (m : mM) (r : Unit) (m' : mM), f_Reader_readSum F g v1 m = some (r, m') → m_R X (d + 6) 135 0 [some (.ref 114), some (.int v1), none, none] [] (SH, m) (none, (SH, m')) := by
  intro v1 m r m' h
  unfold f_Reader_readSum at h
  refine m_R_sg (by decide) [(.aload_n 0, 1, 0, 0, 0, 0, 0), (.iload_n 1, 1, 0, 1, 0, 0, 0)] (by decide +kernel) (show m_sgl X _ _ _ _ _ = some (2, [some (.ref 114), some (.int v1), none, none], [.int v1, .ref 114], (SH, m.1, m.2)) from rfl) ?_
  obtain ⟨q1, hc1, h⟩ := Option.bind_eq_some_iff.mp h
  refine m_R_cV (v := none) (h1 := (SH, q1.2)) (rest := []) (lo' := [some (.ref 114), some (.int v1), none, none]) (ml := 4) (k0 := 114) (by decide) (Or.inl rfl) (m_opb_of (ins := .invokevirtual 74) (len := 3) (tag := 5) (a := 136) (b := 1) (c := 0) (q := 1217) (by decide +kernel)) (by decide +kernel) rfl (show m_isO 136 114 (SH, _) = true from m_isO_of (by decide +kernel)) (Nat.le_of_ble_eq_true rfl) rfl rfl (hg136 _ _ _ _ hc1) ?_
  refine m_R_sg (by decide) [(.iconst 0, 1, 0, 0, 0, 0, 0), (.istore_n 2, 1, 0, 2, 0, 0, 0)] (by decide +kernel) (show m_sgl X _ _ _ _ _ = some (7, [some (.ref 114), some (.int v1), some (.int (0 : Int32)), none], [], (SH, q1.2.1, q1.2.2)) from rfl) ?_
  exact ok_Reader_readSum_7 X d F g hg131 hg132 hg133 hg135 hg136 hg137 F _ _ _ _ _ _ h
def f_Reader_readTerm_70 (F : Nat) (g : Nat → Int32 → mM → Option (Unit × mM)) (k7 : Int32 → Int32 → mM → Option (Unit × mM)) (v1 : Int32) (v2 : Int32) (s0 : Int32) (m : mM) : Option (Unit × mM) := ((f_Reader_nextToken F m).bind fun q2 => ((g 137 v1 q2.2).bind fun q3 => ((f_Reader_addCode F s0 q3.2).bind fun q4 => k7 v1 (v2 + (1 : Int32)) q4.2)))
theorem ok_Reader_readTerm_70 (X : mX) (d F : Nat) (g : Nat → Int32 → mM → Option (Unit × mM)) (hg131 : ∀ (v1 : Int32) (m : mM) (r : Unit) (m' : mM), g 131 v1 m = some (r, m') → m_R X (d + 5) 131 0 [some (.ref 114), some (.int v1), none] [] (SH, m) (none, (SH, m'))) (hg132 : ∀ (v1 : Int32) (m : mM) (r : Unit) (m' : mM), g 132 v1 m = some (r, m') → m_R X (d + 5) 132 0 [some (.ref 114), some (.int v1), none] [] (SH, m) (none, (SH, m'))) (hg133 : ∀ (v1 : Int32) (m : mM) (r : Unit) (m' : mM), g 133 v1 m = some (r, m') → m_R X (d + 5) 133 0 [some (.ref 114), some (.int v1), none] [] (SH, m) (none, (SH, m'))) (hg135 : ∀ (v1 : Int32) (m : mM) (r : Unit) (m' : mM), g 135 v1 m = some (r, m') → m_R X (d + 5) 135 0 [some (.ref 114), some (.int v1), none, none] [] (SH, m) (none, (SH, m'))) (hg136 : ∀ (v1 : Int32) (m : mM) (r : Unit) (m' : mM), g 136 v1 m = some (r, m') → m_R X (d + 5) 136 0 [some (.ref 114), some (.int v1), none, none] [] (SH, m) (none, (SH, m'))) (hg137 : ∀ (v1 : Int32) (m : mM) (r : Unit) (m' : mM), g 137 v1 m = some (r, m') → m_R X (d + 5) 137 0 [some (.ref 114), some (.int v1), none] [] (SH, m) (none, (SH, m'))) (k7 : Int32 → Int32 → mM → Option (Unit × mM)) (hk7 : ∀ (v1 : Int32) (v2 : Int32) (w3 : Option Value) (m : mM) (r : Unit) (m' : mM), k7 v1 v2 m = some (r, m') → m_R X (d + 6) 136 7 [some (.ref 114), some (.int v1), some (.int v2), w3] [] (SH, m) (none, (SH, m'))) : ∀ (v1 : Int32) (v2 : Int32) (s0 : Int32) (w3 : Option Value) (m : mM) (r : Unit) (m' : mM), f_Reader_readTerm_70 F g k7 v1 v2 s0 m = some (r, m') → m_R X (d + 6) 136 70 [some (.ref 114), some (.int v1), some (.int v2), w3] [.int s0] (SH, m) (none, (SH, m')) := by
  intro v1 v2 s0 w3 m r m' h
  unfold f_Reader_readTerm_70 at h
  refine m_R_sg (by decide) [(.istore_n 3, 1, 0, 3, 0, 0, 0), (.aload_n 0, 1, 0, 0, 0, 0, 0)] (by decide +kernel) (show m_sgl X _ _ _ _ _ = some (72, [some (.ref 114), some (.int v1), some (.int v2), some (.int s0)], [.ref 114], (SH, m.1, m.2)) from rfl) ?_
  obtain ⟨q2, hc2, h⟩ := Option.bind_eq_some_iff.mp h
  refine m_R_cV (v := none) (h1 := (SH, q2.2)) (rest := []) (lo' := [some (.ref 114)]) (ml := 1) (k0 := 114) (by decide) (Or.inl rfl) (m_opb_of (ins := .invokevirtual 31) (len := 3) (tag := 5) (a := 123) (b := 0) (c := 0) (q := 1119) (by decide +kernel)) (by decide +kernel) rfl (show m_isO 123 114 (SH, _) = true from m_isO_of (by decide +kernel)) (Nat.le_of_ble_eq_true rfl) rfl rfl (ok_Reader_nextToken X (d + 0) F _ _ _ hc2) ?_
  refine m_R_sg (by decide) [(.aload_n 0, 1, 0, 0, 0, 0, 0), (.iload_n 1, 1, 0, 1, 0, 0, 0)] (by decide +kernel) (show m_sgl X _ _ _ _ _ = some (77, [some (.ref 114), some (.int v1), some (.int v2), some (.int s0)], [.int v1, .ref 114], (SH, q2.2.1, q2.2.2)) from rfl) ?_
  obtain ⟨q3, hc3, h⟩ := Option.bind_eq_some_iff.mp h
  refine m_R_cV (v := none) (h1 := (SH, q3.2)) (rest := []) (lo' := [some (.ref 114), some (.int v1), none]) (ml := 3) (k0 := 114) (by decide) (Or.inl rfl) (m_opb_of (ins := .invokevirtual 77) (len := 3) (tag := 5) (a := 137) (b := 1) (c := 0) (q := 1221) (by decide +kernel)) (by decide +kernel) rfl (show m_isO 137 114 (SH, _) = true from m_isO_of (by decide +kernel)) (Nat.le_of_ble_eq_true rfl) rfl rfl (hg137 _ _ _ _ hc3) ?_
  refine m_R_sg (by decide) [(.aload_n 0, 1, 0, 0, 0, 0, 0), (.iload_n 3, 1, 0, 3, 0, 0, 0)] (by decide +kernel) (show m_sgl X _ _ _ _ _ = some (82, [some (.ref 114), some (.int v1), some (.int v2), some (.int s0)], [.int s0, .ref 114], (SH, q3.2.1, q3.2.2)) from rfl) ?_
  obtain ⟨q4, hc4, h⟩ := Option.bind_eq_some_iff.mp h
  refine m_R_cV (v := none) (h1 := (SH, q4.2)) (rest := []) (lo' := [some (.ref 114), some (.int s0)]) (ml := 2) (k0 := 114) (by decide) (Or.inl rfl) (m_opb_of (ins := .invokevirtual 61) (len := 3) (tag := 5) (a := 134) (b := 1) (c := 0) (q := 1209) (by decide +kernel)) (by decide +kernel) rfl (show m_isO 134 114 (SH, _) = true from m_isO_of (by decide +kernel)) (Nat.le_of_ble_eq_true rfl) rfl rfl (ok_Reader_addCode X (d + 5) F _ _ _ _ hc4) ?_
  refine m_R_sg (by decide) [(.iinc 2 1, 3, 0, 2, 1, 0, 0), (.goto (-81), 3, 0, 7, 0, 0, 0)] (by decide +kernel) (show m_sgl X _ _ _ _ _ = some (7, [some (.ref 114), some (.int v1), some (.int (v2 + (1 : Int32))), some (.int s0)], [], (SH, q4.2.1, q4.2.2)) from rfl) ?_
  exact hk7 _ _ _ _ _ _ h
def f_Reader_readTerm_40 (F : Nat) (g : Nat → Int32 → mM → Option (Unit × mM)) (k7 : Int32 → Int32 → mM → Option (Unit × mM)) (v1 : Int32) (v2 : Int32) (m : mM) : Option (Unit × mM) := (if (m.1 114 8) = (42 : Int32) then f_Reader_readTerm_70 F g k7 v1 v2 (-20 : Int32) m else (if (m.1 114 8) = (47 : Int32) then f_Reader_readTerm_70 F g k7 v1 v2 (-21 : Int32) m else f_Reader_readTerm_70 F g k7 v1 v2 (-22 : Int32) m))
theorem ok_Reader_readTerm_40 (X : mX) (d F : Nat) (g : Nat → Int32 → mM → Option (Unit × mM)) (hg131 : ∀ (v1 : Int32) (m : mM) (r : Unit) (m' : mM), g 131 v1 m = some (r, m') → m_R X (d + 5) 131 0 [some (.ref 114), some (.int v1), none] [] (SH, m) (none, (SH, m'))) (hg132 : ∀ (v1 : Int32) (m : mM) (r : Unit) (m' : mM), g 132 v1 m = some (r, m') → m_R X (d + 5) 132 0 [some (.ref 114), some (.int v1), none] [] (SH, m) (none, (SH, m'))) (hg133 : ∀ (v1 : Int32) (m : mM) (r : Unit) (m' : mM), g 133 v1 m = some (r, m') → m_R X (d + 5) 133 0 [some (.ref 114), some (.int v1), none] [] (SH, m) (none, (SH, m'))) (hg135 : ∀ (v1 : Int32) (m : mM) (r : Unit) (m' : mM), g 135 v1 m = some (r, m') → m_R X (d + 5) 135 0 [some (.ref 114), some (.int v1), none, none] [] (SH, m) (none, (SH, m'))) (hg136 : ∀ (v1 : Int32) (m : mM) (r : Unit) (m' : mM), g 136 v1 m = some (r, m') → m_R X (d + 5) 136 0 [some (.ref 114), some (.int v1), none, none] [] (SH, m) (none, (SH, m'))) (hg137 : ∀ (v1 : Int32) (m : mM) (r : Unit) (m' : mM), g 137 v1 m = some (r, m') → m_R X (d + 5) 137 0 [some (.ref 114), some (.int v1), none] [] (SH, m) (none, (SH, m'))) (k7 : Int32 → Int32 → mM → Option (Unit × mM)) (hk7 : ∀ (v1 : Int32) (v2 : Int32) (w3 : Option Value) (m : mM) (r : Unit) (m' : mM), k7 v1 v2 m = some (r, m') → m_R X (d + 6) 136 7 [some (.ref 114), some (.int v1), some (.int v2), w3] [] (SH, m) (none, (SH, m'))) : ∀ (v1 : Int32) (v2 : Int32) (w3 : Option Value) (m : mM) (r : Unit) (m' : mM), f_Reader_readTerm_40 F g k7 v1 v2 m = some (r, m') → m_R X (d + 6) 136 40 [some (.ref 114), some (.int v1), some (.int v2), w3] [] (SH, m) (none, (SH, m')) := by
  intro v1 v2 w3 m r m' h
  unfold f_Reader_readTerm_40 at h
  refine m_R_sg (by decide) [(.aload_n 0, 1, 0, 0, 0, 0, 0), (.getfield 34, 3, 0, 5, 8, 0, 604), (.bipush 42, 2, 0, 42, 0, 0, 0)] (by decide +kernel) (show m_sgl X _ _ _ _ _ = some (46, [some (.ref 114), some (.int v1), some (.int v2), w3], [.int (42 : Int32), .int (m.1 114 8)], (SH, m.1, m.2)) from rfl) ?_
  rcases m_ite h with ⟨c153, h⟩ | ⟨c153, h⟩
  · refine m_R_1 (by decide) (m_opb_of (ins := .if_icmp .ne 8) (len := 3) (tag := 0) (a := 54) (b := 0) (c := 0) (q := 0) (by decide +kernel)) (if_pos c153) ?_
    refine m_R_sg (by decide) [(.bipush (-20), 2, 0, 20, 1, 0, 0), (.goto 19, 3, 0, 70, 0, 0, 0)] (by decide +kernel) (show m_sgl X _ _ _ _ _ = some (70, [some (.ref 114), some (.int v1), some (.int v2), w3], [.int (-20 : Int32)], (SH, m.1, m.2)) from rfl) ?_
    exact ok_Reader_readTerm_70 X d F g hg131 hg132 hg133 hg135 hg136 hg137 _ hk7 _ _ _ _ _ _ _ h
  · refine m_R_1 (by decide) (m_opb_of (ins := .if_icmp .ne 8) (len := 3) (tag := 0) (a := 54) (b := 0) (c := 0) (q := 0) (by decide +kernel)) (if_neg c153) ?_
    refine m_R_sg (by decide) [(.aload_n 0, 1, 0, 0, 0, 0, 0), (.getfield 34, 3, 0, 5, 8, 0, 604), (.bipush 47, 2, 0, 47, 0, 0, 0)] (by decide +kernel) (show m_sgl X _ _ _ _ _ = some (60, [some (.ref 114), some (.int v1), some (.int v2), w3], [.int (47 : Int32), .int (m.1 114 8)], (SH, m.1, m.2)) from rfl) ?_
    rcases m_ite h with ⟨c154, h⟩ | ⟨c154, h⟩
    · refine m_R_1 (by decide) (m_opb_of (ins := .if_icmp .ne 8) (len := 3) (tag := 0) (a := 68) (b := 0) (c := 0) (q := 0) (by decide +kernel)) (if_pos c154) ?_
      refine m_R_sg (by decide) [(.bipush (-21), 2, 0, 21, 1, 0, 0), (.goto 5, 3, 0, 70, 0, 0, 0)] (by decide +kernel) (show m_sgl X _ _ _ _ _ = some (70, [some (.ref 114), some (.int v1), some (.int v2), w3], [.int (-21 : Int32)], (SH, m.1, m.2)) from rfl) ?_
      exact ok_Reader_readTerm_70 X d F g hg131 hg132 hg133 hg135 hg136 hg137 _ hk7 _ _ _ _ _ _ _ h
    · refine m_R_1 (by decide) (m_opb_of (ins := .if_icmp .ne 8) (len := 3) (tag := 0) (a := 68) (b := 0) (c := 0) (q := 0) (by decide +kernel)) (if_neg c154) ?_
      refine m_R_sg (by decide) [(.bipush (-22), 2, 0, 22, 1, 0, 0)] (by decide +kernel) (show m_sgl X _ _ _ _ _ = some (70, [some (.ref 114), some (.int v1), some (.int v2), w3], [.int (-22 : Int32)], (SH, m.1, m.2)) from rfl) ?_
      exact ok_Reader_readTerm_70 X d F g hg131 hg132 hg133 hg135 hg136 hg137 _ hk7 _ _ _ _ _ _ _ h
def f_Reader_readTerm_91 (F : Nat) (g : Nat → Int32 → mM → Option (Unit × mM))   (m : mM) : Option (Unit × mM) := some ((), m)
theorem ok_Reader_readTerm_91 (X : mX) (d F : Nat) (g : Nat → Int32 → mM → Option (Unit × mM)) (hg131 : ∀ (v1 : Int32) (m : mM) (r : Unit) (m' : mM), g 131 v1 m = some (r, m') → m_R X (d + 5) 131 0 [some (.ref 114), some (.int v1), none] [] (SH, m) (none, (SH, m'))) (hg132 : ∀ (v1 : Int32) (m : mM) (r : Unit) (m' : mM), g 132 v1 m = some (r, m') → m_R X (d + 5) 132 0 [some (.ref 114), some (.int v1), none] [] (SH, m) (none, (SH, m'))) (hg133 : ∀ (v1 : Int32) (m : mM) (r : Unit) (m' : mM), g 133 v1 m = some (r, m') → m_R X (d + 5) 133 0 [some (.ref 114), some (.int v1), none] [] (SH, m) (none, (SH, m'))) (hg135 : ∀ (v1 : Int32) (m : mM) (r : Unit) (m' : mM), g 135 v1 m = some (r, m') → m_R X (d + 5) 135 0 [some (.ref 114), some (.int v1), none, none] [] (SH, m) (none, (SH, m'))) (hg136 : ∀ (v1 : Int32) (m : mM) (r : Unit) (m' : mM), g 136 v1 m = some (r, m') → m_R X (d + 5) 136 0 [some (.ref 114), some (.int v1), none, none] [] (SH, m) (none, (SH, m'))) (hg137 : ∀ (v1 : Int32) (m : mM) (r : Unit) (m' : mM), g 137 v1 m = some (r, m') → m_R X (d + 5) 137 0 [some (.ref 114), some (.int v1), none] [] (SH, m) (none, (SH, m'))) : ∀  (w0 : Option Value) (w1 : Option Value) (w2 : Option Value) (w3 : Option Value) (m : mM) (r : Unit) (m' : mM), f_Reader_readTerm_91 F g  m = some (r, m') → m_R X (d + 6) 136 91 [w0, w1, w2, w3] [] (SH, m) (none, (SH, m')) := by
  intro w0 w1 w2 w3 m r m' h
  unfold f_Reader_readTerm_91 at h
  obtain ⟨rfl, rfl⟩ := m_some h
  exact m_R_vret (by decide) (m_opb_of (ins := .return_) (len := 1) (tag := 3) (a := 0) (b := 0) (c := 0) (q := 0) (by decide +kernel))
def f_Reader_readTerm_7 (F : Nat) (g : Nat → Int32 → mM → Option (Unit × mM))  : Nat → Int32 → Int32 → mM → Option (Unit × mM)
  | 0, _, _, _ => none
  | n + 1, v1, v2, m => (if (120 : Int32) ≤ v2 then f_Reader_readTerm_91 F g m else (if (m.1 114 8) = (42 : Int32) then f_Reader_readTerm_40 F g (f_Reader_readTerm_7 F g n) v1 v2 m else (if (m.1 114 8) = (47 : Int32) then f_Reader_readTerm_40 F g (f_Reader_readTerm_7 F g n) v1 v2 m else (if (m.1 114 8) = (37 : Int32) then f_Reader_readTerm_40 F g (f_Reader_readTerm_7 F g n) v1 v2 m else f_Reader_readTerm_91 F g m))))
theorem ok_Reader_readTerm_7 (X : mX) (d F : Nat) (g : Nat → Int32 → mM → Option (Unit × mM)) (hg131 : ∀ (v1 : Int32) (m : mM) (r : Unit) (m' : mM), g 131 v1 m = some (r, m') → m_R X (d + 5) 131 0 [some (.ref 114), some (.int v1), none] [] (SH, m) (none, (SH, m'))) (hg132 : ∀ (v1 : Int32) (m : mM) (r : Unit) (m' : mM), g 132 v1 m = some (r, m') → m_R X (d + 5) 132 0 [some (.ref 114), some (.int v1), none] [] (SH, m) (none, (SH, m'))) (hg133 : ∀ (v1 : Int32) (m : mM) (r : Unit) (m' : mM), g 133 v1 m = some (r, m') → m_R X (d + 5) 133 0 [some (.ref 114), some (.int v1), none] [] (SH, m) (none, (SH, m'))) (hg135 : ∀ (v1 : Int32) (m : mM) (r : Unit) (m' : mM), g 135 v1 m = some (r, m') → m_R X (d + 5) 135 0 [some (.ref 114), some (.int v1), none, none] [] (SH, m) (none, (SH, m'))) (hg136 : ∀ (v1 : Int32) (m : mM) (r : Unit) (m' : mM), g 136 v1 m = some (r, m') → m_R X (d + 5) 136 0 [some (.ref 114), some (.int v1), none, none] [] (SH, m) (none, (SH, m'))) (hg137 : ∀ (v1 : Int32) (m : mM) (r : Unit) (m' : mM), g 137 v1 m = some (r, m') → m_R X (d + 5) 137 0 [some (.ref 114), some (.int v1), none] [] (SH, m) (none, (SH, m'))) : ∀ (n : Nat) (v1 : Int32) (v2 : Int32) (w3 : Option Value) (m : mM) (r : Unit) (m' : mM), f_Reader_readTerm_7 F g n v1 v2 m = some (r, m') → m_R X (d + 6) 136 7 [some (.ref 114), some (.int v1), some (.int v2), w3] [] (SH, m) (none, (SH, m')) := by
  intro n
  induction n with
  | zero => intro v1 v2 w3 m r m' h; cases h
  | succ n ih =>
    intro v1 v2 w3 m r m' h
    simp only [f_Reader_readTerm_7] at h
    refine m_R_sg (by decide) [(.iload_n 2, 1, 0, 2, 0, 0, 0), (.bipush 120, 2, 0, 120, 0, 0, 0)] (by decide +kernel) (show m_sgl X _ _ _ _ _ = some (10, [some (.ref 114), some (.int v1), some (.int v2), w3], [.int (120 : Int32), .int v2], (SH, m.1, m.2)) from rfl) ?_
    rcases m_ite h with ⟨c155, h⟩ | ⟨c155, h⟩
    · refine m_R_1 (by decide) (m_opb_of (ins := .if_icmp .ge 81) (len := 3) (tag := 0) (a := 91) (b := 0) (c := 0) (q := 0) (by decide +kernel)) (if_pos c155) ?_
      exact ok_Reader_readTerm_91 X d F g hg131 hg132 hg133 hg135 hg136 hg137 _ _ _ _ _ _ _ h
    · refine m_R_1 (by decide) (m_opb_of (ins := .if_icmp .ge 81) (len := 3) (tag := 0) (a := 91) (b := 0) (c := 0) (q := 0) (by decide +kernel)) (if_neg c155) ?_
      refine m_R_sg (by decide) [(.aload_n 0, 1, 0, 0, 0, 0, 0), (.getfield 34, 3, 0, 5, 8, 0, 604), (.bipush 42, 2, 0, 42, 0, 0, 0)] (by decide +kernel) (show m_sgl X _ _ _ _ _ = some (19, [some (.ref 114), some (.int v1), some (.int v2), w3], [.int (42 : Int32), .int (m.1 114 8)], (SH, m.1, m.2)) from rfl) ?_
      rcases m_ite h with ⟨c156, h⟩ | ⟨c156, h⟩
      · refine m_R_1 (by decide) (m_opb_of (ins := .if_icmp .eq 21) (len := 3) (tag := 0) (a := 40) (b := 0) (c := 0) (q := 0) (by decide +kernel)) (if_pos c156) ?_
        exact ok_Reader_readTerm_40 X d F g hg131 hg132 hg133 hg135 hg136 hg137 _ (fun a0 a1 a2 m r m' h => ih a0 a1 a2 m r m' h) _ _ _ _ _ _ h
      · refine m_R_1 (by decide) (m_opb_of (ins := .if_icmp .eq 21) (len := 3) (tag := 0) (a := 40) (b := 0) (c := 0) (q := 0) (by decide +kernel)) (if_neg c156) ?_
        refine m_R_sg (by decide) [(.aload_n 0, 1, 0, 0, 0, 0, 0), (.getfield 34, 3, 0, 5, 8, 0, 604), (.bipush 47, 2, 0, 47, 0, 0, 0)] (by decide +kernel) (show m_sgl X _ _ _ _ _ = some (28, [some (.ref 114), some (.int v1), some (.int v2), w3], [.int (47 : Int32), .int (m.1 114 8)], (SH, m.1, m.2)) from rfl) ?_
        rcases m_ite h with ⟨c157, h⟩ | ⟨c157, h⟩
        · refine m_R_1 (by decide) (m_opb_of (ins := .if_icmp .eq 12) (len := 3) (tag := 0) (a := 40) (b := 0) (c := 0) (q := 0) (by decide +kernel)) (if_pos c157) ?_
          exact ok_Reader_readTerm_40 X d F g hg131 hg132 hg133 hg135 hg136 hg137 _ (fun a0 a1 a2 m r m' h => ih a0 a1 a2 m r m' h) _ _ _ _ _ _ h
        · refine m_R_1 (by decide) (m_opb_of (ins := .if_icmp .eq 12) (len := 3) (tag := 0) (a := 40) (b := 0) (c := 0) (q := 0) (by decide +kernel)) (if_neg c157) ?_
          refine m_R_sg (by decide) [(.aload_n 0, 1, 0, 0, 0, 0, 0), (.getfield 34, 3, 0, 5, 8, 0, 604), (.bipush 37, 2, 0, 37, 0, 0, 0)] (by decide +kernel) (show m_sgl X _ _ _ _ _ = some (37, [some (.ref 114), some (.int v1), some (.int v2), w3], [.int (37 : Int32), .int (m.1 114 8)], (SH, m.1, m.2)) from rfl) ?_
          rcases m_ite h with ⟨c158, h⟩ | ⟨c158, h⟩
          · refine m_R_1 (by decide) (m_opb_of (ins := .if_icmp .ne 54) (len := 3) (tag := 0) (a := 91) (b := 0) (c := 0) (q := 0) (by decide +kernel)) (if_pos c158) ?_
            exact ok_Reader_readTerm_40 X d F g hg131 hg132 hg133 hg135 hg136 hg137 _ (fun a0 a1 a2 m r m' h => ih a0 a1 a2 m r m' h) _ _ _ _ _ _ h
          · refine m_R_1 (by decide) (m_opb_of (ins := .if_icmp .ne 54) (len := 3) (tag := 0) (a := 91) (b := 0) (c := 0) (q := 0) (by decide +kernel)) (if_neg c158) ?_
            exact ok_Reader_readTerm_91 X d F g hg131 hg132 hg133 hg135 hg136 hg137 _ _ _ _ _ _ _ h
def f_Reader_readTerm (F : Nat) (g : Nat → Int32 → mM → Option (Unit × mM))  (v1 : Int32) (m : mM) : Option (Unit × mM) := ((g 137 v1 m).bind fun q1 => f_Reader_readTerm_7 F g F v1 (0 : Int32) q1.2)
theorem ok_Reader_readTerm (X : mX) (d F : Nat) (g : Nat → Int32 → mM → Option (Unit × mM)) (hg131 : ∀ (v1 : Int32) (m : mM) (r : Unit) (m' : mM), g 131 v1 m = some (r, m') → m_R X (d + 5) 131 0 [some (.ref 114), some (.int v1), none] [] (SH, m) (none, (SH, m'))) (hg132 : ∀ (v1 : Int32) (m : mM) (r : Unit) (m' : mM), g 132 v1 m = some (r, m') → m_R X (d + 5) 132 0 [some (.ref 114), some (.int v1), none] [] (SH, m) (none, (SH, m'))) (hg133 : ∀ (v1 : Int32) (m : mM) (r : Unit) (m' : mM), g 133 v1 m = some (r, m') → m_R X (d + 5) 133 0 [some (.ref 114), some (.int v1), none] [] (SH, m) (none, (SH, m'))) (hg135 : ∀ (v1 : Int32) (m : mM) (r : Unit) (m' : mM), g 135 v1 m = some (r, m') → m_R X (d + 5) 135 0 [some (.ref 114), some (.int v1), none, none] [] (SH, m) (none, (SH, m'))) (hg136 : ∀ (v1 : Int32) (m : mM) (r : Unit) (m' : mM), g 136 v1 m = some (r, m') → m_R X (d + 5) 136 0 [some (.ref 114), some (.int v1), none, none] [] (SH, m) (none, (SH, m'))) (hg137 : ∀ (v1 : Int32) (m : mM) (r : Unit) (m' : mM), g 137 v1 m = some (r, m') → m_R X (d + 5) 137 0 [some (.ref 114), some (.int v1), none] [] (SH, m) (none, (SH, m'))) : ∀ (v1 : Int32)  (m : mM) (r : Unit) (m' : mM), f_Reader_readTerm F g v1 m = some (r, m') → m_R X (d + 6) 136 0 [some (.ref 114), some (.int v1), none, none] [] (SH, m) (none, (SH, m')) := by
  intro v1 m r m' h
  unfold f_Reader_readTerm at h
  refine m_R_sg (by decide) [(.aload_n 0, 1, 0, 0, 0, 0, 0), (.iload_n 1, 1, 0, 1, 0, 0, 0)] (by decide +kernel) (show m_sgl X _ _ _ _ _ = some (2, [some (.ref 114), some (.int v1), none, none], [.int v1, .ref 114], (SH, m.1, m.2)) from rfl) ?_
  obtain ⟨q1, hc1, h⟩ := Option.bind_eq_some_iff.mp h
  refine m_R_cV (v := none) (h1 := (SH, q1.2)) (rest := []) (lo' := [some (.ref 114), some (.int v1), none]) (ml := 3) (k0 := 114) (by decide) (Or.inl rfl) (m_opb_of (ins := .invokevirtual 77) (len := 3) (tag := 5) (a := 137) (b := 1) (c := 0) (q := 1221) (by decide +kernel)) (by decide +kernel) rfl (show m_isO 137 114 (SH, _) = true from m_isO_of (by decide +kernel)) (Nat.le_of_ble_eq_true rfl) rfl rfl (hg137 _ _ _ _ hc1) ?_
  refine m_R_sg (by decide) [(.iconst 0, 1, 0, 0, 0, 0, 0), (.istore_n 2, 1, 0, 2, 0, 0, 0)] (by decide +kernel) (show m_sgl X _ _ _ _ _ = some (7, [some (.ref 114), some (.int v1), some (.int (0 : Int32)), none], [], (SH, q1.2.1, q1.2.2)) from rfl) ?_
  exact ok_Reader_readTerm_7 X d F g hg131 hg132 hg133 hg135 hg136 hg137 F _ _ _ _ _ _ h
def f_Reader_readOne_149 (F : Nat) (g : Nat → Int32 → mM → Option (Unit × mM))   (m : mM) : Option (Unit × mM) := some ((), m)
theorem ok_Reader_readOne_149 (X : mX) (d F : Nat) (g : Nat → Int32 → mM → Option (Unit × mM)) (hg131 : ∀ (v1 : Int32) (m : mM) (r : Unit) (m' : mM), g 131 v1 m = some (r, m') → m_R X (d + 5) 131 0 [some (.ref 114), some (.int v1), none] [] (SH, m) (none, (SH, m'))) (hg132 : ∀ (v1 : Int32) (m : mM) (r : Unit) (m' : mM), g 132 v1 m = some (r, m') → m_R X (d + 5) 132 0 [some (.ref 114), some (.int v1), none] [] (SH, m) (none, (SH, m'))) (hg133 : ∀ (v1 : Int32) (m : mM) (r : Unit) (m' : mM), g 133 v1 m = some (r, m') → m_R X (d + 5) 133 0 [some (.ref 114), some (.int v1), none] [] (SH, m) (none, (SH, m'))) (hg135 : ∀ (v1 : Int32) (m : mM) (r : Unit) (m' : mM), g 135 v1 m = some (r, m') → m_R X (d + 5) 135 0 [some (.ref 114), some (.int v1), none, none] [] (SH, m) (none, (SH, m'))) (hg136 : ∀ (v1 : Int32) (m : mM) (r : Unit) (m' : mM), g 136 v1 m = some (r, m') → m_R X (d + 5) 136 0 [some (.ref 114), some (.int v1), none, none] [] (SH, m) (none, (SH, m'))) (hg137 : ∀ (v1 : Int32) (m : mM) (r : Unit) (m' : mM), g 137 v1 m = some (r, m') → m_R X (d + 5) 137 0 [some (.ref 114), some (.int v1), none] [] (SH, m) (none, (SH, m'))) : ∀  (w0 : Option Value) (w1 : Option Value) (w2 : Option Value) (m : mM) (r : Unit) (m' : mM), f_Reader_readOne_149 F g  m = some (r, m') → m_R X (d + 6) 137 149 [w0, w1, w2] [] (SH, m) (none, (SH, m')) := by
  intro w0 w1 w2 m r m' h
  unfold f_Reader_readOne_149 at h
  obtain ⟨rfl, rfl⟩ := m_some h
  exact m_R_vret (by decide) (m_opb_of (ins := .return_) (len := 1) (tag := 3) (a := 0) (b := 0) (c := 0) (q := 0) (by decide +kernel))
def f_Reader_readOne_82 (F : Nat) (g : Nat → Int32 → mM → Option (Unit × mM))   (m : mM) : Option (Unit × mM) := ((f_Reader_stop F m).bind fun q12 => f_Reader_readOne_149 F g q12.2)
theorem ok_Reader_readOne_82 (X : mX) (d F : Nat) (g : Nat → Int32 → mM → Option (Unit × mM)) (hg131 : ∀ (v1 : Int32) (m : mM) (r : Unit) (m' : mM), g 131 v1 m = some (r, m') → m_R X (d + 5) 131 0 [some (.ref 114), some (.int v1), none] [] (SH, m) (none, (SH, m'))) (hg132 : ∀ (v1 : Int32) (m : mM) (r : Unit) (m' : mM), g 132 v1 m = some (r, m') → m_R X (d + 5) 132 0 [some (.ref 114), some (.int v1), none] [] (SH, m) (none, (SH, m'))) (hg133 : ∀ (v1 : Int32) (m : mM) (r : Unit) (m' : mM), g 133 v1 m = some (r, m') → m_R X (d + 5) 133 0 [some (.ref 114), some (.int v1), none] [] (SH, m) (none, (SH, m'))) (hg135 : ∀ (v1 : Int32) (m : mM) (r : Unit) (m' : mM), g 135 v1 m = some (r, m') → m_R X (d + 5) 135 0 [some (.ref 114), some (.int v1), none, none] [] (SH, m) (none, (SH, m'))) (hg136 : ∀ (v1 : Int32) (m : mM) (r : Unit) (m' : mM), g 136 v1 m = some (r, m') → m_R X (d + 5) 136 0 [some (.ref 114), some (.int v1), none, none] [] (SH, m) (none, (SH, m'))) (hg137 : ∀ (v1 : Int32) (m : mM) (r : Unit) (m' : mM), g 137 v1 m = some (r, m') → m_R X (d + 5) 137 0 [some (.ref 114), some (.int v1), none] [] (SH, m) (none, (SH, m'))) : ∀  (w1 : Option Value) (w2 : Option Value) (m : mM) (r : Unit) (m' : mM), f_Reader_readOne_82 F g  m = some (r, m') → m_R X (d + 6) 137 82 [some (.ref 114), w1, w2] [] (SH, m) (none, (SH, m')) := by
  intro w1 w2 m r m' h
  unfold f_Reader_readOne_82 at h
  refine m_R_sg (by decide) [(.aload_n 0, 1, 0, 0, 0, 0, 0)] (by decide +kernel) (show m_sgl X _ _ _ _ _ = some (83, [some (.ref 114), w1, w2], [.ref 114], (SH, m.1, m.2)) from rfl) ?_
  obtain ⟨q12, hc12, h⟩ := Option.bind_eq_some_iff.mp h
  refine m_R_cV (v := none) (h1 := (SH, q12.2)) (rest := []) (lo' := [some (.ref 114)]) (ml := 1) (k0 := 114) (by decide) (Or.inl rfl) (m_opb_of (ins := .invokevirtual 37) (len := 3) (tag := 5) (a := 130) (b := 0) (c := 0) (q := 1193) (by decide +kernel)) (by decide +kernel) rfl (show m_isO 130 114 (SH, _) = true from m_isO_of (by decide +kernel)) (Nat.le_of_ble_eq_true rfl) rfl rfl (ok_Reader_stop X (d + 5) F _ _ _ hc12) ?_
  refine m_R_sg (by decide) [(.goto 63, 3, 0, 149, 0, 0, 0)] (by decide +kernel) (show m_sgl X _ _ _ _ _ = some (149, [some (.ref 114), w1, w2], [], (SH, q12.2.1, q12.2.2)) from rfl) ?_
  exact ok_Reader_readOne_149 X d F g hg131 hg132 hg133 hg135 hg136 hg137 _ _ _ _ _ _ h
def f_Reader_readOne_23 (F : Nat) (g : Nat → Int32 → mM → Option (Unit × mM))  (v1 : Int32) (s0 : Int32) (m : mM) : Option (Unit × mM) := (if (m.1 114 8) = (2 : Int32) then ((f_Reader_addCode F (m.1 114 10) m).bind fun q1 => ((f_Reader_nextToken F q1.2).bind fun q2 => f_Reader_readOne_149 F g q2.2)) else (if (m.1 114 8) = (4 : Int32) then ((f_Reader_addCode F ((-1 : Int32) - (m.1 114 10)) m).bind fun q3 => ((f_Reader_nextToken F q3.2).bind fun q4 => f_Reader_readOne_149 F g q4.2)) else (if s0 = 0 then f_Reader_readOne_82 F g m else (if v1 < (6 : Int32) then (if (m.1 114 8) = (45 : Int32) then ((f_Reader_nextToken F m).bind fun q5 => ((g 137 (v1 + (1 : Int32)) q5.2).bind fun q6 => ((f_Reader_addCode F (-12 : Int32) q6.2).bind fun q7 => f_Reader_readOne_149 F g q7.2))) else ((f_Reader_nextToken F m).bind fun q8 => ((g 131 (v1 + (1 : Int32)) q8.2).bind fun q9 => (if (q9.2.1 114 8) = (41 : Int32) then ((f_Reader_nextToken F q9.2).bind fun q10 => f_Reader_readOne_149 F g q10.2) else ((f_Reader_stop F q9.2).bind fun q11 => f_Reader_readOne_149 F g q11.2))))) else f_Reader_readOne_82 F g m))))
theorem ok_Reader_readOne_23 (X : mX) (d F : Nat) (g : Nat → Int32 → mM → Option (Unit × mM)) (hg131 : ∀ (v1 : Int32) (m : mM) (r : Unit) (m' : mM), g 131 v1 m = some (r, m') → m_R X (d + 5) 131 0 [some (.ref 114), some (.int v1), none] [] (SH, m) (none, (SH, m'))) (hg132 : ∀ (v1 : Int32) (m : mM) (r : Unit) (m' : mM), g 132 v1 m = some (r, m') → m_R X (d + 5) 132 0 [some (.ref 114), some (.int v1), none] [] (SH, m) (none, (SH, m'))) (hg133 : ∀ (v1 : Int32) (m : mM) (r : Unit) (m' : mM), g 133 v1 m = some (r, m') → m_R X (d + 5) 133 0 [some (.ref 114), some (.int v1), none] [] (SH, m) (none, (SH, m'))) (hg135 : ∀ (v1 : Int32) (m : mM) (r : Unit) (m' : mM), g 135 v1 m = some (r, m') → m_R X (d + 5) 135 0 [some (.ref 114), some (.int v1), none, none] [] (SH, m) (none, (SH, m'))) (hg136 : ∀ (v1 : Int32) (m : mM) (r : Unit) (m' : mM), g 136 v1 m = some (r, m') → m_R X (d + 5) 136 0 [some (.ref 114), some (.int v1), none, none] [] (SH, m) (none, (SH, m'))) (hg137 : ∀ (v1 : Int32) (m : mM) (r : Unit) (m' : mM), g 137 v1 m = some (r, m') → m_R X (d + 5) 137 0 [some (.ref 114), some (.int v1), none] [] (SH, m) (none, (SH, m'))) : ∀ (v1 : Int32) (s0 : Int32) (w2 : Option Value) (m : mM) (r : Unit) (m' : mM), f_Reader_readOne_23 F g v1 s0 m = some (r, m') → m_R X (d + 6) 137 23 [some (.ref 114), some (.int v1), w2] [.int s0] (SH, m) (none, (SH, m')) := by
  intro v1 s0 w2 m r m' h
  unfold f_Reader_readOne_23 at h
  refine m_R_sg (by decide) [(.istore_n 2, 1, 0, 2, 0, 0, 0), (.aload_n 0, 1, 0, 0, 0, 0, 0), (.getfield 34, 3, 0, 5, 8, 0, 604), (.iconst 2, 1, 0, 2, 0, 0, 0)] (by decide +kernel) (show m_sgl X _ _ _ _ _ = some (29, [some (.ref 114), some (.int v1), some (.int s0)], [.int (2 : Int32), .int (m.1 114 8)], (SH, m.1, m.2)) from rfl) ?_
  rcases m_ite h with ⟨c159, h⟩ | ⟨c159, h⟩
  · refine m_R_1 (by decide) (m_opb_of (ins := .if_icmp .ne 18) (len := 3) (tag := 0) (a := 47) (b := 0) (c := 0) (q := 0) (by decide +kernel)) (if_pos c159) ?_
    refine m_R_sg (by decide) [(.aload_n 0, 1, 0, 0, 0, 0, 0), (.aload_n 0, 1, 0, 0, 0, 0, 0), (.getfield 40, 3, 0, 5, 10, 0, 606)] (by decide +kernel) (show m_sgl X _ _ _ _ _ = some (37, [some (.ref 114), some (.int v1), some (.int s0)], [.int (m.1 114 10), .ref 114], (SH, m.1, m.2)) from rfl) ?_
    obtain ⟨q1, hc1, h⟩ := Option.bind_eq_some_iff.mp h
    refine m_R_cV (v := none) (h1 := (SH, q1.2)) (rest := []) (lo' := [some (.ref 114), some (.int (m.1 114 10))]) (ml := 2) (k0 := 114) (by decide) (Or.inl rfl) (m_opb_of (ins := .invokevirtual 61) (len := 3) (tag := 5) (a := 134) (b := 1) (c := 0) (q := 1209) (by decide +kernel)) (by decide +kernel) rfl (show m_isO 134 114 (SH, _) = true from m_isO_of (by decide +kernel)) (Nat.le_of_ble_eq_true rfl) rfl rfl (ok_Reader_addCode X (d + 5) F _ _ _ _ hc1) ?_
    refine m_R_sg (by decide) [(.aload_n 0, 1, 0, 0, 0, 0, 0)] (by decide +kernel) (show m_sgl X _ _ _ _ _ = some (41, [some (.ref 114), some (.int v1), some (.int s0)], [.ref 114], (SH, q1.2.1, q1.2.2)) from rfl) ?_
    obtain ⟨q2, hc2, h⟩ := Option.bind_eq_some_iff.mp h
    refine m_R_cV (v := none) (h1 := (SH, q2.2)) (rest := []) (lo' := [some (.ref 114)]) (ml := 1) (k0 := 114) (by decide) (Or.inl rfl) (m_opb_of (ins := .invokevirtual 31) (len := 3) (tag := 5) (a := 123) (b := 0) (c := 0) (q := 1119) (by decide +kernel)) (by decide +kernel) rfl (show m_isO 123 114 (SH, _) = true from m_isO_of (by decide +kernel)) (Nat.le_of_ble_eq_true rfl) rfl rfl (ok_Reader_nextToken X (d + 0) F _ _ _ hc2) ?_
    refine m_R_sg (by decide) [(.goto 105, 3, 0, 149, 0, 0, 0)] (by decide +kernel) (show m_sgl X _ _ _ _ _ = some (149, [some (.ref 114), some (.int v1), some (.int s0)], [], (SH, q2.2.1, q2.2.2)) from rfl) ?_
    exact ok_Reader_readOne_149 X d F g hg131 hg132 hg133 hg135 hg136 hg137 _ _ _ _ _ _ h
  · refine m_R_1 (by decide) (m_opb_of (ins := .if_icmp .ne 18) (len := 3) (tag := 0) (a := 47) (b := 0) (c := 0) (q := 0) (by decide +kernel)) (if_neg c159) ?_
    refine m_R_sg (by decide) [(.aload_n 0, 1, 0, 0, 0, 0, 0), (.getfield 34, 3, 0, 5, 8, 0, 604), (.iconst 4, 1, 0, 4, 0, 0, 0)] (by decide +kernel) (show m_sgl X _ _ _ _ _ = some (52, [some (.ref 114), some (.int v1), some (.int s0)], [.int (4 : Int32), .int (m.1 114 8)], (SH, m.1, m.2)) from rfl) ?_
    rcases m_ite h with ⟨c160, h⟩ | ⟨c160, h⟩
    · refine m_R_1 (by decide) (m_opb_of (ins := .if_icmp .ne 20) (len := 3) (tag := 0) (a := 72) (b := 0) (c := 0) (q := 0) (by decide +kernel)) (if_pos c160) ?_
      refine m_R_sg (by decide) [(.aload_n 0, 1, 0, 0, 0, 0, 0), (.iconst (-1), 1, 0, 1, 1, 0, 0), (.aload_n 0, 1, 0, 0, 0, 0, 0), (.getfield 40, 3, 0, 5, 10, 0, 606), (.isub, 1, 0, 0, 0, 0, 0)] (by decide +kernel) (show m_sgl X _ _ _ _ _ = some (62, [some (.ref 114), some (.int v1), some (.int s0)], [.int ((-1 : Int32) - (m.1 114 10)), .ref 114], (SH, m.1, m.2)) from rfl) ?_
      obtain ⟨q3, hc3, h⟩ := Option.bind_eq_some_iff.mp h
      refine m_R_cV (v := none) (h1 := (SH, q3.2)) (rest := []) (lo' := [some (.ref 114), some (.int ((-1 : Int32) - (m.1 114 10)))]) (ml := 2) (k0 := 114) (by decide) (Or.inl rfl) (m_opb_of (ins := .invokevirtual 61) (len := 3) (tag := 5) (a := 134) (b := 1) (c := 0) (q := 1209) (by decide +kernel)) (by decide +kernel) rfl (show m_isO 134 114 (SH, _) = true from m_isO_of (by decide +kernel)) (Nat.le_of_ble_eq_true rfl) rfl rfl (ok_Reader_addCode X (d + 5) F _ _ _ _ hc3) ?_
      refine m_R_sg (by decide) [(.aload_n 0, 1, 0, 0, 0, 0, 0)] (by decide +kernel) (show m_sgl X _ _ _ _ _ = some (66, [some (.ref 114), some (.int v1), some (.int s0)], [.ref 114], (SH, q3.2.1, q3.2.2)) from rfl) ?_
      obtain ⟨q4, hc4, h⟩ := Option.bind_eq_some_iff.mp h
      refine m_R_cV (v := none) (h1 := (SH, q4.2)) (rest := []) (lo' := [some (.ref 114)]) (ml := 1) (k0 := 114) (by decide) (Or.inl rfl) (m_opb_of (ins := .invokevirtual 31) (len := 3) (tag := 5) (a := 123) (b := 0) (c := 0) (q := 1119) (by decide +kernel)) (by decide +kernel) rfl (show m_isO 123 114 (SH, _) = true from m_isO_of (by decide +kernel)) (Nat.le_of_ble_eq_true rfl) rfl rfl (ok_Reader_nextToken X (d + 0) F _ _ _ hc4) ?_
      refine m_R_sg (by decide) [(.goto 80, 3, 0, 149, 0, 0, 0)] (by decide +kernel) (show m_sgl X _ _ _ _ _ = some (149, [some (.ref 114), some (.int v1), some (.int s0)], [], (SH, q4.2.1, q4.2.2)) from rfl) ?_
      exact ok_Reader_readOne_149 X d F g hg131 hg132 hg133 hg135 hg136 hg137 _ _ _ _ _ _ h
    · refine m_R_1 (by decide) (m_opb_of (ins := .if_icmp .ne 20) (len := 3) (tag := 0) (a := 72) (b := 0) (c := 0) (q := 0) (by decide +kernel)) (if_neg c160) ?_
      refine m_R_sg (by decide) [(.iload_n 2, 1, 0, 2, 0, 0, 0)] (by decide +kernel) (show m_sgl X _ _ _ _ _ = some (73, [some (.ref 114), some (.int v1), some (.int s0)], [.int s0], (SH, m.1, m.2)) from rfl) ?_
      rcases m_ite h with ⟨c161, h⟩ | ⟨c161, h⟩
      · refine m_R_1 (by decide) (m_opb_of (ins := .ifCond .eq 9) (len := 3) (tag := 0) (a := 82) (b := 0) (c := 0) (q := 0) (by decide +kernel)) (if_pos c161) ?_
        exact ok_Reader_readOne_82 X d F g hg131 hg132 hg133 hg135 hg136 hg137 _ _ _ _ _ h
      · refine m_R_1 (by decide) (m_opb_of (ins := .ifCond .eq 9) (len := 3) (tag := 0) (a := 82) (b := 0) (c := 0) (q := 0) (by decide +kernel)) (if_neg c161) ?_
        refine m_R_sg (by decide) [(.iload_n 1, 1, 0, 1, 0, 0, 0), (.bipush 6, 2, 0, 6, 0, 0, 0)] (by decide +kernel) (show m_sgl X _ _ _ _ _ = some (79, [some (.ref 114), some (.int v1), some (.int s0)], [.int (6 : Int32), .int v1], (SH, m.1, m.2)) from rfl) ?_
        rcases m_ite h with ⟨c162, h⟩ | ⟨c162, h⟩
        · refine m_R_1 (by decide) (m_opb_of (ins := .if_icmp .lt 10) (len := 3) (tag := 0) (a := 89) (b := 0) (c := 0) (q := 0) (by decide +kernel)) (if_pos c162) ?_
          refine m_R_sg (by decide) [(.aload_n 0, 1, 0, 0, 0, 0, 0), (.getfield 34, 3, 0, 5, 8, 0, 604), (.bipush 45, 2, 0, 45, 0, 0, 0)] (by decide +kernel) (show m_sgl X _ _ _ _ _ = some (95, [some (.ref 114), some (.int v1), some (.int s0)], [.int (45 : Int32), .int (m.1 114 8)], (SH, m.1, m.2)) from rfl) ?_
          rcases m_ite h with ⟨c163, h⟩ | ⟨c163, h⟩
          · refine m_R_1 (by decide) (m_opb_of (ins := .if_icmp .ne 23) (len := 3) (tag := 0) (a := 118) (b := 0) (c := 0) (q := 0) (by decide +kernel)) (if_pos c163) ?_
            refine m_R_sg (by decide) [(.aload_n 0, 1, 0, 0, 0, 0, 0)] (by decide +kernel) (show m_sgl X _ _ _ _ _ = some (99, [some (.ref 114), some (.int v1), some (.int s0)], [.ref 114], (SH, m.1, m.2)) from rfl) ?_
            obtain ⟨q5, hc5, h⟩ := Option.bind_eq_some_iff.mp h
            refine m_R_cV (v := none) (h1 := (SH, q5.2)) (rest := []) (lo' := [some (.ref 114)]) (ml := 1) (k0 := 114) (by decide) (Or.inl rfl) (m_opb_of (ins := .invokevirtual 31) (len := 3) (tag := 5) (a := 123) (b := 0) (c := 0) (q := 1119) (by decide +kernel)) (by decide +kernel) rfl (show m_isO 123 114 (SH, _) = true from m_isO_of (by decide +kernel)) (Nat.le_of_ble_eq_true rfl) rfl rfl (ok_Reader_nextToken X (d + 0) F _ _ _ hc5) ?_
            refine m_R_sg (by decide) [(.aload_n 0, 1, 0, 0, 0, 0, 0), (.iload_n 1, 1, 0, 1, 0, 0, 0), (.iconst 1, 1, 0, 1, 0, 0, 0), (.iadd, 1, 0, 0, 0, 0, 0)] (by decide +kernel) (show m_sgl X _ _ _ _ _ = some (106, [some (.ref 114), some (.int v1), some (.int s0)], [.int (v1 + (1 : Int32)), .ref 114], (SH, q5.2.1, q5.2.2)) from rfl) ?_
            obtain ⟨q6, hc6, h⟩ := Option.bind_eq_some_iff.mp h
            refine m_R_cV (v := none) (h1 := (SH, q6.2)) (rest := []) (lo' := [some (.ref 114), some (.int (v1 + (1 : Int32))), none]) (ml := 3) (k0 := 114) (by decide) (Or.inl rfl) (m_opb_of (ins := .invokevirtual 77) (len := 3) (tag := 5) (a := 137) (b := 1) (c := 0) (q := 1221) (by decide +kernel)) (by decide +kernel) rfl (show m_isO 137 114 (SH, _) = true from m_isO_of (by decide +kernel)) (Nat.le_of_ble_eq_true rfl) rfl rfl (hg137 _ _ _ _ hc6) ?_
            refine m_R_sg (by decide) [(.aload_n 0, 1, 0, 0, 0, 0, 0), (.bipush (-12), 2, 0, 12, 1, 0, 0)] (by decide +kernel) (show m_sgl X _ _ _ _ _ = some (112, [some (.ref 114), some (.int v1), some (.int s0)], [.int (-12 : Int32), .ref 114], (SH, q6.2.1, q6.2.2)) from rfl) ?_
            obtain ⟨q7, hc7, h⟩ := Option.bind_eq_some_iff.mp h
            refine m_R_cV (v := none) (h1 := (SH, q7.2)) (rest := []) (lo' := [some (.ref 114), some (.int (-12 : Int32))]) (ml := 2) (k0 := 114) (by decide) (Or.inl rfl) (m_opb_of (ins := .invokevirtual 61) (len := 3) (tag := 5) (a := 134) (b := 1) (c := 0) (q := 1209) (by decide +kernel)) (by decide +kernel) rfl (show m_isO 134 114 (SH, _) = true from m_isO_of (by decide +kernel)) (Nat.le_of_ble_eq_true rfl) rfl rfl (ok_Reader_addCode X (d + 5) F _ _ _ _ hc7) ?_
            refine m_R_sg (by decide) [(.goto 34, 3, 0, 149, 0, 0, 0)] (by decide +kernel) (show m_sgl X _ _ _ _ _ = some (149, [some (.ref 114), some (.int v1), some (.int s0)], [], (SH, q7.2.1, q7.2.2)) from rfl) ?_
            exact ok_Reader_readOne_149 X d F g hg131 hg132 hg133 hg135 hg136 hg137 _ _ _ _ _ _ h
          · refine m_R_1 (by decide) (m_opb_of (ins := .if_icmp .ne 23) (len := 3) (tag := 0) (a := 118) (b := 0) (c := 0) (q := 0) (by decide +kernel)) (if_neg c163) ?_
            refine m_R_sg (by decide) [(.aload_n 0, 1, 0, 0, 0, 0, 0)] (by decide +kernel) (show m_sgl X _ _ _ _ _ = some (119, [some (.ref 114), some (.int v1), some (.int s0)], [.ref 114], (SH, m.1, m.2)) from rfl) ?_
            obtain ⟨q8, hc8, h⟩ := Option.bind_eq_some_iff.mp h
            refine m_R_cV (v := none) (h1 := (SH, q8.2)) (rest := []) (lo' := [some (.ref 114)]) (ml := 1) (k0 := 114) (by decide) (Or.inl rfl) (m_opb_of (ins := .invokevirtual 31) (len := 3) (tag := 5) (a := 123) (b := 0) (c := 0) (q := 1119) (by decide +kernel)) (by decide +kernel) rfl (show m_isO 123 114 (SH, _) = true from m_isO_of (by decide +kernel)) (Nat.le_of_ble_eq_true rfl) rfl rfl (ok_Reader_nextToken X (d + 0) F _ _ _ hc8) ?_
            refine m_R_sg (by decide) [(.aload_n 0, 1, 0, 0, 0, 0, 0), (.iload_n 1, 1, 0, 1, 0, 0, 0), (.iconst 1, 1, 0, 1, 0, 0, 0), (.iadd, 1, 0, 0, 0, 0, 0)] (by decide +kernel) (show m_sgl X _ _ _ _ _ = some (126, [some (.ref 114), some (.int v1), some (.int s0)], [.int (v1 + (1 : Int32)), .ref 114], (SH, q8.2.1, q8.2.2)) from rfl) ?_
            obtain ⟨q9, hc9, h⟩ := Option.bind_eq_some_iff.mp h
            refine m_R_cV (v := none) (h1 := (SH, q9.2)) (rest := []) (lo' := [some (.ref 114), some (.int (v1 + (1 : Int32))), none]) (ml := 3) (k0 := 114) (by decide) (Or.inl rfl) (m_opb_of (ins := .invokevirtual 46) (len := 3) (tag := 5) (a := 131) (b := 1) (c := 0) (q := 1197) (by decide +kernel)) (by decide +kernel) rfl (show m_isO 131 114 (SH, _) = true from m_isO_of (by decide +kernel)) (Nat.le_of_ble_eq_true rfl) rfl rfl (hg131 _ _ _ _ hc9) ?_
            refine m_R_sg (by decide) [(.aload_n 0, 1, 0, 0, 0, 0, 0), (.getfield 34, 3, 0, 5, 8, 0, 604), (.bipush 41, 2, 0, 41, 0, 0, 0)] (by decide +kernel) (show m_sgl X _ _ _ _ _ = some (135, [some (.ref 114), some (.int v1), some (.int s0)], [.int (41 : Int32), .int (q9.2.1 114 8)], (SH, q9.2.1, q9.2.2)) from rfl) ?_
            rcases m_ite h with ⟨c164, h⟩ | ⟨c164, h⟩
            · refine m_R_1 (by decide) (m_opb_of (ins := .if_icmp .ne 10) (len := 3) (tag := 0) (a := 145) (b := 0) (c := 0) (q := 0) (by decide +kernel)) (if_pos c164) ?_
              refine m_R_sg (by decide) [(.aload_n 0, 1, 0, 0, 0, 0, 0)] (by decide +kernel) (show m_sgl X _ _ _ _ _ = some (139, [some (.ref 114), some (.int v1), some (.int s0)], [.ref 114], (SH, q9.2.1, q9.2.2)) from rfl) ?_
              obtain ⟨q10, hc10, h⟩ := Option.bind_eq_some_iff.mp h
              refine m_R_cV (v := none) (h1 := (SH, q10.2)) (rest := []) (lo' := [some (.ref 114)]) (ml := 1) (k0 := 114) (by decide) (Or.inl rfl) (m_opb_of (ins := .invokevirtual 31) (len := 3) (tag := 5) (a := 123) (b := 0) (c := 0) (q := 1119) (by decide +kernel)) (by decide +kernel) rfl (show m_isO 123 114 (SH, _) = true from m_isO_of (by decide +kernel)) (Nat.le_of_ble_eq_true rfl) rfl rfl (ok_Reader_nextToken X (d + 0) F _ _ _ hc10) ?_
              refine m_R_sg (by decide) [(.goto 7, 3, 0, 149, 0, 0, 0)] (by decide +kernel) (show m_sgl X _ _ _ _ _ = some (149, [some (.ref 114), some (.int v1), some (.int s0)], [], (SH, q10.2.1, q10.2.2)) from rfl) ?_
              exact ok_Reader_readOne_149 X d F g hg131 hg132 hg133 hg135 hg136 hg137 _ _ _ _ _ _ h
            · refine m_R_1 (by decide) (m_opb_of (ins := .if_icmp .ne 10) (len := 3) (tag := 0) (a := 145) (b := 0) (c := 0) (q := 0) (by decide +kernel)) (if_neg c164) ?_
              refine m_R_sg (by decide) [(.aload_n 0, 1, 0, 0, 0, 0, 0)] (by decide +kernel) (show m_sgl X _ _ _ _ _ = some (146, [some (.ref 114), some (.int v1), some (.int s0)], [.ref 114], (SH, q9.2.1, q9.2.2)) from rfl) ?_
              obtain ⟨q11, hc11, h⟩ := Option.bind_eq_some_iff.mp h
              refine m_R_cV (v := none) (h1 := (SH, q11.2)) (rest := []) (lo' := [some (.ref 114)]) (ml := 1) (k0 := 114) (by decide) (Or.inl rfl) (m_opb_of (ins := .invokevirtual 37) (len := 3) (tag := 5) (a := 130) (b := 0) (c := 0) (q := 1193) (by decide +kernel)) (by decide +kernel) rfl (show m_isO 130 114 (SH, _) = true from m_isO_of (by decide +kernel)) (Nat.le_of_ble_eq_true rfl) rfl rfl (ok_Reader_stop X (d + 5) F _ _ _ hc11) ?_
              exact ok_Reader_readOne_149 X d F g hg131 hg132 hg133 hg135 hg136 hg137 _ _ _ _ _ _ h
        · refine m_R_1 (by decide) (m_opb_of (ins := .if_icmp .lt 10) (len := 3) (tag := 0) (a := 89) (b := 0) (c := 0) (q := 0) (by decide +kernel)) (if_neg c162) ?_
          exact ok_Reader_readOne_82 X d F g hg131 hg132 hg133 hg135 hg136 hg137 _ _ _ _ _ h
def f_Reader_readOne_18 (F : Nat) (g : Nat → Int32 → mM → Option (Unit × mM))  (v1 : Int32) (m : mM) : Option (Unit × mM) := f_Reader_readOne_23 F g v1 (1 : Int32) m
theorem ok_Reader_readOne_18 (X : mX) (d F : Nat) (g : Nat → Int32 → mM → Option (Unit × mM)) (hg131 : ∀ (v1 : Int32) (m : mM) (r : Unit) (m' : mM), g 131 v1 m = some (r, m') → m_R X (d + 5) 131 0 [some (.ref 114), some (.int v1), none] [] (SH, m) (none, (SH, m'))) (hg132 : ∀ (v1 : Int32) (m : mM) (r : Unit) (m' : mM), g 132 v1 m = some (r, m') → m_R X (d + 5) 132 0 [some (.ref 114), some (.int v1), none] [] (SH, m) (none, (SH, m'))) (hg133 : ∀ (v1 : Int32) (m : mM) (r : Unit) (m' : mM), g 133 v1 m = some (r, m') → m_R X (d + 5) 133 0 [some (.ref 114), some (.int v1), none] [] (SH, m) (none, (SH, m'))) (hg135 : ∀ (v1 : Int32) (m : mM) (r : Unit) (m' : mM), g 135 v1 m = some (r, m') → m_R X (d + 5) 135 0 [some (.ref 114), some (.int v1), none, none] [] (SH, m) (none, (SH, m'))) (hg136 : ∀ (v1 : Int32) (m : mM) (r : Unit) (m' : mM), g 136 v1 m = some (r, m') → m_R X (d + 5) 136 0 [some (.ref 114), some (.int v1), none, none] [] (SH, m) (none, (SH, m'))) (hg137 : ∀ (v1 : Int32) (m : mM) (r : Unit) (m' : mM), g 137 v1 m = some (r, m') → m_R X (d + 5) 137 0 [some (.ref 114), some (.int v1), none] [] (SH, m) (none, (SH, m'))) : ∀ (v1 : Int32) (w2 : Option Value) (m : mM) (r : Unit) (m' : mM), f_Reader_readOne_18 F g v1 m = some (r, m') → m_R X (d + 6) 137 18 [some (.ref 114), some (.int v1), w2] [] (SH, m) (none, (SH, m')) := by
  intro v1 w2 m r m' h
  unfold f_Reader_readOne_18 at h
  refine m_R_sg (by decide) [(.iconst 1, 1, 0, 1, 0, 0, 0), (.goto 4, 3, 0, 23, 0, 0, 0)] (by decide +kernel) (show m_sgl X _ _ _ _ _ = some (23, [some (.ref 114), some (.int v1), w2], [.int (1 : Int32)], (SH, m.1, m.2)) from rfl) ?_
  exact ok_Reader_readOne_23 X d F g hg131 hg132 hg133 hg135 hg136 hg137 _ _ _ _ _ _ h
def f_Reader_readOne (F : Nat) (g : Nat → Int32 → mM → Option (Unit × mM))  (v1 : Int32) (m : mM) : Option (Unit × mM) := (if (m.1 114 8) = (45 : Int32) then f_Reader_readOne_18 F g v1 m else (if (m.1 114 8) = (40 : Int32) then f_Reader_readOne_18 F g v1 m else f_Reader_readOne_23 F g v1 (0 : Int32) m))
theorem ok_Reader_readOne (X : mX) (d F : Nat) (g : Nat → Int32 → mM → Option (Unit × mM)) (hg131 : ∀ (v1 : Int32) (m : mM) (r : Unit) (m' : mM), g 131 v1 m = some (r, m') → m_R X (d + 5) 131 0 [some (.ref 114), some (.int v1), none] [] (SH, m) (none, (SH, m'))) (hg132 : ∀ (v1 : Int32) (m : mM) (r : Unit) (m' : mM), g 132 v1 m = some (r, m') → m_R X (d + 5) 132 0 [some (.ref 114), some (.int v1), none] [] (SH, m) (none, (SH, m'))) (hg133 : ∀ (v1 : Int32) (m : mM) (r : Unit) (m' : mM), g 133 v1 m = some (r, m') → m_R X (d + 5) 133 0 [some (.ref 114), some (.int v1), none] [] (SH, m) (none, (SH, m'))) (hg135 : ∀ (v1 : Int32) (m : mM) (r : Unit) (m' : mM), g 135 v1 m = some (r, m') → m_R X (d + 5) 135 0 [some (.ref 114), some (.int v1), none, none] [] (SH, m) (none, (SH, m'))) (hg136 : ∀ (v1 : Int32) (m : mM) (r : Unit) (m' : mM), g 136 v1 m = some (r, m') → m_R X (d + 5) 136 0 [some (.ref 114), some (.int v1), none, none] [] (SH, m) (none, (SH, m'))) (hg137 : ∀ (v1 : Int32) (m : mM) (r : Unit) (m' : mM), g 137 v1 m = some (r, m') → m_R X (d + 5) 137 0 [some (.ref 114), some (.int v1), none] [] (SH, m) (none, (SH, m'))) : ∀ (v1 : Int32)  (m : mM) (r : Unit) (m' : mM), f_Reader_readOne F g v1 m = some (r, m') → m_R X (d + 6) 137 0 [some (.ref 114), some (.int v1), none] [] (SH, m) (none, (SH, m')) := by
  intro v1 m r m' h
  unfold f_Reader_readOne at h
  refine m_R_sg (by decide) [(.aload_n 0, 1, 0, 0, 0, 0, 0), (.getfield 34, 3, 0, 5, 8, 0, 604), (.bipush 45, 2, 0, 45, 0, 0, 0)] (by decide +kernel) (show m_sgl X _ _ _ _ _ = some (6, [some (.ref 114), some (.int v1), none], [.int (45 : Int32), .int (m.1 114 8)], (SH, m.1, m.2)) from rfl) ?_
  rcases m_ite h with ⟨c165, h⟩ | ⟨c165, h⟩
  · refine m_R_1 (by decide) (m_opb_of (ins := .if_icmp .eq 12) (len := 3) (tag := 0) (a := 18) (b := 0) (c := 0) (q := 0) (by decide +kernel)) (if_pos c165) ?_
    exact ok_Reader_readOne_18 X d F g hg131 hg132 hg133 hg135 hg136 hg137 _ _ _ _ _ h
  · refine m_R_1 (by decide) (m_opb_of (ins := .if_icmp .eq 12) (len := 3) (tag := 0) (a := 18) (b := 0) (c := 0) (q := 0) (by decide +kernel)) (if_neg c165) ?_
    refine m_R_sg (by decide) [(.aload_n 0, 1, 0, 0, 0, 0, 0), (.getfield 34, 3, 0, 5, 8, 0, 604), (.bipush 40, 2, 0, 40, 0, 0, 0)] (by decide +kernel) (show m_sgl X _ _ _ _ _ = some (15, [some (.ref 114), some (.int v1), none], [.int (40 : Int32), .int (m.1 114 8)], (SH, m.1, m.2)) from rfl) ?_
    rcases m_ite h with ⟨c166, h⟩ | ⟨c166, h⟩
    · refine m_R_1 (by decide) (m_opb_of (ins := .if_icmp .ne 7) (len := 3) (tag := 0) (a := 22) (b := 0) (c := 0) (q := 0) (by decide +kernel)) (if_pos c166) ?_
      exact ok_Reader_readOne_18 X d F g hg131 hg132 hg133 hg135 hg136 hg137 _ _ _ _ _ h
    · refine m_R_1 (by decide) (m_opb_of (ins := .if_icmp .ne 7) (len := 3) (tag := 0) (a := 22) (b := 0) (c := 0) (q := 0) (by decide +kernel)) (if_neg c166) ?_
      refine m_R_sg (by decide) [(.iconst 0, 1, 0, 0, 0, 0, 0)] (by decide +kernel) (show m_sgl X _ _ _ _ _ = some (23, [some (.ref 114), some (.int v1), none], [.int (0 : Int32)], (SH, m.1, m.2)) from rfl) ?_
      exact ok_Reader_readOne_23 X d F g hg131 hg132 hg133 hg135 hg136 hg137 _ _ _ _ _ _ h
def f_grp_R (F : Nat) : Nat → Nat → Int32 → mM → Option (Unit × mM)
  | 0, _, _, _ => none
  | n + 1, t, v1, m => (if t = 131 then f_Reader_readOrs F (f_grp_R F n) v1 m else (if t = 132 then f_Reader_readAnds F (f_grp_R F n) v1 m else (if t = 133 then f_Reader_readNot F (f_grp_R F n) v1 m else (if t = 135 then f_Reader_readSum F (f_grp_R F n) v1 m else (if t = 136 then f_Reader_readTerm F (f_grp_R F n) v1 m else (if t = 137 then f_Reader_readOne F (f_grp_R F n) v1 m else none))))))
theorem ok_grp_R (X : mX) (F : Nat) : ∀ (n d : Nat), (∀ (v1 : Int32) (m : mM) (r : Unit) (m' : mM), f_grp_R F n 131 v1 m = some (r, m') → m_R X (d + n + 5) 131 0 [some (.ref 114), some (.int v1), none] [] (SH, m) (none, (SH, m'))) ∧ (∀ (v1 : Int32) (m : mM) (r : Unit) (m' : mM), f_grp_R F n 132 v1 m = some (r, m') → m_R X (d + n + 5) 132 0 [some (.ref 114), some (.int v1), none] [] (SH, m) (none, (SH, m'))) ∧ (∀ (v1 : Int32) (m : mM) (r : Unit) (m' : mM), f_grp_R F n 133 v1 m = some (r, m') → m_R X (d + n + 5) 133 0 [some (.ref 114), some (.int v1), none] [] (SH, m) (none, (SH, m'))) ∧ (∀ (v1 : Int32) (m : mM) (r : Unit) (m' : mM), f_grp_R F n 135 v1 m = some (r, m') → m_R X (d + n + 5) 135 0 [some (.ref 114), some (.int v1), none, none] [] (SH, m) (none, (SH, m'))) ∧ (∀ (v1 : Int32) (m : mM) (r : Unit) (m' : mM), f_grp_R F n 136 v1 m = some (r, m') → m_R X (d + n + 5) 136 0 [some (.ref 114), some (.int v1), none, none] [] (SH, m) (none, (SH, m'))) ∧ (∀ (v1 : Int32) (m : mM) (r : Unit) (m' : mM), f_grp_R F n 137 v1 m = some (r, m') → m_R X (d + n + 5) 137 0 [some (.ref 114), some (.int v1), none] [] (SH, m) (none, (SH, m'))) := by
  intro n
  induction n with
  | zero => intro d; exact ⟨(by intro v1 m r m' h; cases h), (by intro v1 m r m' h; cases h), (by intro v1 m r m' h; cases h), (by intro v1 m r m' h; cases h), (by intro v1 m r m' h; cases h), (by intro v1 m r m' h; cases h)⟩
  | succ n ih =>
    intro d
    obtain ⟨i131, i132, i133, i135, i136, i137⟩ := ih d
    refine ⟨?_, ?_, ?_, ?_, ?_, ?_⟩
    · intro v1 m r m' h
      rcases m_ite h with ⟨_, h⟩ | ⟨z, _⟩
      · exact ok_Reader_readOrs X (d + n) F _ i131 i132 i133 i135 i136 i137 v1 m r m' h
      · exact absurd rfl z
    · intro v1 m r m' h
      rcases m_ite h with ⟨z, _⟩ | ⟨_, h⟩; exact absurd z (by decide)
      rcases m_ite h with ⟨_, h⟩ | ⟨z, _⟩
      · exact ok_Reader_readAnds X (d + n) F _ i131 i132 i133 i135 i136 i137 v1 m r m' h
      · exact absurd rfl z
    · intro v1 m r m' h
      rcases m_ite h with ⟨z, _⟩ | ⟨_, h⟩; exact absurd z (by decide)
      rcases m_ite h with ⟨z, _⟩ | ⟨_, h⟩; exact absurd z (by decide)
      rcases m_ite h with ⟨_, h⟩ | ⟨z, _⟩
      · exact ok_Reader_readNot X (d + n) F _ i131 i132 i133 i135 i136 i137 v1 m r m' h
      · exact absurd rfl z
    · intro v1 m r m' h
      rcases m_ite h with ⟨z, _⟩ | ⟨_, h⟩; exact absurd z (by decide)
      rcases m_ite h with ⟨z, _⟩ | ⟨_, h⟩; exact absurd z (by decide)
      rcases m_ite h with ⟨z, _⟩ | ⟨_, h⟩; exact absurd z (by decide)
      rcases m_ite h with ⟨_, h⟩ | ⟨z, _⟩
      · exact ok_Reader_readSum X (d + n) F _ i131 i132 i133 i135 i136 i137 v1 m r m' h
      · exact absurd rfl z
    · intro v1 m r m' h
      rcases m_ite h with ⟨z, _⟩ | ⟨_, h⟩; exact absurd z (by decide)
      rcases m_ite h with ⟨z, _⟩ | ⟨_, h⟩; exact absurd z (by decide)
      rcases m_ite h with ⟨z, _⟩ | ⟨_, h⟩; exact absurd z (by decide)
      rcases m_ite h with ⟨z, _⟩ | ⟨_, h⟩; exact absurd z (by decide)
      rcases m_ite h with ⟨_, h⟩ | ⟨z, _⟩
      · exact ok_Reader_readTerm X (d + n) F _ i131 i132 i133 i135 i136 i137 v1 m r m' h
      · exact absurd rfl z
    · intro v1 m r m' h
      rcases m_ite h with ⟨z, _⟩ | ⟨_, h⟩; exact absurd z (by decide)
      rcases m_ite h with ⟨z, _⟩ | ⟨_, h⟩; exact absurd z (by decide)
      rcases m_ite h with ⟨z, _⟩ | ⟨_, h⟩; exact absurd z (by decide)
      rcases m_ite h with ⟨z, _⟩ | ⟨_, h⟩; exact absurd z (by decide)
      rcases m_ite h with ⟨z, _⟩ | ⟨_, h⟩; exact absurd z (by decide)
      rcases m_ite h with ⟨_, h⟩ | ⟨z, _⟩
      · exact ok_Reader_readOne X (d + n) F _ i131 i132 i133 i135 i136 i137 v1 m r m' h
      · exact absurd rfl z
def f_Reader_readOrs_w (F : Nat) (v1 : Int32) (m : mM) : Option (Unit × mM) := f_grp_R F 60 131 v1 m
theorem ok_Reader_readOrs_w (X : mX) (d F : Nat) : ∀ (v1 : Int32) (m : mM) (r : Unit) (m' : mM), f_Reader_readOrs_w F v1 m = some (r, m') → m_R X (d + 65) 131 0 [some (.ref 114), some (.int v1), none] [] (SH, m) (none, (SH, m')) := by
  obtain ⟨j131, j132, j133, j135, j136, j137⟩ := ok_grp_R X F 60 d
  exact j131
def f_Reader_readAnds_w (F : Nat) (v1 : Int32) (m : mM) : Option (Unit × mM) := f_grp_R F 60 132 v1 m
theorem ok_Reader_readAnds_w (X : mX) (d F : Nat) : ∀ (v1 : Int32) (m : mM) (r : Unit) (m' : mM), f_Reader_readAnds_w F v1 m = some (r, m') → m_R X (d + 65) 132 0 [some (.ref 114), some (.int v1), none] [] (SH, m) (none, (SH, m')) := by
  obtain ⟨j131, j132, j133, j135, j136, j137⟩ := ok_grp_R X F 60 d
  exact j132
def f_Reader_readNot_w (F : Nat) (v1 : Int32) (m : mM) : Option (Unit × mM) := f_grp_R F 60 133 v1 m
theorem ok_Reader_readNot_w (X : mX) (d F : Nat) : ∀ (v1 : Int32) (m : mM) (r : Unit) (m' : mM), f_Reader_readNot_w F v1 m = some (r, m') → m_R X (d + 65) 133 0 [some (.ref 114), some (.int v1), none] [] (SH, m) (none, (SH, m')) := by
  obtain ⟨j131, j132, j133, j135, j136, j137⟩ := ok_grp_R X F 60 d
  exact j133
def f_Reader_readSum_w (F : Nat) (v1 : Int32) (m : mM) : Option (Unit × mM) := f_grp_R F 60 135 v1 m
theorem ok_Reader_readSum_w (X : mX) (d F : Nat) : ∀ (v1 : Int32) (m : mM) (r : Unit) (m' : mM), f_Reader_readSum_w F v1 m = some (r, m') → m_R X (d + 65) 135 0 [some (.ref 114), some (.int v1), none, none] [] (SH, m) (none, (SH, m')) := by
  obtain ⟨j131, j132, j133, j135, j136, j137⟩ := ok_grp_R X F 60 d
  exact j135
def f_Reader_readTerm_w (F : Nat) (v1 : Int32) (m : mM) : Option (Unit × mM) := f_grp_R F 60 136 v1 m
theorem ok_Reader_readTerm_w (X : mX) (d F : Nat) : ∀ (v1 : Int32) (m : mM) (r : Unit) (m' : mM), f_Reader_readTerm_w F v1 m = some (r, m') → m_R X (d + 65) 136 0 [some (.ref 114), some (.int v1), none, none] [] (SH, m) (none, (SH, m')) := by
  obtain ⟨j131, j132, j133, j135, j136, j137⟩ := ok_grp_R X F 60 d
  exact j136
def f_Reader_readOne_w (F : Nat) (v1 : Int32) (m : mM) : Option (Unit × mM) := f_grp_R F 60 137 v1 m
theorem ok_Reader_readOne_w (X : mX) (d F : Nat) : ∀ (v1 : Int32) (m : mM) (r : Unit) (m' : mM), f_Reader_readOne_w F v1 m = some (r, m') → m_R X (d + 65) 137 0 [some (.ref 114), some (.int v1), none] [] (SH, m) (none, (SH, m')) := by
  obtain ⟨j131, j132, j133, j135, j136, j137⟩ := ok_grp_R X F 60 d
  exact j137
def f_Reader_readTape_89 (F : Nat)    (m : mM) : Option (Int32 × mM) := some ((m.1 114 7), m)
theorem ok_Reader_readTape_89 (X : mX) (d F : Nat) : ∀   (m : mM) (r : Int32) (m' : mM), f_Reader_readTape_89 F  m = some (r, m') → m_R X (d + 66) 122 89 [some (.ref 114)] [] (SH, m) (some (.int r), (SH, m')) := by
  intro m r m' h
  unfold f_Reader_readTape_89 at h
  refine m_R_sg (by decide) [(.aload_n 0, 1, 0, 0, 0, 0, 0), (.getfield 28, 3, 0, 5, 7, 0, 603)] (by decide +kernel) (show m_sgl X _ _ _ _ _ = some (93, [some (.ref 114)], [.int (m.1 114 7)], (SH, m.1, m.2)) from rfl) ?_
  obtain ⟨rfl, rfl⟩ := m_some h
  exact m_R_iret (by decide) (m_opb_of (ins := .ireturn) (len := 1) (tag := 1) (a := 0) (b := 0) (c := 0) (q := 0) (by decide +kernel)) (Or.inl rfl)
def f_Reader_readTape_78 (F : Nat)    (m : mM) : Option (Int32 × mM) := (if (m.1 114 8) = 0 then f_Reader_readTape_89 F m else ((f_Reader_stop F m).bind fun q7 => f_Reader_readTape_89 F q7.2))
theorem ok_Reader_readTape_78 (X : mX) (d F : Nat) : ∀   (m : mM) (r : Int32) (m' : mM), f_Reader_readTape_78 F  m = some (r, m') → m_R X (d + 66) 122 78 [some (.ref 114)] [] (SH, m) (some (.int r), (SH, m')) := by
  intro m r m' h
  unfold f_Reader_readTape_78 at h
  refine m_R_sg (by decide) [(.aload_n 0, 1, 0, 0, 0, 0, 0), (.getfield 34, 3, 0, 5, 8, 0, 604)] (by decide +kernel) (show m_sgl X _ _ _ _ _ = some (82, [some (.ref 114)], [.int (m.1 114 8)], (SH, m.1, m.2)) from rfl) ?_
  rcases m_ite h with ⟨c167, h⟩ | ⟨c167, h⟩
  · refine m_R_1 (by decide) (m_opb_of (ins := .ifCond .eq 7) (len := 3) (tag := 0) (a := 89) (b := 0) (c := 0) (q := 0) (by decide +kernel)) (if_pos c167) ?_
    exact ok_Reader_readTape_89 X d F _ _ _ h
  · refine m_R_1 (by decide) (m_opb_of (ins := .ifCond .eq 7) (len := 3) (tag := 0) (a := 89) (b := 0) (c := 0) (q := 0) (by decide +kernel)) (if_neg c167) ?_
    refine m_R_sg (by decide) [(.aload_n 0, 1, 0, 0, 0, 0, 0)] (by decide +kernel) (show m_sgl X _ _ _ _ _ = some (86, [some (.ref 114)], [.ref 114], (SH, m.1, m.2)) from rfl) ?_
    obtain ⟨q7, hc7, h⟩ := Option.bind_eq_some_iff.mp h
    refine m_R_cV (v := none) (h1 := (SH, q7.2)) (rest := []) (lo' := [some (.ref 114)]) (ml := 1) (k0 := 114) (by decide) (Or.inl rfl) (m_opb_of (ins := .invokevirtual 37) (len := 3) (tag := 5) (a := 130) (b := 0) (c := 0) (q := 1193) (by decide +kernel)) (by decide +kernel) rfl (show m_isO 130 114 (SH, _) = true from m_isO_of (by decide +kernel)) (Nat.le_of_ble_eq_true rfl) rfl rfl (ok_Reader_stop X (d + 65) F _ _ _ hc7) ?_
    exact ok_Reader_readTape_89 X d F _ _ _ h
def f_Reader_readTape (F : Nat)    (m : mM) : Option (Int32 × mM) := ((f_Reader_nextToken F ((m_up (m_up (m_up m.1 114 6 (0 : Int32)) 114 3 (0 : Int32)) 114 7 (-1 : Int32)), m.2)).bind fun q1 => (if (q1.2.1 114 8) = (3 : Int32) then ((f_Reader_nextToken F ((m_up q1.2.1 114 5 (q1.2.1 114 10)), q1.2.2)).bind fun q2 => ((f_Reader_readOrs_w F (0 : Int32) q2.2).bind fun q3 => (if ((m_up q3.2.1 114 4 (q3.2.1 114 3)) 114 8) = (5 : Int32) then ((f_Reader_nextToken F ((m_up q3.2.1 114 4 (q3.2.1 114 3)), q3.2.2)).bind fun q4 => ((f_Reader_readOrs_w F (0 : Int32) q4.2).bind fun q5 => f_Reader_readTape_78 F q5.2)) else f_Reader_readTape_78 F ((m_up q3.2.1 114 4 (q3.2.1 114 3)), q3.2.2)))) else ((f_Reader_stop F q1.2).bind fun q6 => some ((q6.2.1 114 7), q6.2))))
theorem ok_Reader_readTape (X : mX) (d F : Nat) : ∀   (m : mM) (r : Int32) (m' : mM), f_Reader_readTape F  m = some (r, m') → m_R X (d + 66) 122 0 [some (.ref 114)] [] (SH, m) (some (.int r), (SH, m')) := by
  intro m r m' h
  unfold f_Reader_readTape at h
  refine m_R_sg (by decide) [(.aload_n 0, 1, 0, 0, 0, 0, 0), (.iconst 0, 1, 0, 0, 0, 0, 0), (.putfield 22, 3, 0, 5, 6, 0, 602), (.aload_n 0, 1, 0, 0, 0, 0, 0), (.iconst 0, 1, 0, 0, 0, 0, 0), (.putfield 25, 3, 0, 5, 3, 0, 596), (.aload_n 0, 1, 0, 0, 0, 0, 0), (.iconst (-1), 1, 0, 1, 1, 0, 0), (.putfield 28, 3, 0, 5, 7, 0, 603), (.aload_n 0, 1, 0, 0, 0, 0, 0)] (by decide +kernel) (show m_sgl X _ _ _ _ _ = some (16, [some (.ref 114)], [.ref 114], (SH, (m_up (m_up (m_up m.1 114 6 (0 : Int32)) 114 3 (0 : Int32)) 114 7 (-1 : Int32)), m.2)) from rfl) ?_
  obtain ⟨q1, hc1, h⟩ := Option.bind_eq_some_iff.mp h
  refine m_R_cV (v := none) (h1 := (SH, q1.2)) (rest := []) (lo' := [some (.ref 114)]) (ml := 1) (k0 := 114) (by decide) (Or.inl rfl) (m_opb_of (ins := .invokevirtual 31) (len := 3) (tag := 5) (a := 123) (b := 0) (c := 0) (q := 1119) (by decide +kernel)) (by decide +kernel) rfl (show m_isO 123 114 (SH, _) = true from m_isO_of (by decide +kernel)) (Nat.le_of_ble_eq_true rfl) rfl rfl (ok_Reader_nextToken X (d + 60) F _ _ _ hc1) ?_
  refine m_R_sg (by decide) [(.aload_n 0, 1, 0, 0, 0, 0, 0), (.getfield 34, 3, 0, 5, 8, 0, 604), (.iconst 3, 1, 0, 3, 0, 0, 0)] (by decide +kernel) (show m_sgl X _ _ _ _ _ = some (24, [some (.ref 114)], [.int (3 : Int32), .int (q1.2.1 114 8)], (SH, q1.2.1, q1.2.2)) from rfl) ?_
  rcases m_ite h with ⟨c168, h⟩ | ⟨c168, h⟩
  · refine m_R_1 (by decide) (m_opb_of (ins := .if_icmp .eq 12) (len := 3) (tag := 0) (a := 36) (b := 0) (c := 0) (q := 0) (by decide +kernel)) (if_pos c168) ?_
    refine m_R_sg (by decide) [(.aload_n 0, 1, 0, 0, 0, 0, 0), (.aload_n 0, 1, 0, 0, 0, 0, 0), (.getfield 40, 3, 0, 5, 10, 0, 606), (.putfield 43, 3, 0, 5, 5, 0, 601), (.aload_n 0, 1, 0, 0, 0, 0, 0)] (by decide +kernel) (show m_sgl X _ _ _ _ _ = some (45, [some (.ref 114)], [.ref 114], (SH, (m_up q1.2.1 114 5 (q1.2.1 114 10)), q1.2.2)) from rfl) ?_
    obtain ⟨q2, hc2, h⟩ := Option.bind_eq_some_iff.mp h
    refine m_R_cV (v := none) (h1 := (SH, q2.2)) (rest := []) (lo' := [some (.ref 114)]) (ml := 1) (k0 := 114) (by decide) (Or.inl rfl) (m_opb_of (ins := .invokevirtual 31) (len := 3) (tag := 5) (a := 123) (b := 0) (c := 0) (q := 1119) (by decide +kernel)) (by decide +kernel) rfl (show m_isO 123 114 (SH, _) = true from m_isO_of (by decide +kernel)) (Nat.le_of_ble_eq_true rfl) rfl rfl (ok_Reader_nextToken X (d + 60) F _ _ _ hc2) ?_
    refine m_R_sg (by decide) [(.aload_n 0, 1, 0, 0, 0, 0, 0), (.iconst 0, 1, 0, 0, 0, 0, 0)] (by decide +kernel) (show m_sgl X _ _ _ _ _ = some (50, [some (.ref 114)], [.int (0 : Int32), .ref 114], (SH, q2.2.1, q2.2.2)) from rfl) ?_
    obtain ⟨q3, hc3, h⟩ := Option.bind_eq_some_iff.mp h
    refine m_R_cV (v := none) (h1 := (SH, q3.2)) (rest := []) (lo' := [some (.ref 114), some (.int (0 : Int32)), none]) (ml := 3) (k0 := 114) (by decide) (Or.inl rfl) (m_opb_of (ins := .invokevirtual 46) (len := 3) (tag := 5) (a := 131) (b := 1) (c := 0) (q := 1197) (by decide +kernel)) (by decide +kernel) rfl (show m_isO 131 114 (SH, _) = true from m_isO_of (by decide +kernel)) (Nat.le_of_ble_eq_true rfl) rfl rfl (ok_Reader_readOrs_w X (d + 0) F _ _ _ _ hc3) ?_
    refine m_R_sg (by decide) [(.aload_n 0, 1, 0, 0, 0, 0, 0), (.aload_n 0, 1, 0, 0, 0, 0, 0), (.getfield 25, 3, 0, 5, 3, 0, 596), (.putfield 50, 3, 0, 5, 4, 0, 599), (.aload_n 0, 1, 0, 0, 0, 0, 0), (.getfield 34, 3, 0, 5, 8, 0, 604), (.iconst 5, 1, 0, 5, 0, 0, 0)] (by decide +kernel) (show m_sgl X _ _ _ _ _ = some (66, [some (.ref 114)], [.int (5 : Int32), .int ((m_up q3.2.1 114 4 (q3.2.1 114 3)) 114 8)], (SH, (m_up q3.2.1 114 4 (q3.2.1 114 3)), q3.2.2)) from rfl) ?_
    rcases m_ite h with ⟨c169, h⟩ | ⟨c169, h⟩
    · refine m_R_1 (by decide) (m_opb_of (ins := .if_icmp .ne 12) (len := 3) (tag := 0) (a := 78) (b := 0) (c := 0) (q := 0) (by decide +kernel)) (if_pos c169) ?_
      refine m_R_sg (by decide) [(.aload_n 0, 1, 0, 0, 0, 0, 0)] (by decide +kernel) (show m_sgl X _ _ _ _ _ = some (70, [some (.ref 114)], [.ref 114], (SH, (m_up q3.2.1 114 4 (q3.2.1 114 3)), q3.2.2)) from rfl) ?_
      obtain ⟨q4, hc4, h⟩ := Option.bind_eq_some_iff.mp h
      refine m_R_cV (v := none) (h1 := (SH, q4.2)) (rest := []) (lo' := [some (.ref 114)]) (ml := 1) (k0 := 114) (by decide) (Or.inl rfl) (m_opb_of (ins := .invokevirtual 31) (len := 3) (tag := 5) (a := 123) (b := 0) (c := 0) (q := 1119) (by decide +kernel)) (by decide +kernel) rfl (show m_isO 123 114 (SH, _) = true from m_isO_of (by decide +kernel)) (Nat.le_of_ble_eq_true rfl) rfl rfl (ok_Reader_nextToken X (d + 60) F _ _ _ hc4) ?_
      refine m_R_sg (by decide) [(.aload_n 0, 1, 0, 0, 0, 0, 0), (.iconst 0, 1, 0, 0, 0, 0, 0)] (by decide +kernel) (show m_sgl X _ _ _ _ _ = some (75, [some (.ref 114)], [.int (0 : Int32), .ref 114], (SH, q4.2.1, q4.2.2)) from rfl) ?_
      obtain ⟨q5, hc5, h⟩ := Option.bind_eq_some_iff.mp h
      refine m_R_cV (v := none) (h1 := (SH, q5.2)) (rest := []) (lo' := [some (.ref 114), some (.int (0 : Int32)), none]) (ml := 3) (k0 := 114) (by decide) (Or.inl rfl) (m_opb_of (ins := .invokevirtual 46) (len := 3) (tag := 5) (a := 131) (b := 1) (c := 0) (q := 1197) (by decide +kernel)) (by decide +kernel) rfl (show m_isO 131 114 (SH, _) = true from m_isO_of (by decide +kernel)) (Nat.le_of_ble_eq_true rfl) rfl rfl (ok_Reader_readOrs_w X (d + 0) F _ _ _ _ hc5) ?_
      exact ok_Reader_readTape_78 X d F _ _ _ h
    · refine m_R_1 (by decide) (m_opb_of (ins := .if_icmp .ne 12) (len := 3) (tag := 0) (a := 78) (b := 0) (c := 0) (q := 0) (by decide +kernel)) (if_neg c169) ?_
      exact ok_Reader_readTape_78 X d F _ _ _ h
  · refine m_R_1 (by decide) (m_opb_of (ins := .if_icmp .eq 12) (len := 3) (tag := 0) (a := 36) (b := 0) (c := 0) (q := 0) (by decide +kernel)) (if_neg c168) ?_
    refine m_R_sg (by decide) [(.aload_n 0, 1, 0, 0, 0, 0, 0)] (by decide +kernel) (show m_sgl X _ _ _ _ _ = some (28, [some (.ref 114)], [.ref 114], (SH, q1.2.1, q1.2.2)) from rfl) ?_
    obtain ⟨q6, hc6, h⟩ := Option.bind_eq_some_iff.mp h
    refine m_R_cV (v := none) (h1 := (SH, q6.2)) (rest := []) (lo' := [some (.ref 114)]) (ml := 1) (k0 := 114) (by decide) (Or.inl rfl) (m_opb_of (ins := .invokevirtual 37) (len := 3) (tag := 5) (a := 130) (b := 0) (c := 0) (q := 1193) (by decide +kernel)) (by decide +kernel) rfl (show m_isO 130 114 (SH, _) = true from m_isO_of (by decide +kernel)) (Nat.le_of_ble_eq_true rfl) rfl rfl (ok_Reader_stop X (d + 65) F _ _ _ hc6) ?_
    refine m_R_sg (by decide) [(.aload_n 0, 1, 0, 0, 0, 0, 0), (.getfield 28, 3, 0, 5, 7, 0, 603)] (by decide +kernel) (show m_sgl X _ _ _ _ _ = some (35, [some (.ref 114)], [.int (q6.2.1 114 7)], (SH, q6.2.1, q6.2.2)) from rfl) ?_
    obtain ⟨rfl, rfl⟩ := m_some h
    exact m_R_iret (by decide) (m_opb_of (ins := .ireturn) (len := 1) (tag := 1) (a := 0) (b := 0) (c := 0) (q := 0) (by decide +kernel)) (Or.inl rfl)
def f_Texts_putText_8_114 (F : Nat)   (v1 : Int32) (v3 : Int32) (v4 : Int32) (m : mM) : Option (Unit × mM) := (if v1 < 0 ∨ 12 ≤ v1.toNatClampNeg then none else (if (0 : Int32) < 0 ∨ (v1 * (120 : Int32)) < 0 ∨ ((m_up (m_up (m_up (m_up (m_up m.1 9 v1.toNatClampNeg (m.1 114 5)) 10 v1.toNatClampNeg v3) 11 v1.toNatClampNeg v4) 12 v1.toNatClampNeg ((m_up (m_up (m_up m.1 9 v1.toNatClampNeg (m.1 114 5)) 10 v1.toNatClampNeg v3) 11 v1.toNatClampNeg v4) 114 4)) 13 v1.toNatClampNeg ((m_up (m_up (m_up (m_up m.1 9 v1.toNatClampNeg (m.1 114 5)) 10 v1.toNatClampNeg v3) 11 v1.toNatClampNeg v4) 12 v1.toNatClampNeg ((m_up (m_up (m_up m.1 9 v1.toNatClampNeg (m.1 114 5)) 10 v1.toNatClampNeg v3) 11 v1.toNatClampNeg v4) 114 4)) 114 3)) 114 3) < 0 ∨ 120 < (0 : Int32).toNatClampNeg + ((m_up (m_up (m_up (m_up (m_up m.1 9 v1.toNatClampNeg (m.1 114 5)) 10 v1.toNatClampNeg v3) 11 v1.toNatClampNeg v4) 12 v1.toNatClampNeg ((m_up (m_up (m_up m.1 9 v1.toNatClampNeg (m.1 114 5)) 10 v1.toNatClampNeg v3) 11 v1.toNatClampNeg v4) 114 4)) 13 v1.toNatClampNeg ((m_up (m_up (m_up (m_up m.1 9 v1.toNatClampNeg (m.1 114 5)) 10 v1.toNatClampNeg v3) 11 v1.toNatClampNeg v4) 12 v1.toNatClampNeg ((m_up (m_up (m_up m.1 9 v1.toNatClampNeg (m.1 114 5)) 10 v1.toNatClampNeg v3) 11 v1.toNatClampNeg v4) 114 4)) 114 3)) 114 3).toNatClampNeg ∨ 1440 < (v1 * (120 : Int32)).toNatClampNeg + ((m_up (m_up (m_up (m_up (m_up m.1 9 v1.toNatClampNeg (m.1 114 5)) 10 v1.toNatClampNeg v3) 11 v1.toNatClampNeg v4) 12 v1.toNatClampNeg ((m_up (m_up (m_up m.1 9 v1.toNatClampNeg (m.1 114 5)) 10 v1.toNatClampNeg v3) 11 v1.toNatClampNeg v4) 114 4)) 13 v1.toNatClampNeg ((m_up (m_up (m_up (m_up m.1 9 v1.toNatClampNeg (m.1 114 5)) 10 v1.toNatClampNeg v3) 11 v1.toNatClampNeg v4) 12 v1.toNatClampNeg ((m_up (m_up (m_up m.1 9 v1.toNatClampNeg (m.1 114 5)) 10 v1.toNatClampNeg v3) 11 v1.toNatClampNeg v4) 114 4)) 114 3)) 114 3).toNatClampNeg then none else some ((), ((m_row (m_up (m_up (m_up (m_up (m_up m.1 9 v1.toNatClampNeg (m.1 114 5)) 10 v1.toNatClampNeg v3) 11 v1.toNatClampNeg v4) 12 v1.toNatClampNeg ((m_up (m_up (m_up m.1 9 v1.toNatClampNeg (m.1 114 5)) 10 v1.toNatClampNeg v3) 11 v1.toNatClampNeg v4) 114 4)) 13 v1.toNatClampNeg ((m_up (m_up (m_up (m_up m.1 9 v1.toNatClampNeg (m.1 114 5)) 10 v1.toNatClampNeg v3) 11 v1.toNatClampNeg v4) 12 v1.toNatClampNeg ((m_up (m_up (m_up m.1 9 v1.toNatClampNeg (m.1 114 5)) 10 v1.toNatClampNeg v3) 11 v1.toNatClampNeg v4) 114 4)) 114 3)) 14 (va_cpy ((m_up (m_up (m_up (m_up (m_up m.1 9 v1.toNatClampNeg (m.1 114 5)) 10 v1.toNatClampNeg v3) 11 v1.toNatClampNeg v4) 12 v1.toNatClampNeg ((m_up (m_up (m_up m.1 9 v1.toNatClampNeg (m.1 114 5)) 10 v1.toNatClampNeg v3) 11 v1.toNatClampNeg v4) 114 4)) 13 v1.toNatClampNeg ((m_up (m_up (m_up (m_up m.1 9 v1.toNatClampNeg (m.1 114 5)) 10 v1.toNatClampNeg v3) 11 v1.toNatClampNeg v4) 12 v1.toNatClampNeg ((m_up (m_up (m_up m.1 9 v1.toNatClampNeg (m.1 114 5)) 10 v1.toNatClampNeg v3) 11 v1.toNatClampNeg v4) 114 4)) 114 3)) 116) ((m_up (m_up (m_up (m_up (m_up m.1 9 v1.toNatClampNeg (m.1 114 5)) 10 v1.toNatClampNeg v3) 11 v1.toNatClampNeg v4) 12 v1.toNatClampNeg ((m_up (m_up (m_up m.1 9 v1.toNatClampNeg (m.1 114 5)) 10 v1.toNatClampNeg v3) 11 v1.toNatClampNeg v4) 114 4)) 13 v1.toNatClampNeg ((m_up (m_up (m_up (m_up m.1 9 v1.toNatClampNeg (m.1 114 5)) 10 v1.toNatClampNeg v3) 11 v1.toNatClampNeg v4) 12 v1.toNatClampNeg ((m_up (m_up (m_up m.1 9 v1.toNatClampNeg (m.1 114 5)) 10 v1.toNatClampNeg v3) 11 v1.toNatClampNeg v4) 114 4)) 114 3)) 14) (0 : Int32).toNatClampNeg (v1 * (120 : Int32)).toNatClampNeg ((m_up (m_up (m_up (m_up (m_up m.1 9 v1.toNatClampNeg (m.1 114 5)) 10 v1.toNatClampNeg v3) 11 v1.toNatClampNeg v4) 12 v1.toNatClampNeg ((m_up (m_up (m_up m.1 9 v1.toNatClampNeg (m.1 114 5)) 10 v1.toNatClampNeg v3) 11 v1.toNatClampNeg v4) 114 4)) 13 v1.toNatClampNeg ((m_up (m_up (m_up (m_up m.1 9 v1.toNatClampNeg (m.1 114 5)) 10 v1.toNatClampNeg v3) 11 v1.toNatClampNeg v4) 12 v1.toNatClampNeg ((m_up (m_up (m_up m.1 9 v1.toNatClampNeg (m.1 114 5)) 10 v1.toNatClampNeg v3) 11 v1.toNatClampNeg v4) 114 4)) 114 3)) 114 3).toNatClampNeg)), m.2))))
theorem ok_Texts_putText_8_114 (X : mX) (d F : Nat) : ∀ (v1 : Int32) (v3 : Int32) (v4 : Int32)  (m : mM) (r : Unit) (m' : mM), f_Texts_putText_8_114 F v1 v3 v4 m = some (r, m') → m_R X (d + 1) 139 0 [some (.ref 8), some (.int v1), some (.ref 114), some (.int v3), some (.int v4)] [] (SH, m) (none, (SH, m')) := by
  intro v1 v3 v4 m r m' h
  unfold f_Texts_putText_8_114 at h
  refine m_R_sg (by decide) [(.aload_n 0, 1, 0, 0, 0, 0, 0), (.getfield 9, 3, 0, 8, 0, 3, 197), (.iload_n 1, 1, 0, 1, 0, 0, 0), (.aload_n 2, 1, 0, 2, 0, 0, 0), (.getfield 33, 3, 0, 5, 5, 0, 600)] (by decide +kernel) (show m_sgl X _ _ _ _ _ = some (9, [some (.ref 8), some (.int v1), some (.ref 114), some (.int v3), some (.int v4)], [.int (m.1 114 5), .int v1, .ref 9], (SH, m.1, m.2)) from rfl) ?_
  obtain ⟨c170, h⟩ := m_ite_n h
  refine m_R_1 (by decide) (m_opb_of (ins := .iastore) (len := 1) (tag := 0) (a := 0) (b := 0) (c := 0) (q := 0) (by decide +kernel)) (m_s_iast sh_9 c170) ?_
  refine m_R_sg (by decide) [(.aload_n 0, 1, 0, 0, 0, 0, 0), (.getfield 15, 3, 0, 8, 1, 3, 198), (.iload_n 1, 1, 0, 1, 0, 0, 0), (.iload_n 3, 1, 0, 3, 0, 0, 0)] (by decide +kernel) (show m_sgl X _ _ _ _ _ = some (16, [some (.ref 8), some (.int v1), some (.ref 114), some (.int v3), some (.int v4)], [.int v3, .int v1, .ref 10], (SH, (m_up m.1 9 v1.toNatClampNeg (m.1 114 5)), m.2)) from rfl) ?_
  refine m_R_1 (by decide) (m_opb_of (ins := .iastore) (len := 1) (tag := 0) (a := 0) (b := 0) (c := 0) (q := 0) (by decide +kernel)) (m_s_iast sh_10 c170) ?_
  refine m_R_sg (by decide) [(.aload_n 0, 1, 0, 0, 0, 0, 0), (.getfield 18, 3, 0, 8, 2, 3, 199), (.iload_n 1, 1, 0, 1, 0, 0, 0), (.iload 4, 2, 0, 4, 0, 0, 0)] (by decide +kernel) (show m_sgl X _ _ _ _ _ = some (24, [some (.ref 8), some (.int v1), some (.ref 114), some (.int v3), some (.int v4)], [.int v4, .int v1, .ref 11], (SH, (m_up (m_up m.1 9 v1.toNatClampNeg (m.1 114 5)) 10 v1.toNatClampNeg v3), m.2)) from rfl) ?_
  refine m_R_1 (by decide) (m_opb_of (ins := .iastore) (len := 1) (tag := 0) (a := 0) (b := 0) (c := 0) (q := 0) (by decide +kernel)) (m_s_iast sh_11 c170) ?_
  refine m_R_sg (by decide) [(.aload_n 0, 1, 0, 0, 0, 0, 0), (.getfield 21, 3, 0, 8, 3, 3, 200), (.iload_n 1, 1, 0, 1, 0, 0, 0), (.aload_n 2, 1, 0, 2, 0, 0, 0), (.getfield 38, 3, 0, 5, 4, 0, 598)] (by decide +kernel) (show m_sgl X _ _ _ _ _ = some (34, [some (.ref 8), some (.int v1), some (.ref 114), some (.int v3), some (.int v4)], [.int ((m_up (m_up (m_up m.1 9 v1.toNatClampNeg (m.1 114 5)) 10 v1.toNatClampNeg v3) 11 v1.toNatClampNeg v4) 114 4), .int v1, .ref 12], (SH, (m_up (m_up (m_up m.1 9 v1.toNatClampNeg (m.1 114 5)) 10 v1.toNatClampNeg v3) 11 v1.toNatClampNeg v4), m.2)) from rfl) ?_
  refine m_R_1 (by decide) (m_opb_of (ins := .iastore) (len := 1) (tag := 0) (a := 0) (b := 0) (c := 0) (q := 0) (by decide +kernel)) (m_s_iast sh_12 c170) ?_
  refine m_R_sg (by decide) [(.aload_n 0, 1, 0, 0, 0, 0, 0), (.getfield 24, 3, 0, 8, 4, 3, 201), (.iload_n 1, 1, 0, 1, 0, 0, 0), (.aload_n 2, 1, 0, 2, 0, 0, 0), (.getfield 40, 3, 0, 5, 3, 0, 597)] (by decide +kernel) (show m_sgl X _ _ _ _ _ = some (44, [some (.ref 8), some (.int v1), some (.ref 114), some (.int v3), some (.int v4)], [.int ((m_up (m_up (m_up (m_up m.1 9 v1.toNatClampNeg (m.1 114 5)) 10 v1.toNatClampNeg v3) 11 v1.toNatClampNeg v4) 12 v1.toNatClampNeg ((m_up (m_up (m_up m.1 9 v1.toNatClampNeg (m.1 114 5)) 10 v1.toNatClampNeg v3) 11 v1.toNatClampNeg v4) 114 4)) 114 3), .int v1, .ref 13], (SH, (m_up (m_up (m_up (m_up m.1 9 v1.toNatClampNeg (m.1 114 5)) 10 v1.toNatClampNeg v3) 11 v1.toNatClampNeg v4) 12 v1.toNatClampNeg ((m_up (m_up (m_up m.1 9 v1.toNatClampNeg (m.1 114 5)) 10 v1.toNatClampNeg v3) 11 v1.toNatClampNeg v4) 114 4)), m.2)) from rfl) ?_
  refine m_R_1 (by decide) (m_opb_of (ins := .iastore) (len := 1) (tag := 0) (a := 0) (b := 0) (c := 0) (q := 0) (by decide +kernel)) (m_s_iast sh_13 c170) ?_
  refine m_R_sg (by decide) [(.aload_n 2, 1, 0, 2, 0, 0, 0), (.getfield 42, 3, 0, 5, 1, 3, 593), (.iconst 0, 1, 0, 0, 0, 0, 0), (.aload_n 0, 1, 0, 0, 0, 0, 0), (.getfield 27, 3, 0, 8, 5, 3, 202), (.iload_n 1, 1, 0, 1, 0, 0, 0), (.bipush 120, 2, 0, 120, 0, 0, 0), (.imul, 1, 0, 0, 0, 0, 0), (.aload_n 2, 1, 0, 2, 0, 0, 0), (.getfield 40, 3, 0, 5, 3, 0, 597)] (by decide +kernel) (show m_sgl X _ _ _ _ _ = some (62, [some (.ref 8), some (.int v1), some (.ref 114), some (.int v3), some (.int v4)], [.int ((m_up (m_up (m_up (m_up (m_up m.1 9 v1.toNatClampNeg (m.1 114 5)) 10 v1.toNatClampNeg v3) 11 v1.toNatClampNeg v4) 12 v1.toNatClampNeg ((m_up (m_up (m_up m.1 9 v1.toNatClampNeg (m.1 114 5)) 10 v1.toNatClampNeg v3) 11 v1.toNatClampNeg v4) 114 4)) 13 v1.toNatClampNeg ((m_up (m_up (m_up (m_up m.1 9 v1.toNatClampNeg (m.1 114 5)) 10 v1.toNatClampNeg v3) 11 v1.toNatClampNeg v4) 12 v1.toNatClampNeg ((m_up (m_up (m_up m.1 9 v1.toNatClampNeg (m.1 114 5)) 10 v1.toNatClampNeg v3) 11 v1.toNatClampNeg v4) 114 4)) 114 3)) 114 3), .int (v1 * (120 : Int32)), .ref 14, .int (0 : Int32), .ref 116], (SH, (m_up (m_up (m_up (m_up (m_up m.1 9 v1.toNatClampNeg (m.1 114 5)) 10 v1.toNatClampNeg v3) 11 v1.toNatClampNeg v4) 12 v1.toNatClampNeg ((m_up (m_up (m_up m.1 9 v1.toNatClampNeg (m.1 114 5)) 10 v1.toNatClampNeg v3) 11 v1.toNatClampNeg v4) 114 4)) 13 v1.toNatClampNeg ((m_up (m_up (m_up (m_up m.1 9 v1.toNatClampNeg (m.1 114 5)) 10 v1.toNatClampNeg v3) 11 v1.toNatClampNeg v4) 12 v1.toNatClampNeg ((m_up (m_up (m_up m.1 9 v1.toNatClampNeg (m.1 114 5)) 10 v1.toNatClampNeg v3) 11 v1.toNatClampNeg v4) 114 4)) 114 3)), m.2)) from rfl) ?_
  obtain ⟨c0, h⟩ := m_ite_n h
  refine m_R_cpy (by decide) (m_opb_of (ins := .invokestatic 43) (len := 3) (tag := 8) (a := 0) (b := 0) (c := 0) (q := 1232) (by decide +kernel)) (Nat.le_of_ble_eq_true rfl) (m_cpy_of sh_116 sh_14 c0) ?_
  obtain ⟨rfl, rfl⟩ := m_some h
  exact m_R_vret (by decide) (m_opb_of (ins := .return_) (len := 1) (tag := 3) (a := 0) (b := 0) (c := 0) (q := 0) (by decide +kernel))
def f_x_text_16 (F : Nat)    (m : mM) : Option (Int32 × mM) := ((f_x_refuse F (-7 : Int32) m).bind fun q4 => some (q4.1, q4.2))
theorem ok_x_text_16 (X : mX) (d F : Nat) : ∀  (w1 : Option Value) (w2 : Option Value) (w3 : Option Value) (m : mM) (r : Int32) (m' : mM), f_x_text_16 F  m = some (r, m') → m_R X (d + 67) 121 16 [some (.ref 0), w1, w2, w3] [] (SH, m) (some (.int r), (SH, m')) := by
  intro w1 w2 w3 m r m' h
  unfold f_x_text_16 at h
  refine m_R_sg (by decide) [(.aload_n 0, 1, 0, 0, 0, 0, 0), (.bipush (-7), 2, 0, 7, 1, 0, 0)] (by decide +kernel) (show m_sgl X _ _ _ _ _ = some (19, [some (.ref 0), w1, w2, w3], [.int (-7 : Int32), .ref 0], (SH, m.1, m.2)) from rfl) ?_
  obtain ⟨q4, hc4, h⟩ := Option.bind_eq_some_iff.mp h
  refine m_R_cV (v := (some (.int q4.1))) (h1 := (SH, q4.2)) (rest := []) (lo' := [some (.ref 0), some (.int (-7 : Int32))]) (ml := 2) (k0 := 0) (by decide) (Or.inl rfl) (m_opb_of (ins := .invokevirtual 76) (len := 3) (tag := 5) (a := 14) (b := 1) (c := 0) (q := 671) (by decide +kernel)) (by decide +kernel) rfl (show m_isO 14 0 (SH, _) = true from m_isO_of (by decide +kernel)) (Nat.le_of_ble_eq_true rfl) rfl rfl (ok_x_refuse X (d + 66) F _ _ _ _ hc4) ?_
  obtain ⟨rfl, rfl⟩ := m_some h
  exact m_R_iret (by decide) (m_opb_of (ins := .ireturn) (len := 1) (tag := 1) (a := 0) (b := 0) (c := 0) (q := 0) (by decide +kernel)) (Or.inl rfl)
def f_x_text (F : Nat)   (v1 : Int32) (v2 : Int32) (m : mM) : Option (Int32 × mM) := (if v1 < 0 then f_x_text_16 F m else (if (1000 : Int32) < v2 then f_x_text_16 F m else (if v1 < v2 then (if (m.1 16 14) < (12 : Int32) then ((f_Reader_readTape F m).bind fun q1 => (if q1.1 = (-1 : Int32) then ((f_Texts_putText_8_114 F (q1.2.1 16 14) v1 v2 q1.2).bind fun q2 => some ((((m_up (m_up q2.2.1 114 2 (0 : Int32)) 16 14 (((m_up q2.2.1 114 2 (0 : Int32)) 16 14) + (1 : Int32))) 16 14) - (1 : Int32)), ((m_up (m_up q2.2.1 114 2 (0 : Int32)) 16 14 (((m_up q2.2.1 114 2 (0 : Int32)) 16 14) + (1 : Int32))), q2.2.2))) else some (((-10 : Int32) - q1.1), q1.2))) else ((f_x_refuse F (-8 : Int32) m).bind fun q3 => some (q3.1, q3.2))) else f_x_text_16 F m)))
theorem ok_x_text (X : mX) (d F : Nat) : ∀ (v1 : Int32) (v2 : Int32)  (m : mM) (r : Int32) (m' : mM), f_x_text F v1 v2 m = some (r, m') → m_R X (d + 67) 121 0 [some (.ref 0), some (.int v1), some (.int v2), none] [] (SH, m) (some (.int r), (SH, m')) := by
  intro v1 v2 m r m' h
  unfold f_x_text at h
  refine m_R_sg (by decide) [(.iload_n 1, 1, 0, 1, 0, 0, 0)] (by decide +kernel) (show m_sgl X _ _ _ _ _ = some (1, [some (.ref 0), some (.int v1), some (.int v2), none], [.int v1], (SH, m.1, m.2)) from rfl) ?_
  rcases m_ite h with ⟨c171, h⟩ | ⟨c171, h⟩
  · refine m_R_1 (by decide) (m_opb_of (ins := .ifCond .lt 15) (len := 3) (tag := 0) (a := 16) (b := 0) (c := 0) (q := 0) (by decide +kernel)) (if_pos c171) ?_
    exact ok_x_text_16 X d F _ _ _ _ _ _ h
  · refine m_R_1 (by decide) (m_opb_of (ins := .ifCond .lt 15) (len := 3) (tag := 0) (a := 16) (b := 0) (c := 0) (q := 0) (by decide +kernel)) (if_neg c171) ?_
    refine m_R_sg (by decide) [(.iload_n 2, 1, 0, 2, 0, 0, 0), (.sipush 1000, 3, 0, 1000, 0, 0, 0)] (by decide +kernel) (show m_sgl X _ _ _ _ _ = some (8, [some (.ref 0), some (.int v1), some (.int v2), none], [.int (1000 : Int32), .int v2], (SH, m.1, m.2)) from rfl) ?_
    rcases m_ite h with ⟨c172, h⟩ | ⟨c172, h⟩
    · refine m_R_1 (by decide) (m_opb_of (ins := .if_icmp .gt 8) (len := 3) (tag := 0) (a := 16) (b := 0) (c := 0) (q := 0) (by decide +kernel)) (if_pos c172) ?_
      exact ok_x_text_16 X d F _ _ _ _ _ _ h
    · refine m_R_1 (by decide) (m_opb_of (ins := .if_icmp .gt 8) (len := 3) (tag := 0) (a := 16) (b := 0) (c := 0) (q := 0) (by decide +kernel)) (if_neg c172) ?_
      refine m_R_sg (by decide) [(.iload_n 1, 1, 0, 1, 0, 0, 0), (.iload_n 2, 1, 0, 2, 0, 0, 0)] (by decide +kernel) (show m_sgl X _ _ _ _ _ = some (13, [some (.ref 0), some (.int v1), some (.int v2), none], [.int v2, .int v1], (SH, m.1, m.2)) from rfl) ?_
      rcases m_ite h with ⟨c173, h⟩ | ⟨c173, h⟩
      · refine m_R_1 (by decide) (m_opb_of (ins := .if_icmp .lt 10) (len := 3) (tag := 0) (a := 23) (b := 0) (c := 0) (q := 0) (by decide +kernel)) (if_pos c173) ?_
        refine m_R_sg (by decide) [(.aload_n 0, 1, 0, 0, 0, 0, 0), (.getfield 28, 3, 0, 11, 2, 3, 632), (.getfield 372, 3, 0, 10, 14, 0, 531), (.bipush 12, 2, 0, 12, 0, 0, 0)] (by decide +kernel) (show m_sgl X _ _ _ _ _ = some (32, [some (.ref 0), some (.int v1), some (.int v2), none], [.int (12 : Int32), .int (m.1 16 14)], (SH, m.1, m.2)) from rfl) ?_
        rcases m_ite h with ⟨c174, h⟩ | ⟨c174, h⟩
        · refine m_R_1 (by decide) (m_opb_of (ins := .if_icmp .lt 10) (len := 3) (tag := 0) (a := 42) (b := 0) (c := 0) (q := 0) (by decide +kernel)) (if_pos c174) ?_
          refine m_R_sg (by decide) [(.aload_n 0, 1, 0, 0, 0, 0, 0), (.getfield 49, 3, 0, 11, 6, 3, 636)] (by decide +kernel) (show m_sgl X _ _ _ _ _ = some (46, [some (.ref 0), some (.int v1), some (.int v2), none], [.ref 114], (SH, m.1, m.2)) from rfl) ?_
          obtain ⟨q1, hc1, h⟩ := Option.bind_eq_some_iff.mp h
          refine m_R_cV (v := (some (.int q1.1))) (h1 := (SH, q1.2)) (rest := []) (lo' := [some (.ref 114)]) (ml := 1) (k0 := 114) (by decide) (Or.inl rfl) (m_opb_of (ins := .invokevirtual 375) (len := 3) (tag := 5) (a := 122) (b := 0) (c := 0) (q := 1115) (by decide +kernel)) (by decide +kernel) rfl (show m_isO 122 114 (SH, _) = true from m_isO_of (by decide +kernel)) (Nat.le_of_ble_eq_true rfl) rfl rfl (ok_Reader_readTape X (d + 0) F _ _ _ hc1) ?_
          refine m_R_sg (by decide) [(.istore_n 3, 1, 0, 3, 0, 0, 0), (.iload_n 3, 1, 0, 3, 0, 0, 0), (.iconst (-1), 1, 0, 1, 1, 0, 0)] (by decide +kernel) (show m_sgl X _ _ _ _ _ = some (52, [some (.ref 0), some (.int v1), some (.int v2), some (.int q1.1)], [.int (-1 : Int32), .int q1.1], (SH, q1.2.1, q1.2.2)) from rfl) ?_
          rcases m_ite h with ⟨c175, h⟩ | ⟨c175, h⟩
          · refine m_R_1 (by decide) (m_opb_of (ins := .if_icmp .eq 8) (len := 3) (tag := 0) (a := 60) (b := 0) (c := 0) (q := 0) (by decide +kernel)) (if_pos c175) ?_
            refine m_R_sg (by decide) [(.aload_n 0, 1, 0, 0, 0, 0, 0), (.getfield 19, 3, 0, 11, 1, 3, 631), (.aload_n 0, 1, 0, 0, 0, 0, 0), (.getfield 28, 3, 0, 11, 2, 3, 632), (.getfield 372, 3, 0, 10, 14, 0, 531), (.aload_n 0, 1, 0, 0, 0, 0, 0), (.getfield 49, 3, 0, 11, 6, 3, 636), (.iload_n 1, 1, 0, 1, 0, 0, 0), (.iload_n 2, 1, 0, 2, 0, 0, 0)] (by decide +kernel) (show m_sgl X _ _ _ _ _ = some (77, [some (.ref 0), some (.int v1), some (.int v2), some (.int q1.1)], [.int v2, .int v1, .ref 114, .int (q1.2.1 16 14), .ref 8], (SH, q1.2.1, q1.2.2)) from rfl) ?_
            obtain ⟨q2, hc2, h⟩ := Option.bind_eq_some_iff.mp h
            refine m_R_cV (v := none) (h1 := (SH, q2.2)) (rest := []) (lo' := [some (.ref 8), some (.int (q1.2.1 16 14)), some (.ref 114), some (.int v1), some (.int v2)]) (ml := 5) (k0 := 8) (by decide) (Or.inl rfl) (m_opb_of (ins := .invokevirtual 379) (len := 3) (tag := 5) (a := 139) (b := 4) (c := 0) (q := 1228) (by decide +kernel)) (by decide +kernel) rfl (show m_isO 139 8 (SH, _) = true from m_isO_of (by decide +kernel)) (Nat.le_of_ble_eq_true rfl) rfl rfl (ok_Texts_putText_8_114 X (d + 65) F _ _ _ _ _ _ hc2) ?_
            refine m_R_sg (by decide) [(.aload_n 0, 1, 0, 0, 0, 0, 0), (.getfield 49, 3, 0, 11, 6, 3, 636), (.iconst 0, 1, 0, 0, 0, 0, 0), (.putfield 365, 3, 0, 5, 2, 0, 595), (.aload_n 0, 1, 0, 0, 0, 0, 0), (.getfield 28, 3, 0, 11, 2, 3, 632), (.dup, 1, 0, 0, 0, 0, 0), (.getfield 372, 3, 0, 10, 14, 0, 531), (.iconst 1, 1, 0, 1, 0, 0, 0), (.iadd, 1, 0, 0, 0, 0, 0), (.putfield 372, 3, 0, 10, 14, 0, 531), (.aload_n 0, 1, 0, 0, 0, 0, 0), (.getfield 28, 3, 0, 11, 2, 3, 632), (.getfield 372, 3, 0, 10, 14, 0, 531), (.iconst 1, 1, 0, 1, 0, 0, 0), (.isub, 1, 0, 0, 0, 0, 0)] (by decide +kernel) (show m_sgl X _ _ _ _ _ = some (110, [some (.ref 0), some (.int v1), some (.int v2), some (.int q1.1)], [.int (((m_up (m_up q2.2.1 114 2 (0 : Int32)) 16 14 (((m_up q2.2.1 114 2 (0 : Int32)) 16 14) + (1 : Int32))) 16 14) - (1 : Int32))], (SH, (m_up (m_up q2.2.1 114 2 (0 : Int32)) 16 14 (((m_up q2.2.1 114 2 (0 : Int32)) 16 14) + (1 : Int32))), q2.2.2)) from rfl) ?_
            obtain ⟨rfl, rfl⟩ := m_some h
            exact m_R_iret (by decide) (m_opb_of (ins := .ireturn) (len := 1) (tag := 1) (a := 0) (b := 0) (c := 0) (q := 0) (by decide +kernel)) (Or.inl rfl)
          · refine m_R_1 (by decide) (m_opb_of (ins := .if_icmp .eq 8) (len := 3) (tag := 0) (a := 60) (b := 0) (c := 0) (q := 0) (by decide +kernel)) (if_neg c175) ?_
            refine m_R_sg (by decide) [(.bipush (-10), 2, 0, 10, 1, 0, 0), (.iload_n 3, 1, 0, 3, 0, 0, 0), (.isub, 1, 0, 0, 0, 0, 0)] (by decide +kernel) (show m_sgl X _ _ _ _ _ = some (59, [some (.ref 0), some (.int v1), some (.int v2), some (.int q1.1)], [.int ((-10 : Int32) - q1.1)], (SH, q1.2.1, q1.2.2)) from rfl) ?_
            obtain ⟨rfl, rfl⟩ := m_some h
            exact m_R_iret (by decide) (m_opb_of (ins := .ireturn) (len := 1) (tag := 1) (a := 0) (b := 0) (c := 0) (q := 0) (by decide +kernel)) (Or.inl rfl)
        · refine m_R_1 (by decide) (m_opb_of (ins := .if_icmp .lt 10) (len := 3) (tag := 0) (a := 42) (b := 0) (c := 0) (q := 0) (by decide +kernel)) (if_neg c174) ?_
          refine m_R_sg (by decide) [(.aload_n 0, 1, 0, 0, 0, 0, 0), (.bipush (-8), 2, 0, 8, 1, 0, 0)] (by decide +kernel) (show m_sgl X _ _ _ _ _ = some (38, [some (.ref 0), some (.int v1), some (.int v2), none], [.int (-8 : Int32), .ref 0], (SH, m.1, m.2)) from rfl) ?_
          obtain ⟨q3, hc3, h⟩ := Option.bind_eq_some_iff.mp h
          refine m_R_cV (v := (some (.int q3.1))) (h1 := (SH, q3.2)) (rest := []) (lo' := [some (.ref 0), some (.int (-8 : Int32))]) (ml := 2) (k0 := 0) (by decide) (Or.inl rfl) (m_opb_of (ins := .invokevirtual 76) (len := 3) (tag := 5) (a := 14) (b := 1) (c := 0) (q := 671) (by decide +kernel)) (by decide +kernel) rfl (show m_isO 14 0 (SH, _) = true from m_isO_of (by decide +kernel)) (Nat.le_of_ble_eq_true rfl) rfl rfl (ok_x_refuse X (d + 66) F _ _ _ _ hc3) ?_
          obtain ⟨rfl, rfl⟩ := m_some h
          exact m_R_iret (by decide) (m_opb_of (ins := .ireturn) (len := 1) (tag := 1) (a := 0) (b := 0) (c := 0) (q := 0) (by decide +kernel)) (Or.inl rfl)
      · refine m_R_1 (by decide) (m_opb_of (ins := .if_icmp .lt 10) (len := 3) (tag := 0) (a := 23) (b := 0) (c := 0) (q := 0) (by decide +kernel)) (if_neg c173) ?_
        exact ok_x_text_16 X d F _ _ _ _ _ _ h
def f_m_text_27 (F : Nat)    (m : mM) : Option (Int32 × mM) := ((f_m_refuse F (-7 : Int32) m).bind fun q4 => some (q4.1, q4.2))
theorem ok_m_text_27 (X : mX) (d F : Nat) : ∀  (w1 : Option Value) (w2 : Option Value) (w3 : Option Value) (w4 : Option Value) (m : mM) (r : Int32) (m' : mM), f_m_text_27 F  m = some (r, m') → m_R X (d + 66) 300 27 [some (.ref 304), w1, w2, w3, w4] [] (SH, m) (some (.int r), (SH, m')) := by
  intro w1 w2 w3 w4 m r m' h
  unfold f_m_text_27 at h
  refine m_R_sg (by decide) [(.aload_n 0, 1, 0, 0, 0, 0, 0), (.bipush (-7), 2, 0, 7, 1, 0, 0)] (by decide +kernel) (show m_sgl X _ _ _ _ _ = some (30, [some (.ref 304), w1, w2, w3, w4], [.int (-7 : Int32), .ref 304], (SH, m.1, m.2)) from rfl) ?_
  obtain ⟨q4, hc4, h⟩ := Option.bind_eq_some_iff.mp h
  refine m_R_cV (v := (some (.int q4.1))) (h1 := (SH, q4.2)) (rest := []) (lo' := [some (.ref 304), some (.int (-7 : Int32))]) (ml := 2) (k0 := 304) (by decide) (Or.inl rfl) (m_opb_of (ins := .invokevirtual 61) (len := 3) (tag := 5) (a := 202) (b := 1) (c := 0) (q := 1596) (by decide +kernel)) (by decide +kernel) rfl (show m_isO 202 304 (SH, _) = true from m_isO_of (by decide +kernel)) (Nat.le_of_ble_eq_true rfl) rfl rfl (ok_m_refuse X (d + 65) F _ _ _ _ hc4) ?_
  obtain ⟨rfl, rfl⟩ := m_some h
  exact m_R_iret (by decide) (m_opb_of (ins := .ireturn) (len := 1) (tag := 1) (a := 0) (b := 0) (c := 0) (q := 0) (by decide +kernel)) (Or.inl rfl)
def f_m_text_165 (F : Nat)   : Nat → Int32 → Int32 → mM → Option (Int32 × mM)
  | 0, _, _, _ => none
  | n + 1, v3, v4, m => (if (m.1 304 9) ≤ v4 then some ((((m_up (m_up m.1 304 9 (0 : Int32)) 305 (5 : Int32).toNatClampNeg (((m_up m.1 304 9 (0 : Int32)) 305 (5 : Int32).toNatClampNeg) + (1 : Int32))) 305 (5 : Int32).toNatClampNeg) - (1 : Int32)), ((m_up (m_up m.1 304 9 (0 : Int32)) 305 (5 : Int32).toNatClampNeg (((m_up m.1 304 9 (0 : Int32)) 305 (5 : Int32).toNatClampNeg) + (1 : Int32))), m.2)) else (if v4 < 0 ∨ 120 ≤ v4.toNatClampNeg then none else (if ((v3 + (4 : Int32)) + v4) < 0 ∨ 9732 ≤ ((v3 + (4 : Int32)) + v4).toNatClampNeg then none else f_m_text_165 F n v3 (v4 + (1 : Int32)) ((m_up m.1 305 ((v3 + (4 : Int32)) + v4).toNatClampNeg (m.1 311 v4.toNatClampNeg)), m.2))))
theorem ok_m_text_165 (X : mX) (d F : Nat) : ∀ (n : Nat) (v3 : Int32) (v4 : Int32) (w1 : Option Value) (w2 : Option Value) (m : mM) (r : Int32) (m' : mM), f_m_text_165 F n v3 v4 m = some (r, m') → m_R X (d + 66) 300 165 [some (.ref 304), w1, w2, some (.int v3), some (.int v4)] [] (SH, m) (some (.int r), (SH, m')) := by
  intro n
  induction n with
  | zero => intro v3 v4 w1 w2 m r m' h; cases h
  | succ n ih =>
    intro v3 v4 w1 w2 m r m' h
    simp only [f_m_text_165] at h
    refine m_R_sg (by decide) [(.iload 4, 2, 0, 4, 0, 0, 0), (.aload_n 0, 1, 0, 0, 0, 0, 0), (.getfield 378, 3, 0, 12, 9, 0, 1504)] (by decide +kernel) (show m_sgl X _ _ _ _ _ = some (171, [some (.ref 304), w1, w2, some (.int v3), some (.int v4)], [.int (m.1 304 9), .int v4], (SH, m.1, m.2)) from rfl) ?_
    rcases m_ite h with ⟨c176, h⟩ | ⟨c176, h⟩
    · refine m_R_1 (by decide) (m_opb_of (ins := .if_icmp .ge 27) (len := 3) (tag := 0) (a := 198) (b := 0) (c := 0) (q := 0) (by decide +kernel)) (if_pos c176) ?_
      refine m_R_sg (by decide) [(.aload_n 0, 1, 0, 0, 0, 0, 0), (.iconst 0, 1, 0, 0, 0, 0, 0), (.putfield 378, 3, 0, 12, 9, 0, 1504), (.aload_n 0, 1, 0, 0, 0, 0, 0), (.getfield 13, 3, 0, 12, 1, 3, 1496), (.iconst 5, 1, 0, 5, 0, 0, 0), (.dup2, 1, 0, 0, 0, 0, 0)] (by decide +kernel) (show m_sgl X _ _ _ _ _ = some (209, [some (.ref 304), w1, w2, some (.int v3), some (.int v4)], [.int (5 : Int32), .ref 305, .int (5 : Int32), .ref 305], (SH, (m_up m.1 304 9 (0 : Int32)), m.2)) from rfl) ?_
      refine m_R_1 (by decide) (m_opb_of (ins := .iaload) (len := 1) (tag := 0) (a := 0) (b := 0) (c := 0) (q := 0) (by decide +kernel)) (m_s_iald sh_305 (by decide) (show ¬ ((5 : Int32) < 0 ∨ 9732 ≤ (5 : Int32).toNatClampNeg) by decide)) ?_
      refine m_R_sg (by decide) [(.iconst 1, 1, 0, 1, 0, 0, 0), (.iadd, 1, 0, 0, 0, 0, 0)] (by decide +kernel) (show m_sgl X _ _ _ _ _ = some (212, [some (.ref 304), w1, w2, some (.int v3), some (.int v4)], [.int (((m_up m.1 304 9 (0 : Int32)) 305 (5 : Int32).toNatClampNeg) + (1 : Int32)), .int (5 : Int32), .ref 305], (SH, (m_up m.1 304 9 (0 : Int32)), m.2)) from rfl) ?_
      refine m_R_1 (by decide) (m_opb_of (ins := .iastore) (len := 1) (tag := 0) (a := 0) (b := 0) (c := 0) (q := 0) (by decide +kernel)) (m_s_iast sh_305 (show ¬ ((5 : Int32) < 0 ∨ 9732 ≤ (5 : Int32).toNatClampNeg) by decide)) ?_
      refine m_R_sg (by decide) [(.aload_n 0, 1, 0, 0, 0, 0, 0), (.getfield 13, 3, 0, 12, 1, 3, 1496), (.iconst 5, 1, 0, 5, 0, 0, 0)] (by decide +kernel) (show m_sgl X _ _ _ _ _ = some (218, [some (.ref 304), w1, w2, some (.int v3), some (.int v4)], [.int (5 : Int32), .ref 305], (SH, (m_up (m_up m.1 304 9 (0 : Int32)) 305 (5 : Int32).toNatClampNeg (((m_up m.1 304 9 (0 : Int32)) 305 (5 : Int32).toNatClampNeg) + (1 : Int32))), m.2)) from rfl) ?_
      refine m_R_1 (by decide) (m_opb_of (ins := .iaload) (len := 1) (tag := 0) (a := 0) (b := 0) (c := 0) (q := 0) (by decide +kernel)) (m_s_iald sh_305 (by decide) (show ¬ ((5 : Int32) < 0 ∨ 9732 ≤ (5 : Int32).toNatClampNeg) by decide)) ?_
      refine m_R_sg (by decide) [(.iconst 1, 1, 0, 1, 0, 0, 0), (.isub, 1, 0, 0, 0, 0, 0)] (by decide +kernel) (show m_sgl X _ _ _ _ _ = some (221, [some (.ref 304), w1, w2, some (.int v3), some (.int v4)], [.int (((m_up (m_up m.1 304 9 (0 : Int32)) 305 (5 : Int32).toNatClampNeg (((m_up m.1 304 9 (0 : Int32)) 305 (5 : Int32).toNatClampNeg) + (1 : Int32))) 305 (5 : Int32).toNatClampNeg) - (1 : Int32))], (SH, (m_up (m_up m.1 304 9 (0 : Int32)) 305 (5 : Int32).toNatClampNeg (((m_up m.1 304 9 (0 : Int32)) 305 (5 : Int32).toNatClampNeg) + (1 : Int32))), m.2)) from rfl) ?_
      obtain ⟨rfl, rfl⟩ := m_some h
      exact m_R_iret (by decide) (m_opb_of (ins := .ireturn) (len := 1) (tag := 1) (a := 0) (b := 0) (c := 0) (q := 0) (by decide +kernel)) (Or.inl rfl)
    · refine m_R_1 (by decide) (m_opb_of (ins := .if_icmp .ge 27) (len := 3) (tag := 0) (a := 198) (b := 0) (c := 0) (q := 0) (by decide +kernel)) (if_neg c176) ?_
      refine m_R_sg (by decide) [(.aload_n 0, 1, 0, 0, 0, 0, 0), (.getfield 13, 3, 0, 12, 1, 3, 1496), (.iload_n 3, 1, 0, 3, 0, 0, 0), (.iconst 4, 1, 0, 4, 0, 0, 0), (.iadd, 1, 0, 0, 0, 0, 0), (.iload 4, 2, 0, 4, 0, 0, 0), (.iadd, 1, 0, 0, 0, 0, 0), (.aload_n 0, 1, 0, 0, 0, 0, 0), (.getfield 33, 3, 0, 12, 8, 3, 1503), (.iload 4, 2, 0, 4, 0, 0, 0)] (by decide +kernel) (show m_sgl X _ _ _ _ _ = some (190, [some (.ref 304), w1, w2, some (.int v3), some (.int v4)], [.int v4, .ref 311, .int ((v3 + (4 : Int32)) + v4), .ref 305], (SH, m.1, m.2)) from rfl) ?_
      obtain ⟨c177, h⟩ := m_ite_n h
      refine m_R_1 (by decide) (m_opb_of (ins := .iaload) (len := 1) (tag := 0) (a := 0) (b := 0) (c := 0) (q := 0) (by decide +kernel)) (m_s_iald sh_311 (by decide) c177) ?_
      obtain ⟨c178, h⟩ := m_ite_n h
      refine m_R_1 (by decide) (m_opb_of (ins := .iastore) (len := 1) (tag := 0) (a := 0) (b := 0) (c := 0) (q := 0) (by decide +kernel)) (m_s_iast sh_305 c178) ?_
      refine m_R_sg (by decide) [(.iinc 4 1, 3, 0, 4, 1, 0, 0), (.goto (-30), 3, 0, 165, 0, 0, 0)] (by decide +kernel) (show m_sgl X _ _ _ _ _ = some (165, [some (.ref 304), w1, w2, some (.int v3), some (.int (v4 + (1 : Int32)))], [], (SH, (m_up m.1 305 ((v3 + (4 : Int32)) + v4).toNatClampNeg (m.1 311 v4.toNatClampNeg)), m.2)) from rfl) ?_
      exact ih _ _ _ _ _ _ _ h
def f_m_text_62 (F : Nat)   : Nat → Int32 → Int32 → Int32 → mM → Option (Int32 × mM)
  | 0, _, _, _, _ => none
  | n + 1, v1, v2, v3, m => (if (m.1 304 9) ≤ v3 then ((f_m_readText F (-1 : Int32) m).bind fun q5 => (if (q5.2.1 304 17) = 0 then (if ((7544 : Int32) + ((124 : Int32) * (q5.2.1 305 (5 : Int32).toNatClampNeg))) < 0 ∨ 9732 ≤ ((7544 : Int32) + ((124 : Int32) * (q5.2.1 305 (5 : Int32).toNatClampNeg))).toNatClampNeg then none else (if (((7544 : Int32) + ((124 : Int32) * (q5.2.1 305 (5 : Int32).toNatClampNeg))) + (1 : Int32)) < 0 ∨ 9732 ≤ (((7544 : Int32) + ((124 : Int32) * (q5.2.1 305 (5 : Int32).toNatClampNeg))) + (1 : Int32)).toNatClampNeg then none else (if (((7544 : Int32) + ((124 : Int32) * (q5.2.1 305 (5 : Int32).toNatClampNeg))) + (2 : Int32)) < 0 ∨ 9732 ≤ (((7544 : Int32) + ((124 : Int32) * (q5.2.1 305 (5 : Int32).toNatClampNeg))) + (2 : Int32)).toNatClampNeg then none else (if (((7544 : Int32) + ((124 : Int32) * (q5.2.1 305 (5 : Int32).toNatClampNeg))) + (3 : Int32)) < 0 ∨ 9732 ≤ (((7544 : Int32) + ((124 : Int32) * (q5.2.1 305 (5 : Int32).toNatClampNeg))) + (3 : Int32)).toNatClampNeg then none else f_m_text_165 F F ((7544 : Int32) + ((124 : Int32) * (q5.2.1 305 (5 : Int32).toNatClampNeg))) (0 : Int32) ((m_up (m_up (m_up (m_up q5.2.1 305 ((7544 : Int32) + ((124 : Int32) * (q5.2.1 305 (5 : Int32).toNatClampNeg))).toNatClampNeg (q5.2.1 304 20)) 305 (((7544 : Int32) + ((124 : Int32) * (q5.2.1 305 (5 : Int32).toNatClampNeg))) + (1 : Int32)).toNatClampNeg v1) 305 (((7544 : Int32) + ((124 : Int32) * (q5.2.1 305 (5 : Int32).toNatClampNeg))) + (2 : Int32)).toNatClampNeg v2) 305 (((7544 : Int32) + ((124 : Int32) * (q5.2.1 305 (5 : Int32).toNatClampNeg))) + (3 : Int32)).toNatClampNeg ((m_up (m_up (m_up q5.2.1 305 ((7544 : Int32) + ((124 : Int32) * (q5.2.1 305 (5 : Int32).toNatClampNeg))).toNatClampNeg (q5.2.1 304 20)) 305 (((7544 : Int32) + ((124 : Int32) * (q5.2.1 305 (5 : Int32).toNatClampNeg))) + (1 : Int32)).toNatClampNeg v1) 305 (((7544 : Int32) + ((124 : Int32) * (q5.2.1 305 (5 : Int32).toNatClampNeg))) + (2 : Int32)).toNatClampNeg v2) 304 9)), q5.2.2))))) else some (((-10 : Int32) - (q5.2.1 304 18)), q5.2))) else (if v3 < 0 ∨ 120 ≤ v3.toNatClampNeg then none else f_m_text_62 F n v1 v2 (v3 + (1 : Int32)) ((m_up m.1 312 v3.toNatClampNeg (m.1 311 v3.toNatClampNeg)), m.2)))
theorem ok_m_text_62 (X : mX) (d F : Nat) : ∀ (n : Nat) (v1 : Int32) (v2 : Int32) (v3 : Int32) (w4 : Option Value) (m : mM) (r : Int32) (m' : mM), f_m_text_62 F n v1 v2 v3 m = some (r, m') → m_R X (d + 66) 300 62 [some (.ref 304), some (.int v1), some (.int v2), some (.int v3), w4] [] (SH, m) (some (.int r), (SH, m')) := by
  intro n
  induction n with
  | zero => intro v1 v2 v3 w4 m r m' h; cases h
  | succ n ih =>
    intro v1 v2 v3 w4 m r m' h
    simp only [f_m_text_62] at h
    refine m_R_sg (by decide) [(.iload_n 3, 1, 0, 3, 0, 0, 0), (.aload_n 0, 1, 0, 0, 0, 0, 0), (.getfield 378, 3, 0, 12, 9, 0, 1504)] (by decide +kernel) (show m_sgl X _ _ _ _ _ = some (67, [some (.ref 304), some (.int v1), some (.int v2), some (.int v3), w4], [.int (m.1 304 9), .int v3], (SH, m.1, m.2)) from rfl) ?_
    rcases m_ite h with ⟨c179, h⟩ | ⟨c179, h⟩
    · refine m_R_1 (by decide) (m_opb_of (ins := .if_icmp .ge 21) (len := 3) (tag := 0) (a := 88) (b := 0) (c := 0) (q := 0) (by decide +kernel)) (if_pos c179) ?_
      refine m_R_sg (by decide) [(.aload_n 0, 1, 0, 0, 0, 0, 0), (.iconst (-1), 1, 0, 1, 1, 0, 0)] (by decide +kernel) (show m_sgl X _ _ _ _ _ = some (90, [some (.ref 304), some (.int v1), some (.int v2), some (.int v3), w4], [.int (-1 : Int32), .ref 304], (SH, m.1, m.2)) from rfl) ?_
      obtain ⟨q5, hc5, h⟩ := Option.bind_eq_some_iff.mp h
      refine m_R_cV (v := none) (h1 := (SH, q5.2)) (rest := []) (lo' := [some (.ref 304), some (.int (-1 : Int32))]) (ml := 2) (k0 := 304) (by decide) (Or.inl rfl) (m_opb_of (ins := .invokevirtual 372) (len := 3) (tag := 5) (a := 229) (b := 1) (c := 0) (q := 1704) (by decide +kernel)) (by decide +kernel) rfl (show m_isO 229 304 (SH, _) = true from m_isO_of (by decide +kernel)) (Nat.le_of_ble_eq_true rfl) rfl rfl (ok_m_readText X (d + 0) F _ _ _ _ hc5) ?_
      refine m_R_sg (by decide) [(.aload_n 0, 1, 0, 0, 0, 0, 0), (.getfield 256, 3, 0, 12, 17, 1, 1512)] (by decide +kernel) (show m_sgl X _ _ _ _ _ = some (97, [some (.ref 304), some (.int v1), some (.int v2), some (.int v3), w4], [.int (q5.2.1 304 17)], (SH, q5.2.1, q5.2.2)) from rfl) ?_
      rcases m_ite h with ⟨c180, h⟩ | ⟨c180, h⟩
      · refine m_R_1 (by decide) (m_opb_of (ins := .ifCond .eq 11) (len := 3) (tag := 0) (a := 108) (b := 0) (c := 0) (q := 0) (by decide +kernel)) (if_pos c180) ?_
        refine m_R_sg (by decide) [(.sipush 7544, 3, 0, 7544, 0, 0, 0), (.bipush 124, 2, 0, 124, 0, 0, 0), (.aload_n 0, 1, 0, 0, 0, 0, 0), (.getfield 13, 3, 0, 12, 1, 3, 1496), (.iconst 5, 1, 0, 5, 0, 0, 0)] (by decide +kernel) (show m_sgl X _ _ _ _ _ = some (118, [some (.ref 304), some (.int v1), some (.int v2), some (.int v3), w4], [.int (5 : Int32), .ref 305, .int (124 : Int32), .int (7544 : Int32)], (SH, q5.2.1, q5.2.2)) from rfl) ?_
        refine m_R_1 (by decide) (m_opb_of (ins := .iaload) (len := 1) (tag := 0) (a := 0) (b := 0) (c := 0) (q := 0) (by decide +kernel)) (m_s_iald sh_305 (by decide) (show ¬ ((5 : Int32) < 0 ∨ 9732 ≤ (5 : Int32).toNatClampNeg) by decide)) ?_
        refine m_R_sg (by decide) [(.imul, 1, 0, 0, 0, 0, 0), (.iadd, 1, 0, 0, 0, 0, 0), (.istore_n 3, 1, 0, 3, 0, 0, 0), (.aload_n 0, 1, 0, 0, 0, 0, 0), (.getfield 13, 3, 0, 12, 1, 3, 1496), (.iload_n 3, 1, 0, 3, 0, 0, 0), (.aload_n 0, 1, 0, 0, 0, 0, 0), (.getfield 361, 3, 0, 12, 20, 0, 1515)] (by decide +kernel) (show m_sgl X _ _ _ _ _ = some (131, [some (.ref 304), some (.int v1), some (.int v2), some (.int ((7544 : Int32) + ((124 : Int32) * (q5.2.1 305 (5 : Int32).toNatClampNeg)))), w4], [.int (q5.2.1 304 20), .int ((7544 : Int32) + ((124 : Int32) * (q5.2.1 305 (5 : Int32).toNatClampNeg))), .ref 305], (SH, q5.2.1, q5.2.2)) from rfl) ?_
        obtain ⟨c181, h⟩ := m_ite_n h
        refine m_R_1 (by decide) (m_opb_of (ins := .iastore) (len := 1) (tag := 0) (a := 0) (b := 0) (c := 0) (q := 0) (by decide +kernel)) (m_s_iast sh_305 c181) ?_
        refine m_R_sg (by decide) [(.aload_n 0, 1, 0, 0, 0, 0, 0), (.getfield 13, 3, 0, 12, 1, 3, 1496), (.iload_n 3, 1, 0, 3, 0, 0, 0), (.iconst 1, 1, 0, 1, 0, 0, 0), (.iadd, 1, 0, 0, 0, 0, 0), (.iload_n 1, 1, 0, 1, 0, 0, 0)] (by decide +kernel) (show m_sgl X _ _ _ _ _ = some (140, [some (.ref 304), some (.int v1), some (.int v2), some (.int ((7544 : Int32) + ((124 : Int32) * (q5.2.1 305 (5 : Int32).toNatClampNeg)))), w4], [.int v1, .int (((7544 : Int32) + ((124 : Int32) * (q5.2.1 305 (5 : Int32).toNatClampNeg))) + (1 : Int32)), .ref 305], (SH, (m_up q5.2.1 305 ((7544 : Int32) + ((124 : Int32) * (q5.2.1 305 (5 : Int32).toNatClampNeg))).toNatClampNeg (q5.2.1 304 20)), q5.2.2)) from rfl) ?_
        obtain ⟨c182, h⟩ := m_ite_n h
        refine m_R_1 (by decide) (m_opb_of (ins := .iastore) (len := 1) (tag := 0) (a := 0) (b := 0) (c := 0) (q := 0) (by decide +kernel)) (m_s_iast sh_305 c182) ?_
        refine m_R_sg (by decide) [(.aload_n 0, 1, 0, 0, 0, 0, 0), (.getfield 13, 3, 0, 12, 1, 3, 1496), (.iload_n 3, 1, 0, 3, 0, 0, 0), (.iconst 2, 1, 0, 2, 0, 0, 0), (.iadd, 1, 0, 0, 0, 0, 0), (.iload_n 2, 1, 0, 2, 0, 0, 0)] (by decide +kernel) (show m_sgl X _ _ _ _ _ = some (149, [some (.ref 304), some (.int v1), some (.int v2), some (.int ((7544 : Int32) + ((124 : Int32) * (q5.2.1 305 (5 : Int32).toNatClampNeg)))), w4], [.int v2, .int (((7544 : Int32) + ((124 : Int32) * (q5.2.1 305 (5 : Int32).toNatClampNeg))) + (2 : Int32)), .ref 305], (SH, (m_up (m_up q5.2.1 305 ((7544 : Int32) + ((124 : Int32) * (q5.2.1 305 (5 : Int32).toNatClampNeg))).toNatClampNeg (q5.2.1 304 20)) 305 (((7544 : Int32) + ((124 : Int32) * (q5.2.1 305 (5 : Int32).toNatClampNeg))) + (1 : Int32)).toNatClampNeg v1), q5.2.2)) from rfl) ?_
        obtain ⟨c183, h⟩ := m_ite_n h
        refine m_R_1 (by decide) (m_opb_of (ins := .iastore) (len := 1) (tag := 0) (a := 0) (b := 0) (c := 0) (q := 0) (by decide +kernel)) (m_s_iast sh_305 c183) ?_
        refine m_R_sg (by decide) [(.aload_n 0, 1, 0, 0, 0, 0, 0), (.getfield 13, 3, 0, 12, 1, 3, 1496), (.iload_n 3, 1, 0, 3, 0, 0, 0), (.iconst 3, 1, 0, 3, 0, 0, 0), (.iadd, 1, 0, 0, 0, 0, 0), (.aload_n 0, 1, 0, 0, 0, 0, 0), (.getfield 378, 3, 0, 12, 9, 0, 1504)] (by decide +kernel) (show m_sgl X _ _ _ _ _ = some (161, [some (.ref 304), some (.int v1), some (.int v2), some (.int ((7544 : Int32) + ((124 : Int32) * (q5.2.1 305 (5 : Int32).toNatClampNeg)))), w4], [.int ((m_up (m_up (m_up q5.2.1 305 ((7544 : Int32) + ((124 : Int32) * (q5.2.1 305 (5 : Int32).toNatClampNeg))).toNatClampNeg (q5.2.1 304 20)) 305 (((7544 : Int32) + ((124 : Int32) * (q5.2.1 305 (5 : Int32).toNatClampNeg))) + (1 : Int32)).toNatClampNeg v1) 305 (((7544 : Int32) + ((124 : Int32) * (q5.2.1 305 (5 : Int32).toNatClampNeg))) + (2 : Int32)).toNatClampNeg v2) 304 9), .int (((7544 : Int32) + ((124 : Int32) * (q5.2.1 305 (5 : Int32).toNatClampNeg))) + (3 : Int32)), .ref 305], (SH, (m_up (m_up (m_up q5.2.1 305 ((7544 : Int32) + ((124 : Int32) * (q5.2.1 305 (5 : Int32).toNatClampNeg))).toNatClampNeg (q5.2.1 304 20)) 305 (((7544 : Int32) + ((124 : Int32) * (q5.2.1 305 (5 : Int32).toNatClampNeg))) + (1 : Int32)).toNatClampNeg v1) 305 (((7544 : Int32) + ((124 : Int32) * (q5.2.1 305 (5 : Int32).toNatClampNeg))) + (2 : Int32)).toNatClampNeg v2), q5.2.2)) from rfl) ?_
        obtain ⟨c184, h⟩ := m_ite_n h
        refine m_R_1 (by decide) (m_opb_of (ins := .iastore) (len := 1) (tag := 0) (a := 0) (b := 0) (c := 0) (q := 0) (by decide +kernel)) (m_s_iast sh_305 c184) ?_
        refine m_R_sg (by decide) [(.iconst 0, 1, 0, 0, 0, 0, 0), (.istore 4, 2, 0, 4, 0, 0, 0)] (by decide +kernel) (show m_sgl X _ _ _ _ _ = some (165, [some (.ref 304), some (.int v1), some (.int v2), some (.int ((7544 : Int32) + ((124 : Int32) * (q5.2.1 305 (5 : Int32).toNatClampNeg)))), some (.int (0 : Int32))], [], (SH, (m_up (m_up (m_up (m_up q5.2.1 305 ((7544 : Int32) + ((124 : Int32) * (q5.2.1 305 (5 : Int32).toNatClampNeg))).toNatClampNeg (q5.2.1 304 20)) 305 (((7544 : Int32) + ((124 : Int32) * (q5.2.1 305 (5 : Int32).toNatClampNeg))) + (1 : Int32)).toNatClampNeg v1) 305 (((7544 : Int32) + ((124 : Int32) * (q5.2.1 305 (5 : Int32).toNatClampNeg))) + (2 : Int32)).toNatClampNeg v2) 305 (((7544 : Int32) + ((124 : Int32) * (q5.2.1 305 (5 : Int32).toNatClampNeg))) + (3 : Int32)).toNatClampNeg ((m_up (m_up (m_up q5.2.1 305 ((7544 : Int32) + ((124 : Int32) * (q5.2.1 305 (5 : Int32).toNatClampNeg))).toNatClampNeg (q5.2.1 304 20)) 305 (((7544 : Int32) + ((124 : Int32) * (q5.2.1 305 (5 : Int32).toNatClampNeg))) + (1 : Int32)).toNatClampNeg v1) 305 (((7544 : Int32) + ((124 : Int32) * (q5.2.1 305 (5 : Int32).toNatClampNeg))) + (2 : Int32)).toNatClampNeg v2) 304 9)), q5.2.2)) from rfl) ?_
        exact ok_m_text_165 X d F F _ _ _ _ _ _ _ h
      · refine m_R_1 (by decide) (m_opb_of (ins := .ifCond .eq 11) (len := 3) (tag := 0) (a := 108) (b := 0) (c := 0) (q := 0) (by decide +kernel)) (if_neg c180) ?_
        refine m_R_sg (by decide) [(.bipush (-10), 2, 0, 10, 1, 0, 0), (.aload_n 0, 1, 0, 0, 0, 0, 0), (.getfield 260, 3, 0, 12, 18, 0, 1513), (.isub, 1, 0, 0, 0, 0, 0)] (by decide +kernel) (show m_sgl X _ _ _ _ _ = some (107, [some (.ref 304), some (.int v1), some (.int v2), some (.int v3), w4], [.int ((-10 : Int32) - (q5.2.1 304 18))], (SH, q5.2.1, q5.2.2)) from rfl) ?_
        obtain ⟨rfl, rfl⟩ := m_some h
        exact m_R_iret (by decide) (m_opb_of (ins := .ireturn) (len := 1) (tag := 1) (a := 0) (b := 0) (c := 0) (q := 0) (by decide +kernel)) (Or.inl rfl)
    · refine m_R_1 (by decide) (m_opb_of (ins := .if_icmp .ge 21) (len := 3) (tag := 0) (a := 88) (b := 0) (c := 0) (q := 0) (by decide +kernel)) (if_neg c179) ?_
      refine m_R_sg (by decide) [(.aload_n 0, 1, 0, 0, 0, 0, 0), (.getfield 36, 3, 0, 12, 10, 3, 1505), (.iload_n 3, 1, 0, 3, 0, 0, 0), (.aload_n 0, 1, 0, 0, 0, 0, 0), (.getfield 33, 3, 0, 12, 8, 3, 1503), (.iload_n 3, 1, 0, 3, 0, 0, 0)] (by decide +kernel) (show m_sgl X _ _ _ _ _ = some (80, [some (.ref 304), some (.int v1), some (.int v2), some (.int v3), w4], [.int v3, .ref 311, .int v3, .ref 312], (SH, m.1, m.2)) from rfl) ?_
      obtain ⟨c185, h⟩ := m_ite_n h
      refine m_R_1 (by decide) (m_opb_of (ins := .iaload) (len := 1) (tag := 0) (a := 0) (b := 0) (c := 0) (q := 0) (by decide +kernel)) (m_s_iald sh_311 (by decide) c185) ?_
      refine m_R_1 (by decide) (m_opb_of (ins := .iastore) (len := 1) (tag := 0) (a := 0) (b := 0) (c := 0) (q := 0) (by decide +kernel)) (m_s_iast sh_312 c185) ?_
      refine m_R_sg (by decide) [(.iinc 3 1, 3, 0, 3, 1, 0, 0), (.goto (-23), 3, 0, 62, 0, 0, 0)] (by decide +kernel) (show m_sgl X _ _ _ _ _ = some (62, [some (.ref 304), some (.int v1), some (.int v2), some (.int (v3 + (1 : Int32))), w4], [], (SH, (m_up m.1 312 v3.toNatClampNeg (m.1 311 v3.toNatClampNeg)), m.2)) from rfl) ?_
      exact ih _ _ _ _ _ _ _ h
def f_m_text (F : Nat)   (v1 : Int32) (v2 : Int32) (m : mM) : Option (Int32 × mM) := ((f_m_in F v1 (0 : Int32) (1000 : Int32) m).bind fun q1 => (if q1.1 = 0 then f_m_text_27 F q1.2 else ((f_m_in F v2 (0 : Int32) (1000 : Int32) q1.2).bind fun q2 => (if q2.1 = 0 then f_m_text_27 F q2.2 else (if v1 < v2 then (if (q2.2.1 305 (5 : Int32).toNatClampNeg) = (12 : Int32) then ((f_m_refuse F (-8 : Int32) q2.2).bind fun q3 => some (q3.1, q3.2)) else f_m_text_62 F F v1 v2 (0 : Int32) ((m_up q2.2.1 304 11 (q2.2.1 304 9)), q2.2.2)) else f_m_text_27 F q2.2)))))
theorem ok_m_text (X : mX) (d F : Nat) : ∀ (v1 : Int32) (v2 : Int32)  (m : mM) (r : Int32) (m' : mM), f_m_text F v1 v2 m = some (r, m') → m_R X (d + 66) 300 0 [some (.ref 304), some (.int v1), some (.int v2), none, none] [] (SH, m) (some (.int r), (SH, m')) := by
  intro v1 v2 m r m' h
  unfold f_m_text at h
  refine m_R_sg (by decide) [(.iload_n 1, 1, 0, 1, 0, 0, 0), (.iconst 0, 1, 0, 0, 0, 0, 0), (.sipush 1000, 3, 0, 1000, 0, 0, 0)] (by decide +kernel) (show m_sgl X _ _ _ _ _ = some (5, [some (.ref 304), some (.int v1), some (.int v2), none, none], [.int (1000 : Int32), .int (0 : Int32), .int v1], (SH, m.1, m.2)) from rfl) ?_
  obtain ⟨q1, hc1, h⟩ := Option.bind_eq_some_iff.mp h
  refine m_R_cS (v := (some (.int q1.1))) (h1 := (SH, q1.2)) (rest := []) (lo' := [some (.int v1), some (.int (0 : Int32)), some (.int (1000 : Int32))]) (ml := 3) (by decide) (m_opb_of (ins := .invokestatic 57) (len := 3) (tag := 4) (a := 201) (b := 3) (c := 0) (q := 1593) (by decide +kernel)) (by decide +kernel) (Nat.le_of_ble_eq_true rfl) rfl (Nat.le_of_ble_eq_true rfl) rfl rfl (ok_m_in X (d + 65) F _ _ _ _ _ _ hc1) ?_
  rcases m_ite h with ⟨c186, h⟩ | ⟨c186, h⟩
  · refine m_R_1 (by decide) (m_opb_of (ins := .ifCond .eq 19) (len := 3) (tag := 0) (a := 27) (b := 0) (c := 0) (q := 0) (by decide +kernel)) (if_pos c186) ?_
    exact ok_m_text_27 X d F _ _ _ _ _ _ _ h
  · refine m_R_1 (by decide) (m_opb_of (ins := .ifCond .eq 19) (len := 3) (tag := 0) (a := 27) (b := 0) (c := 0) (q := 0) (by decide +kernel)) (if_neg c186) ?_
    refine m_R_sg (by decide) [(.iload_n 2, 1, 0, 2, 0, 0, 0), (.iconst 0, 1, 0, 0, 0, 0, 0), (.sipush 1000, 3, 0, 1000, 0, 0, 0)] (by decide +kernel) (show m_sgl X _ _ _ _ _ = some (16, [some (.ref 304), some (.int v1), some (.int v2), none, none], [.int (1000 : Int32), .int (0 : Int32), .int v2], (SH, q1.2.1, q1.2.2)) from rfl) ?_
    obtain ⟨q2, hc2, h⟩ := Option.bind_eq_some_iff.mp h
    refine m_R_cS (v := (some (.int q2.1))) (h1 := (SH, q2.2)) (rest := []) (lo' := [some (.int v2), some (.int (0 : Int32)), some (.int (1000 : Int32))]) (ml := 3) (by decide) (m_opb_of (ins := .invokestatic 57) (len := 3) (tag := 4) (a := 201) (b := 3) (c := 0) (q := 1593) (by decide +kernel)) (by decide +kernel) (Nat.le_of_ble_eq_true rfl) rfl (Nat.le_of_ble_eq_true rfl) rfl rfl (ok_m_in X (d + 65) F _ _ _ _ _ _ hc2) ?_
    rcases m_ite h with ⟨c187, h⟩ | ⟨c187, h⟩
    · refine m_R_1 (by decide) (m_opb_of (ins := .ifCond .eq 8) (len := 3) (tag := 0) (a := 27) (b := 0) (c := 0) (q := 0) (by decide +kernel)) (if_pos c187) ?_
      exact ok_m_text_27 X d F _ _ _ _ _ _ _ h
    · refine m_R_1 (by decide) (m_opb_of (ins := .ifCond .eq 8) (len := 3) (tag := 0) (a := 27) (b := 0) (c := 0) (q := 0) (by decide +kernel)) (if_neg c187) ?_
      refine m_R_sg (by decide) [(.iload_n 1, 1, 0, 1, 0, 0, 0), (.iload_n 2, 1, 0, 2, 0, 0, 0)] (by decide +kernel) (show m_sgl X _ _ _ _ _ = some (24, [some (.ref 304), some (.int v1), some (.int v2), none, none], [.int v2, .int v1], (SH, q2.2.1, q2.2.2)) from rfl) ?_
      rcases m_ite h with ⟨c188, h⟩ | ⟨c188, h⟩
      · refine m_R_1 (by decide) (m_opb_of (ins := .if_icmp .lt 10) (len := 3) (tag := 0) (a := 34) (b := 0) (c := 0) (q := 0) (by decide +kernel)) (if_pos c188) ?_
        refine m_R_sg (by decide) [(.aload_n 0, 1, 0, 0, 0, 0, 0), (.getfield 13, 3, 0, 12, 1, 3, 1496), (.iconst 5, 1, 0, 5, 0, 0, 0)] (by decide +kernel) (show m_sgl X _ _ _ _ _ = some (39, [some (.ref 304), some (.int v1), some (.int v2), none, none], [.int (5 : Int32), .ref 305], (SH, q2.2.1, q2.2.2)) from rfl) ?_
        refine m_R_1 (by decide) (m_opb_of (ins := .iaload) (len := 1) (tag := 0) (a := 0) (b := 0) (c := 0) (q := 0) (by decide +kernel)) (m_s_iald sh_305 (by decide) (show ¬ ((5 : Int32) < 0 ∨ 9732 ≤ (5 : Int32).toNatClampNeg) by decide)) ?_
        refine m_R_sg (by decide) [(.bipush 12, 2, 0, 12, 0, 0, 0)] (by decide +kernel) (show m_sgl X _ _ _ _ _ = some (42, [some (.ref 304), some (.int v1), some (.int v2), none, none], [.int (12 : Int32), .int (q2.2.1 305 (5 : Int32).toNatClampNeg)], (SH, q2.2.1, q2.2.2)) from rfl) ?_
        rcases m_ite h with ⟨c189, h⟩ | ⟨c189, h⟩
        · refine m_R_1 (by decide) (m_opb_of (ins := .if_icmp .ne 10) (len := 3) (tag := 0) (a := 52) (b := 0) (c := 0) (q := 0) (by decide +kernel)) (if_pos c189) ?_
          refine m_R_sg (by decide) [(.aload_n 0, 1, 0, 0, 0, 0, 0), (.bipush (-8), 2, 0, 8, 1, 0, 0)] (by decide +kernel) (show m_sgl X _ _ _ _ _ = some (48, [some (.ref 304), some (.int v1), some (.int v2), none, none], [.int (-8 : Int32), .ref 304], (SH, q2.2.1, q2.2.2)) from rfl) ?_
          obtain ⟨q3, hc3, h⟩ := Option.bind_eq_some_iff.mp h
          refine m_R_cV (v := (some (.int q3.1))) (h1 := (SH, q3.2)) (rest := []) (lo' := [some (.ref 304), some (.int (-8 : Int32))]) (ml := 2) (k0 := 304) (by decide) (Or.inl rfl) (m_opb_of (ins := .invokevirtual 61) (len := 3) (tag := 5) (a := 202) (b := 1) (c := 0) (q := 1596) (by decide +kernel)) (by decide +kernel) rfl (show m_isO 202 304 (SH, _) = true from m_isO_of (by decide +kernel)) (Nat.le_of_ble_eq_true rfl) rfl rfl (ok_m_refuse X (d + 65) F _ _ _ _ hc3) ?_
          obtain ⟨rfl, rfl⟩ := m_some h
          exact m_R_iret (by decide) (m_opb_of (ins := .ireturn) (len := 1) (tag := 1) (a := 0) (b := 0) (c := 0) (q := 0) (by decide +kernel)) (Or.inl rfl)
        · refine m_R_1 (by decide) (m_opb_of (ins := .if_icmp .ne 10) (len := 3) (tag := 0) (a := 52) (b := 0) (c := 0) (q := 0) (by decide +kernel)) (if_neg c189) ?_
          refine m_R_sg (by decide) [(.aload_n 0, 1, 0, 0, 0, 0, 0), (.aload_n 0, 1, 0, 0, 0, 0, 0), (.getfield 378, 3, 0, 12, 9, 0, 1504), (.putfield 227, 3, 0, 12, 11, 0, 1506), (.iconst 0, 1, 0, 0, 0, 0, 0), (.istore_n 3, 1, 0, 3, 0, 0, 0)] (by decide +kernel) (show m_sgl X _ _ _ _ _ = some (62, [some (.ref 304), some (.int v1), some (.int v2), some (.int (0 : Int32)), none], [], (SH, (m_up q2.2.1 304 11 (q2.2.1 304 9)), q2.2.2)) from rfl) ?_
          exact ok_m_text_62 X d F F _ _ _ _ _ _ _ h
      · refine m_R_1 (by decide) (m_opb_of (ins := .if_icmp .lt 10) (len := 3) (tag := 0) (a := 34) (b := 0) (c := 0) (q := 0) (by decide +kernel)) (if_neg c188) ?_
        exact ok_m_text_27 X d F _ _ _ _ _ _ _ h
