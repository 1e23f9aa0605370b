/-! METHODS AS FUNCTIONS (written by program: wip/whole/gen/emit.py) -/
def f_x_refuse_25 (F : Nat)   (v1 : Int32) (m : mM) : Option (Int32 × mM) := some (v1, m)
theorem ok_x_refuse_25 (X : mX) (d F : Nat) : ∀ (v1 : Int32) (w0 : Option Value) (m : mM) (r : Int32) (m' : mM), f_x_refuse_25 F v1 m = some (r, m') → m_R X (d + 0) 14 25 [w0, some (.int v1)] [] (SH, m) (some (.int r), (SH, m')) := by
  intro v1 w0 m r m' h
  unfold f_x_refuse_25 at h
  refine m_R_sg (by decide) [(.iload_n 1, 1, 0, 1, 0, 0, 0)] (by decide +kernel) (show m_sgl X _ _ _ _ _ = some (26, [w0, some (.int v1)], [.int v1], (SH, m.1, m.2)) from rfl) ?_
  obtain ⟨rfl, rfl⟩ := m_some h
  exact m_R_iret (by decide) (m_opb_of (ins := .ireturn) (len := 1) (tag := 1) (a := 0) (b := 0) (c := 0) (q := 0) (by decide +kernel)) (Or.inl rfl)
def f_x_refuse (F : Nat)   (v1 : Int32) (m : mM) : Option (Int32 × mM) := (if (-2 : Int32) < v1 then f_x_refuse_25 F v1 m else (if v1 < (-8 : Int32) then f_x_refuse_25 F v1 m else (if ((-2 : Int32) - v1) < 0 ∨ 7 ≤ ((-2 : Int32) - v1).toNatClampNeg then none else f_x_refuse_25 F v1 ((m_up m.1 119 ((-2 : Int32) - v1).toNatClampNeg ((m.1 119 ((-2 : Int32) - v1).toNatClampNeg) + (1 : Int32))), m.2))))
theorem ok_x_refuse (X : mX) (d F : Nat) : ∀ (v1 : Int32)  (m : mM) (r : Int32) (m' : mM), f_x_refuse F v1 m = some (r, m') → m_R X (d + 0) 14 0 [some (.ref 0), some (.int v1)] [] (SH, m) (some (.int r), (SH, m')) := by
  intro v1 m r m' h
  unfold f_x_refuse at h
  refine m_R_sg (by decide) [(.iload_n 1, 1, 0, 1, 0, 0, 0), (.bipush (-2), 2, 0, 2, 1, 0, 0)] (by decide +kernel) (show m_sgl X _ _ _ _ _ = some (3, [some (.ref 0), some (.int v1)], [.int (-2 : Int32), .int v1], (SH, m.1, m.2)) from rfl) ?_
  rcases m_ite h with ⟨c1, h⟩ | ⟨c1, h⟩
  · refine m_R_1 (by decide) (m_opb_of (ins := .if_icmp .gt 22) (len := 3) (tag := 0) (a := 25) (b := 0) (c := 0) (q := 0) (by decide +kernel)) (if_pos c1) ?_
    exact ok_x_refuse_25 X d F _ _ _ _ _ h
  · refine m_R_1 (by decide) (m_opb_of (ins := .if_icmp .gt 22) (len := 3) (tag := 0) (a := 25) (b := 0) (c := 0) (q := 0) (by decide +kernel)) (if_neg c1) ?_
    refine m_R_sg (by decide) [(.iload_n 1, 1, 0, 1, 0, 0, 0), (.bipush (-8), 2, 0, 8, 1, 0, 0)] (by decide +kernel) (show m_sgl X _ _ _ _ _ = some (9, [some (.ref 0), some (.int v1)], [.int (-8 : Int32), .int v1], (SH, m.1, m.2)) from rfl) ?_
    rcases m_ite h with ⟨c2, h⟩ | ⟨c2, h⟩
    · refine m_R_1 (by decide) (m_opb_of (ins := .if_icmp .lt 16) (len := 3) (tag := 0) (a := 25) (b := 0) (c := 0) (q := 0) (by decide +kernel)) (if_pos c2) ?_
      exact ok_x_refuse_25 X d F _ _ _ _ _ h
    · refine m_R_1 (by decide) (m_opb_of (ins := .if_icmp .lt 16) (len := 3) (tag := 0) (a := 25) (b := 0) (c := 0) (q := 0) (by decide +kernel)) (if_neg c2) ?_
      refine m_R_sg (by decide) [(.aload_n 0, 1, 0, 0, 0, 0, 0), (.getfield 60, 3, 0, 11, 9, 3, 639), (.bipush (-2), 2, 0, 2, 1, 0, 0), (.iload_n 1, 1, 0, 1, 0, 0, 0), (.isub, 1, 0, 0, 0, 0, 0), (.dup2, 1, 0, 0, 0, 0, 0)] (by decide +kernel) (show m_sgl X _ _ _ _ _ = some (21, [some (.ref 0), some (.int v1)], [.int ((-2 : Int32) - v1), .ref 119, .int ((-2 : Int32) - v1), .ref 119], (SH, m.1, m.2)) from rfl) ?_
      obtain ⟨c3, h⟩ := m_ite_n h
      refine m_R_1 (by decide) (m_opb_of (ins := .iaload) (len := 1) (tag := 0) (a := 0) (b := 0) (c := 0) (q := 0) (by decide +kernel)) (m_s_iald sh_119 (by decide) c3) ?_
      refine m_R_sg (by decide) [(.iconst 1, 1, 0, 1, 0, 0, 0), (.iadd, 1, 0, 0, 0, 0, 0)] (by decide +kernel) (show m_sgl X _ _ _ _ _ = some (24, [some (.ref 0), some (.int v1)], [.int ((m.1 119 ((-2 : Int32) - v1).toNatClampNeg) + (1 : Int32)), .int ((-2 : Int32) - v1), .ref 119], (SH, m.1, m.2)) from rfl) ?_
      refine m_R_1 (by decide) (m_opb_of (ins := .iastore) (len := 1) (tag := 0) (a := 0) (b := 0) (c := 0) (q := 0) (by decide +kernel)) (m_s_iast sh_119 c3) ?_
      exact ok_x_refuse_25 X d F _ _ _ _ _ h
def f_x_town (F : Nat)    (m : mM) : Option (Int32 × mM) := (if (m.1 17 1) < (8 : Int32) then some ((((m_up m.1 17 1 ((m.1 17 1) + (1 : Int32))) 17 1) - (1 : Int32)), ((m_up m.1 17 1 ((m.1 17 1) + (1 : Int32))), m.2)) else ((f_x_refuse F (-8 : Int32) m).bind fun q1 => some (q1.1, q1.2)))
theorem ok_x_town (X : mX) (d F : Nat) : ∀   (m : mM) (r : Int32) (m' : mM), f_x_town F  m = some (r, m') → m_R X (d + 1) 13 0 [some (.ref 0), none] [] (SH, m) (some (.int r), (SH, m')) := by
  intro m r m' h
  unfold f_x_town at h
  refine m_R_sg (by decide) [(.aload_n 0, 1, 0, 0, 0, 0, 0), (.getfield 28, 3, 0, 11, 2, 3, 632), (.getfield 67, 3, 0, 10, 0, 3, 504), (.astore_n 1, 1, 0, 1, 0, 0, 0), (.aload_n 1, 1, 0, 1, 0, 0, 0), (.getfield 71, 3, 0, 2, 1, 0, 233), (.bipush 8, 2, 0, 8, 0, 0, 0)] (by decide +kernel) (show m_sgl X _ _ _ _ _ = some (14, [some (.ref 0), some (.ref 17)], [.int (8 : Int32), .int (m.1 17 1)], (SH, m.1, m.2)) from rfl) ?_
  rcases m_ite h with ⟨c4, h⟩ | ⟨c4, h⟩
  · refine m_R_1 (by decide) (m_opb_of (ins := .if_icmp .lt 10) (len := 3) (tag := 0) (a := 24) (b := 0) (c := 0) (q := 0) (by decide +kernel)) (if_pos c4) ?_
    refine m_R_sg (by decide) [(.aload_n 1, 1, 0, 1, 0, 0, 0), (.dup, 1, 0, 0, 0, 0, 0), (.getfield 71, 3, 0, 2, 1, 0, 233), (.iconst 1, 1, 0, 1, 0, 0, 0), (.iadd, 1, 0, 0, 0, 0, 0), (.putfield 71, 3, 0, 2, 1, 0, 233), (.aload_n 1, 1, 0, 1, 0, 0, 0), (.getfield 71, 3, 0, 2, 1, 0, 233), (.iconst 1, 1, 0, 1, 0, 0, 0), (.isub, 1, 0, 0, 0, 0, 0)] (by decide +kernel) (show m_sgl X _ _ _ _ _ = some (40, [some (.ref 0), some (.ref 17)], [.int (((m_up m.1 17 1 ((m.1 17 1) + (1 : Int32))) 17 1) - (1 : Int32))], (SH, (m_up m.1 17 1 ((m.1 17 1) + (1 : Int32))), m.2)) from rfl) ?_
    obtain ⟨rfl, rfl⟩ := m_some h
    exact m_R_iret (by decide) (m_opb_of (ins := .ireturn) (len := 1) (tag := 1) (a := 0) (b := 0) (c := 0) (q := 0) (by decide +kernel)) (Or.inl rfl)
  · refine m_R_1 (by decide) (m_opb_of (ins := .if_icmp .lt 10) (len := 3) (tag := 0) (a := 24) (b := 0) (c := 0) (q := 0) (by decide +kernel)) (if_neg c4) ?_
    refine m_R_sg (by decide) [(.aload_n 0, 1, 0, 0, 0, 0, 0), (.bipush (-8), 2, 0, 8, 1, 0, 0)] (by decide +kernel) (show m_sgl X _ _ _ _ _ = some (20, [some (.ref 0), some (.ref 17)], [.int (-8 : Int32), .ref 0], (SH, m.1, m.2)) from rfl) ?_
    obtain ⟨q1, hc1, h⟩ := Option.bind_eq_some_iff.mp h
    refine m_R_cV (v := (some (.int q1.1))) (h1 := (SH, q1.2)) (rest := []) (lo' := [some (.ref 0), some (.int (-8 : Int32))]) (ml := 2) (k0 := 0) (by decide) (Or.inl rfl) (m_opb_of (ins := .invokevirtual 76) (len := 3) (tag := 5) (a := 14) (b := 1) (c := 0) (q := 671) (by decide +kernel)) (by decide +kernel) rfl (show m_isO 14 0 (SH, _) = true from m_isO_of (by decide +kernel)) (Nat.le_of_ble_eq_true rfl) rfl rfl (ok_x_refuse X (d + 0) F _ _ _ _ hc1) ?_
    obtain ⟨rfl, rfl⟩ := m_some h
    exact m_R_iret (by decide) (m_opb_of (ins := .ireturn) (len := 1) (tag := 1) (a := 0) (b := 0) (c := 0) (q := 0) (by decide +kernel)) (Or.inl rfl)
def f_m_refuse (F : Nat)   (v1 : Int32) (m : mM) : Option (Int32 × mM) := (if (-v1) < 0 ∨ 9 ≤ (-v1).toNatClampNeg then none else some (v1, ((m_up m.1 306 (-v1).toNatClampNeg ((m.1 306 (-v1).toNatClampNeg) + (1 : Int32))), m.2)))
theorem ok_m_refuse (X : mX) (d F : Nat) : ∀ (v1 : Int32)  (m : mM) (r : Int32) (m' : mM), f_m_refuse F v1 m = some (r, m') → m_R X (d + 0) 202 0 [some (.ref 304), some (.int v1)] [] (SH, m) (some (.int r), (SH, m')) := by
  intro v1 m r m' h
  unfold f_m_refuse at h
  refine m_R_sg (by decide) [(.aload_n 0, 1, 0, 0, 0, 0, 0), (.getfield 17, 3, 0, 12, 2, 3, 1494), (.iload_n 1, 1, 0, 1, 0, 0, 0), (.ineg, 1, 0, 0, 0, 0, 0), (.dup2, 1, 0, 0, 0, 0, 0)] (by decide +kernel) (show m_sgl X _ _ _ _ _ = some (7, [some (.ref 304), some (.int v1)], [.int (-v1), .ref 306, .int (-v1), .ref 306], (SH, m.1, m.2)) from rfl) ?_
  obtain ⟨c5, h⟩ := m_ite_n h
  refine m_R_1 (by decide) (m_opb_of (ins := .iaload) (len := 1) (tag := 0) (a := 0) (b := 0) (c := 0) (q := 0) (by decide +kernel)) (m_s_iald sh_306 (by decide) c5) ?_
  refine m_R_sg (by decide) [(.iconst 1, 1, 0, 1, 0, 0, 0), (.iadd, 1, 0, 0, 0, 0, 0)] (by decide +kernel) (show m_sgl X _ _ _ _ _ = some (10, [some (.ref 304), some (.int v1)], [.int ((m.1 306 (-v1).toNatClampNeg) + (1 : Int32)), .int (-v1), .ref 306], (SH, m.1, m.2)) from rfl) ?_
  refine m_R_1 (by decide) (m_opb_of (ins := .iastore) (len := 1) (tag := 0) (a := 0) (b := 0) (c := 0) (q := 0) (by decide +kernel)) (m_s_iast sh_306 c5) ?_
  refine m_R_sg (by decide) [(.iload_n 1, 1, 0, 1, 0, 0, 0)] (by decide +kernel) (show m_sgl X _ _ _ _ _ = some (12, [some (.ref 304), some (.int v1)], [.int v1], (SH, (m_up m.1 306 (-v1).toNatClampNeg ((m.1 306 (-v1).toNatClampNeg) + (1 : Int32))), m.2)) from rfl) ?_
  obtain ⟨rfl, rfl⟩ := m_some h
  exact m_R_iret (by decide) (m_opb_of (ins := .ireturn) (len := 1) (tag := 1) (a := 0) (b := 0) (c := 0) (q := 0) (by decide +kernel)) (Or.inl rfl)
def f_m_town (F : Nat)    (m : mM) : Option (Int32 × mM) := (if (m.1 305 (1 : Int32).toNatClampNeg) = (8 : Int32) then ((f_m_refuse F (-8 : Int32) m).bind fun q1 => some (q1.1, q1.2)) else some ((((m_up m.1 305 (1 : Int32).toNatClampNeg ((m.1 305 (1 : Int32).toNatClampNeg) + (1 : Int32))) 305 (1 : Int32).toNatClampNeg) - (1 : Int32)), ((m_up m.1 305 (1 : Int32).toNatClampNeg ((m.1 305 (1 : Int32).toNatClampNeg) + (1 : Int32))), m.2)))
theorem ok_m_town (X : mX) (d F : Nat) : ∀   (m : mM) (r : Int32) (m' : mM), f_m_town F  m = some (r, m') → m_R X (d + 1) 203 0 [some (.ref 304)] [] (SH, m) (some (.int r), (SH, m')) := by
  intro m r m' h
  unfold f_m_town at h
  refine m_R_sg (by decide) [(.aload_n 0, 1, 0, 0, 0, 0, 0), (.getfield 13, 3, 0, 12, 1, 3, 1493), (.iconst 1, 1, 0, 1, 0, 0, 0)] (by decide +kernel) (show m_sgl X _ _ _ _ _ = some (5, [some (.ref 304)], [.int (1 : Int32), .ref 305], (SH, m.1, m.2)) from rfl) ?_
  refine m_R_1 (by decide) (m_opb_of (ins := .iaload) (len := 1) (tag := 0) (a := 0) (b := 0) (c := 0) (q := 0) (by decide +kernel)) (m_s_iald sh_305 (by decide) (show ¬ ((1 : Int32) < 0 ∨ 9732 ≤ (1 : Int32).toNatClampNeg) by decide)) ?_
  refine m_R_sg (by decide) [(.bipush 8, 2, 0, 8, 0, 0, 0)] (by decide +kernel) (show m_sgl X _ _ _ _ _ = some (8, [some (.ref 304)], [.int (8 : Int32), .int (m.1 305 (1 : Int32).toNatClampNeg)], (SH, m.1, m.2)) from rfl) ?_
  rcases m_ite h with ⟨c6, h⟩ | ⟨c6, h⟩
  · refine m_R_1 (by decide) (m_opb_of (ins := .if_icmp .ne 10) (len := 3) (tag := 0) (a := 18) (b := 0) (c := 0) (q := 0) (by decide +kernel)) (if_pos c6) ?_
    refine m_R_sg (by decide) [(.aload_n 0, 1, 0, 0, 0, 0, 0), (.bipush (-8), 2, 0, 8, 1, 0, 0)] (by decide +kernel) (show m_sgl X _ _ _ _ _ = some (14, [some (.ref 304)], [.int (-8 : Int32), .ref 304], (SH, m.1, m.2)) from rfl) ?_
    obtain ⟨q1, hc1, h⟩ := Option.bind_eq_some_iff.mp h
    refine m_R_cV (v := (some (.int q1.1))) (h1 := (SH, q1.2)) (rest := []) (lo' := [some (.ref 304), some (.int (-8 : Int32))]) (ml := 2) (k0 := 304) (by decide) (Or.inl rfl) (m_opb_of (ins := .invokevirtual 61) (len := 3) (tag := 5) (a := 202) (b := 1) (c := 0) (q := 1593) (by decide +kernel)) (by decide +kernel) rfl (show m_isO 202 304 (SH, _) = true from m_isO_of (by decide +kernel)) (Nat.le_of_ble_eq_true rfl) rfl rfl (ok_m_refuse X (d + 0) F _ _ _ _ hc1) ?_
    obtain ⟨rfl, rfl⟩ := m_some h
    exact m_R_iret (by decide) (m_opb_of (ins := .ireturn) (len := 1) (tag := 1) (a := 0) (b := 0) (c := 0) (q := 0) (by decide +kernel)) (Or.inl rfl)
  · refine m_R_1 (by decide) (m_opb_of (ins := .if_icmp .ne 10) (len := 3) (tag := 0) (a := 18) (b := 0) (c := 0) (q := 0) (by decide +kernel)) (if_neg c6) ?_
    refine m_R_sg (by decide) [(.aload_n 0, 1, 0, 0, 0, 0, 0), (.getfield 13, 3, 0, 12, 1, 3, 1493), (.iconst 1, 1, 0, 1, 0, 0, 0), (.dup2, 1, 0, 0, 0, 0, 0)] (by decide +kernel) (show m_sgl X _ _ _ _ _ = some (24, [some (.ref 304)], [.int (1 : Int32), .ref 305, .int (1 : Int32), .ref 305], (SH, m.1, m.2)) from rfl) ?_
    refine m_R_1 (by decide) (m_opb_of (ins := .iaload) (len := 1) (tag := 0) (a := 0) (b := 0) (c := 0) (q := 0) (by decide +kernel)) (m_s_iald sh_305 (by decide) (show ¬ ((1 : Int32) < 0 ∨ 9732 ≤ (1 : Int32).toNatClampNeg) by decide)) ?_
    refine m_R_sg (by decide) [(.iconst 1, 1, 0, 1, 0, 0, 0), (.iadd, 1, 0, 0, 0, 0, 0)] (by decide +kernel) (show m_sgl X _ _ _ _ _ = some (27, [some (.ref 304)], [.int ((m.1 305 (1 : Int32).toNatClampNeg) + (1 : Int32)), .int (1 : Int32), .ref 305], (SH, m.1, m.2)) from rfl) ?_
    refine m_R_1 (by decide) (m_opb_of (ins := .iastore) (len := 1) (tag := 0) (a := 0) (b := 0) (c := 0) (q := 0) (by decide +kernel)) (m_s_iast sh_305 (show ¬ ((1 : Int32) < 0 ∨ 9732 ≤ (1 : Int32).toNatClampNeg) by decide)) ?_
    refine m_R_sg (by decide) [(.aload_n 0, 1, 0, 0, 0, 0, 0), (.getfield 13, 3, 0, 12, 1, 3, 1493), (.iconst 1, 1, 0, 1, 0, 0, 0)] (by decide +kernel) (show m_sgl X _ _ _ _ _ = some (33, [some (.ref 304)], [.int (1 : Int32), .ref 305], (SH, (m_up m.1 305 (1 : Int32).toNatClampNeg ((m.1 305 (1 : Int32).toNatClampNeg) + (1 : Int32))), m.2)) from rfl) ?_
    refine m_R_1 (by decide) (m_opb_of (ins := .iaload) (len := 1) (tag := 0) (a := 0) (b := 0) (c := 0) (q := 0) (by decide +kernel)) (m_s_iald sh_305 (by decide) (show ¬ ((1 : Int32) < 0 ∨ 9732 ≤ (1 : Int32).toNatClampNeg) by decide)) ?_
    refine m_R_sg (by decide) [(.iconst 1, 1, 0, 1, 0, 0, 0), (.isub, 1, 0, 0, 0, 0, 0)] (by decide +kernel) (show m_sgl X _ _ _ _ _ = some (36, [some (.ref 304)], [.int (((m_up m.1 305 (1 : Int32).toNatClampNeg ((m.1 305 (1 : Int32).toNatClampNeg) + (1 : Int32))) 305 (1 : Int32).toNatClampNeg) - (1 : Int32))], (SH, (m_up m.1 305 (1 : Int32).toNatClampNeg ((m.1 305 (1 : Int32).toNatClampNeg) + (1 : Int32))), m.2)) from rfl) ?_
    obtain ⟨rfl, rfl⟩ := m_some h
    exact m_R_iret (by decide) (m_opb_of (ins := .ireturn) (len := 1) (tag := 1) (a := 0) (b := 0) (c := 0) (q := 0) (by decide +kernel)) (Or.inl rfl)
def f_Land_isTown_17 (F : Nat)   (s0 : Int32) (m : mM) : Option (Int32 × mM) := (if s0 = 0 ∨ s0 = 1 then some (s0, m) else none)
theorem ok_Land_isTown_17 (X : mX) (d F : Nat) : ∀ (s0 : Int32) (w0 : Option Value) (w1 : Option Value) (m : mM) (r : Int32) (m' : mM), f_Land_isTown_17 F s0 m = some (r, m') → m_R X (d + 0) 16 17 [w0, w1] [.int s0] (SH, m) (some (.int r), (SH, m')) := by
  intro s0 w0 w1 m r m' h
  unfold f_Land_isTown_17 at h
  obtain ⟨c0, h⟩ := m_ite_p h
  obtain ⟨rfl, rfl⟩ := m_some h
  exact m_R_iret (by decide) (m_opb_of (ins := .ireturn) (len := 1) (tag := 1) (a := 1) (b := 0) (c := 0) (q := 0) (by decide +kernel)) (Or.inr c0)
def f_Land_isTown_16 (F : Nat)    (m : mM) : Option (Int32 × mM) := f_Land_isTown_17 F (0 : Int32) m
theorem ok_Land_isTown_16 (X : mX) (d F : Nat) : ∀  (w0 : Option Value) (w1 : Option Value) (m : mM) (r : Int32) (m' : mM), f_Land_isTown_16 F  m = some (r, m') → m_R X (d + 0) 16 16 [w0, w1] [] (SH, m) (some (.int r), (SH, m')) := by
  intro w0 w1 m r m' h
  unfold f_Land_isTown_16 at h
  refine m_R_sg (by decide) [(.iconst 0, 1, 0, 0, 0, 0, 0)] (by decide +kernel) (show m_sgl X _ _ _ _ _ = some (17, [w0, w1], [.int (0 : Int32)], (SH, m.1, m.2)) from rfl) ?_
  exact ok_Land_isTown_17 X d F _ _ _ _ _ _ h
def f_Land_isTown (F : Nat)   (v1 : Int32) (m : mM) : Option (Int32 × mM) := (if v1 < 0 then f_Land_isTown_16 F m else (if (m.1 17 1) ≤ v1 then f_Land_isTown_16 F m else f_Land_isTown_17 F (1 : Int32) m))
theorem ok_Land_isTown (X : mX) (d F : Nat) : ∀ (v1 : Int32)  (m : mM) (r : Int32) (m' : mM), f_Land_isTown F v1 m = some (r, m') → m_R X (d + 0) 16 0 [some (.ref 17), some (.int v1)] [] (SH, m) (some (.int r), (SH, m')) := by
  intro v1 m r m' h
  unfold f_Land_isTown at h
  refine m_R_sg (by decide) [(.iload_n 1, 1, 0, 1, 0, 0, 0)] (by decide +kernel) (show m_sgl X _ _ _ _ _ = some (1, [some (.ref 17), some (.int v1)], [.int v1], (SH, m.1, m.2)) from rfl) ?_
  rcases m_ite h with ⟨c7, h⟩ | ⟨c7, h⟩
  · refine m_R_1 (by decide) (m_opb_of (ins := .ifCond .lt 15) (len := 3) (tag := 0) (a := 16) (b := 0) (c := 0) (q := 0) (by decide +kernel)) (if_pos c7) ?_
    exact ok_Land_isTown_16 X d F _ _ _ _ _ h
  · refine m_R_1 (by decide) (m_opb_of (ins := .ifCond .lt 15) (len := 3) (tag := 0) (a := 16) (b := 0) (c := 0) (q := 0) (by decide +kernel)) (if_neg c7) ?_
    refine m_R_sg (by decide) [(.iload_n 1, 1, 0, 1, 0, 0, 0), (.aload_n 0, 1, 0, 0, 0, 0, 0), (.getfield 15, 3, 0, 2, 1, 0, 232)] (by decide +kernel) (show m_sgl X _ _ _ _ _ = some (9, [some (.ref 17), some (.int v1)], [.int (m.1 17 1), .int v1], (SH, m.1, m.2)) from rfl) ?_
    rcases m_ite h with ⟨c8, h⟩ | ⟨c8, h⟩
    · refine m_R_1 (by decide) (m_opb_of (ins := .if_icmp .ge 7) (len := 3) (tag := 0) (a := 16) (b := 0) (c := 0) (q := 0) (by decide +kernel)) (if_pos c8) ?_
      exact ok_Land_isTown_16 X d F _ _ _ _ _ h
    · refine m_R_1 (by decide) (m_opb_of (ins := .if_icmp .ge 7) (len := 3) (tag := 0) (a := 16) (b := 0) (c := 0) (q := 0) (by decide +kernel)) (if_neg c8) ?_
      refine m_R_sg (by decide) [(.iconst 1, 1, 0, 1, 0, 0, 0), (.goto 4, 3, 0, 17, 0, 0, 0)] (by decide +kernel) (show m_sgl X _ _ _ _ _ = some (17, [some (.ref 17), some (.int v1)], [.int (1 : Int32)], (SH, m.1, m.2)) from rfl) ?_
      exact ok_Land_isTown_17 X d F _ _ _ _ _ _ h
def f_Land_shorten_11 (F : Nat)    (m : mM) : Option (Unit × mM) := some ((), m)
theorem ok_Land_shorten_11 (X : mX) (d F : Nat) : ∀  (w0 : Option Value) (w1 : Option Value) (w2 : Option Value) (w3 : Option Value) (w4 : Option Value) (w5 : Option Value) (m : mM) (r : Unit) (m' : mM), f_Land_shorten_11 F  m = some (r, m') → m_R X (d + 0) 18 11 [w0, w1, w2, w3, w4, w5] [] (SH, m) (none, (SH, m')) := by
  intro w0 w1 w2 w3 w4 w5 m r m' h
  unfold f_Land_shorten_11 at h
  obtain ⟨rfl, rfl⟩ := m_some h
  exact m_R_vret (by decide) (m_opb_of (ins := .return_) (len := 1) (tag := 3) (a := 0) (b := 0) (c := 0) (q := 0) (by decide +kernel))
def f_Land_shorten_49 (F : Nat)    (m : mM) : Option (Unit × mM) := some ((), m)
theorem ok_Land_shorten_49 (X : mX) (d F : Nat) : ∀  (w0 : Option Value) (w1 : Option Value) (w2 : Option Value) (w3 : Option Value) (w4 : Option Value) (w5 : Option Value) (m : mM) (r : Unit) (m' : mM), f_Land_shorten_49 F  m = some (r, m') → m_R X (d + 0) 18 49 [w0, w1, w2, w3, w4, w5] [] (SH, m) (none, (SH, m')) := by
  intro w0 w1 w2 w3 w4 w5 m r m' h
  unfold f_Land_shorten_49 at h
  obtain ⟨rfl, rfl⟩ := m_some h
  exact m_R_vret (by decide) (m_opb_of (ins := .return_) (len := 1) (tag := 3) (a := 0) (b := 0) (c := 0) (q := 0) (by decide +kernel))
def f_Land_shorten_41 (F : Nat)   (v1 : Int32) (v5 : Int32) (m : mM) : Option (Unit × mM) := (if v1 < 0 ∨ 64 ≤ v1.toNatClampNeg then none else f_Land_shorten_49 F ((m_up m.1 18 v1.toNatClampNeg v5), m.2))
theorem ok_Land_shorten_41 (X : mX) (d F : Nat) : ∀ (v1 : Int32) (v5 : Int32) (w2 : Option Value) (w3 : Option Value) (w4 : Option Value) (m : mM) (r : Unit) (m' : mM), f_Land_shorten_41 F v1 v5 m = some (r, m') → m_R X (d + 0) 18 41 [some (.ref 17), some (.int v1), w2, w3, w4, some (.int v5)] [] (SH, m) (none, (SH, m')) := by
  intro v1 v5 w2 w3 w4 m r m' h
  unfold f_Land_shorten_41 at h
  refine m_R_sg (by decide) [(.aload_n 0, 1, 0, 0, 0, 0, 0), (.getfield 9, 3, 0, 2, 0, 3, 231), (.iload_n 1, 1, 0, 1, 0, 0, 0), (.iload 5, 2, 0, 5, 0, 0, 0)] (by decide +kernel) (show m_sgl X _ _ _ _ _ = some (48, [some (.ref 17), some (.int v1), w2, w3, w4, some (.int v5)], [.int v5, .int v1, .ref 18], (SH, m.1, m.2)) from rfl) ?_
  obtain ⟨c9, h⟩ := m_ite_n h
  refine m_R_1 (by decide) (m_opb_of (ins := .iastore) (len := 1) (tag := 0) (a := 0) (b := 0) (c := 0) (q := 0) (by decide +kernel)) (m_s_iast sh_18 c9) ?_
  exact ok_Land_shorten_49 X d F _ _ _ _ _ _ _ _ _ h
def f_Land_shorten (F : Nat)   (v1 : Int32) (v2 : Int32) (v3 : Int32) (v4 : Int32) (m : mM) : Option (Unit × mM) := (if v2 = (-1 : Int32) then f_Land_shorten_11 F m else (if v4 = (-1 : Int32) then f_Land_shorten_11 F m else (if v1 < 0 ∨ 64 ≤ v1.toNatClampNeg then none else (if (m.1 18 v1.toNatClampNeg) = (-1 : Int32) then f_Land_shorten_41 F v1 ((v2 + v3) + v4) m else (if (m.1 18 v1.toNatClampNeg) ≤ ((v2 + v3) + v4) then f_Land_shorten_49 F m else f_Land_shorten_41 F v1 ((v2 + v3) + v4) m)))))
theorem ok_Land_shorten (X : mX) (d F : Nat) : ∀ (v1 : Int32) (v2 : Int32) (v3 : Int32) (v4 : Int32)  (m : mM) (r : Unit) (m' : mM), f_Land_shorten F v1 v2 v3 v4 m = some (r, m') → m_R X (d + 0) 18 0 [some (.ref 17), some (.int v1), some (.int v2), some (.int v3), some (.int v4), none] [] (SH, m) (none, (SH, m')) := by
  intro v1 v2 v3 v4 m r m' h
  unfold f_Land_shorten at h
  refine m_R_sg (by decide) [(.iload_n 2, 1, 0, 2, 0, 0, 0), (.iconst (-1), 1, 0, 1, 1, 0, 0)] (by decide +kernel) (show m_sgl X _ _ _ _ _ = some (2, [some (.ref 17), some (.int v1), some (.int v2), some (.int v3), some (.int v4), none], [.int (-1 : Int32), .int v2], (SH, m.1, m.2)) from rfl) ?_
  rcases m_ite h with ⟨c10, h⟩ | ⟨c10, h⟩
  · refine m_R_1 (by decide) (m_opb_of (ins := .if_icmp .eq 9) (len := 3) (tag := 0) (a := 11) (b := 0) (c := 0) (q := 0) (by decide +kernel)) (if_pos c10) ?_
    exact ok_Land_shorten_11 X d F _ _ _ _ _ _ _ _ _ h
  · refine m_R_1 (by decide) (m_opb_of (ins := .if_icmp .eq 9) (len := 3) (tag := 0) (a := 11) (b := 0) (c := 0) (q := 0) (by decide +kernel)) (if_neg c10) ?_
    refine m_R_sg (by decide) [(.iload 4, 2, 0, 4, 0, 0, 0), (.iconst (-1), 1, 0, 1, 1, 0, 0)] (by decide +kernel) (show m_sgl X _ _ _ _ _ = some (8, [some (.ref 17), some (.int v1), some (.int v2), some (.int v3), some (.int v4), none], [.int (-1 : Int32), .int v4], (SH, m.1, m.2)) from rfl) ?_
    rcases m_ite h with ⟨c11, h⟩ | ⟨c11, h⟩
    · refine m_R_1 (by decide) (m_opb_of (ins := .if_icmp .ne 4) (len := 3) (tag := 0) (a := 12) (b := 0) (c := 0) (q := 0) (by decide +kernel)) (if_pos c11) ?_
      exact ok_Land_shorten_11 X d F _ _ _ _ _ _ _ _ _ h
    · refine m_R_1 (by decide) (m_opb_of (ins := .if_icmp .ne 4) (len := 3) (tag := 0) (a := 12) (b := 0) (c := 0) (q := 0) (by decide +kernel)) (if_neg c11) ?_
      refine m_R_sg (by decide) [(.iload_n 2, 1, 0, 2, 0, 0, 0), (.iload_n 3, 1, 0, 3, 0, 0, 0), (.iadd, 1, 0, 0, 0, 0, 0), (.iload 4, 2, 0, 4, 0, 0, 0), (.iadd, 1, 0, 0, 0, 0, 0), (.istore 5, 2, 0, 5, 0, 0, 0), (.aload_n 0, 1, 0, 0, 0, 0, 0), (.getfield 9, 3, 0, 2, 0, 3, 231), (.iload_n 1, 1, 0, 1, 0, 0, 0)] (by decide +kernel) (show m_sgl X _ _ _ _ _ = some (25, [some (.ref 17), some (.int v1), some (.int v2), some (.int v3), some (.int v4), some (.int ((v2 + v3) + v4))], [.int v1, .ref 18], (SH, m.1, m.2)) from rfl) ?_
      obtain ⟨c12, h⟩ := m_ite_n h
      refine m_R_1 (by decide) (m_opb_of (ins := .iaload) (len := 1) (tag := 0) (a := 0) (b := 0) (c := 0) (q := 0) (by decide +kernel)) (m_s_iald sh_18 (by decide) c12) ?_
      refine m_R_sg (by decide) [(.iconst (-1), 1, 0, 1, 1, 0, 0)] (by decide +kernel) (show m_sgl X _ _ _ _ _ = some (27, [some (.ref 17), some (.int v1), some (.int v2), some (.int v3), some (.int v4), some (.int ((v2 + v3) + v4))], [.int (-1 : Int32), .int (m.1 18 v1.toNatClampNeg)], (SH, m.1, m.2)) from rfl) ?_
      rcases m_ite h with ⟨c13, h⟩ | ⟨c13, h⟩
      · refine m_R_1 (by decide) (m_opb_of (ins := .if_icmp .eq 14) (len := 3) (tag := 0) (a := 41) (b := 0) (c := 0) (q := 0) (by decide +kernel)) (if_pos c13) ?_
        exact ok_Land_shorten_41 X d F _ _ _ _ _ _ _ _ h
      · refine m_R_1 (by decide) (m_opb_of (ins := .if_icmp .eq 14) (len := 3) (tag := 0) (a := 41) (b := 0) (c := 0) (q := 0) (by decide +kernel)) (if_neg c13) ?_
        refine m_R_sg (by decide) [(.iload 5, 2, 0, 5, 0, 0, 0), (.aload_n 0, 1, 0, 0, 0, 0, 0), (.getfield 9, 3, 0, 2, 0, 3, 231), (.iload_n 1, 1, 0, 1, 0, 0, 0)] (by decide +kernel) (show m_sgl X _ _ _ _ _ = some (37, [some (.ref 17), some (.int v1), some (.int v2), some (.int v3), some (.int v4), some (.int ((v2 + v3) + v4))], [.int v1, .ref 18, .int ((v2 + v3) + v4)], (SH, m.1, m.2)) from rfl) ?_
        refine m_R_1 (by decide) (m_opb_of (ins := .iaload) (len := 1) (tag := 0) (a := 0) (b := 0) (c := 0) (q := 0) (by decide +kernel)) (m_s_iald sh_18 (by decide) c12) ?_
        rcases m_ite h with ⟨c14, h⟩ | ⟨c14, h⟩
        · refine m_R_1 (by decide) (m_opb_of (ins := .if_icmp .ge 11) (len := 3) (tag := 0) (a := 49) (b := 0) (c := 0) (q := 0) (by decide +kernel)) (if_pos c14) ?_
          exact ok_Land_shorten_49 X d F _ _ _ _ _ _ _ _ _ h
        · refine m_R_1 (by decide) (m_opb_of (ins := .if_icmp .ge 11) (len := 3) (tag := 0) (a := 49) (b := 0) (c := 0) (q := 0) (by decide +kernel)) (if_neg c14) ?_
          exact ok_Land_shorten_41 X d F _ _ _ _ _ _ _ _ h
def f_Land_addRoad_23 (F : Nat)  (k13 : Int32 → Int32 → Int32 → Int32 → mM → Option (Unit × mM)) : Nat → Int32 → Int32 → Int32 → Int32 → Int32 → mM → Option (Unit × mM)
  | 0, _, _, _, _, _, _ => none
  | n + 1, v1, v2, v3, v4, v5, m => (if (8 : Int32) ≤ v5 then k13 v1 v2 v3 (v4 + (1 : Int32)) m else (if ((v4 * (8 : Int32)) + v1) < 0 ∨ 64 ≤ ((v4 * (8 : Int32)) + v1).toNatClampNeg then none else (if ((v2 * (8 : Int32)) + v5) < 0 ∨ 64 ≤ ((v2 * (8 : Int32)) + v5).toNatClampNeg then none else ((f_Land_shorten F ((v4 * (8 : Int32)) + v5) (m.1 18 ((v4 * (8 : Int32)) + v1).toNatClampNeg) v3 (m.1 18 ((v2 * (8 : Int32)) + v5).toNatClampNeg) m).bind fun q1 => (if ((v4 * (8 : Int32)) + v2) < 0 ∨ 64 ≤ ((v4 * (8 : Int32)) + v2).toNatClampNeg then none else (if ((v1 * (8 : Int32)) + v5) < 0 ∨ 64 ≤ ((v1 * (8 : Int32)) + v5).toNatClampNeg then none else ((f_Land_shorten F ((v4 * (8 : Int32)) + v5) (q1.2.1 18 ((v4 * (8 : Int32)) + v2).toNatClampNeg) v3 (q1.2.1 18 ((v1 * (8 : Int32)) + v5).toNatClampNeg) q1.2).bind fun q2 => f_Land_addRoad_23 F k13 n v1 v2 v3 v4 (v5 + (1 : Int32)) q2.2)))))))
theorem ok_Land_addRoad_23 (X : mX) (d F : Nat) (k13 : Int32 → Int32 → Int32 → Int32 → mM → Option (Unit × mM)) (hk13 : ∀ (v1 : Int32) (v2 : Int32) (v3 : Int32) (v4 : Int32) (w5 : Option Value) (m : mM) (r : Unit) (m' : mM), k13 v1 v2 v3 v4 m = some (r, m') → m_R X (d + 1) 17 13 [some (.ref 17), some (.int v1), some (.int v2), some (.int v3), some (.int v4), w5] [] (SH, m) (none, (SH, m'))) : ∀ (n : Nat) (v1 : Int32) (v2 : Int32) (v3 : Int32) (v4 : Int32) (v5 : Int32)  (m : mM) (r : Unit) (m' : mM), f_Land_addRoad_23 F k13 n v1 v2 v3 v4 v5 m = some (r, m') → m_R X (d + 1) 17 23 [some (.ref 17), some (.int v1), some (.int v2), some (.int v3), some (.int v4), some (.int v5)] [] (SH, m) (none, (SH, m')) := by
  intro n
  induction n with
  | zero => intro v1 v2 v3 v4 v5 m r m' h; cases h
  | succ n ih =>
    intro v1 v2 v3 v4 v5 m r m' h
    simp only [f_Land_addRoad_23] at h
    refine m_R_sg (by decide) [(.iload 5, 2, 0, 5, 0, 0, 0), (.bipush 8, 2, 0, 8, 0, 0, 0)] (by decide +kernel) (show m_sgl X _ _ _ _ _ = some (27, [some (.ref 17), some (.int v1), some (.int v2), some (.int v3), some (.int v4), some (.int v5)], [.int (8 : Int32), .int v5], (SH, m.1, m.2)) from rfl) ?_
    rcases m_ite h with ⟨c15, h⟩ | ⟨c15, h⟩
    · refine m_R_1 (by decide) (m_opb_of (ins := .if_icmp .ge 83) (len := 3) (tag := 0) (a := 110) (b := 0) (c := 0) (q := 0) (by decide +kernel)) (if_pos c15) ?_
      refine m_R_sg (by decide) [(.iinc 4 1, 3, 0, 4, 1, 0, 0), (.goto (-100), 3, 0, 13, 0, 0, 0)] (by decide +kernel) (show m_sgl X _ _ _ _ _ = some (13, [some (.ref 17), some (.int v1), some (.int v2), some (.int v3), some (.int (v4 + (1 : Int32))), some (.int v5)], [], (SH, m.1, m.2)) from rfl) ?_
      exact hk13 _ _ _ _ _ _ _ _ h
    · refine m_R_1 (by decide) (m_opb_of (ins := .if_icmp .ge 83) (len := 3) (tag := 0) (a := 110) (b := 0) (c := 0) (q := 0) (by decide +kernel)) (if_neg c15) ?_
      refine m_R_sg (by decide) [(.aload_n 0, 1, 0, 0, 0, 0, 0), (.iload 4, 2, 0, 4, 0, 0, 0), (.bipush 8, 2, 0, 8, 0, 0, 0), (.imul, 1, 0, 0, 0, 0, 0), (.iload 5, 2, 0, 5, 0, 0, 0), (.iadd, 1, 0, 0, 0, 0, 0), (.aload_n 0, 1, 0, 0, 0, 0, 0), (.getfield 9, 3, 0, 2, 0, 3, 231), (.iload 4, 2, 0, 4, 0, 0, 0), (.bipush 8, 2, 0, 8, 0, 0, 0), (.imul, 1, 0, 0, 0, 0, 0), (.iload_n 1, 1, 0, 1, 0, 0, 0), (.iadd, 1, 0, 0, 0, 0, 0)] (by decide +kernel) (show m_sgl X _ _ _ _ _ = some (50, [some (.ref 17), some (.int v1), some (.int v2), some (.int v3), some (.int v4), some (.int v5)], [.int ((v4 * (8 : Int32)) + v1), .ref 18, .int ((v4 * (8 : Int32)) + v5), .ref 17], (SH, m.1, m.2)) from rfl) ?_
      obtain ⟨c16, h⟩ := m_ite_n h
      refine m_R_1 (by decide) (m_opb_of (ins := .iaload) (len := 1) (tag := 0) (a := 0) (b := 0) (c := 0) (q := 0) (by decide +kernel)) (m_s_iald sh_18 (by decide) c16) ?_
      refine m_R_sg (by decide) [(.iload_n 3, 1, 0, 3, 0, 0, 0), (.aload_n 0, 1, 0, 0, 0, 0, 0), (.getfield 9, 3, 0, 2, 0, 3, 231), (.iload_n 2, 1, 0, 2, 0, 0, 0), (.bipush 8, 2, 0, 8, 0, 0, 0), (.imul, 1, 0, 0, 0, 0, 0), (.iload 5, 2, 0, 5, 0, 0, 0), (.iadd, 1, 0, 0, 0, 0, 0)] (by decide +kernel) (show m_sgl X _ _ _ _ _ = some (63, [some (.ref 17), some (.int v1), some (.int v2), some (.int v3), some (.int v4), some (.int v5)], [.int ((v2 * (8 : Int32)) + v5), .ref 18, .int v3, .int (m.1 18 ((v4 * (8 : Int32)) + v1).toNatClampNeg), .int ((v4 * (8 : Int32)) + v5), .ref 17], (SH, m.1, m.2)) from rfl) ?_
      obtain ⟨c17, h⟩ := m_ite_n h
      refine m_R_1 (by decide) (m_opb_of (ins := .iaload) (len := 1) (tag := 0) (a := 0) (b := 0) (c := 0) (q := 0) (by decide +kernel)) (m_s_iald sh_18 (by decide) c17) ?_
      obtain ⟨q1, hc1, h⟩ := Option.bind_eq_some_iff.mp h
      refine m_R_cV (v := none) (h1 := (SH, q1.2)) (rest := []) (lo' := [some (.ref 17), some (.int ((v4 * (8 : Int32)) + v5)), some (.int (m.1 18 ((v4 * (8 : Int32)) + v1).toNatClampNeg)), some (.int v3), some (.int (m.1 18 ((v2 * (8 : Int32)) + v5).toNatClampNeg)), none]) (ml := 6) (k0 := 17) (by decide) (Or.inl rfl) (m_opb_of (ins := .invokevirtual 30) (len := 3) (tag := 5) (a := 18) (b := 4) (c := 0) (q := 687) (by decide +kernel)) (by decide +kernel) rfl (show m_isO 18 17 (SH, _) = true from m_isO_of (by decide +kernel)) (Nat.le_of_ble_eq_true rfl) rfl rfl (ok_Land_shorten X (d + 0) F _ _ _ _ _ _ _ hc1) ?_
      refine m_R_sg (by decide) [(.aload_n 0, 1, 0, 0, 0, 0, 0), (.iload 4, 2, 0, 4, 0, 0, 0), (.bipush 8, 2, 0, 8, 0, 0, 0), (.imul, 1, 0, 0, 0, 0, 0), (.iload 5, 2, 0, 5, 0, 0, 0), (.iadd, 1, 0, 0, 0, 0, 0), (.aload_n 0, 1, 0, 0, 0, 0, 0), (.getfield 9, 3, 0, 2, 0, 3, 231), (.iload 4, 2, 0, 4, 0, 0, 0), (.bipush 8, 2, 0, 8, 0, 0, 0), (.imul, 1, 0, 0, 0, 0, 0), (.iload_n 2, 1, 0, 2, 0, 0, 0), (.iadd, 1, 0, 0, 0, 0, 0)] (by decide +kernel) (show m_sgl X _ _ _ _ _ = some (87, [some (.ref 17), some (.int v1), some (.int v2), some (.int v3), some (.int v4), some (.int v5)], [.int ((v4 * (8 : Int32)) + v2), .ref 18, .int ((v4 * (8 : Int32)) + v5), .ref 17], (SH, q1.2.1, q1.2.2)) from rfl) ?_
      obtain ⟨c18, h⟩ := m_ite_n h
      refine m_R_1 (by decide) (m_opb_of (ins := .iaload) (len := 1) (tag := 0) (a := 0) (b := 0) (c := 0) (q := 0) (by decide +kernel)) (m_s_iald sh_18 (by decide) c18) ?_
      refine m_R_sg (by decide) [(.iload_n 3, 1, 0, 3, 0, 0, 0), (.aload_n 0, 1, 0, 0, 0, 0, 0), (.getfield 9, 3, 0, 2, 0, 3, 231), (.iload_n 1, 1, 0, 1, 0, 0, 0), (.bipush 8, 2, 0, 8, 0, 0, 0), (.imul, 1, 0, 0, 0, 0, 0), (.iload 5, 2, 0, 5, 0, 0, 0), (.iadd, 1, 0, 0, 0, 0, 0)] (by decide +kernel) (show m_sgl X _ _ _ _ _ = some (100, [some (.ref 17), some (.int v1), some (.int v2), some (.int v3), some (.int v4), some (.int v5)], [.int ((v1 * (8 : Int32)) + v5), .ref 18, .int v3, .int (q1.2.1 18 ((v4 * (8 : Int32)) + v2).toNatClampNeg), .int ((v4 * (8 : Int32)) + v5), .ref 17], (SH, q1.2.1, q1.2.2)) from rfl) ?_
      obtain ⟨c19, h⟩ := m_ite_n h
      refine m_R_1 (by decide) (m_opb_of (ins := .iaload) (len := 1) (tag := 0) (a := 0) (b := 0) (c := 0) (q := 0) (by decide +kernel)) (m_s_iald sh_18 (by decide) c19) ?_
      obtain ⟨q2, hc2, h⟩ := Option.bind_eq_some_iff.mp h
      refine m_R_cV (v := none) (h1 := (SH, q2.2)) (rest := []) (lo' := [some (.ref 17), some (.int ((v4 * (8 : Int32)) + v5)), some (.int (q1.2.1 18 ((v4 * (8 : Int32)) + v2).toNatClampNeg)), some (.int v3), some (.int (q1.2.1 18 ((v1 * (8 : Int32)) + v5).toNatClampNeg)), none]) (ml := 6) (k0 := 17) (by decide) (Or.inl rfl) (m_opb_of (ins := .invokevirtual 30) (len := 3) (tag := 5) (a := 18) (b := 4) (c := 0) (q := 687) (by decide +kernel)) (by decide +kernel) rfl (show m_isO 18 17 (SH, _) = true from m_isO_of (by decide +kernel)) (Nat.le_of_ble_eq_true rfl) rfl rfl (ok_Land_shorten X (d + 0) F _ _ _ _ _ _ _ hc2) ?_
      refine m_R_sg (by decide) [(.iinc 5 1, 3, 0, 5, 1, 0, 0), (.goto (-84), 3, 0, 23, 0, 0, 0)] (by decide +kernel) (show m_sgl X _ _ _ _ _ = some (23, [some (.ref 17), some (.int v1), some (.int v2), some (.int v3), some (.int v4), some (.int (v5 + (1 : Int32)))], [], (SH, q2.2.1, q2.2.2)) from rfl) ?_
      exact ih _ _ _ _ _ _ _ _ h
def f_Land_addRoad_13 (F : Nat)   : Nat → Int32 → Int32 → Int32 → Int32 → mM → Option (Unit × mM)
  | 0, _, _, _, _, _ => none
  | n + 1, v1, v2, v3, v4, m => (if (8 : Int32) ≤ v4 then some ((), m) else f_Land_addRoad_23 F (f_Land_addRoad_13 F n) F v1 v2 v3 v4 (0 : Int32) m)
theorem ok_Land_addRoad_13 (X : mX) (d F : Nat) : ∀ (n : Nat) (v1 : Int32) (v2 : Int32) (v3 : Int32) (v4 : Int32) (w5 : Option Value) (m : mM) (r : Unit) (m' : mM), f_Land_addRoad_13 F n v1 v2 v3 v4 m = some (r, m') → m_R X (d + 1) 17 13 [some (.ref 17), some (.int v1), some (.int v2), some (.int v3), some (.int v4), w5] [] (SH, m) (none, (SH, m')) := by
  intro n
  induction n with
  | zero => intro v1 v2 v3 v4 w5 m r m' h; cases h
  | succ n ih =>
    intro v1 v2 v3 v4 w5 m r m' h
    simp only [f_Land_addRoad_13] at h
    refine m_R_sg (by decide) [(.iload 4, 2, 0, 4, 0, 0, 0), (.bipush 8, 2, 0, 8, 0, 0, 0)] (by decide +kernel) (show m_sgl X _ _ _ _ _ = some (17, [some (.ref 17), some (.int v1), some (.int v2), some (.int v3), some (.int v4), w5], [.int (8 : Int32), .int v4], (SH, m.1, m.2)) from rfl) ?_
    rcases m_ite h with ⟨c20, h⟩ | ⟨c20, h⟩
    · refine m_R_1 (by decide) (m_opb_of (ins := .if_icmp .ge 99) (len := 3) (tag := 0) (a := 116) (b := 0) (c := 0) (q := 0) (by decide +kernel)) (if_pos c20) ?_
      obtain ⟨rfl, rfl⟩ := m_some h
      exact m_R_vret (by decide) (m_opb_of (ins := .return_) (len := 1) (tag := 3) (a := 0) (b := 0) (c := 0) (q := 0) (by decide +kernel))
    · refine m_R_1 (by decide) (m_opb_of (ins := .if_icmp .ge 99) (len := 3) (tag := 0) (a := 116) (b := 0) (c := 0) (q := 0) (by decide +kernel)) (if_neg c20) ?_
      refine m_R_sg (by decide) [(.iconst 0, 1, 0, 0, 0, 0, 0), (.istore 5, 2, 0, 5, 0, 0, 0)] (by decide +kernel) (show m_sgl X _ _ _ _ _ = some (23, [some (.ref 17), some (.int v1), some (.int v2), some (.int v3), some (.int v4), some (.int (0 : Int32))], [], (SH, m.1, m.2)) from rfl) ?_
      exact ok_Land_addRoad_23 X d F _ (fun a0 a1 a2 a3 a4 m r m' h => ih a0 a1 a2 a3 a4 m r m' h) F _ _ _ _ _ _ _ _ h
def f_Land_addRoad (F : Nat)   (v1 : Int32) (v2 : Int32) (v3 : Int32) (m : mM) : Option (Unit × mM) := f_Land_addRoad_13 F F v1 v2 v3 (0 : Int32) ((m_up m.1 17 2 ((m.1 17 2) + (1 : Int32))), m.2)
theorem ok_Land_addRoad (X : mX) (d F : Nat) : ∀ (v1 : Int32) (v2 : Int32) (v3 : Int32)  (m : mM) (r : Unit) (m' : mM), f_Land_addRoad F v1 v2 v3 m = some (r, m') → m_R X (d + 1) 17 0 [some (.ref 17), some (.int v1), some (.int v2), some (.int v3), none, none] [] (SH, m) (none, (SH, m')) := by
  intro v1 v2 v3 m r m' h
  unfold f_Land_addRoad at h
  refine m_R_sg (by decide) [(.aload_n 0, 1, 0, 0, 0, 0, 0), (.dup, 1, 0, 0, 0, 0, 0), (.getfield 23, 3, 0, 2, 2, 0, 234), (.iconst 1, 1, 0, 1, 0, 0, 0), (.iadd, 1, 0, 0, 0, 0, 0), (.putfield 23, 3, 0, 2, 2, 0, 234), (.iconst 0, 1, 0, 0, 0, 0, 0), (.istore 4, 2, 0, 4, 0, 0, 0)] (by decide +kernel) (show m_sgl X _ _ _ _ _ = some (13, [some (.ref 17), some (.int v1), some (.int v2), some (.int v3), some (.int (0 : Int32)), none], [], (SH, (m_up m.1 17 2 ((m.1 17 2) + (1 : Int32))), m.2)) from rfl) ?_
  exact ok_Land_addRoad_13 X d F F _ _ _ _ _ _ _ _ h
def f_x_road_27 (F : Nat)    (m : mM) : Option (Int32 × mM) := ((f_x_refuse F (-3 : Int32) m).bind fun q5 => some (q5.1, q5.2))
theorem ok_x_road_27 (X : mX) (d F : Nat) : ∀  (w1 : Option Value) (w2 : Option Value) (w3 : Option Value) (w4 : Option Value) (m : mM) (r : Int32) (m' : mM), f_x_road_27 F  m = some (r, m') → m_R X (d + 2) 15 27 [some (.ref 0), w1, w2, w3, w4] [] (SH, m) (some (.int r), (SH, m')) := by
  intro w1 w2 w3 w4 m r m' h
  unfold f_x_road_27 at h
  refine m_R_sg (by decide) [(.aload_n 0, 1, 0, 0, 0, 0, 0), (.bipush (-3), 2, 0, 3, 1, 0, 0)] (by decide +kernel) (show m_sgl X _ _ _ _ _ = some (30, [some (.ref 0), w1, w2, w3, w4], [.int (-3 : Int32), .ref 0], (SH, m.1, m.2)) from rfl) ?_
  obtain ⟨q5, hc5, h⟩ := Option.bind_eq_some_iff.mp h
  refine m_R_cV (v := (some (.int q5.1))) (h1 := (SH, q5.2)) (rest := []) (lo' := [some (.ref 0), some (.int (-3 : Int32))]) (ml := 2) (k0 := 0) (by decide) (Or.inl rfl) (m_opb_of (ins := .invokevirtual 76) (len := 3) (tag := 5) (a := 14) (b := 1) (c := 0) (q := 671) (by decide +kernel)) (by decide +kernel) rfl (show m_isO 14 0 (SH, _) = true from m_isO_of (by decide +kernel)) (Nat.le_of_ble_eq_true rfl) rfl rfl (ok_x_refuse X (d + 1) F _ _ _ _ hc5) ?_
  obtain ⟨rfl, rfl⟩ := m_some h
  exact m_R_iret (by decide) (m_opb_of (ins := .ireturn) (len := 1) (tag := 1) (a := 0) (b := 0) (c := 0) (q := 0) (by decide +kernel)) (Or.inl rfl)
def f_x_road_50 (F : Nat)    (m : mM) : Option (Int32 × mM) := ((f_x_refuse F (-7 : Int32) m).bind fun q6 => some (q6.1, q6.2))
theorem ok_x_road_50 (X : mX) (d F : Nat) : ∀  (w1 : Option Value) (w2 : Option Value) (w3 : Option Value) (w4 : Option Value) (m : mM) (r : Int32) (m' : mM), f_x_road_50 F  m = some (r, m') → m_R X (d + 2) 15 50 [some (.ref 0), w1, w2, w3, w4] [] (SH, m) (some (.int r), (SH, m')) := by
  intro w1 w2 w3 w4 m r m' h
  unfold f_x_road_50 at h
  refine m_R_sg (by decide) [(.aload_n 0, 1, 0, 0, 0, 0, 0), (.bipush (-7), 2, 0, 7, 1, 0, 0)] (by decide +kernel) (show m_sgl X _ _ _ _ _ = some (53, [some (.ref 0), w1, w2, w3, w4], [.int (-7 : Int32), .ref 0], (SH, m.1, m.2)) from rfl) ?_
  obtain ⟨q6, hc6, h⟩ := Option.bind_eq_some_iff.mp h
  refine m_R_cV (v := (some (.int q6.1))) (h1 := (SH, q6.2)) (rest := []) (lo' := [some (.ref 0), some (.int (-7 : Int32))]) (ml := 2) (k0 := 0) (by decide) (Or.inl rfl) (m_opb_of (ins := .invokevirtual 76) (len := 3) (tag := 5) (a := 14) (b := 1) (c := 0) (q := 671) (by decide +kernel)) (by decide +kernel) rfl (show m_isO 14 0 (SH, _) = true from m_isO_of (by decide +kernel)) (Nat.le_of_ble_eq_true rfl) rfl rfl (ok_x_refuse X (d + 1) F _ _ _ _ hc6) ?_
  obtain ⟨rfl, rfl⟩ := m_some h
  exact m_R_iret (by decide) (m_opb_of (ins := .ireturn) (len := 1) (tag := 1) (a := 0) (b := 0) (c := 0) (q := 0) (by decide +kernel)) (Or.inl rfl)
def f_x_road (F : Nat)   (v1 : Int32) (v2 : Int32) (v3 : Int32) (m : mM) : Option (Int32 × mM) := ((f_Land_isTown F v1 m).bind fun q1 => (if q1.1 = 0 then f_x_road_27 F q1.2 else ((f_Land_isTown F v2 q1.2).bind fun q2 => (if q2.1 = 0 then f_x_road_27 F q2.2 else (if v1 = v2 then f_x_road_50 F q2.2 else (if v3 < (1 : Int32) then f_x_road_50 F q2.2 else (if v3 ≤ (30 : Int32) then (if (q2.2.1 17 2) < (16 : Int32) then ((f_Land_addRoad F v1 v2 v3 q2.2).bind fun q3 => some ((q3.2.1 17 2), q3.2)) else ((f_x_refuse F (-8 : Int32) q2.2).bind fun q4 => some (q4.1, q4.2))) else f_x_road_50 F q2.2)))))))
theorem ok_x_road (X : mX) (d F : Nat) : ∀ (v1 : Int32) (v2 : Int32) (v3 : Int32)  (m : mM) (r : Int32) (m' : mM), f_x_road F v1 v2 v3 m = some (r, m') → m_R X (d + 2) 15 0 [some (.ref 0), some (.int v1), some (.int v2), some (.int v3), none] [] (SH, m) (some (.int r), (SH, m')) := by
  intro v1 v2 v3 m r m' h
  unfold f_x_road at h
  refine m_R_sg (by decide) [(.aload_n 0, 1, 0, 0, 0, 0, 0), (.getfield 28, 3, 0, 11, 2, 3, 632), (.getfield 67, 3, 0, 10, 0, 3, 504), (.astore 4, 2, 0, 4, 0, 0, 0), (.aload 4, 2, 0, 4, 0, 0, 0), (.iload_n 1, 1, 0, 1, 0, 0, 0)] (by decide +kernel) (show m_sgl X _ _ _ _ _ = some (12, [some (.ref 0), some (.int v1), some (.int v2), some (.int v3), some (.ref 17)], [.int v1, .ref 17], (SH, m.1, m.2)) from rfl) ?_
  obtain ⟨q1, hc1, h⟩ := Option.bind_eq_some_iff.mp h
  refine m_R_cV (v := (some (.int q1.1))) (h1 := (SH, q1.2)) (rest := []) (lo' := [some (.ref 17), some (.int v1)]) (ml := 2) (k0 := 17) (by decide) (Or.inl rfl) (m_opb_of (ins := .invokevirtual 80) (len := 3) (tag := 5) (a := 16) (b := 1) (c := 0) (q := 679) (by decide +kernel)) (by decide +kernel) rfl (show m_isO 16 17 (SH, _) = true from m_isO_of (by decide +kernel)) (Nat.le_of_ble_eq_true rfl) rfl rfl (ok_Land_isTown X (d + 1) F _ _ _ _ hc1) ?_
  rcases m_ite h with ⟨c21, h⟩ | ⟨c21, h⟩
  · refine m_R_1 (by decide) (m_opb_of (ins := .ifCond .eq 12) (len := 3) (tag := 0) (a := 27) (b := 0) (c := 0) (q := 0) (by decide +kernel)) (if_pos c21) ?_
    exact ok_x_road_27 X d F _ _ _ _ _ _ _ h
  · refine m_R_1 (by decide) (m_opb_of (ins := .ifCond .eq 12) (len := 3) (tag := 0) (a := 27) (b := 0) (c := 0) (q := 0) (by decide +kernel)) (if_neg c21) ?_
    refine m_R_sg (by decide) [(.aload 4, 2, 0, 4, 0, 0, 0), (.iload_n 2, 1, 0, 2, 0, 0, 0)] (by decide +kernel) (show m_sgl X _ _ _ _ _ = some (21, [some (.ref 0), some (.int v1), some (.int v2), some (.int v3), some (.ref 17)], [.int v2, .ref 17], (SH, q1.2.1, q1.2.2)) from rfl) ?_
    obtain ⟨q2, hc2, h⟩ := Option.bind_eq_some_iff.mp h
    refine m_R_cV (v := (some (.int q2.1))) (h1 := (SH, q2.2)) (rest := []) (lo' := [some (.ref 17), some (.int v2)]) (ml := 2) (k0 := 17) (by decide) (Or.inl rfl) (m_opb_of (ins := .invokevirtual 80) (len := 3) (tag := 5) (a := 16) (b := 1) (c := 0) (q := 679) (by decide +kernel)) (by decide +kernel) rfl (show m_isO 16 17 (SH, _) = true from m_isO_of (by decide +kernel)) (Nat.le_of_ble_eq_true rfl) rfl rfl (ok_Land_isTown X (d + 1) F _ _ _ _ hc2) ?_
    rcases m_ite h with ⟨c22, h⟩ | ⟨c22, h⟩
    · refine m_R_1 (by decide) (m_opb_of (ins := .ifCond .ne 10) (len := 3) (tag := 0) (a := 34) (b := 0) (c := 0) (q := 0) (by decide +kernel)) (if_pos c22) ?_
      exact ok_x_road_27 X d F _ _ _ _ _ _ _ h
    · refine m_R_1 (by decide) (m_opb_of (ins := .ifCond .ne 10) (len := 3) (tag := 0) (a := 34) (b := 0) (c := 0) (q := 0) (by decide +kernel)) (if_neg c22) ?_
      refine m_R_sg (by decide) [(.iload_n 1, 1, 0, 1, 0, 0, 0), (.iload_n 2, 1, 0, 2, 0, 0, 0)] (by decide +kernel) (show m_sgl X _ _ _ _ _ = some (36, [some (.ref 0), some (.int v1), some (.int v2), some (.int v3), some (.ref 17)], [.int v2, .int v1], (SH, q2.2.1, q2.2.2)) from rfl) ?_
      rcases m_ite h with ⟨c23, h⟩ | ⟨c23, h⟩
      · refine m_R_1 (by decide) (m_opb_of (ins := .if_icmp .eq 14) (len := 3) (tag := 0) (a := 50) (b := 0) (c := 0) (q := 0) (by decide +kernel)) (if_pos c23) ?_
        exact ok_x_road_50 X d F _ _ _ _ _ _ _ h
      · refine m_R_1 (by decide) (m_opb_of (ins := .if_icmp .eq 14) (len := 3) (tag := 0) (a := 50) (b := 0) (c := 0) (q := 0) (by decide +kernel)) (if_neg c23) ?_
        refine m_R_sg (by decide) [(.iload_n 3, 1, 0, 3, 0, 0, 0), (.iconst 1, 1, 0, 1, 0, 0, 0)] (by decide +kernel) (show m_sgl X _ _ _ _ _ = some (41, [some (.ref 0), some (.int v1), some (.int v2), some (.int v3), some (.ref 17)], [.int (1 : Int32), .int v3], (SH, q2.2.1, q2.2.2)) from rfl) ?_
        rcases m_ite h with ⟨c24, h⟩ | ⟨c24, h⟩
        · refine m_R_1 (by decide) (m_opb_of (ins := .if_icmp .lt 9) (len := 3) (tag := 0) (a := 50) (b := 0) (c := 0) (q := 0) (by decide +kernel)) (if_pos c24) ?_
          exact ok_x_road_50 X d F _ _ _ _ _ _ _ h
        · refine m_R_1 (by decide) (m_opb_of (ins := .if_icmp .lt 9) (len := 3) (tag := 0) (a := 50) (b := 0) (c := 0) (q := 0) (by decide +kernel)) (if_neg c24) ?_
          refine m_R_sg (by decide) [(.iload_n 3, 1, 0, 3, 0, 0, 0), (.bipush 30, 2, 0, 30, 0, 0, 0)] (by decide +kernel) (show m_sgl X _ _ _ _ _ = some (47, [some (.ref 0), some (.int v1), some (.int v2), some (.int v3), some (.ref 17)], [.int (30 : Int32), .int v3], (SH, q2.2.1, q2.2.2)) from rfl) ?_
          rcases m_ite h with ⟨c25, h⟩ | ⟨c25, h⟩
          · refine m_R_1 (by decide) (m_opb_of (ins := .if_icmp .le 10) (len := 3) (tag := 0) (a := 57) (b := 0) (c := 0) (q := 0) (by decide +kernel)) (if_pos c25) ?_
            refine m_R_sg (by decide) [(.aload 4, 2, 0, 4, 0, 0, 0), (.getfield 84, 3, 0, 2, 2, 0, 235), (.bipush 16, 2, 0, 16, 0, 0, 0)] (by decide +kernel) (show m_sgl X _ _ _ _ _ = some (64, [some (.ref 0), some (.int v1), some (.int v2), some (.int v3), some (.ref 17)], [.int (16 : Int32), .int (q2.2.1 17 2)], (SH, q2.2.1, q2.2.2)) from rfl) ?_
            rcases m_ite h with ⟨c26, h⟩ | ⟨c26, h⟩
            · refine m_R_1 (by decide) (m_opb_of (ins := .if_icmp .lt 10) (len := 3) (tag := 0) (a := 74) (b := 0) (c := 0) (q := 0) (by decide +kernel)) (if_pos c26) ?_
              refine m_R_sg (by decide) [(.aload 4, 2, 0, 4, 0, 0, 0), (.iload_n 1, 1, 0, 1, 0, 0, 0), (.iload_n 2, 1, 0, 2, 0, 0, 0), (.iload_n 3, 1, 0, 3, 0, 0, 0)] (by decide +kernel) (show m_sgl X _ _ _ _ _ = some (79, [some (.ref 0), some (.int v1), some (.int v2), some (.int v3), some (.ref 17)], [.int v3, .int v2, .int v1, .ref 17], (SH, q2.2.1, q2.2.2)) from rfl) ?_
              obtain ⟨q3, hc3, h⟩ := Option.bind_eq_some_iff.mp h
              refine m_R_cV (v := none) (h1 := (SH, q3.2)) (rest := []) (lo' := [some (.ref 17), some (.int v1), some (.int v2), some (.int v3), none, none]) (ml := 6) (k0 := 17) (by decide) (Or.inl rfl) (m_opb_of (ins := .invokevirtual 87) (len := 3) (tag := 5) (a := 17) (b := 3) (c := 0) (q := 683) (by decide +kernel)) (by decide +kernel) rfl (show m_isO 17 17 (SH, _) = true from m_isO_of (by decide +kernel)) (Nat.le_of_ble_eq_true rfl) rfl rfl (ok_Land_addRoad X (d + 0) F _ _ _ _ _ _ hc3) ?_
              refine m_R_sg (by decide) [(.aload 4, 2, 0, 4, 0, 0, 0), (.getfield 84, 3, 0, 2, 2, 0, 235)] (by decide +kernel) (show m_sgl X _ _ _ _ _ = some (87, [some (.ref 0), some (.int v1), some (.int v2), some (.int v3), some (.ref 17)], [.int (q3.2.1 17 2)], (SH, q3.2.1, q3.2.2)) from rfl) ?_
              obtain ⟨rfl, rfl⟩ := m_some h
              exact m_R_iret (by decide) (m_opb_of (ins := .ireturn) (len := 1) (tag := 1) (a := 0) (b := 0) (c := 0) (q := 0) (by decide +kernel)) (Or.inl rfl)
            · refine m_R_1 (by decide) (m_opb_of (ins := .if_icmp .lt 10) (len := 3) (tag := 0) (a := 74) (b := 0) (c := 0) (q := 0) (by decide +kernel)) (if_neg c26) ?_
              refine m_R_sg (by decide) [(.aload_n 0, 1, 0, 0, 0, 0, 0), (.bipush (-8), 2, 0, 8, 1, 0, 0)] (by decide +kernel) (show m_sgl X _ _ _ _ _ = some (70, [some (.ref 0), some (.int v1), some (.int v2), some (.int v3), some (.ref 17)], [.int (-8 : Int32), .ref 0], (SH, q2.2.1, q2.2.2)) from rfl) ?_
              obtain ⟨q4, hc4, h⟩ := Option.bind_eq_some_iff.mp h
              refine m_R_cV (v := (some (.int q4.1))) (h1 := (SH, q4.2)) (rest := []) (lo' := [some (.ref 0), some (.int (-8 : Int32))]) (ml := 2) (k0 := 0) (by decide) (Or.inl rfl) (m_opb_of (ins := .invokevirtual 76) (len := 3) (tag := 5) (a := 14) (b := 1) (c := 0) (q := 671) (by decide +kernel)) (by decide +kernel) rfl (show m_isO 14 0 (SH, _) = true from m_isO_of (by decide +kernel)) (Nat.le_of_ble_eq_true rfl) rfl rfl (ok_x_refuse X (d + 1) F _ _ _ _ hc4) ?_
              obtain ⟨rfl, rfl⟩ := m_some h
              exact m_R_iret (by decide) (m_opb_of (ins := .ireturn) (len := 1) (tag := 1) (a := 0) (b := 0) (c := 0) (q := 0) (by decide +kernel)) (Or.inl rfl)
          · refine m_R_1 (by decide) (m_opb_of (ins := .if_icmp .le 10) (len := 3) (tag := 0) (a := 57) (b := 0) (c := 0) (q := 0) (by decide +kernel)) (if_neg c25) ?_
            exact ok_x_road_50 X d F _ _ _ _ _ _ _ h
def f_m_in_15 (F : Nat)   (s0 : Int32) (m : mM) : Option (Int32 × mM) := (if s0 = 0 ∨ s0 = 1 then some (s0, m) else none)
theorem ok_m_in_15 (X : mX) (d F : Nat) : ∀ (s0 : Int32) (w0 : Option Value) (w1 : Option Value) (w2 : Option Value) (m : mM) (r : Int32) (m' : mM), f_m_in_15 F s0 m = some (r, m') → m_R X (d + 0) 201 15 [w0, w1, w2] [.int s0] (SH, m) (some (.int r), (SH, m')) := by
  intro s0 w0 w1 w2 m r m' h
  unfold f_m_in_15 at h
  obtain ⟨c0, h⟩ := m_ite_p h
  obtain ⟨rfl, rfl⟩ := m_some h
  exact m_R_iret (by decide) (m_opb_of (ins := .ireturn) (len := 1) (tag := 1) (a := 1) (b := 0) (c := 0) (q := 0) (by decide +kernel)) (Or.inr c0)
def f_m_in_14 (F : Nat)    (m : mM) : Option (Int32 × mM) := f_m_in_15 F (0 : Int32) m
theorem ok_m_in_14 (X : mX) (d F : Nat) : ∀  (w0 : Option Value) (w1 : Option Value) (w2 : Option Value) (m : mM) (r : Int32) (m' : mM), f_m_in_14 F  m = some (r, m') → m_R X (d + 0) 201 14 [w0, w1, w2] [] (SH, m) (some (.int r), (SH, m')) := by
  intro w0 w1 w2 m r m' h
  unfold f_m_in_14 at h
  refine m_R_sg (by decide) [(.iconst 0, 1, 0, 0, 0, 0, 0)] (by decide +kernel) (show m_sgl X _ _ _ _ _ = some (15, [w0, w1, w2], [.int (0 : Int32)], (SH, m.1, m.2)) from rfl) ?_
  exact ok_m_in_15 X d F _ _ _ _ _ _ _ h
def f_m_in (F : Nat)   (v0 : Int32) (v1 : Int32) (v2 : Int32) (m : mM) : Option (Int32 × mM) := (if v0 < v1 then f_m_in_14 F m else (if v2 < v0 then f_m_in_14 F m else f_m_in_15 F (1 : Int32) m))
theorem ok_m_in (X : mX) (d F : Nat) : ∀ (v0 : Int32) (v1 : Int32) (v2 : Int32)  (m : mM) (r : Int32) (m' : mM), f_m_in F v0 v1 v2 m = some (r, m') → m_R X (d + 0) 201 0 [some (.int v0), some (.int v1), some (.int v2)] [] (SH, m) (some (.int r), (SH, m')) := by
  intro v0 v1 v2 m r m' h
  unfold f_m_in at h
  refine m_R_sg (by decide) [(.iload_n 0, 1, 0, 0, 0, 0, 0), (.iload_n 1, 1, 0, 1, 0, 0, 0)] (by decide +kernel) (show m_sgl X _ _ _ _ _ = some (2, [some (.int v0), some (.int v1), some (.int v2)], [.int v1, .int v0], (SH, m.1, m.2)) from rfl) ?_
  rcases m_ite h with ⟨c27, h⟩ | ⟨c27, h⟩
  · refine m_R_1 (by decide) (m_opb_of (ins := .if_icmp .lt 12) (len := 3) (tag := 0) (a := 14) (b := 0) (c := 0) (q := 0) (by decide +kernel)) (if_pos c27) ?_
    exact ok_m_in_14 X d F _ _ _ _ _ _ h
  · refine m_R_1 (by decide) (m_opb_of (ins := .if_icmp .lt 12) (len := 3) (tag := 0) (a := 14) (b := 0) (c := 0) (q := 0) (by decide +kernel)) (if_neg c27) ?_
    refine m_R_sg (by decide) [(.iload_n 0, 1, 0, 0, 0, 0, 0), (.iload_n 2, 1, 0, 2, 0, 0, 0)] (by decide +kernel) (show m_sgl X _ _ _ _ _ = some (7, [some (.int v0), some (.int v1), some (.int v2)], [.int v2, .int v0], (SH, m.1, m.2)) from rfl) ?_
    rcases m_ite h with ⟨c28, h⟩ | ⟨c28, h⟩
    · refine m_R_1 (by decide) (m_opb_of (ins := .if_icmp .gt 7) (len := 3) (tag := 0) (a := 14) (b := 0) (c := 0) (q := 0) (by decide +kernel)) (if_pos c28) ?_
      exact ok_m_in_14 X d F _ _ _ _ _ _ h
    · refine m_R_1 (by decide) (m_opb_of (ins := .if_icmp .gt 7) (len := 3) (tag := 0) (a := 14) (b := 0) (c := 0) (q := 0) (by decide +kernel)) (if_neg c28) ?_
      refine m_R_sg (by decide) [(.iconst 1, 1, 0, 1, 0, 0, 0), (.goto 4, 3, 0, 15, 0, 0, 0)] (by decide +kernel) (show m_sgl X _ _ _ _ _ = some (15, [some (.int v0), some (.int v1), some (.int v2)], [.int (1 : Int32)], (SH, m.1, m.2)) from rfl) ?_
      exact ok_m_in_15 X d F _ _ _ _ _ _ _ h
def f_m_isTown (F : Nat)   (v1 : Int32) (m : mM) : Option (Int32 × mM) := ((f_m_in F v1 (0 : Int32) ((m.1 305 (1 : Int32).toNatClampNeg) - (1 : Int32)) m).bind fun q1 => (if q1.1 = 0 ∨ q1.1 = 1 then some (q1.1, q1.2) else none))
theorem ok_m_isTown (X : mX) (d F : Nat) : ∀ (v1 : Int32)  (m : mM) (r : Int32) (m' : mM), f_m_isTown F v1 m = some (r, m') → m_R X (d + 1) 205 0 [some (.ref 304), some (.int v1)] [] (SH, m) (some (.int r), (SH, m')) := by
  intro v1 m r m' h
  unfold f_m_isTown at h
  refine m_R_sg (by decide) [(.iload_n 1, 1, 0, 1, 0, 0, 0), (.iconst 0, 1, 0, 0, 0, 0, 0), (.aload_n 0, 1, 0, 0, 0, 0, 0), (.getfield 13, 3, 0, 12, 1, 3, 1493), (.iconst 1, 1, 0, 1, 0, 0, 0)] (by decide +kernel) (show m_sgl X _ _ _ _ _ = some (7, [some (.ref 304), some (.int v1)], [.int (1 : Int32), .ref 305, .int (0 : Int32), .int v1], (SH, m.1, m.2)) from rfl) ?_
  refine m_R_1 (by decide) (m_opb_of (ins := .iaload) (len := 1) (tag := 0) (a := 0) (b := 0) (c := 0) (q := 0) (by decide +kernel)) (m_s_iald sh_305 (by decide) (show ¬ ((1 : Int32) < 0 ∨ 9732 ≤ (1 : Int32).toNatClampNeg) by decide)) ?_
  refine m_R_sg (by decide) [(.iconst 1, 1, 0, 1, 0, 0, 0), (.isub, 1, 0, 0, 0, 0, 0)] (by decide +kernel) (show m_sgl X _ _ _ _ _ = some (10, [some (.ref 304), some (.int v1)], [.int ((m.1 305 (1 : Int32).toNatClampNeg) - (1 : Int32)), .int (0 : Int32), .int v1], (SH, m.1, m.2)) from rfl) ?_
  obtain ⟨q1, hc1, h⟩ := Option.bind_eq_some_iff.mp h
  refine m_R_cS (v := (some (.int q1.1))) (h1 := (SH, q1.2)) (rest := []) (lo' := [some (.int v1), some (.int (0 : Int32)), some (.int ((m.1 305 (1 : Int32).toNatClampNeg) - (1 : Int32)))]) (ml := 3) (by decide) (m_opb_of (ins := .invokestatic 57) (len := 3) (tag := 4) (a := 201) (b := 3) (c := 0) (q := 1590) (by decide +kernel)) (by decide +kernel) (Nat.le_of_ble_eq_true rfl) rfl (Nat.le_of_ble_eq_true rfl) rfl rfl (ok_m_in X (d + 0) F _ _ _ _ _ _ hc1) ?_
  obtain ⟨c0, h⟩ := m_ite_p h
  obtain ⟨rfl, rfl⟩ := m_some h
  exact m_R_iret (by decide) (m_opb_of (ins := .ireturn) (len := 1) (tag := 1) (a := 1) (b := 0) (c := 0) (q := 0) (by decide +kernel)) (Or.inr c0)
def f_m_measure_40 (F : Nat)  (k2 : Int32 → mM → Option (Unit × mM)) (k10 : Int32 → Int32 → mM → Option (Unit × mM)) (v1 : Int32) (v2 : Int32) (s1 : Int32) (s2 : Int32) (m : mM) : Option (Unit × mM) := (if s1 < 0 ∨ 9732 ≤ s1.toNatClampNeg then none else k10 v1 (v2 + (1 : Int32)) ((m_up m.1 305 s1.toNatClampNeg s2), m.2))
theorem ok_m_measure_40 (X : mX) (d F : Nat) (k2 : Int32 → mM → Option (Unit × mM)) (hk2 : ∀ (v1 : Int32) (w2 : Option Value) (w3 : Option Value) (w4 : Option Value) (m : mM) (r : Unit) (m' : mM), k2 v1 m = some (r, m') → m_R X (d + 0) 199 2 [some (.ref 304), some (.int v1), w2, w3, w4] [] (SH, m) (none, (SH, m'))) (k10 : Int32 → Int32 → mM → Option (Unit × mM)) (hk10 : ∀ (v1 : Int32) (v2 : Int32) (w3 : Option Value) (w4 : Option Value) (m : mM) (r : Unit) (m' : mM), k10 v1 v2 m = some (r, m') → m_R X (d + 0) 199 10 [some (.ref 304), some (.int v1), some (.int v2), w3, w4] [] (SH, m) (none, (SH, m'))) : ∀ (v1 : Int32) (v2 : Int32) (s1 : Int32) (s2 : Int32) (w3 : Option Value) (w4 : Option Value) (m : mM) (r : Unit) (m' : mM), f_m_measure_40 F k2 k10 v1 v2 s1 s2 m = some (r, m') → m_R X (d + 0) 199 40 [some (.ref 304), some (.int v1), some (.int v2), w3, w4] [.int s2, .int s1, .ref 305] (SH, m) (none, (SH, m')) := by
  intro v1 v2 s1 s2 w3 w4 m r m' h
  unfold f_m_measure_40 at h
  obtain ⟨c29, h⟩ := m_ite_n h
  refine m_R_1 (by decide) (m_opb_of (ins := .iastore) (len := 1) (tag := 0) (a := 0) (b := 0) (c := 0) (q := 0) (by decide +kernel)) (m_s_iast sh_305 c29) ?_
  refine m_R_sg (by decide) [(.iinc 2 1, 3, 0, 2, 1, 0, 0), (.goto (-34), 3, 0, 10, 0, 0, 0)] (by decide +kernel) (show m_sgl X _ _ _ _ _ = some (10, [some (.ref 304), some (.int v1), some (.int (v2 + (1 : Int32))), w3, w4], [], (SH, (m_up m.1 305 s1.toNatClampNeg s2), m.2)) from rfl) ?_
  exact hk10 _ _ _ _ _ _ _ h
def f_m_measure_10 (F : Nat)  (k2 : Int32 → mM → Option (Unit × mM)) : Nat → Int32 → Int32 → mM → Option (Unit × mM)
  | 0, _, _, _ => none
  | n + 1, v1, v2, m => (if (8 : Int32) ≤ v2 then k2 (v1 + (1 : Int32)) m else (if v1 = v2 then f_m_measure_40 F k2 (f_m_measure_10 F k2 n) v1 v2 (((64 : Int32) + ((8 : Int32) * v1)) + v2) (0 : Int32) m else f_m_measure_40 F k2 (f_m_measure_10 F k2 n) v1 v2 (((64 : Int32) + ((8 : Int32) * v1)) + v2) (999999 : Int32) m))
theorem ok_m_measure_10 (X : mX) (d F : Nat) (k2 : Int32 → mM → Option (Unit × mM)) (hk2 : ∀ (v1 : Int32) (w2 : Option Value) (w3 : Option Value) (w4 : Option Value) (m : mM) (r : Unit) (m' : mM), k2 v1 m = some (r, m') → m_R X (d + 0) 199 2 [some (.ref 304), some (.int v1), w2, w3, w4] [] (SH, m) (none, (SH, m'))) : ∀ (n : Nat) (v1 : Int32) (v2 : Int32) (w3 : Option Value) (w4 : Option Value) (m : mM) (r : Unit) (m' : mM), f_m_measure_10 F k2 n v1 v2 m = some (r, m') → m_R X (d + 0) 199 10 [some (.ref 304), some (.int v1), some (.int v2), w3, w4] [] (SH, m) (none, (SH, m')) := by
  intro n
  induction n with
  | zero => intro v1 v2 w3 w4 m r m' h; cases h
  | succ n ih =>
    intro v1 v2 w3 w4 m r m' h
    simp only [f_m_measure_10] at h
    refine m_R_sg (by decide) [(.iload_n 2, 1, 0, 2, 0, 0, 0), (.bipush 8, 2, 0, 8, 0, 0, 0)] (by decide +kernel) (show m_sgl X _ _ _ _ _ = some (13, [some (.ref 304), some (.int v1), some (.int v2), w3, w4], [.int (8 : Int32), .int v2], (SH, m.1, m.2)) from rfl) ?_
    rcases m_ite h with ⟨c30, h⟩ | ⟨c30, h⟩
    · refine m_R_1 (by decide) (m_opb_of (ins := .if_icmp .ge 34) (len := 3) (tag := 0) (a := 47) (b := 0) (c := 0) (q := 0) (by decide +kernel)) (if_pos c30) ?_
      refine m_R_sg (by decide) [(.iinc 1 1, 3, 0, 1, 1, 0, 0), (.goto (-48), 3, 0, 2, 0, 0, 0)] (by decide +kernel) (show m_sgl X _ _ _ _ _ = some (2, [some (.ref 304), some (.int (v1 + (1 : Int32))), some (.int v2), w3, w4], [], (SH, m.1, m.2)) from rfl) ?_
      exact hk2 _ _ _ _ _ _ _ h
    · refine m_R_1 (by decide) (m_opb_of (ins := .if_icmp .ge 34) (len := 3) (tag := 0) (a := 47) (b := 0) (c := 0) (q := 0) (by decide +kernel)) (if_neg c30) ?_
      refine m_R_sg (by decide) [(.aload_n 0, 1, 0, 0, 0, 0, 0), (.getfield 13, 3, 0, 12, 1, 3, 1493), (.bipush 64, 2, 0, 64, 0, 0, 0), (.bipush 8, 2, 0, 8, 0, 0, 0), (.iload_n 1, 1, 0, 1, 0, 0, 0), (.imul, 1, 0, 0, 0, 0, 0), (.iadd, 1, 0, 0, 0, 0, 0), (.iload_n 2, 1, 0, 2, 0, 0, 0), (.iadd, 1, 0, 0, 0, 0, 0), (.iload_n 1, 1, 0, 1, 0, 0, 0), (.iload_n 2, 1, 0, 2, 0, 0, 0)] (by decide +kernel) (show m_sgl X _ _ _ _ _ = some (31, [some (.ref 304), some (.int v1), some (.int v2), w3, w4], [.int v2, .int v1, .int (((64 : Int32) + ((8 : Int32) * v1)) + v2), .ref 305], (SH, m.1, m.2)) from rfl) ?_
      rcases m_ite h with ⟨c31, h⟩ | ⟨c31, h⟩
      · refine m_R_1 (by decide) (m_opb_of (ins := .if_icmp .ne 7) (len := 3) (tag := 0) (a := 38) (b := 0) (c := 0) (q := 0) (by decide +kernel)) (if_pos c31) ?_
        refine m_R_sg (by decide) [(.iconst 0, 1, 0, 0, 0, 0, 0), (.goto 5, 3, 0, 40, 0, 0, 0)] (by decide +kernel) (show m_sgl X _ _ _ _ _ = some (40, [some (.ref 304), some (.int v1), some (.int v2), w3, w4], [.int (0 : Int32), .int (((64 : Int32) + ((8 : Int32) * v1)) + v2), .ref 305], (SH, m.1, m.2)) from rfl) ?_
        exact ok_m_measure_40 X d F _ hk2 _ (fun a0 a1 a2 a3 m r m' h => ih a0 a1 a2 a3 m r m' h) _ _ _ _ _ _ _ _ _ h
      · refine m_R_1 (by decide) (m_opb_of (ins := .if_icmp .ne 7) (len := 3) (tag := 0) (a := 38) (b := 0) (c := 0) (q := 0) (by decide +kernel)) (if_neg c31) ?_
        refine m_R_sg (by decide) [(.ldc 69, 2, 0, 999999, 0, 0, 1492)] (by decide +kernel) (show m_sgl X _ _ _ _ _ = some (40, [some (.ref 304), some (.int v1), some (.int v2), w3, w4], [.int (999999 : Int32), .int (((64 : Int32) + ((8 : Int32) * v1)) + v2), .ref 305], (SH, m.1, m.2)) from rfl) ?_
        exact ok_m_measure_40 X d F _ hk2 _ (fun a0 a1 a2 a3 m r m' h => ih a0 a1 a2 a3 m r m' h) _ _ _ _ _ _ _ _ _ h
def f_m_measure_157 (F : Nat)  (k55 : Int32 → mM → Option (Unit × mM)) (v1 : Int32) (m : mM) : Option (Unit × mM) := k55 (v1 + (1 : Int32)) m
theorem ok_m_measure_157 (X : mX) (d F : Nat) (k55 : Int32 → mM → Option (Unit × mM)) (hk55 : ∀ (v1 : Int32) (w2 : Option Value) (w3 : Option Value) (w4 : Option Value) (m : mM) (r : Unit) (m' : mM), k55 v1 m = some (r, m') → m_R X (d + 0) 199 55 [some (.ref 304), some (.int v1), w2, w3, w4] [] (SH, m) (none, (SH, m'))) : ∀ (v1 : Int32) (w2 : Option Value) (w3 : Option Value) (w4 : Option Value) (m : mM) (r : Unit) (m' : mM), f_m_measure_157 F k55 v1 m = some (r, m') → m_R X (d + 0) 199 157 [some (.ref 304), some (.int v1), w2, w3, w4] [] (SH, m) (none, (SH, m')) := by
  intro v1 w2 w3 w4 m r m' h
  unfold f_m_measure_157 at h
  refine m_R_sg (by decide) [(.iinc 1 1, 3, 0, 1, 1, 0, 0), (.goto (-105), 3, 0, 55, 0, 0, 0)] (by decide +kernel) (show m_sgl X _ _ _ _ _ = some (55, [some (.ref 304), some (.int (v1 + (1 : Int32))), w2, w3, w4], [], (SH, m.1, m.2)) from rfl) ?_
  exact hk55 _ _ _ _ _ _ _ h
def f_m_measure_106 (F : Nat)  (k55 : Int32 → mM → Option (Unit × mM)) (v1 : Int32) (v2 : Int32) (v3 : Int32) (v4 : Int32) (m : mM) : Option (Unit × mM) := (if (((64 : Int32) + ((8 : Int32) * v2)) + v3) < 0 ∨ 9732 ≤ (((64 : Int32) + ((8 : Int32) * v2)) + v3).toNatClampNeg then none else (if (m.1 305 (((64 : Int32) + ((8 : Int32) * v2)) + v3).toNatClampNeg) ≤ v4 then f_m_measure_157 F k55 v1 m else (if (((64 : Int32) + ((8 : Int32) * v3)) + v2) < 0 ∨ 9732 ≤ (((64 : Int32) + ((8 : Int32) * v3)) + v2).toNatClampNeg then none else f_m_measure_157 F k55 v1 ((m_up (m_up m.1 305 (((64 : Int32) + ((8 : Int32) * v2)) + v3).toNatClampNeg v4) 305 (((64 : Int32) + ((8 : Int32) * v3)) + v2).toNatClampNeg v4), m.2))))
theorem ok_m_measure_106 (X : mX) (d F : Nat) (k55 : Int32 → mM → Option (Unit × mM)) (hk55 : ∀ (v1 : Int32) (w2 : Option Value) (w3 : Option Value) (w4 : Option Value) (m : mM) (r : Unit) (m' : mM), k55 v1 m = some (r, m') → m_R X (d + 0) 199 55 [some (.ref 304), some (.int v1), w2, w3, w4] [] (SH, m) (none, (SH, m'))) : ∀ (v1 : Int32) (v2 : Int32) (v3 : Int32) (v4 : Int32)  (m : mM) (r : Unit) (m' : mM), f_m_measure_106 F k55 v1 v2 v3 v4 m = some (r, m') → m_R X (d + 0) 199 106 [some (.ref 304), some (.int v1), some (.int v2), some (.int v3), some (.int v4)] [] (SH, m) (none, (SH, m')) := by
  intro v1 v2 v3 v4 m r m' h
  unfold f_m_measure_106 at h
  refine m_R_sg (by decide) [(.iload 4, 2, 0, 4, 0, 0, 0), (.aload_n 0, 1, 0, 0, 0, 0, 0), (.getfield 13, 3, 0, 12, 1, 3, 1493), (.bipush 64, 2, 0, 64, 0, 0, 0), (.bipush 8, 2, 0, 8, 0, 0, 0), (.iload_n 2, 1, 0, 2, 0, 0, 0), (.imul, 1, 0, 0, 0, 0, 0), (.iadd, 1, 0, 0, 0, 0, 0), (.iload_n 3, 1, 0, 3, 0, 0, 0), (.iadd, 1, 0, 0, 0, 0, 0)] (by decide +kernel) (show m_sgl X _ _ _ _ _ = some (121, [some (.ref 304), some (.int v1), some (.int v2), some (.int v3), some (.int v4)], [.int (((64 : Int32) + ((8 : Int32) * v2)) + v3), .ref 305, .int v4], (SH, m.1, m.2)) from rfl) ?_
  obtain ⟨c32, h⟩ := m_ite_n h
  refine m_R_1 (by decide) (m_opb_of (ins := .iaload) (len := 1) (tag := 0) (a := 0) (b := 0) (c := 0) (q := 0) (by decide +kernel)) (m_s_iald sh_305 (by decide) c32) ?_
  rcases m_ite h with ⟨c33, h⟩ | ⟨c33, h⟩
  · refine m_R_1 (by decide) (m_opb_of (ins := .if_icmp .ge 35) (len := 3) (tag := 0) (a := 157) (b := 0) (c := 0) (q := 0) (by decide +kernel)) (if_pos c33) ?_
    exact ok_m_measure_157 X d F _ hk55 _ _ _ _ _ _ _ h
  · refine m_R_1 (by decide) (m_opb_of (ins := .if_icmp .ge 35) (len := 3) (tag := 0) (a := 157) (b := 0) (c := 0) (q := 0) (by decide +kernel)) (if_neg c33) ?_
    refine m_R_sg (by decide) [(.aload_n 0, 1, 0, 0, 0, 0, 0), (.getfield 13, 3, 0, 12, 1, 3, 1493), (.bipush 64, 2, 0, 64, 0, 0, 0), (.bipush 8, 2, 0, 8, 0, 0, 0), (.iload_n 2, 1, 0, 2, 0, 0, 0), (.imul, 1, 0, 0, 0, 0, 0), (.iadd, 1, 0, 0, 0, 0, 0), (.iload_n 3, 1, 0, 3, 0, 0, 0), (.iadd, 1, 0, 0, 0, 0, 0), (.iload 4, 2, 0, 4, 0, 0, 0)] (by decide +kernel) (show m_sgl X _ _ _ _ _ = some (140, [some (.ref 304), some (.int v1), some (.int v2), some (.int v3), some (.int v4)], [.int v4, .int (((64 : Int32) + ((8 : Int32) * v2)) + v3), .ref 305], (SH, m.1, m.2)) from rfl) ?_
    refine m_R_1 (by decide) (m_opb_of (ins := .iastore) (len := 1) (tag := 0) (a := 0) (b := 0) (c := 0) (q := 0) (by decide +kernel)) (m_s_iast sh_305 c32) ?_
    refine m_R_sg (by decide) [(.aload_n 0, 1, 0, 0, 0, 0, 0), (.getfield 13, 3, 0, 12, 1, 3, 1493), (.bipush 64, 2, 0, 64, 0, 0, 0), (.bipush 8, 2, 0, 8, 0, 0, 0), (.iload_n 3, 1, 0, 3, 0, 0, 0), (.imul, 1, 0, 0, 0, 0, 0), (.iadd, 1, 0, 0, 0, 0, 0), (.iload_n 2, 1, 0, 2, 0, 0, 0), (.iadd, 1, 0, 0, 0, 0, 0), (.iload 4, 2, 0, 4, 0, 0, 0)] (by decide +kernel) (show m_sgl X _ _ _ _ _ = some (156, [some (.ref 304), some (.int v1), some (.int v2), some (.int v3), some (.int v4)], [.int v4, .int (((64 : Int32) + ((8 : Int32) * v3)) + v2), .ref 305], (SH, (m_up m.1 305 (((64 : Int32) + ((8 : Int32) * v2)) + v3).toNatClampNeg v4), m.2)) from rfl) ?_
    obtain ⟨c34, h⟩ := m_ite_n h
    refine m_R_1 (by decide) (m_opb_of (ins := .iastore) (len := 1) (tag := 0) (a := 0) (b := 0) (c := 0) (q := 0) (by decide +kernel)) (m_s_iast sh_305 c34) ?_
    exact ok_m_measure_157 X d F _ hk55 _ _ _ _ _ _ _ h
def f_m_measure_253 (F : Nat)  (k165 : Int32 → mM → Option (Unit × mM)) (k173 : Int32 → Int32 → mM → Option (Unit × mM)) (k181 : Int32 → Int32 → Int32 → mM → Option (Unit × mM)) (v1 : Int32) (v2 : Int32) (v3 : Int32) (m : mM) : Option (Unit × mM) := k181 v1 v2 (v3 + (1 : Int32)) m
theorem ok_m_measure_253 (X : mX) (d F : Nat) (k165 : Int32 → mM → Option (Unit × mM)) (hk165 : ∀ (v1 : Int32) (w2 : Option Value) (w3 : Option Value) (w4 : Option Value) (m : mM) (r : Unit) (m' : mM), k165 v1 m = some (r, m') → m_R X (d + 0) 199 165 [some (.ref 304), some (.int v1), w2, w3, w4] [] (SH, m) (none, (SH, m'))) (k173 : Int32 → Int32 → mM → Option (Unit × mM)) (hk173 : ∀ (v1 : Int32) (v2 : Int32) (w3 : Option Value) (w4 : Option Value) (m : mM) (r : Unit) (m' : mM), k173 v1 v2 m = some (r, m') → m_R X (d + 0) 199 173 [some (.ref 304), some (.int v1), some (.int v2), w3, w4] [] (SH, m) (none, (SH, m'))) (k181 : Int32 → Int32 → Int32 → mM → Option (Unit × mM)) (hk181 : ∀ (v1 : Int32) (v2 : Int32) (v3 : Int32) (w4 : Option Value) (m : mM) (r : Unit) (m' : mM), k181 v1 v2 v3 m = some (r, m') → m_R X (d + 0) 199 181 [some (.ref 304), some (.int v1), some (.int v2), some (.int v3), w4] [] (SH, m) (none, (SH, m'))) : ∀ (v1 : Int32) (v2 : Int32) (v3 : Int32) (w4 : Option Value) (m : mM) (r : Unit) (m' : mM), f_m_measure_253 F k165 k173 k181 v1 v2 v3 m = some (r, m') → m_R X (d + 0) 199 253 [some (.ref 304), some (.int v1), some (.int v2), some (.int v3), w4] [] (SH, m) (none, (SH, m')) := by
  intro v1 v2 v3 w4 m r m' h
  unfold f_m_measure_253 at h
  refine m_R_sg (by decide) [(.iinc 3 1, 3, 0, 3, 1, 0, 0), (.goto (-75), 3, 0, 181, 0, 0, 0)] (by decide +kernel) (show m_sgl X _ _ _ _ _ = some (181, [some (.ref 304), some (.int v1), some (.int v2), some (.int (v3 + (1 : Int32))), w4], [], (SH, m.1, m.2)) from rfl) ?_
  exact hk181 _ _ _ _ _ _ _ h
def f_m_measure_181 (F : Nat)  (k165 : Int32 → mM → Option (Unit × mM)) (k173 : Int32 → Int32 → mM → Option (Unit × mM)) : Nat → Int32 → Int32 → Int32 → mM → Option (Unit × mM)
  | 0, _, _, _, _ => none
  | n + 1, v1, v2, v3, m => (if (8 : Int32) ≤ v3 then k173 v1 (v2 + (1 : Int32)) m else (if (((64 : Int32) + ((8 : Int32) * v2)) + v1) < 0 ∨ 9732 ≤ (((64 : Int32) + ((8 : Int32) * v2)) + v1).toNatClampNeg then none else (if (((64 : Int32) + ((8 : Int32) * v1)) + v3) < 0 ∨ 9732 ≤ (((64 : Int32) + ((8 : Int32) * v1)) + v3).toNatClampNeg then none else (if (((64 : Int32) + ((8 : Int32) * v2)) + v3) < 0 ∨ 9732 ≤ (((64 : Int32) + ((8 : Int32) * v2)) + v3).toNatClampNeg then none else (if (m.1 305 (((64 : Int32) + ((8 : Int32) * v2)) + v3).toNatClampNeg) ≤ ((m.1 305 (((64 : Int32) + ((8 : Int32) * v2)) + v1).toNatClampNeg) + (m.1 305 (((64 : Int32) + ((8 : Int32) * v1)) + v3).toNatClampNeg)) then f_m_measure_253 F k165 k173 (f_m_measure_181 F k165 k173 n) v1 v2 v3 m else f_m_measure_253 F k165 k173 (f_m_measure_181 F k165 k173 n) v1 v2 v3 ((m_up m.1 305 (((64 : Int32) + ((8 : Int32) * v2)) + v3).toNatClampNeg ((m.1 305 (((64 : Int32) + ((8 : Int32) * v2)) + v1).toNatClampNeg) + (m.1 305 (((64 : Int32) + ((8 : Int32) * v1)) + v3).toNatClampNeg))), m.2))))))
theorem ok_m_measure_181 (X : mX) (d F : Nat) (k165 : Int32 → mM → Option (Unit × mM)) (hk165 : ∀ (v1 : Int32) (w2 : Option Value) (w3 : Option Value) (w4 : Option Value) (m : mM) (r : Unit) (m' : mM), k165 v1 m = some (r, m') → m_R X (d + 0) 199 165 [some (.ref 304), some (.int v1), w2, w3, w4] [] (SH, m) (none, (SH, m'))) (k173 : Int32 → Int32 → mM → Option (Unit × mM)) (hk173 : ∀ (v1 : Int32) (v2 : Int32) (w3 : Option Value) (w4 : Option Value) (m : mM) (r : Unit) (m' : mM), k173 v1 v2 m = some (r, m') → m_R X (d + 0) 199 173 [some (.ref 304), some (.int v1), some (.int v2), w3, w4] [] (SH, m) (none, (SH, m'))) : ∀ (n : Nat) (v1 : Int32) (v2 : Int32) (v3 : Int32) (w4 : Option Value) (m : mM) (r : Unit) (m' : mM), f_m_measure_181 F k165 k173 n v1 v2 v3 m = some (r, m') → m_R X (d + 0) 199 181 [some (.ref 304), some (.int v1), some (.int v2), some (.int v3), w4] [] (SH, m) (none, (SH, m')) := by
  intro n
  induction n with
  | zero => intro v1 v2 v3 w4 m r m' h; cases h
  | succ n ih =>
    intro v1 v2 v3 w4 m r m' h
    simp only [f_m_measure_181] at h
    refine m_R_sg (by decide) [(.iload_n 3, 1, 0, 3, 0, 0, 0), (.bipush 8, 2, 0, 8, 0, 0, 0)] (by decide +kernel) (show m_sgl X _ _ _ _ _ = some (184, [some (.ref 304), some (.int v1), some (.int v2), some (.int v3), w4], [.int (8 : Int32), .int v3], (SH, m.1, m.2)) from rfl) ?_
    rcases m_ite h with ⟨c35, h⟩ | ⟨c35, h⟩
    · refine m_R_1 (by decide) (m_opb_of (ins := .if_icmp .ge 75) (len := 3) (tag := 0) (a := 259) (b := 0) (c := 0) (q := 0) (by decide +kernel)) (if_pos c35) ?_
      refine m_R_sg (by decide) [(.iinc 2 1, 3, 0, 2, 1, 0, 0), (.goto (-89), 3, 0, 173, 0, 0, 0)] (by decide +kernel) (show m_sgl X _ _ _ _ _ = some (173, [some (.ref 304), some (.int v1), some (.int (v2 + (1 : Int32))), some (.int v3), w4], [], (SH, m.1, m.2)) from rfl) ?_
      exact hk173 _ _ _ _ _ _ _ h
    · refine m_R_1 (by decide) (m_opb_of (ins := .if_icmp .ge 75) (len := 3) (tag := 0) (a := 259) (b := 0) (c := 0) (q := 0) (by decide +kernel)) (if_neg c35) ?_
      refine m_R_sg (by decide) [(.aload_n 0, 1, 0, 0, 0, 0, 0), (.getfield 13, 3, 0, 12, 1, 3, 1493), (.bipush 64, 2, 0, 64, 0, 0, 0), (.bipush 8, 2, 0, 8, 0, 0, 0), (.iload_n 2, 1, 0, 2, 0, 0, 0), (.imul, 1, 0, 0, 0, 0, 0), (.iadd, 1, 0, 0, 0, 0, 0), (.iload_n 1, 1, 0, 1, 0, 0, 0), (.iadd, 1, 0, 0, 0, 0, 0)] (by decide +kernel) (show m_sgl X _ _ _ _ _ = some (200, [some (.ref 304), some (.int v1), some (.int v2), some (.int v3), w4], [.int (((64 : Int32) + ((8 : Int32) * v2)) + v1), .ref 305], (SH, m.1, m.2)) from rfl) ?_
      obtain ⟨c36, h⟩ := m_ite_n h
      refine m_R_1 (by decide) (m_opb_of (ins := .iaload) (len := 1) (tag := 0) (a := 0) (b := 0) (c := 0) (q := 0) (by decide +kernel)) (m_s_iald sh_305 (by decide) c36) ?_
      refine m_R_sg (by decide) [(.aload_n 0, 1, 0, 0, 0, 0, 0), (.getfield 13, 3, 0, 12, 1, 3, 1493), (.bipush 64, 2, 0, 64, 0, 0, 0), (.bipush 8, 2, 0, 8, 0, 0, 0), (.iload_n 1, 1, 0, 1, 0, 0, 0), (.imul, 1, 0, 0, 0, 0, 0), (.iadd, 1, 0, 0, 0, 0, 0), (.iload_n 3, 1, 0, 3, 0, 0, 0), (.iadd, 1, 0, 0, 0, 0, 0)] (by decide +kernel) (show m_sgl X _ _ _ _ _ = some (214, [some (.ref 304), some (.int v1), some (.int v2), some (.int v3), w4], [.int (((64 : Int32) + ((8 : Int32) * v1)) + v3), .ref 305, .int (m.1 305 (((64 : Int32) + ((8 : Int32) * v2)) + v1).toNatClampNeg)], (SH, m.1, m.2)) from rfl) ?_
      obtain ⟨c37, h⟩ := m_ite_n h
      refine m_R_1 (by decide) (m_opb_of (ins := .iaload) (len := 1) (tag := 0) (a := 0) (b := 0) (c := 0) (q := 0) (by decide +kernel)) (m_s_iald sh_305 (by decide) c37) ?_
      refine m_R_sg (by decide) [(.iadd, 1, 0, 0, 0, 0, 0), (.istore 4, 2, 0, 4, 0, 0, 0), (.iload 4, 2, 0, 4, 0, 0, 0), (.aload_n 0, 1, 0, 0, 0, 0, 0), (.getfield 13, 3, 0, 12, 1, 3, 1493), (.bipush 64, 2, 0, 64, 0, 0, 0), (.bipush 8, 2, 0, 8, 0, 0, 0), (.iload_n 2, 1, 0, 2, 0, 0, 0), (.imul, 1, 0, 0, 0, 0, 0), (.iadd, 1, 0, 0, 0, 0, 0), (.iload_n 3, 1, 0, 3, 0, 0, 0), (.iadd, 1, 0, 0, 0, 0, 0)] (by decide +kernel) (show m_sgl X _ _ _ _ _ = some (233, [some (.ref 304), some (.int v1), some (.int v2), some (.int v3), some (.int ((m.1 305 (((64 : Int32) + ((8 : Int32) * v2)) + v1).toNatClampNeg) + (m.1 305 (((64 : Int32) + ((8 : Int32) * v1)) + v3).toNatClampNeg)))], [.int (((64 : Int32) + ((8 : Int32) * v2)) + v3), .ref 305, .int ((m.1 305 (((64 : Int32) + ((8 : Int32) * v2)) + v1).toNatClampNeg) + (m.1 305 (((64 : Int32) + ((8 : Int32) * v1)) + v3).toNatClampNeg))], (SH, m.1, m.2)) from rfl) ?_
      obtain ⟨c38, h⟩ := m_ite_n h
      refine m_R_1 (by decide) (m_opb_of (ins := .iaload) (len := 1) (tag := 0) (a := 0) (b := 0) (c := 0) (q := 0) (by decide +kernel)) (m_s_iald sh_305 (by decide) c38) ?_
      rcases m_ite h with ⟨c39, h⟩ | ⟨c39, h⟩
      · refine m_R_1 (by decide) (m_opb_of (ins := .if_icmp .ge 19) (len := 3) (tag := 0) (a := 253) (b := 0) (c := 0) (q := 0) (by decide +kernel)) (if_pos c39) ?_
        exact ok_m_measure_253 X d F _ hk165 _ hk173 _ (fun a0 a1 a2 a3 m r m' h => ih a0 a1 a2 a3 m r m' h) _ _ _ _ _ _ _ h
      · refine m_R_1 (by decide) (m_opb_of (ins := .if_icmp .ge 19) (len := 3) (tag := 0) (a := 253) (b := 0) (c := 0) (q := 0) (by decide +kernel)) (if_neg c39) ?_
        refine m_R_sg (by decide) [(.aload_n 0, 1, 0, 0, 0, 0, 0), (.getfield 13, 3, 0, 12, 1, 3, 1493), (.bipush 64, 2, 0, 64, 0, 0, 0), (.bipush 8, 2, 0, 8, 0, 0, 0), (.iload_n 2, 1, 0, 2, 0, 0, 0), (.imul, 1, 0, 0, 0, 0, 0), (.iadd, 1, 0, 0, 0, 0, 0), (.iload_n 3, 1, 0, 3, 0, 0, 0), (.iadd, 1, 0, 0, 0, 0, 0), (.iload 4, 2, 0, 4, 0, 0, 0)] (by decide +kernel) (show m_sgl X _ _ _ _ _ = some (252, [some (.ref 304), some (.int v1), some (.int v2), some (.int v3), some (.int ((m.1 305 (((64 : Int32) + ((8 : Int32) * v2)) + v1).toNatClampNeg) + (m.1 305 (((64 : Int32) + ((8 : Int32) * v1)) + v3).toNatClampNeg)))], [.int ((m.1 305 (((64 : Int32) + ((8 : Int32) * v2)) + v1).toNatClampNeg) + (m.1 305 (((64 : Int32) + ((8 : Int32) * v1)) + v3).toNatClampNeg)), .int (((64 : Int32) + ((8 : Int32) * v2)) + v3), .ref 305], (SH, m.1, m.2)) from rfl) ?_
        refine m_R_1 (by decide) (m_opb_of (ins := .iastore) (len := 1) (tag := 0) (a := 0) (b := 0) (c := 0) (q := 0) (by decide +kernel)) (m_s_iast sh_305 c38) ?_
        exact ok_m_measure_253 X d F _ hk165 _ hk173 _ (fun a0 a1 a2 a3 m r m' h => ih a0 a1 a2 a3 m r m' h) _ _ _ _ _ _ _ h
def f_m_measure_173 (F : Nat)  (k165 : Int32 → mM → Option (Unit × mM)) : Nat → Int32 → Int32 → mM → Option (Unit × mM)
  | 0, _, _, _ => none
  | n + 1, v1, v2, m => (if (8 : Int32) ≤ v2 then k165 (v1 + (1 : Int32)) m else f_m_measure_181 F k165 (f_m_measure_173 F k165 n) F v1 v2 (0 : Int32) m)
theorem ok_m_measure_173 (X : mX) (d F : Nat) (k165 : Int32 → mM → Option (Unit × mM)) (hk165 : ∀ (v1 : Int32) (w2 : Option Value) (w3 : Option Value) (w4 : Option Value) (m : mM) (r : Unit) (m' : mM), k165 v1 m = some (r, m') → m_R X (d + 0) 199 165 [some (.ref 304), some (.int v1), w2, w3, w4] [] (SH, m) (none, (SH, m'))) : ∀ (n : Nat) (v1 : Int32) (v2 : Int32) (w3 : Option Value) (w4 : Option Value) (m : mM) (r : Unit) (m' : mM), f_m_measure_173 F k165 n v1 v2 m = some (r, m') → m_R X (d + 0) 199 173 [some (.ref 304), some (.int v1), some (.int v2), w3, w4] [] (SH, m) (none, (SH, m')) := by
  intro n
  induction n with
  | zero => intro v1 v2 w3 w4 m r m' h; cases h
  | succ n ih =>
    intro v1 v2 w3 w4 m r m' h
    simp only [f_m_measure_173] at h
    refine m_R_sg (by decide) [(.iload_n 2, 1, 0, 2, 0, 0, 0), (.bipush 8, 2, 0, 8, 0, 0, 0)] (by decide +kernel) (show m_sgl X _ _ _ _ _ = some (176, [some (.ref 304), some (.int v1), some (.int v2), w3, w4], [.int (8 : Int32), .int v2], (SH, m.1, m.2)) from rfl) ?_
    rcases m_ite h with ⟨c40, h⟩ | ⟨c40, h⟩
    · refine m_R_1 (by decide) (m_opb_of (ins := .if_icmp .ge 89) (len := 3) (tag := 0) (a := 265) (b := 0) (c := 0) (q := 0) (by decide +kernel)) (if_pos c40) ?_
      refine m_R_sg (by decide) [(.iinc 1 1, 3, 0, 1, 1, 0, 0), (.goto (-103), 3, 0, 165, 0, 0, 0)] (by decide +kernel) (show m_sgl X _ _ _ _ _ = some (165, [some (.ref 304), some (.int (v1 + (1 : Int32))), some (.int v2), w3, w4], [], (SH, m.1, m.2)) from rfl) ?_
      exact hk165 _ _ _ _ _ _ _ h
    · refine m_R_1 (by decide) (m_opb_of (ins := .if_icmp .ge 89) (len := 3) (tag := 0) (a := 265) (b := 0) (c := 0) (q := 0) (by decide +kernel)) (if_neg c40) ?_
      refine m_R_sg (by decide) [(.iconst 0, 1, 0, 0, 0, 0, 0), (.istore_n 3, 1, 0, 3, 0, 0, 0)] (by decide +kernel) (show m_sgl X _ _ _ _ _ = some (181, [some (.ref 304), some (.int v1), some (.int v2), some (.int (0 : Int32)), w4], [], (SH, m.1, m.2)) from rfl) ?_
      exact ok_m_measure_181 X d F _ hk165 _ (fun a0 a1 a2 a3 m r m' h => ih a0 a1 a2 a3 m r m' h) F _ _ _ _ _ _ _ h
def f_m_measure_165 (F : Nat)   : Nat → Int32 → mM → Option (Unit × mM)
  | 0, _, _ => none
  | n + 1, v1, m => (if (8 : Int32) ≤ v1 then some ((), m) else f_m_measure_173 F (f_m_measure_165 F n) F v1 (0 : Int32) m)
theorem ok_m_measure_165 (X : mX) (d F : Nat) : ∀ (n : Nat) (v1 : Int32) (w2 : Option Value) (w3 : Option Value) (w4 : Option Value) (m : mM) (r : Unit) (m' : mM), f_m_measure_165 F n v1 m = some (r, m') → m_R X (d + 0) 199 165 [some (.ref 304), some (.int v1), w2, w3, w4] [] (SH, m) (none, (SH, m')) := by
  intro n
  induction n with
  | zero => intro v1 w2 w3 w4 m r m' h; cases h
  | succ n ih =>
    intro v1 w2 w3 w4 m r m' h
    simp only [f_m_measure_165] at h
    refine m_R_sg (by decide) [(.iload_n 1, 1, 0, 1, 0, 0, 0), (.bipush 8, 2, 0, 8, 0, 0, 0)] (by decide +kernel) (show m_sgl X _ _ _ _ _ = some (168, [some (.ref 304), some (.int v1), w2, w3, w4], [.int (8 : Int32), .int v1], (SH, m.1, m.2)) from rfl) ?_
    rcases m_ite h with ⟨c41, h⟩ | ⟨c41, h⟩
    · refine m_R_1 (by decide) (m_opb_of (ins := .if_icmp .ge 103) (len := 3) (tag := 0) (a := 271) (b := 0) (c := 0) (q := 0) (by decide +kernel)) (if_pos c41) ?_
      obtain ⟨rfl, rfl⟩ := m_some h
      exact m_R_vret (by decide) (m_opb_of (ins := .return_) (len := 1) (tag := 3) (a := 0) (b := 0) (c := 0) (q := 0) (by decide +kernel))
    · refine m_R_1 (by decide) (m_opb_of (ins := .if_icmp .ge 103) (len := 3) (tag := 0) (a := 271) (b := 0) (c := 0) (q := 0) (by decide +kernel)) (if_neg c41) ?_
      refine m_R_sg (by decide) [(.iconst 0, 1, 0, 0, 0, 0, 0), (.istore_n 2, 1, 0, 2, 0, 0, 0)] (by decide +kernel) (show m_sgl X _ _ _ _ _ = some (173, [some (.ref 304), some (.int v1), some (.int (0 : Int32)), w3, w4], [], (SH, m.1, m.2)) from rfl) ?_
      exact ok_m_measure_173 X d F _ (fun a0 a1 a2 a3 m r m' h => ih a0 a1 a2 a3 m r m' h) F _ _ _ _ _ _ _ h
def f_m_measure_55 (F : Nat)   : Nat → Int32 → mM → Option (Unit × mM)
  | 0, _, _ => none
  | n + 1, v1, m => (if (m.1 305 (3 : Int32).toNatClampNeg) ≤ v1 then f_m_measure_165 F F (0 : Int32) m else (if ((16 : Int32) + ((3 : Int32) * v1)) < 0 ∨ 9732 ≤ ((16 : Int32) + ((3 : Int32) * v1)).toNatClampNeg then none else (if (((16 : Int32) + ((3 : Int32) * v1)) + (1 : Int32)) < 0 ∨ 9732 ≤ (((16 : Int32) + ((3 : Int32) * v1)) + (1 : Int32)).toNatClampNeg then none else (if (((16 : Int32) + ((3 : Int32) * v1)) + (2 : Int32)) < 0 ∨ 9732 ≤ (((16 : Int32) + ((3 : Int32) * v1)) + (2 : Int32)).toNatClampNeg then none else f_m_measure_106 F (f_m_measure_55 F n) v1 (m.1 305 ((16 : Int32) + ((3 : Int32) * v1)).toNatClampNeg) (m.1 305 (((16 : Int32) + ((3 : Int32) * v1)) + (1 : Int32)).toNatClampNeg) (m.1 305 (((16 : Int32) + ((3 : Int32) * v1)) + (2 : Int32)).toNatClampNeg) m))))
theorem ok_m_measure_55 (X : mX) (d F : Nat) : ∀ (n : Nat) (v1 : Int32) (w2 : Option Value) (w3 : Option Value) (w4 : Option Value) (m : mM) (r : Unit) (m' : mM), f_m_measure_55 F n v1 m = some (r, m') → m_R X (d + 0) 199 55 [some (.ref 304), some (.int v1), w2, w3, w4] [] (SH, m) (none, (SH, m')) := by
  intro n
  induction n with
  | zero => intro v1 w2 w3 w4 m r m' h; cases h
  | succ n ih =>
    intro v1 w2 w3 w4 m r m' h
    simp only [f_m_measure_55] at h
    refine m_R_sg (by decide) [(.iload_n 1, 1, 0, 1, 0, 0, 0), (.aload_n 0, 1, 0, 0, 0, 0, 0), (.getfield 13, 3, 0, 12, 1, 3, 1493), (.iconst 3, 1, 0, 3, 0, 0, 0)] (by decide +kernel) (show m_sgl X _ _ _ _ _ = some (61, [some (.ref 304), some (.int v1), w2, w3, w4], [.int (3 : Int32), .ref 305, .int v1], (SH, m.1, m.2)) from rfl) ?_
    refine m_R_1 (by decide) (m_opb_of (ins := .iaload) (len := 1) (tag := 0) (a := 0) (b := 0) (c := 0) (q := 0) (by decide +kernel)) (m_s_iald sh_305 (by decide) (show ¬ ((3 : Int32) < 0 ∨ 9732 ≤ (3 : Int32).toNatClampNeg) by decide)) ?_
    rcases m_ite h with ⟨c42, h⟩ | ⟨c42, h⟩
    · refine m_R_1 (by decide) (m_opb_of (ins := .if_icmp .ge 101) (len := 3) (tag := 0) (a := 163) (b := 0) (c := 0) (q := 0) (by decide +kernel)) (if_pos c42) ?_
      refine m_R_sg (by decide) [(.iconst 0, 1, 0, 0, 0, 0, 0), (.istore_n 1, 1, 0, 1, 0, 0, 0)] (by decide +kernel) (show m_sgl X _ _ _ _ _ = some (165, [some (.ref 304), some (.int (0 : Int32)), w2, w3, w4], [], (SH, m.1, m.2)) from rfl) ?_
      exact ok_m_measure_165 X d F F _ _ _ _ _ _ _ h
    · refine m_R_1 (by decide) (m_opb_of (ins := .if_icmp .ge 101) (len := 3) (tag := 0) (a := 163) (b := 0) (c := 0) (q := 0) (by decide +kernel)) (if_neg c42) ?_
      refine m_R_sg (by decide) [(.aload_n 0, 1, 0, 0, 0, 0, 0), (.getfield 13, 3, 0, 12, 1, 3, 1493), (.bipush 16, 2, 0, 16, 0, 0, 0), (.iconst 3, 1, 0, 3, 0, 0, 0), (.iload_n 1, 1, 0, 1, 0, 0, 0), (.imul, 1, 0, 0, 0, 0, 0), (.iadd, 1, 0, 0, 0, 0, 0)] (by decide +kernel) (show m_sgl X _ _ _ _ _ = some (75, [some (.ref 304), some (.int v1), w2, w3, w4], [.int ((16 : Int32) + ((3 : Int32) * v1)), .ref 305], (SH, m.1, m.2)) from rfl) ?_
      obtain ⟨c43, h⟩ := m_ite_n h
      refine m_R_1 (by decide) (m_opb_of (ins := .iaload) (len := 1) (tag := 0) (a := 0) (b := 0) (c := 0) (q := 0) (by decide +kernel)) (m_s_iald sh_305 (by decide) c43) ?_
      refine m_R_sg (by decide) [(.istore_n 2, 1, 0, 2, 0, 0, 0), (.aload_n 0, 1, 0, 0, 0, 0, 0), (.getfield 13, 3, 0, 12, 1, 3, 1493), (.bipush 16, 2, 0, 16, 0, 0, 0), (.iconst 3, 1, 0, 3, 0, 0, 0), (.iload_n 1, 1, 0, 1, 0, 0, 0), (.imul, 1, 0, 0, 0, 0, 0), (.iadd, 1, 0, 0, 0, 0, 0), (.iconst 1, 1, 0, 1, 0, 0, 0), (.iadd, 1, 0, 0, 0, 0, 0)] (by decide +kernel) (show m_sgl X _ _ _ _ _ = some (89, [some (.ref 304), some (.int v1), some (.int (m.1 305 ((16 : Int32) + ((3 : Int32) * v1)).toNatClampNeg)), w3, w4], [.int (((16 : Int32) + ((3 : Int32) * v1)) + (1 : Int32)), .ref 305], (SH, m.1, m.2)) from rfl) ?_
      obtain ⟨c44, h⟩ := m_ite_n h
      refine m_R_1 (by decide) (m_opb_of (ins := .iaload) (len := 1) (tag := 0) (a := 0) (b := 0) (c := 0) (q := 0) (by decide +kernel)) (m_s_iald sh_305 (by decide) c44) ?_
      refine m_R_sg (by decide) [(.istore_n 3, 1, 0, 3, 0, 0, 0), (.aload_n 0, 1, 0, 0, 0, 0, 0), (.getfield 13, 3, 0, 12, 1, 3, 1493), (.bipush 16, 2, 0, 16, 0, 0, 0), (.iconst 3, 1, 0, 3, 0, 0, 0), (.iload_n 1, 1, 0, 1, 0, 0, 0), (.imul, 1, 0, 0, 0, 0, 0), (.iadd, 1, 0, 0, 0, 0, 0), (.iconst 2, 1, 0, 2, 0, 0, 0), (.iadd, 1, 0, 0, 0, 0, 0)] (by decide +kernel) (show m_sgl X _ _ _ _ _ = some (103, [some (.ref 304), some (.int v1), some (.int (m.1 305 ((16 : Int32) + ((3 : Int32) * v1)).toNatClampNeg)), some (.int (m.1 305 (((16 : Int32) + ((3 : Int32) * v1)) + (1 : Int32)).toNatClampNeg)), w4], [.int (((16 : Int32) + ((3 : Int32) * v1)) + (2 : Int32)), .ref 305], (SH, m.1, m.2)) from rfl) ?_
      obtain ⟨c45, h⟩ := m_ite_n h
      refine m_R_1 (by decide) (m_opb_of (ins := .iaload) (len := 1) (tag := 0) (a := 0) (b := 0) (c := 0) (q := 0) (by decide +kernel)) (m_s_iald sh_305 (by decide) c45) ?_
      refine m_R_sg (by decide) [(.istore 4, 2, 0, 4, 0, 0, 0)] (by decide +kernel) (show m_sgl X _ _ _ _ _ = some (106, [some (.ref 304), some (.int v1), some (.int (m.1 305 ((16 : Int32) + ((3 : Int32) * v1)).toNatClampNeg)), some (.int (m.1 305 (((16 : Int32) + ((3 : Int32) * v1)) + (1 : Int32)).toNatClampNeg)), some (.int (m.1 305 (((16 : Int32) + ((3 : Int32) * v1)) + (2 : Int32)).toNatClampNeg))], [], (SH, m.1, m.2)) from rfl) ?_
      exact ok_m_measure_106 X d F _ (fun a0 a1 a2 a3 m r m' h => ih a0 a1 a2 a3 m r m' h) _ _ _ _ _ _ _ h
def f_m_measure_2 (F : Nat)   : Nat → Int32 → mM → Option (Unit × mM)
  | 0, _, _ => none
  | n + 1, v1, m => (if (8 : Int32) ≤ v1 then f_m_measure_55 F F (0 : Int32) m else f_m_measure_10 F (f_m_measure_2 F n) F v1 (0 : Int32) m)
theorem ok_m_measure_2 (X : mX) (d F : Nat) : ∀ (n : Nat) (v1 : Int32) (w2 : Option Value) (w3 : Option Value) (w4 : Option Value) (m : mM) (r : Unit) (m' : mM), f_m_measure_2 F n v1 m = some (r, m') → m_R X (d + 0) 199 2 [some (.ref 304), some (.int v1), w2, w3, w4] [] (SH, m) (none, (SH, m')) := by
  intro n
  induction n with
  | zero => intro v1 w2 w3 w4 m r m' h; cases h
  | succ n ih =>
    intro v1 w2 w3 w4 m r m' h
    simp only [f_m_measure_2] at h
    refine m_R_sg (by decide) [(.iload_n 1, 1, 0, 1, 0, 0, 0), (.bipush 8, 2, 0, 8, 0, 0, 0)] (by decide +kernel) (show m_sgl X _ _ _ _ _ = some (5, [some (.ref 304), some (.int v1), w2, w3, w4], [.int (8 : Int32), .int v1], (SH, m.1, m.2)) from rfl) ?_
    rcases m_ite h with ⟨c46, h⟩ | ⟨c46, h⟩
    · refine m_R_1 (by decide) (m_opb_of (ins := .if_icmp .ge 48) (len := 3) (tag := 0) (a := 53) (b := 0) (c := 0) (q := 0) (by decide +kernel)) (if_pos c46) ?_
      refine m_R_sg (by decide) [(.iconst 0, 1, 0, 0, 0, 0, 0), (.istore_n 1, 1, 0, 1, 0, 0, 0)] (by decide +kernel) (show m_sgl X _ _ _ _ _ = some (55, [some (.ref 304), some (.int (0 : Int32)), w2, w3, w4], [], (SH, m.1, m.2)) from rfl) ?_
      exact ok_m_measure_55 X d F F _ _ _ _ _ _ _ h
    · refine m_R_1 (by decide) (m_opb_of (ins := .if_icmp .ge 48) (len := 3) (tag := 0) (a := 53) (b := 0) (c := 0) (q := 0) (by decide +kernel)) (if_neg c46) ?_
      refine m_R_sg (by decide) [(.iconst 0, 1, 0, 0, 0, 0, 0), (.istore_n 2, 1, 0, 2, 0, 0, 0)] (by decide +kernel) (show m_sgl X _ _ _ _ _ = some (10, [some (.ref 304), some (.int v1), some (.int (0 : Int32)), w3, w4], [], (SH, m.1, m.2)) from rfl) ?_
      exact ok_m_measure_10 X d F _ (fun a0 a1 a2 a3 m r m' h => ih a0 a1 a2 a3 m r m' h) F _ _ _ _ _ _ _ h
def f_m_measure (F : Nat)    (m : mM) : Option (Unit × mM) := f_m_measure_2 F F (0 : Int32) m
theorem ok_m_measure (X : mX) (d F : Nat) : ∀   (m : mM) (r : Unit) (m' : mM), f_m_measure F  m = some (r, m') → m_R X (d + 0) 199 0 [some (.ref 304), none, none, none, none] [] (SH, m) (none, (SH, m')) := by
  intro m r m' h
  unfold f_m_measure at h
  refine m_R_sg (by decide) [(.iconst 0, 1, 0, 0, 0, 0, 0), (.istore_n 1, 1, 0, 1, 0, 0, 0)] (by decide +kernel) (show m_sgl X _ _ _ _ _ = some (2, [some (.ref 304), some (.int (0 : Int32)), none, none, none], [], (SH, m.1, m.2)) from rfl) ?_
  exact ok_m_measure_2 X d F F _ _ _ _ _ _ _ h
def f_m_road_16 (F : Nat)    (m : mM) : Option (Int32 × mM) := ((f_m_refuse F (-3 : Int32) m).bind fun q5 => some (q5.1, q5.2))
theorem ok_m_road_16 (X : mX) (d F : Nat) : ∀  (w1 : Option Value) (w2 : Option Value) (w3 : Option Value) (w4 : Option Value) (m : mM) (r : Int32) (m' : mM), f_m_road_16 F  m = some (r, m') → m_R X (d + 2) 204 16 [some (.ref 304), w1, w2, w3, w4] [] (SH, m) (some (.int r), (SH, m')) := by
  intro w1 w2 w3 w4 m r m' h
  unfold f_m_road_16 at h
  refine m_R_sg (by decide) [(.aload_n 0, 1, 0, 0, 0, 0, 0), (.bipush (-3), 2, 0, 3, 1, 0, 0)] (by decide +kernel) (show m_sgl X _ _ _ _ _ = some (19, [some (.ref 304), w1, w2, w3, w4], [.int (-3 : Int32), .ref 304], (SH, m.1, m.2)) from rfl) ?_
  obtain ⟨q5, hc5, h⟩ := Option.bind_eq_some_iff.mp h
  refine m_R_cV (v := (some (.int q5.1))) (h1 := (SH, q5.2)) (rest := []) (lo' := [some (.ref 304), some (.int (-3 : Int32))]) (ml := 2) (k0 := 304) (by decide) (Or.inl rfl) (m_opb_of (ins := .invokevirtual 61) (len := 3) (tag := 5) (a := 202) (b := 1) (c := 0) (q := 1593) (by decide +kernel)) (by decide +kernel) rfl (show m_isO 202 304 (SH, _) = true from m_isO_of (by decide +kernel)) (Nat.le_of_ble_eq_true rfl) rfl rfl (ok_m_refuse X (d + 1) F _ _ _ _ hc5) ?_
  obtain ⟨rfl, rfl⟩ := m_some h
  exact m_R_iret (by decide) (m_opb_of (ins := .ireturn) (len := 1) (tag := 1) (a := 0) (b := 0) (c := 0) (q := 0) (by decide +kernel)) (Or.inl rfl)
def f_m_road_38 (F : Nat)    (m : mM) : Option (Int32 × mM) := ((f_m_refuse F (-7 : Int32) m).bind fun q6 => some (q6.1, q6.2))
theorem ok_m_road_38 (X : mX) (d F : Nat) : ∀  (w1 : Option Value) (w2 : Option Value) (w3 : Option Value) (w4 : Option Value) (m : mM) (r : Int32) (m' : mM), f_m_road_38 F  m = some (r, m') → m_R X (d + 2) 204 38 [some (.ref 304), w1, w2, w3, w4] [] (SH, m) (some (.int r), (SH, m')) := by
  intro w1 w2 w3 w4 m r m' h
  unfold f_m_road_38 at h
  refine m_R_sg (by decide) [(.aload_n 0, 1, 0, 0, 0, 0, 0), (.bipush (-7), 2, 0, 7, 1, 0, 0)] (by decide +kernel) (show m_sgl X _ _ _ _ _ = some (41, [some (.ref 304), w1, w2, w3, w4], [.int (-7 : Int32), .ref 304], (SH, m.1, m.2)) from rfl) ?_
  obtain ⟨q6, hc6, h⟩ := Option.bind_eq_some_iff.mp h
  refine m_R_cV (v := (some (.int q6.1))) (h1 := (SH, q6.2)) (rest := []) (lo' := [some (.ref 304), some (.int (-7 : Int32))]) (ml := 2) (k0 := 304) (by decide) (Or.inl rfl) (m_opb_of (ins := .invokevirtual 61) (len := 3) (tag := 5) (a := 202) (b := 1) (c := 0) (q := 1593) (by decide +kernel)) (by decide +kernel) rfl (show m_isO 202 304 (SH, _) = true from m_isO_of (by decide +kernel)) (Nat.le_of_ble_eq_true rfl) rfl rfl (ok_m_refuse X (d + 1) F _ _ _ _ hc6) ?_
  obtain ⟨rfl, rfl⟩ := m_some h
  exact m_R_iret (by decide) (m_opb_of (ins := .ireturn) (len := 1) (tag := 1) (a := 0) (b := 0) (c := 0) (q := 0) (by decide +kernel)) (Or.inl rfl)
def f_m_road_94 (F : Nat)   (v3 : Int32) (v4 : Int32) (m : mM) : Option (Int32 × mM) := (if (v4 + (2 : Int32)) < 0 ∨ 9732 ≤ (v4 + (2 : Int32)).toNatClampNeg then none else ((f_m_measure F ((m_up (m_up m.1 305 (v4 + (2 : Int32)).toNatClampNeg v3) 305 (3 : Int32).toNatClampNeg (((m_up m.1 305 (v4 + (2 : Int32)).toNatClampNeg v3) 305 (3 : Int32).toNatClampNeg) + (1 : Int32))), m.2)).bind fun q7 => some ((q7.2.1 305 (3 : Int32).toNatClampNeg), q7.2)))
theorem ok_m_road_94 (X : mX) (d F : Nat) : ∀ (v3 : Int32) (v4 : Int32) (w1 : Option Value) (w2 : Option Value) (m : mM) (r : Int32) (m' : mM), f_m_road_94 F v3 v4 m = some (r, m') → m_R X (d + 2) 204 94 [some (.ref 304), w1, w2, some (.int v3), some (.int v4)] [] (SH, m) (some (.int r), (SH, m')) := by
  intro v3 v4 w1 w2 m r m' h
  unfold f_m_road_94 at h
  refine m_R_sg (by decide) [(.aload_n 0, 1, 0, 0, 0, 0, 0), (.getfield 13, 3, 0, 12, 1, 3, 1493), (.iload 4, 2, 0, 4, 0, 0, 0), (.iconst 2, 1, 0, 2, 0, 0, 0), (.iadd, 1, 0, 0, 0, 0, 0), (.iload_n 3, 1, 0, 3, 0, 0, 0)] (by decide +kernel) (show m_sgl X _ _ _ _ _ = some (103, [some (.ref 304), w1, w2, some (.int v3), some (.int v4)], [.int v3, .int (v4 + (2 : Int32)), .ref 305], (SH, m.1, m.2)) from rfl) ?_
  obtain ⟨c47, h⟩ := m_ite_n h
  refine m_R_1 (by decide) (m_opb_of (ins := .iastore) (len := 1) (tag := 0) (a := 0) (b := 0) (c := 0) (q := 0) (by decide +kernel)) (m_s_iast sh_305 c47) ?_
  refine m_R_sg (by decide) [(.aload_n 0, 1, 0, 0, 0, 0, 0), (.getfield 13, 3, 0, 12, 1, 3, 1493), (.iconst 3, 1, 0, 3, 0, 0, 0), (.dup2, 1, 0, 0, 0, 0, 0)] (by decide +kernel) (show m_sgl X _ _ _ _ _ = some (110, [some (.ref 304), w1, w2, some (.int v3), some (.int v4)], [.int (3 : Int32), .ref 305, .int (3 : Int32), .ref 305], (SH, (m_up m.1 305 (v4 + (2 : Int32)).toNatClampNeg v3), m.2)) from rfl) ?_
  refine m_R_1 (by decide) (m_opb_of (ins := .iaload) (len := 1) (tag := 0) (a := 0) (b := 0) (c := 0) (q := 0) (by decide +kernel)) (m_s_iald sh_305 (by decide) (show ¬ ((3 : Int32) < 0 ∨ 9732 ≤ (3 : Int32).toNatClampNeg) by decide)) ?_
  refine m_R_sg (by decide) [(.iconst 1, 1, 0, 1, 0, 0, 0), (.iadd, 1, 0, 0, 0, 0, 0)] (by decide +kernel) (show m_sgl X _ _ _ _ _ = some (113, [some (.ref 304), w1, w2, some (.int v3), some (.int v4)], [.int (((m_up m.1 305 (v4 + (2 : Int32)).toNatClampNeg v3) 305 (3 : Int32).toNatClampNeg) + (1 : Int32)), .int (3 : Int32), .ref 305], (SH, (m_up m.1 305 (v4 + (2 : Int32)).toNatClampNeg v3), m.2)) from rfl) ?_
  refine m_R_1 (by decide) (m_opb_of (ins := .iastore) (len := 1) (tag := 0) (a := 0) (b := 0) (c := 0) (q := 0) (by decide +kernel)) (m_s_iast sh_305 (show ¬ ((3 : Int32) < 0 ∨ 9732 ≤ (3 : Int32).toNatClampNeg) by decide)) ?_
  refine m_R_sg (by decide) [(.aload_n 0, 1, 0, 0, 0, 0, 0)] (by decide +kernel) (show m_sgl X _ _ _ _ _ = some (115, [some (.ref 304), w1, w2, some (.int v3), some (.int v4)], [.ref 304], (SH, (m_up (m_up m.1 305 (v4 + (2 : Int32)).toNatClampNeg v3) 305 (3 : Int32).toNatClampNeg (((m_up m.1 305 (v4 + (2 : Int32)).toNatClampNeg v3) 305 (3 : Int32).toNatClampNeg) + (1 : Int32))), m.2)) from rfl) ?_
  obtain ⟨q7, hc7, h⟩ := Option.bind_eq_some_iff.mp h
  refine m_R_cV (v := none) (h1 := (SH, q7.2)) (rest := []) (lo' := [some (.ref 304), none, none, none, none]) (ml := 5) (k0 := 304) (by decide) (Or.inl rfl) (m_opb_of (ins := .invokevirtual 54) (len := 3) (tag := 5) (a := 199) (b := 0) (c := 0) (q := 1488) (by decide +kernel)) (by decide +kernel) rfl (show m_isO 199 304 (SH, _) = true from m_isO_of (by decide +kernel)) (Nat.le_of_ble_eq_true rfl) rfl rfl (ok_m_measure X (d + 1) F _ _ _ hc7) ?_
  refine m_R_sg (by decide) [(.aload_n 0, 1, 0, 0, 0, 0, 0), (.getfield 13, 3, 0, 12, 1, 3, 1493), (.iconst 3, 1, 0, 3, 0, 0, 0)] (by decide +kernel) (show m_sgl X _ _ _ _ _ = some (123, [some (.ref 304), w1, w2, some (.int v3), some (.int v4)], [.int (3 : Int32), .ref 305], (SH, q7.2.1, q7.2.2)) from rfl) ?_
  refine m_R_1 (by decide) (m_opb_of (ins := .iaload) (len := 1) (tag := 0) (a := 0) (b := 0) (c := 0) (q := 0) (by decide +kernel)) (m_s_iald sh_305 (by decide) (show ¬ ((3 : Int32) < 0 ∨ 9732 ≤ (3 : Int32).toNatClampNeg) by decide)) ?_
  obtain ⟨rfl, rfl⟩ := m_some h
  exact m_R_iret (by decide) (m_opb_of (ins := .ireturn) (len := 1) (tag := 1) (a := 0) (b := 0) (c := 0) (q := 0) (by decide +kernel)) (Or.inl rfl)
def f_m_road (F : Nat)   (v1 : Int32) (v2 : Int32) (v3 : Int32) (m : mM) : Option (Int32 × mM) := ((f_m_isTown F v1 m).bind fun q1 => (if q1.1 = 0 then f_m_road_16 F q1.2 else ((f_m_isTown F v2 q1.2).bind fun q2 => (if q2.1 = 0 then f_m_road_16 F q2.2 else (if v1 = v2 then f_m_road_38 F q2.2 else ((f_m_in F v3 (1 : Int32) (30 : Int32) q2.2).bind fun q3 => (if q3.1 = 0 then f_m_road_38 F q3.2 else (if (q3.2.1 305 (3 : Int32).toNatClampNeg) = (16 : Int32) then ((f_m_refuse F (-8 : Int32) q3.2).bind fun q4 => some (q4.1, q4.2)) else (if ((16 : Int32) + ((3 : Int32) * (q3.2.1 305 (3 : Int32).toNatClampNeg))) < 0 ∨ 9732 ≤ ((16 : Int32) + ((3 : Int32) * (q3.2.1 305 (3 : Int32).toNatClampNeg))).toNatClampNeg then none else (if (((16 : Int32) + ((3 : Int32) * (q3.2.1 305 (3 : Int32).toNatClampNeg))) + (1 : Int32)) < 0 ∨ 9732 ≤ (((16 : Int32) + ((3 : Int32) * (q3.2.1 305 (3 : Int32).toNatClampNeg))) + (1 : Int32)).toNatClampNeg then none else f_m_road_94 F v3 ((16 : Int32) + ((3 : Int32) * (q3.2.1 305 (3 : Int32).toNatClampNeg))) ((m_up (m_up q3.2.1 305 ((16 : Int32) + ((3 : Int32) * (q3.2.1 305 (3 : Int32).toNatClampNeg))).toNatClampNeg v1) 305 (((16 : Int32) + ((3 : Int32) * (q3.2.1 305 (3 : Int32).toNatClampNeg))) + (1 : Int32)).toNatClampNeg v2), q3.2.2)))))))))))
theorem ok_m_road (X : mX) (d F : Nat) : ∀ (v1 : Int32) (v2 : Int32) (v3 : Int32)  (m : mM) (r : Int32) (m' : mM), f_m_road F v1 v2 v3 m = some (r, m') → m_R X (d + 2) 204 0 [some (.ref 304), some (.int v1), some (.int v2), some (.int v3), none] [] (SH, m) (some (.int r), (SH, m')) := by
  intro v1 v2 v3 m r m' h
  unfold f_m_road at h
  refine m_R_sg (by decide) [(.aload_n 0, 1, 0, 0, 0, 0, 0), (.iload_n 1, 1, 0, 1, 0, 0, 0)] (by decide +kernel) (show m_sgl X _ _ _ _ _ = some (2, [some (.ref 304), some (.int v1), some (.int v2), some (.int v3), none], [.int v1, .ref 304], (SH, m.1, m.2)) from rfl) ?_
  obtain ⟨q1, hc1, h⟩ := Option.bind_eq_some_iff.mp h
  refine m_R_cV (v := (some (.int q1.1))) (h1 := (SH, q1.2)) (rest := []) (lo' := [some (.ref 304), some (.int v1)]) (ml := 2) (k0 := 304) (by decide) (Or.inl rfl) (m_opb_of (ins := .invokevirtual 70) (len := 3) (tag := 5) (a := 205) (b := 1) (c := 0) (q := 1605) (by decide +kernel)) (by decide +kernel) rfl (show m_isO 205 304 (SH, _) = true from m_isO_of (by decide +kernel)) (Nat.le_of_ble_eq_true rfl) rfl rfl (ok_m_isTown X (d + 0) F _ _ _ _ hc1) ?_
  rcases m_ite h with ⟨c48, h⟩ | ⟨c48, h⟩
  · refine m_R_1 (by decide) (m_opb_of (ins := .ifCond .eq 11) (len := 3) (tag := 0) (a := 16) (b := 0) (c := 0) (q := 0) (by decide +kernel)) (if_pos c48) ?_
    exact ok_m_road_16 X d F _ _ _ _ _ _ _ h
  · refine m_R_1 (by decide) (m_opb_of (ins := .ifCond .eq 11) (len := 3) (tag := 0) (a := 16) (b := 0) (c := 0) (q := 0) (by decide +kernel)) (if_neg c48) ?_
    refine m_R_sg (by decide) [(.aload_n 0, 1, 0, 0, 0, 0, 0), (.iload_n 2, 1, 0, 2, 0, 0, 0)] (by decide +kernel) (show m_sgl X _ _ _ _ _ = some (10, [some (.ref 304), some (.int v1), some (.int v2), some (.int v3), none], [.int v2, .ref 304], (SH, q1.2.1, q1.2.2)) from rfl) ?_
    obtain ⟨q2, hc2, h⟩ := Option.bind_eq_some_iff.mp h
    refine m_R_cV (v := (some (.int q2.1))) (h1 := (SH, q2.2)) (rest := []) (lo' := [some (.ref 304), some (.int v2)]) (ml := 2) (k0 := 304) (by decide) (Or.inl rfl) (m_opb_of (ins := .invokevirtual 70) (len := 3) (tag := 5) (a := 205) (b := 1) (c := 0) (q := 1605) (by decide +kernel)) (by decide +kernel) rfl (show m_isO 205 304 (SH, _) = true from m_isO_of (by decide +kernel)) (Nat.le_of_ble_eq_true rfl) rfl rfl (ok_m_isTown X (d + 0) F _ _ _ _ hc2) ?_
    rcases m_ite h with ⟨c49, h⟩ | ⟨c49, h⟩
    · refine m_R_1 (by decide) (m_opb_of (ins := .ifCond .ne 10) (len := 3) (tag := 0) (a := 23) (b := 0) (c := 0) (q := 0) (by decide +kernel)) (if_pos c49) ?_
      exact ok_m_road_16 X d F _ _ _ _ _ _ _ h
    · refine m_R_1 (by decide) (m_opb_of (ins := .ifCond .ne 10) (len := 3) (tag := 0) (a := 23) (b := 0) (c := 0) (q := 0) (by decide +kernel)) (if_neg c49) ?_
      refine m_R_sg (by decide) [(.iload_n 1, 1, 0, 1, 0, 0, 0), (.iload_n 2, 1, 0, 2, 0, 0, 0)] (by decide +kernel) (show m_sgl X _ _ _ _ _ = some (25, [some (.ref 304), some (.int v1), some (.int v2), some (.int v3), none], [.int v2, .int v1], (SH, q2.2.1, q2.2.2)) from rfl) ?_
      rcases m_ite h with ⟨c50, h⟩ | ⟨c50, h⟩
      · refine m_R_1 (by decide) (m_opb_of (ins := .if_icmp .eq 13) (len := 3) (tag := 0) (a := 38) (b := 0) (c := 0) (q := 0) (by decide +kernel)) (if_pos c50) ?_
        exact ok_m_road_38 X d F _ _ _ _ _ _ _ h
      · refine m_R_1 (by decide) (m_opb_of (ins := .if_icmp .eq 13) (len := 3) (tag := 0) (a := 38) (b := 0) (c := 0) (q := 0) (by decide +kernel)) (if_neg c50) ?_
        refine m_R_sg (by decide) [(.iload_n 3, 1, 0, 3, 0, 0, 0), (.iconst 1, 1, 0, 1, 0, 0, 0), (.bipush 30, 2, 0, 30, 0, 0, 0)] (by decide +kernel) (show m_sgl X _ _ _ _ _ = some (32, [some (.ref 304), some (.int v1), some (.int v2), some (.int v3), none], [.int (30 : Int32), .int (1 : Int32), .int v3], (SH, q2.2.1, q2.2.2)) from rfl) ?_
        obtain ⟨q3, hc3, h⟩ := Option.bind_eq_some_iff.mp h
        refine m_R_cS (v := (some (.int q3.1))) (h1 := (SH, q3.2)) (rest := []) (lo' := [some (.int v3), some (.int (1 : Int32)), some (.int (30 : Int32))]) (ml := 3) (by decide) (m_opb_of (ins := .invokestatic 57) (len := 3) (tag := 4) (a := 201) (b := 3) (c := 0) (q := 1590) (by decide +kernel)) (by decide +kernel) (Nat.le_of_ble_eq_true rfl) rfl (Nat.le_of_ble_eq_true rfl) rfl rfl (ok_m_in X (d + 1) F _ _ _ _ _ _ hc3) ?_
        rcases m_ite h with ⟨c51, h⟩ | ⟨c51, h⟩
        · refine m_R_1 (by decide) (m_opb_of (ins := .ifCond .ne 10) (len := 3) (tag := 0) (a := 45) (b := 0) (c := 0) (q := 0) (by decide +kernel)) (if_pos c51) ?_
          exact ok_m_road_38 X d F _ _ _ _ _ _ _ h
        · refine m_R_1 (by decide) (m_opb_of (ins := .ifCond .ne 10) (len := 3) (tag := 0) (a := 45) (b := 0) (c := 0) (q := 0) (by decide +kernel)) (if_neg c51) ?_
          refine m_R_sg (by decide) [(.aload_n 0, 1, 0, 0, 0, 0, 0), (.getfield 13, 3, 0, 12, 1, 3, 1493), (.iconst 3, 1, 0, 3, 0, 0, 0)] (by decide +kernel) (show m_sgl X _ _ _ _ _ = some (50, [some (.ref 304), some (.int v1), some (.int v2), some (.int v3), none], [.int (3 : Int32), .ref 305], (SH, q3.2.1, q3.2.2)) from rfl) ?_
          refine m_R_1 (by decide) (m_opb_of (ins := .iaload) (len := 1) (tag := 0) (a := 0) (b := 0) (c := 0) (q := 0) (by decide +kernel)) (m_s_iald sh_305 (by decide) (show ¬ ((3 : Int32) < 0 ∨ 9732 ≤ (3 : Int32).toNatClampNeg) by decide)) ?_
          refine m_R_sg (by decide) [(.bipush 16, 2, 0, 16, 0, 0, 0)] (by decide +kernel) (show m_sgl X _ _ _ _ _ = some (53, [some (.ref 304), some (.int v1), some (.int v2), some (.int v3), none], [.int (16 : Int32), .int (q3.2.1 305 (3 : Int32).toNatClampNeg)], (SH, q3.2.1, q3.2.2)) from rfl) ?_
          rcases m_ite h with ⟨c52, h⟩ | ⟨c52, h⟩
          · refine m_R_1 (by decide) (m_opb_of (ins := .if_icmp .ne 10) (len := 3) (tag := 0) (a := 63) (b := 0) (c := 0) (q := 0) (by decide +kernel)) (if_pos c52) ?_
            refine m_R_sg (by decide) [(.aload_n 0, 1, 0, 0, 0, 0, 0), (.bipush (-8), 2, 0, 8, 1, 0, 0)] (by decide +kernel) (show m_sgl X _ _ _ _ _ = some (59, [some (.ref 304), some (.int v1), some (.int v2), some (.int v3), none], [.int (-8 : Int32), .ref 304], (SH, q3.2.1, q3.2.2)) from rfl) ?_
            obtain ⟨q4, hc4, h⟩ := Option.bind_eq_some_iff.mp h
            refine m_R_cV (v := (some (.int q4.1))) (h1 := (SH, q4.2)) (rest := []) (lo' := [some (.ref 304), some (.int (-8 : Int32))]) (ml := 2) (k0 := 304) (by decide) (Or.inl rfl) (m_opb_of (ins := .invokevirtual 61) (len := 3) (tag := 5) (a := 202) (b := 1) (c := 0) (q := 1593) (by decide +kernel)) (by decide +kernel) rfl (show m_isO 202 304 (SH, _) = true from m_isO_of (by decide +kernel)) (Nat.le_of_ble_eq_true rfl) rfl rfl (ok_m_refuse X (d + 1) F _ _ _ _ hc4) ?_
            obtain ⟨rfl, rfl⟩ := m_some h
            exact m_R_iret (by decide) (m_opb_of (ins := .ireturn) (len := 1) (tag := 1) (a := 0) (b := 0) (c := 0) (q := 0) (by decide +kernel)) (Or.inl rfl)
          · refine m_R_1 (by decide) (m_opb_of (ins := .if_icmp .ne 10) (len := 3) (tag := 0) (a := 63) (b := 0) (c := 0) (q := 0) (by decide +kernel)) (if_neg c52) ?_
            refine m_R_sg (by decide) [(.bipush 16, 2, 0, 16, 0, 0, 0), (.iconst 3, 1, 0, 3, 0, 0, 0), (.aload_n 0, 1, 0, 0, 0, 0, 0), (.getfield 13, 3, 0, 12, 1, 3, 1493), (.iconst 3, 1, 0, 3, 0, 0, 0)] (by decide +kernel) (show m_sgl X _ _ _ _ _ = some (71, [some (.ref 304), some (.int v1), some (.int v2), some (.int v3), none], [.int (3 : Int32), .ref 305, .int (3 : Int32), .int (16 : Int32)], (SH, q3.2.1, q3.2.2)) from rfl) ?_
            refine m_R_1 (by decide) (m_opb_of (ins := .iaload) (len := 1) (tag := 0) (a := 0) (b := 0) (c := 0) (q := 0) (by decide +kernel)) (m_s_iald sh_305 (by decide) (show ¬ ((3 : Int32) < 0 ∨ 9732 ≤ (3 : Int32).toNatClampNeg) by decide)) ?_
            refine m_R_sg (by decide) [(.imul, 1, 0, 0, 0, 0, 0), (.iadd, 1, 0, 0, 0, 0, 0), (.istore 4, 2, 0, 4, 0, 0, 0), (.aload_n 0, 1, 0, 0, 0, 0, 0), (.getfield 13, 3, 0, 12, 1, 3, 1493), (.iload 4, 2, 0, 4, 0, 0, 0), (.iload_n 1, 1, 0, 1, 0, 0, 0)] (by decide +kernel) (show m_sgl X _ _ _ _ _ = some (83, [some (.ref 304), some (.int v1), some (.int v2), some (.int v3), some (.int ((16 : Int32) + ((3 : Int32) * (q3.2.1 305 (3 : Int32).toNatClampNeg))))], [.int v1, .int ((16 : Int32) + ((3 : Int32) * (q3.2.1 305 (3 : Int32).toNatClampNeg))), .ref 305], (SH, q3.2.1, q3.2.2)) from rfl) ?_
            obtain ⟨c53, h⟩ := m_ite_n h
            refine m_R_1 (by decide) (m_opb_of (ins := .iastore) (len := 1) (tag := 0) (a := 0) (b := 0) (c := 0) (q := 0) (by decide +kernel)) (m_s_iast sh_305 c53) ?_
            refine m_R_sg (by decide) [(.aload_n 0, 1, 0, 0, 0, 0, 0), (.getfield 13, 3, 0, 12, 1, 3, 1493), (.iload 4, 2, 0, 4, 0, 0, 0), (.iconst 1, 1, 0, 1, 0, 0, 0), (.iadd, 1, 0, 0, 0, 0, 0), (.iload_n 2, 1, 0, 2, 0, 0, 0)] (by decide +kernel) (show m_sgl X _ _ _ _ _ = some (93, [some (.ref 304), some (.int v1), some (.int v2), some (.int v3), some (.int ((16 : Int32) + ((3 : Int32) * (q3.2.1 305 (3 : Int32).toNatClampNeg))))], [.int v2, .int (((16 : Int32) + ((3 : Int32) * (q3.2.1 305 (3 : Int32).toNatClampNeg))) + (1 : Int32)), .ref 305], (SH, (m_up q3.2.1 305 ((16 : Int32) + ((3 : Int32) * (q3.2.1 305 (3 : Int32).toNatClampNeg))).toNatClampNeg v1), q3.2.2)) from rfl) ?_
            obtain ⟨c54, h⟩ := m_ite_n h
            refine m_R_1 (by decide) (m_opb_of (ins := .iastore) (len := 1) (tag := 0) (a := 0) (b := 0) (c := 0) (q := 0) (by decide +kernel)) (m_s_iast sh_305 c54) ?_
            exact ok_m_road_94 X d F _ _ _ _ _ _ _ h
def f_Land_between_31 (F : Nat)   (s0 : Int32) (m : mM) : Option (Int32 × mM) := some (s0, m)
theorem ok_Land_between_31 (X : mX) (d F : Nat) : ∀ (s0 : Int32) (w0 : Option Value) (w1 : Option Value) (w2 : Option Value) (m : mM) (r : Int32) (m' : mM), f_Land_between_31 F s0 m = some (r, m') → m_R X (d + 1) 20 31 [w0, w1, w2] [.int s0] (SH, m) (some (.int r), (SH, m')) := by
  intro s0 w0 w1 w2 m r m' h
  unfold f_Land_between_31 at h
  obtain ⟨rfl, rfl⟩ := m_some h
  exact m_R_iret (by decide) (m_opb_of (ins := .ireturn) (len := 1) (tag := 1) (a := 0) (b := 0) (c := 0) (q := 0) (by decide +kernel)) (Or.inl rfl)
def f_Land_between_30 (F : Nat)    (m : mM) : Option (Int32 × mM) := f_Land_between_31 F (-1 : Int32) m
theorem ok_Land_between_30 (X : mX) (d F : Nat) : ∀  (w0 : Option Value) (w1 : Option Value) (w2 : Option Value) (m : mM) (r : Int32) (m' : mM), f_Land_between_30 F  m = some (r, m') → m_R X (d + 1) 20 30 [w0, w1, w2] [] (SH, m) (some (.int r), (SH, m')) := by
  intro w0 w1 w2 m r m' h
  unfold f_Land_between_30 at h
  refine m_R_sg (by decide) [(.iconst (-1), 1, 0, 1, 1, 0, 0)] (by decide +kernel) (show m_sgl X _ _ _ _ _ = some (31, [w0, w1, w2], [.int (-1 : Int32)], (SH, m.1, m.2)) from rfl) ?_
  exact ok_Land_between_31 X d F _ _ _ _ _ _ _ h
def f_Land_between (F : Nat)   (v1 : Int32) (v2 : Int32) (m : mM) : Option (Int32 × mM) := ((f_Land_isTown F v1 m).bind fun q1 => (if q1.1 = 0 then f_Land_between_30 F q1.2 else ((f_Land_isTown F v2 q1.2).bind fun q2 => (if q2.1 = 0 then f_Land_between_30 F q2.2 else (if ((v1 * (8 : Int32)) + v2) < 0 ∨ 64 ≤ ((v1 * (8 : Int32)) + v2).toNatClampNeg then none else f_Land_between_31 F (q2.2.1 18 ((v1 * (8 : Int32)) + v2).toNatClampNeg) q2.2)))))
theorem ok_Land_between (X : mX) (d F : Nat) : ∀ (v1 : Int32) (v2 : Int32)  (m : mM) (r : Int32) (m' : mM), f_Land_between F v1 v2 m = some (r, m') → m_R X (d + 1) 20 0 [some (.ref 17), some (.int v1), some (.int v2)] [] (SH, m) (some (.int r), (SH, m')) := by
  intro v1 v2 m r m' h
  unfold f_Land_between at h
  refine m_R_sg (by decide) [(.aload_n 0, 1, 0, 0, 0, 0, 0), (.iload_n 1, 1, 0, 1, 0, 0, 0)] (by decide +kernel) (show m_sgl X _ _ _ _ _ = some (2, [some (.ref 17), some (.int v1), some (.int v2)], [.int v1, .ref 17], (SH, m.1, m.2)) from rfl) ?_
  obtain ⟨q1, hc1, h⟩ := Option.bind_eq_some_iff.mp h
  refine m_R_cV (v := (some (.int q1.1))) (h1 := (SH, q1.2)) (rest := []) (lo' := [some (.ref 17), some (.int v1)]) (ml := 2) (k0 := 17) (by decide) (Or.inl rfl) (m_opb_of (ins := .invokevirtual 26) (len := 3) (tag := 5) (a := 16) (b := 1) (c := 0) (q := 699) (by decide +kernel)) (by decide +kernel) rfl (show m_isO 16 17 (SH, _) = true from m_isO_of (by decide +kernel)) (Nat.le_of_ble_eq_true rfl) rfl rfl (ok_Land_isTown X (d + 0) F _ _ _ _ hc1) ?_
  rcases m_ite h with ⟨c55, h⟩ | ⟨c55, h⟩
  · refine m_R_1 (by decide) (m_opb_of (ins := .ifCond .eq 25) (len := 3) (tag := 0) (a := 30) (b := 0) (c := 0) (q := 0) (by decide +kernel)) (if_pos c55) ?_
    exact ok_Land_between_30 X d F _ _ _ _ _ _ h
  · refine m_R_1 (by decide) (m_opb_of (ins := .ifCond .eq 25) (len := 3) (tag := 0) (a := 30) (b := 0) (c := 0) (q := 0) (by decide +kernel)) (if_neg c55) ?_
    refine m_R_sg (by decide) [(.aload_n 0, 1, 0, 0, 0, 0, 0), (.iload_n 2, 1, 0, 2, 0, 0, 0)] (by decide +kernel) (show m_sgl X _ _ _ _ _ = some (10, [some (.ref 17), some (.int v1), some (.int v2)], [.int v2, .ref 17], (SH, q1.2.1, q1.2.2)) from rfl) ?_
    obtain ⟨q2, hc2, h⟩ := Option.bind_eq_some_iff.mp h
    refine m_R_cV (v := (some (.int q2.1))) (h1 := (SH, q2.2)) (rest := []) (lo' := [some (.ref 17), some (.int v2)]) (ml := 2) (k0 := 17) (by decide) (Or.inl rfl) (m_opb_of (ins := .invokevirtual 26) (len := 3) (tag := 5) (a := 16) (b := 1) (c := 0) (q := 699) (by decide +kernel)) (by decide +kernel) rfl (show m_isO 16 17 (SH, _) = true from m_isO_of (by decide +kernel)) (Nat.le_of_ble_eq_true rfl) rfl rfl (ok_Land_isTown X (d + 0) F _ _ _ _ hc2) ?_
    rcases m_ite h with ⟨c56, h⟩ | ⟨c56, h⟩
    · refine m_R_1 (by decide) (m_opb_of (ins := .ifCond .eq 17) (len := 3) (tag := 0) (a := 30) (b := 0) (c := 0) (q := 0) (by decide +kernel)) (if_pos c56) ?_
      exact ok_Land_between_30 X d F _ _ _ _ _ _ h
    · refine m_R_1 (by decide) (m_opb_of (ins := .ifCond .eq 17) (len := 3) (tag := 0) (a := 30) (b := 0) (c := 0) (q := 0) (by decide +kernel)) (if_neg c56) ?_
      refine m_R_sg (by decide) [(.aload_n 0, 1, 0, 0, 0, 0, 0), (.getfield 9, 3, 0, 2, 0, 3, 231), (.iload_n 1, 1, 0, 1, 0, 0, 0), (.bipush 8, 2, 0, 8, 0, 0, 0), (.imul, 1, 0, 0, 0, 0, 0), (.iload_n 2, 1, 0, 2, 0, 0, 0), (.iadd, 1, 0, 0, 0, 0, 0)] (by decide +kernel) (show m_sgl X _ _ _ _ _ = some (26, [some (.ref 17), some (.int v1), some (.int v2)], [.int ((v1 * (8 : Int32)) + v2), .ref 18], (SH, q2.2.1, q2.2.2)) from rfl) ?_
      obtain ⟨c57, h⟩ := m_ite_n h
      refine m_R_1 (by decide) (m_opb_of (ins := .iaload) (len := 1) (tag := 0) (a := 0) (b := 0) (c := 0) (q := 0) (by decide +kernel)) (m_s_iald sh_18 (by decide) c57) ?_
      refine m_R_sg (by decide) [(.goto 4, 3, 0, 31, 0, 0, 0)] (by decide +kernel) (show m_sgl X _ _ _ _ _ = some (31, [some (.ref 17), some (.int v1), some (.int v2)], [.int (q2.2.1 18 ((v1 * (8 : Int32)) + v2).toNatClampNeg)], (SH, q2.2.1, q2.2.2)) from rfl) ?_
      exact ok_Land_between_31 X d F _ _ _ _ _ _ _ h
def f_x_far_28 (F : Nat)    (m : mM) : Option (Int32 × mM) := ((f_x_refuse F (-3 : Int32) m).bind fun q4 => some (q4.1, q4.2))
theorem ok_x_far_28 (X : mX) (d F : Nat) : ∀  (w1 : Option Value) (w2 : Option Value) (m : mM) (r : Int32) (m' : mM), f_x_far_28 F  m = some (r, m') → m_R X (d + 2) 19 28 [some (.ref 0), w1, w2] [] (SH, m) (some (.int r), (SH, m')) := by
  intro w1 w2 m r m' h
  unfold f_x_far_28 at h
  refine m_R_sg (by decide) [(.aload_n 0, 1, 0, 0, 0, 0, 0), (.bipush (-3), 2, 0, 3, 1, 0, 0)] (by decide +kernel) (show m_sgl X _ _ _ _ _ = some (31, [some (.ref 0), w1, w2], [.int (-3 : Int32), .ref 0], (SH, m.1, m.2)) from rfl) ?_
  obtain ⟨q4, hc4, h⟩ := Option.bind_eq_some_iff.mp h
  refine m_R_cV (v := (some (.int q4.1))) (h1 := (SH, q4.2)) (rest := []) (lo' := [some (.ref 0), some (.int (-3 : Int32))]) (ml := 2) (k0 := 0) (by decide) (Or.inl rfl) (m_opb_of (ins := .invokevirtual 76) (len := 3) (tag := 5) (a := 14) (b := 1) (c := 0) (q := 671) (by decide +kernel)) (by decide +kernel) rfl (show m_isO 14 0 (SH, _) = true from m_isO_of (by decide +kernel)) (Nat.le_of_ble_eq_true rfl) rfl rfl (ok_x_refuse X (d + 1) F _ _ _ _ hc4) ?_
  obtain ⟨rfl, rfl⟩ := m_some h
  exact m_R_iret (by decide) (m_opb_of (ins := .ireturn) (len := 1) (tag := 1) (a := 0) (b := 0) (c := 0) (q := 0) (by decide +kernel)) (Or.inl rfl)
def f_x_far (F : Nat)   (v1 : Int32) (v2 : Int32) (m : mM) : Option (Int32 × mM) := ((f_Land_isTown F v1 m).bind fun q1 => (if q1.1 = 0 then f_x_far_28 F q1.2 else ((f_Land_isTown F v2 q1.2).bind fun q2 => (if q2.1 = 0 then f_x_far_28 F q2.2 else ((f_Land_between F v1 v2 q2.2).bind fun q3 => some (q3.1, q3.2))))))
theorem ok_x_far (X : mX) (d F : Nat) : ∀ (v1 : Int32) (v2 : Int32)  (m : mM) (r : Int32) (m' : mM), f_x_far F v1 v2 m = some (r, m') → m_R X (d + 2) 19 0 [some (.ref 0), some (.int v1), some (.int v2)] [] (SH, m) (some (.int r), (SH, m')) := by
  intro v1 v2 m r m' h
  unfold f_x_far at h
  refine m_R_sg (by decide) [(.aload_n 0, 1, 0, 0, 0, 0, 0), (.getfield 28, 3, 0, 11, 2, 3, 632), (.getfield 67, 3, 0, 10, 0, 3, 504), (.iload_n 1, 1, 0, 1, 0, 0, 0)] (by decide +kernel) (show m_sgl X _ _ _ _ _ = some (8, [some (.ref 0), some (.int v1), some (.int v2)], [.int v1, .ref 17], (SH, m.1, m.2)) from rfl) ?_
  obtain ⟨q1, hc1, h⟩ := Option.bind_eq_some_iff.mp h
  refine m_R_cV (v := (some (.int q1.1))) (h1 := (SH, q1.2)) (rest := []) (lo' := [some (.ref 17), some (.int v1)]) (ml := 2) (k0 := 17) (by decide) (Or.inl rfl) (m_opb_of (ins := .invokevirtual 80) (len := 3) (tag := 5) (a := 16) (b := 1) (c := 0) (q := 679) (by decide +kernel)) (by decide +kernel) rfl (show m_isO 16 17 (SH, _) = true from m_isO_of (by decide +kernel)) (Nat.le_of_ble_eq_true rfl) rfl rfl (ok_Land_isTown X (d + 1) F _ _ _ _ hc1) ?_
  rcases m_ite h with ⟨c58, h⟩ | ⟨c58, h⟩
  · refine m_R_1 (by decide) (m_opb_of (ins := .ifCond .eq 17) (len := 3) (tag := 0) (a := 28) (b := 0) (c := 0) (q := 0) (by decide +kernel)) (if_pos c58) ?_
    exact ok_x_far_28 X d F _ _ _ _ _ h
  · refine m_R_1 (by decide) (m_opb_of (ins := .ifCond .eq 17) (len := 3) (tag := 0) (a := 28) (b := 0) (c := 0) (q := 0) (by decide +kernel)) (if_neg c58) ?_
    refine m_R_sg (by decide) [(.aload_n 0, 1, 0, 0, 0, 0, 0), (.getfield 28, 3, 0, 11, 2, 3, 632), (.getfield 67, 3, 0, 10, 0, 3, 504), (.iload_n 2, 1, 0, 2, 0, 0, 0)] (by decide +kernel) (show m_sgl X _ _ _ _ _ = some (22, [some (.ref 0), some (.int v1), some (.int v2)], [.int v2, .ref 17], (SH, q1.2.1, q1.2.2)) from rfl) ?_
    obtain ⟨q2, hc2, h⟩ := Option.bind_eq_some_iff.mp h
    refine m_R_cV (v := (some (.int q2.1))) (h1 := (SH, q2.2)) (rest := []) (lo' := [some (.ref 17), some (.int v2)]) (ml := 2) (k0 := 17) (by decide) (Or.inl rfl) (m_opb_of (ins := .invokevirtual 80) (len := 3) (tag := 5) (a := 16) (b := 1) (c := 0) (q := 679) (by decide +kernel)) (by decide +kernel) rfl (show m_isO 16 17 (SH, _) = true from m_isO_of (by decide +kernel)) (Nat.le_of_ble_eq_true rfl) rfl rfl (ok_Land_isTown X (d + 1) F _ _ _ _ hc2) ?_
    rcases m_ite h with ⟨c59, h⟩ | ⟨c59, h⟩
    · refine m_R_1 (by decide) (m_opb_of (ins := .ifCond .ne 10) (len := 3) (tag := 0) (a := 35) (b := 0) (c := 0) (q := 0) (by decide +kernel)) (if_pos c59) ?_
      exact ok_x_far_28 X d F _ _ _ _ _ h
    · refine m_R_1 (by decide) (m_opb_of (ins := .ifCond .ne 10) (len := 3) (tag := 0) (a := 35) (b := 0) (c := 0) (q := 0) (by decide +kernel)) (if_neg c59) ?_
      refine m_R_sg (by decide) [(.aload_n 0, 1, 0, 0, 0, 0, 0), (.getfield 28, 3, 0, 11, 2, 3, 632), (.getfield 67, 3, 0, 10, 0, 3, 504), (.iload_n 1, 1, 0, 1, 0, 0, 0), (.iload_n 2, 1, 0, 2, 0, 0, 0)] (by decide +kernel) (show m_sgl X _ _ _ _ _ = some (44, [some (.ref 0), some (.int v1), some (.int v2)], [.int v2, .int v1, .ref 17], (SH, q2.2.1, q2.2.2)) from rfl) ?_
      obtain ⟨q3, hc3, h⟩ := Option.bind_eq_some_iff.mp h
      refine m_R_cV (v := (some (.int q3.1))) (h1 := (SH, q3.2)) (rest := []) (lo' := [some (.ref 17), some (.int v1), some (.int v2)]) (ml := 3) (k0 := 17) (by decide) (Or.inl rfl) (m_opb_of (ins := .invokevirtual 91) (len := 3) (tag := 5) (a := 20) (b := 2) (c := 0) (q := 695) (by decide +kernel)) (by decide +kernel) rfl (show m_isO 20 17 (SH, _) = true from m_isO_of (by decide +kernel)) (Nat.le_of_ble_eq_true rfl) rfl rfl (ok_Land_between X (d + 0) F _ _ _ _ _ hc3) ?_
      obtain ⟨rfl, rfl⟩ := m_some h
      exact m_R_iret (by decide) (m_opb_of (ins := .ireturn) (len := 1) (tag := 1) (a := 0) (b := 0) (c := 0) (q := 0) (by decide +kernel)) (Or.inl rfl)
def f_m_farOf (F : Nat)   (v1 : Int32) (v2 : Int32) (m : mM) : Option (Int32 × mM) := (if (((64 : Int32) + ((8 : Int32) * v1)) + v2) < 0 ∨ 9732 ≤ (((64 : Int32) + ((8 : Int32) * v1)) + v2).toNatClampNeg then none else some ((m.1 305 (((64 : Int32) + ((8 : Int32) * v1)) + v2).toNatClampNeg), m))
theorem ok_m_farOf (X : mX) (d F : Nat) : ∀ (v1 : Int32) (v2 : Int32)  (m : mM) (r : Int32) (m' : mM), f_m_farOf F v1 v2 m = some (r, m') → m_R X (d + 0) 207 0 [some (.ref 304), some (.int v1), some (.int v2)] [] (SH, m) (some (.int r), (SH, m')) := by
  intro v1 v2 m r m' h
  unfold f_m_farOf at h
  refine m_R_sg (by decide) [(.aload_n 0, 1, 0, 0, 0, 0, 0), (.getfield 13, 3, 0, 12, 1, 3, 1493), (.bipush 64, 2, 0, 64, 0, 0, 0), (.bipush 8, 2, 0, 8, 0, 0, 0), (.iload_n 1, 1, 0, 1, 0, 0, 0), (.imul, 1, 0, 0, 0, 0, 0), (.iadd, 1, 0, 0, 0, 0, 0), (.iload_n 2, 1, 0, 2, 0, 0, 0), (.iadd, 1, 0, 0, 0, 0, 0)] (by decide +kernel) (show m_sgl X _ _ _ _ _ = some (13, [some (.ref 304), some (.int v1), some (.int v2)], [.int (((64 : Int32) + ((8 : Int32) * v1)) + v2), .ref 305], (SH, m.1, m.2)) from rfl) ?_
  obtain ⟨c60, h⟩ := m_ite_n h
  refine m_R_1 (by decide) (m_opb_of (ins := .iaload) (len := 1) (tag := 0) (a := 0) (b := 0) (c := 0) (q := 0) (by decide +kernel)) (m_s_iald sh_305 (by decide) c60) ?_
  obtain ⟨rfl, rfl⟩ := m_some h
  exact m_R_iret (by decide) (m_opb_of (ins := .ireturn) (len := 1) (tag := 1) (a := 0) (b := 0) (c := 0) (q := 0) (by decide +kernel)) (Or.inl rfl)
def f_m_far_16 (F : Nat)    (m : mM) : Option (Int32 × mM) := ((f_m_refuse F (-3 : Int32) m).bind fun q5 => some (q5.1, q5.2))
theorem ok_m_far_16 (X : mX) (d F : Nat) : ∀  (w1 : Option Value) (w2 : Option Value) (m : mM) (r : Int32) (m' : mM), f_m_far_16 F  m = some (r, m') → m_R X (d + 2) 206 16 [some (.ref 304), w1, w2] [] (SH, m) (some (.int r), (SH, m')) := by
  intro w1 w2 m r m' h
  unfold f_m_far_16 at h
  refine m_R_sg (by decide) [(.aload_n 0, 1, 0, 0, 0, 0, 0), (.bipush (-3), 2, 0, 3, 1, 0, 0)] (by decide +kernel) (show m_sgl X _ _ _ _ _ = some (19, [some (.ref 304), w1, w2], [.int (-3 : Int32), .ref 304], (SH, m.1, m.2)) from rfl) ?_
  obtain ⟨q5, hc5, h⟩ := Option.bind_eq_some_iff.mp h
  refine m_R_cV (v := (some (.int q5.1))) (h1 := (SH, q5.2)) (rest := []) (lo' := [some (.ref 304), some (.int (-3 : Int32))]) (ml := 2) (k0 := 304) (by decide) (Or.inl rfl) (m_opb_of (ins := .invokevirtual 61) (len := 3) (tag := 5) (a := 202) (b := 1) (c := 0) (q := 1593) (by decide +kernel)) (by decide +kernel) rfl (show m_isO 202 304 (SH, _) = true from m_isO_of (by decide +kernel)) (Nat.le_of_ble_eq_true rfl) rfl rfl (ok_m_refuse X (d + 1) F _ _ _ _ hc5) ?_
  obtain ⟨rfl, rfl⟩ := m_some h
  exact m_R_iret (by decide) (m_opb_of (ins := .ireturn) (len := 1) (tag := 1) (a := 0) (b := 0) (c := 0) (q := 0) (by decide +kernel)) (Or.inl rfl)
def f_m_far_44 (F : Nat)   (s0 : Int32) (m : mM) : Option (Int32 × mM) := some (s0, m)
theorem ok_m_far_44 (X : mX) (d F : Nat) : ∀ (s0 : Int32) (w0 : Option Value) (w1 : Option Value) (w2 : Option Value) (m : mM) (r : Int32) (m' : mM), f_m_far_44 F s0 m = some (r, m') → m_R X (d + 2) 206 44 [w0, w1, w2] [.int s0] (SH, m) (some (.int r), (SH, m')) := by
  intro s0 w0 w1 w2 m r m' h
  unfold f_m_far_44 at h
  obtain ⟨rfl, rfl⟩ := m_some h
  exact m_R_iret (by decide) (m_opb_of (ins := .ireturn) (len := 1) (tag := 1) (a := 0) (b := 0) (c := 0) (q := 0) (by decide +kernel)) (Or.inl rfl)
def f_m_far (F : Nat)   (v1 : Int32) (v2 : Int32) (m : mM) : Option (Int32 × mM) := ((f_m_isTown F v1 m).bind fun q1 => (if q1.1 = 0 then f_m_far_16 F q1.2 else ((f_m_isTown F v2 q1.2).bind fun q2 => (if q2.1 = 0 then f_m_far_16 F q2.2 else ((f_m_farOf F v1 v2 q2.2).bind fun q3 => (if q3.1 < (999999 : Int32) then ((f_m_farOf F v1 v2 q3.2).bind fun q4 => f_m_far_44 F q4.1 q4.2) else f_m_far_44 F (-1 : Int32) q3.2))))))
theorem ok_m_far (X : mX) (d F : Nat) : ∀ (v1 : Int32) (v2 : Int32)  (m : mM) (r : Int32) (m' : mM), f_m_far F v1 v2 m = some (r, m') → m_R X (d + 2) 206 0 [some (.ref 304), some (.int v1), some (.int v2)] [] (SH, m) (some (.int r), (SH, m')) := by
  intro v1 v2 m r m' h
  unfold f_m_far at h
  refine m_R_sg (by decide) [(.aload_n 0, 1, 0, 0, 0, 0, 0), (.iload_n 1, 1, 0, 1, 0, 0, 0)] (by decide +kernel) (show m_sgl X _ _ _ _ _ = some (2, [some (.ref 304), some (.int v1), some (.int v2)], [.int v1, .ref 304], (SH, m.1, m.2)) from rfl) ?_
  obtain ⟨q1, hc1, h⟩ := Option.bind_eq_some_iff.mp h
  refine m_R_cV (v := (some (.int q1.1))) (h1 := (SH, q1.2)) (rest := []) (lo' := [some (.ref 304), some (.int v1)]) (ml := 2) (k0 := 304) (by decide) (Or.inl rfl) (m_opb_of (ins := .invokevirtual 70) (len := 3) (tag := 5) (a := 205) (b := 1) (c := 0) (q := 1605) (by decide +kernel)) (by decide +kernel) rfl (show m_isO 205 304 (SH, _) = true from m_isO_of (by decide +kernel)) (Nat.le_of_ble_eq_true rfl) rfl rfl (ok_m_isTown X (d + 0) F _ _ _ _ hc1) ?_
  rcases m_ite h with ⟨c61, h⟩ | ⟨c61, h⟩
  · refine m_R_1 (by decide) (m_opb_of (ins := .ifCond .eq 11) (len := 3) (tag := 0) (a := 16) (b := 0) (c := 0) (q := 0) (by decide +kernel)) (if_pos c61) ?_
    exact ok_m_far_16 X d F _ _ _ _ _ h
  · refine m_R_1 (by decide) (m_opb_of (ins := .ifCond .eq 11) (len := 3) (tag := 0) (a := 16) (b := 0) (c := 0) (q := 0) (by decide +kernel)) (if_neg c61) ?_
    refine m_R_sg (by decide) [(.aload_n 0, 1, 0, 0, 0, 0, 0), (.iload_n 2, 1, 0, 2, 0, 0, 0)] (by decide +kernel) (show m_sgl X _ _ _ _ _ = some (10, [some (.ref 304), some (.int v1), some (.int v2)], [.int v2, .ref 304], (SH, q1.2.1, q1.2.2)) from rfl) ?_
    obtain ⟨q2, hc2, h⟩ := Option.bind_eq_some_iff.mp h
    refine m_R_cV (v := (some (.int q2.1))) (h1 := (SH, q2.2)) (rest := []) (lo' := [some (.ref 304), some (.int v2)]) (ml := 2) (k0 := 304) (by decide) (Or.inl rfl) (m_opb_of (ins := .invokevirtual 70) (len := 3) (tag := 5) (a := 205) (b := 1) (c := 0) (q := 1605) (by decide +kernel)) (by decide +kernel) rfl (show m_isO 205 304 (SH, _) = true from m_isO_of (by decide +kernel)) (Nat.le_of_ble_eq_true rfl) rfl rfl (ok_m_isTown X (d + 0) F _ _ _ _ hc2) ?_
    rcases m_ite h with ⟨c62, h⟩ | ⟨c62, h⟩
    · refine m_R_1 (by decide) (m_opb_of (ins := .ifCond .ne 10) (len := 3) (tag := 0) (a := 23) (b := 0) (c := 0) (q := 0) (by decide +kernel)) (if_pos c62) ?_
      exact ok_m_far_16 X d F _ _ _ _ _ h
    · refine m_R_1 (by decide) (m_opb_of (ins := .ifCond .ne 10) (len := 3) (tag := 0) (a := 23) (b := 0) (c := 0) (q := 0) (by decide +kernel)) (if_neg c62) ?_
      refine m_R_sg (by decide) [(.aload_n 0, 1, 0, 0, 0, 0, 0), (.iload_n 1, 1, 0, 1, 0, 0, 0), (.iload_n 2, 1, 0, 2, 0, 0, 0)] (by decide +kernel) (show m_sgl X _ _ _ _ _ = some (26, [some (.ref 304), some (.int v1), some (.int v2)], [.int v2, .int v1, .ref 304], (SH, q2.2.1, q2.2.2)) from rfl) ?_
      obtain ⟨q3, hc3, h⟩ := Option.bind_eq_some_iff.mp h
      refine m_R_cV (v := (some (.int q3.1))) (h1 := (SH, q3.2)) (rest := []) (lo' := [some (.ref 304), some (.int v1), some (.int v2)]) (ml := 3) (k0 := 304) (by decide) (Or.inl rfl) (m_opb_of (ins := .invokevirtual 74) (len := 3) (tag := 5) (a := 207) (b := 2) (c := 0) (q := 1613) (by decide +kernel)) (by decide +kernel) rfl (show m_isO 207 304 (SH, _) = true from m_isO_of (by decide +kernel)) (Nat.le_of_ble_eq_true rfl) rfl rfl (ok_m_farOf X (d + 1) F _ _ _ _ _ hc3) ?_
      refine m_R_sg (by decide) [(.ldc 69, 2, 0, 999999, 0, 0, 1492)] (by decide +kernel) (show m_sgl X _ _ _ _ _ = some (31, [some (.ref 304), some (.int v1), some (.int v2)], [.int (999999 : Int32), .int q3.1], (SH, q3.2.1, q3.2.2)) from rfl) ?_
      rcases m_ite h with ⟨c63, h⟩ | ⟨c63, h⟩
      · refine m_R_1 (by decide) (m_opb_of (ins := .if_icmp .lt 7) (len := 3) (tag := 0) (a := 38) (b := 0) (c := 0) (q := 0) (by decide +kernel)) (if_pos c63) ?_
        refine m_R_sg (by decide) [(.aload_n 0, 1, 0, 0, 0, 0, 0), (.iload_n 1, 1, 0, 1, 0, 0, 0), (.iload_n 2, 1, 0, 2, 0, 0, 0)] (by decide +kernel) (show m_sgl X _ _ _ _ _ = some (41, [some (.ref 304), some (.int v1), some (.int v2)], [.int v2, .int v1, .ref 304], (SH, q3.2.1, q3.2.2)) from rfl) ?_
        obtain ⟨q4, hc4, h⟩ := Option.bind_eq_some_iff.mp h
        refine m_R_cV (v := (some (.int q4.1))) (h1 := (SH, q4.2)) (rest := []) (lo' := [some (.ref 304), some (.int v1), some (.int v2)]) (ml := 3) (k0 := 304) (by decide) (Or.inl rfl) (m_opb_of (ins := .invokevirtual 74) (len := 3) (tag := 5) (a := 207) (b := 2) (c := 0) (q := 1613) (by decide +kernel)) (by decide +kernel) rfl (show m_isO 207 304 (SH, _) = true from m_isO_of (by decide +kernel)) (Nat.le_of_ble_eq_true rfl) rfl rfl (ok_m_farOf X (d + 1) F _ _ _ _ _ hc4) ?_
        exact ok_m_far_44 X d F _ _ _ _ _ _ _ h
      · refine m_R_1 (by decide) (m_opb_of (ins := .if_icmp .lt 7) (len := 3) (tag := 0) (a := 38) (b := 0) (c := 0) (q := 0) (by decide +kernel)) (if_neg c63) ?_
        refine m_R_sg (by decide) [(.iconst (-1), 1, 0, 1, 1, 0, 0), (.goto 9, 3, 0, 44, 0, 0, 0)] (by decide +kernel) (show m_sgl X _ _ _ _ _ = some (44, [some (.ref 304), some (.int v1), some (.int v2)], [.int (-1 : Int32)], (SH, q3.2.1, q3.2.2)) from rfl) ?_
        exact ok_m_far_44 X d F _ _ _ _ _ _ _ h
def f_Houses_addHouse_72 (F : Nat)   (v3 : Int32) (m : mM) : Option (Int32 × mM) := some (v3, m)
theorem ok_Houses_addHouse_72 (X : mX) (d F : Nat) : ∀ (v3 : Int32) (w0 : Option Value) (w1 : Option Value) (w2 : Option Value) (m : mM) (r : Int32) (m' : mM), f_Houses_addHouse_72 F v3 m = some (r, m') → m_R X (d + 0) 22 72 [w0, w1, w2, some (.int v3)] [] (SH, m) (some (.int r), (SH, m')) := by
  intro v3 w0 w1 w2 m r m' h
  unfold f_Houses_addHouse_72 at h
  refine m_R_sg (by decide) [(.iload_n 3, 1, 0, 3, 0, 0, 0)] (by decide +kernel) (show m_sgl X _ _ _ _ _ = some (73, [w0, w1, w2, some (.int v3)], [.int v3], (SH, m.1, m.2)) from rfl) ?_
  obtain ⟨rfl, rfl⟩ := m_some h
  exact m_R_iret (by decide) (m_opb_of (ins := .ireturn) (len := 1) (tag := 1) (a := 0) (b := 0) (c := 0) (q := 0) (by decide +kernel)) (Or.inl rfl)
def f_Houses_addHouse_40 (F : Nat)   (v3 : Int32) (m : mM) : Option (Int32 × mM) := (if v3 < 0 ∨ 16 ≤ v3.toNatClampNeg then none else f_Houses_addHouse_72 F v3 ((m_up (m_up (m_up (m_up m.1 25 v3.toNatClampNeg (9 : Int32)) 26 v3.toNatClampNeg (0 : Int32)) 27 v3.toNatClampNeg (-1 : Int32)) 19 11 (((m_up (m_up (m_up m.1 25 v3.toNatClampNeg (9 : Int32)) 26 v3.toNatClampNeg (0 : Int32)) 27 v3.toNatClampNeg (-1 : Int32)) 19 11) + (1 : Int32))), m.2))
theorem ok_Houses_addHouse_40 (X : mX) (d F : Nat) : ∀ (v3 : Int32) (w1 : Option Value) (w2 : Option Value) (m : mM) (r : Int32) (m' : mM), f_Houses_addHouse_40 F v3 m = some (r, m') → m_R X (d + 0) 22 40 [some (.ref 19), w1, w2, some (.int v3)] [] (SH, m) (some (.int r), (SH, m')) := by
  intro v3 w1 w2 m r m' h
  unfold f_Houses_addHouse_40 at h
  refine m_R_sg (by decide) [(.aload_n 0, 1, 0, 0, 0, 0, 0), (.getfield 27, 3, 0, 1, 5, 3, 263), (.iload_n 3, 1, 0, 3, 0, 0, 0), (.bipush 9, 2, 0, 9, 0, 0, 0)] (by decide +kernel) (show m_sgl X _ _ _ _ _ = some (47, [some (.ref 19), w1, w2, some (.int v3)], [.int (9 : Int32), .int v3, .ref 25], (SH, m.1, m.2)) from rfl) ?_
  obtain ⟨c64, h⟩ := m_ite_n h
  refine m_R_1 (by decide) (m_opb_of (ins := .iastore) (len := 1) (tag := 0) (a := 0) (b := 0) (c := 0) (q := 0) (by decide +kernel)) (m_s_iast sh_25 c64) ?_
  refine m_R_sg (by decide) [(.aload_n 0, 1, 0, 0, 0, 0, 0), (.getfield 30, 3, 0, 1, 6, 3, 266), (.iload_n 3, 1, 0, 3, 0, 0, 0), (.iconst 0, 1, 0, 0, 0, 0, 0)] (by decide +kernel) (show m_sgl X _ _ _ _ _ = some (54, [some (.ref 19), w1, w2, some (.int v3)], [.int (0 : Int32), .int v3, .ref 26], (SH, (m_up m.1 25 v3.toNatClampNeg (9 : Int32)), m.2)) from rfl) ?_
  refine m_R_1 (by decide) (m_opb_of (ins := .iastore) (len := 1) (tag := 0) (a := 0) (b := 0) (c := 0) (q := 0) (by decide +kernel)) (m_s_iast sh_26 c64) ?_
  refine m_R_sg (by decide) [(.aload_n 0, 1, 0, 0, 0, 0, 0), (.getfield 33, 3, 0, 1, 7, 3, 269), (.iload_n 3, 1, 0, 3, 0, 0, 0), (.iconst (-1), 1, 0, 1, 1, 0, 0)] (by decide +kernel) (show m_sgl X _ _ _ _ _ = some (61, [some (.ref 19), w1, w2, some (.int v3)], [.int (-1 : Int32), .int v3, .ref 27], (SH, (m_up (m_up m.1 25 v3.toNatClampNeg (9 : Int32)) 26 v3.toNatClampNeg (0 : Int32)), m.2)) from rfl) ?_
  refine m_R_1 (by decide) (m_opb_of (ins := .iastore) (len := 1) (tag := 0) (a := 0) (b := 0) (c := 0) (q := 0) (by decide +kernel)) (m_s_iast sh_27 c64) ?_
  refine m_R_sg (by decide) [(.aload_n 0, 1, 0, 0, 0, 0, 0), (.dup, 1, 0, 0, 0, 0, 0), (.getfield 45, 3, 0, 1, 11, 0, 278), (.iconst 1, 1, 0, 1, 0, 0, 0), (.iadd, 1, 0, 0, 0, 0, 0), (.putfield 45, 3, 0, 1, 11, 0, 278)] (by decide +kernel) (show m_sgl X _ _ _ _ _ = some (72, [some (.ref 19), w1, w2, some (.int v3)], [], (SH, (m_up (m_up (m_up (m_up m.1 25 v3.toNatClampNeg (9 : Int32)) 26 v3.toNatClampNeg (0 : Int32)) 27 v3.toNatClampNeg (-1 : Int32)) 19 11 (((m_up (m_up (m_up m.1 25 v3.toNatClampNeg (9 : Int32)) 26 v3.toNatClampNeg (0 : Int32)) 27 v3.toNatClampNeg (-1 : Int32)) 19 11) + (1 : Int32))), m.2)) from rfl) ?_
  exact ok_Houses_addHouse_72 X d F _ _ _ _ _ _ _ h
def f_Houses_addHouse (F : Nat)   (v1 : Int32) (v2 : Int32) (m : mM) : Option (Int32 × mM) := (if (m.1 19 11) < 0 ∨ 16 ≤ (m.1 19 11).toNatClampNeg then none else f_Houses_addHouse_40 F (m.1 19 11) ((m_up (m_up (m_up (m_up (m_up m.1 20 (m.1 19 11).toNatClampNeg v1) 21 (m.1 19 11).toNatClampNeg v2) 22 (m.1 19 11).toNatClampNeg (0 : Int32)) 23 (m.1 19 11).toNatClampNeg (0 : Int32)) 24 (m.1 19 11).toNatClampNeg (0 : Int32)), m.2))
theorem ok_Houses_addHouse (X : mX) (d F : Nat) : ∀ (v1 : Int32) (v2 : Int32)  (m : mM) (r : Int32) (m' : mM), f_Houses_addHouse F v1 v2 m = some (r, m') → m_R X (d + 0) 22 0 [some (.ref 19), some (.int v1), some (.int v2), none] [] (SH, m) (some (.int r), (SH, m')) := by
  intro v1 v2 m r m' h
  unfold f_Houses_addHouse at h
  refine m_R_sg (by decide) [(.aload_n 0, 1, 0, 0, 0, 0, 0), (.getfield 45, 3, 0, 1, 11, 0, 278), (.istore_n 3, 1, 0, 3, 0, 0, 0), (.aload_n 0, 1, 0, 0, 0, 0, 0), (.getfield 9, 3, 0, 1, 0, 3, 249), (.iload_n 3, 1, 0, 3, 0, 0, 0), (.iload_n 1, 1, 0, 1, 0, 0, 0)] (by decide +kernel) (show m_sgl X _ _ _ _ _ = some (11, [some (.ref 19), some (.int v1), some (.int v2), some (.int (m.1 19 11))], [.int v1, .int (m.1 19 11), .ref 20], (SH, m.1, m.2)) from rfl) ?_
  obtain ⟨c65, h⟩ := m_ite_n h
  refine m_R_1 (by decide) (m_opb_of (ins := .iastore) (len := 1) (tag := 0) (a := 0) (b := 0) (c := 0) (q := 0) (by decide +kernel)) (m_s_iast sh_20 c65) ?_
  refine m_R_sg (by decide) [(.aload_n 0, 1, 0, 0, 0, 0, 0), (.getfield 15, 3, 0, 1, 1, 3, 251), (.iload_n 3, 1, 0, 3, 0, 0, 0), (.iload_n 2, 1, 0, 2, 0, 0, 0)] (by decide +kernel) (show m_sgl X _ _ _ _ _ = some (18, [some (.ref 19), some (.int v1), some (.int v2), some (.int (m.1 19 11))], [.int v2, .int (m.1 19 11), .ref 21], (SH, (m_up m.1 20 (m.1 19 11).toNatClampNeg v1), m.2)) from rfl) ?_
  refine m_R_1 (by decide) (m_opb_of (ins := .iastore) (len := 1) (tag := 0) (a := 0) (b := 0) (c := 0) (q := 0) (by decide +kernel)) (m_s_iast sh_21 c65) ?_
  refine m_R_sg (by decide) [(.aload_n 0, 1, 0, 0, 0, 0, 0), (.getfield 18, 3, 0, 1, 2, 3, 254), (.iload_n 3, 1, 0, 3, 0, 0, 0), (.iconst 0, 1, 0, 0, 0, 0, 0)] (by decide +kernel) (show m_sgl X _ _ _ _ _ = some (25, [some (.ref 19), some (.int v1), some (.int v2), some (.int (m.1 19 11))], [.int (0 : Int32), .int (m.1 19 11), .ref 22], (SH, (m_up (m_up m.1 20 (m.1 19 11).toNatClampNeg v1) 21 (m.1 19 11).toNatClampNeg v2), m.2)) from rfl) ?_
  refine m_R_1 (by decide) (m_opb_of (ins := .iastore) (len := 1) (tag := 0) (a := 0) (b := 0) (c := 0) (q := 0) (by decide +kernel)) (m_s_iast sh_22 c65) ?_
  refine m_R_sg (by decide) [(.aload_n 0, 1, 0, 0, 0, 0, 0), (.getfield 21, 3, 0, 1, 3, 3, 257), (.iload_n 3, 1, 0, 3, 0, 0, 0), (.iconst 0, 1, 0, 0, 0, 0, 0)] (by decide +kernel) (show m_sgl X _ _ _ _ _ = some (32, [some (.ref 19), some (.int v1), some (.int v2), some (.int (m.1 19 11))], [.int (0 : Int32), .int (m.1 19 11), .ref 23], (SH, (m_up (m_up (m_up m.1 20 (m.1 19 11).toNatClampNeg v1) 21 (m.1 19 11).toNatClampNeg v2) 22 (m.1 19 11).toNatClampNeg (0 : Int32)), m.2)) from rfl) ?_
  refine m_R_1 (by decide) (m_opb_of (ins := .iastore) (len := 1) (tag := 0) (a := 0) (b := 0) (c := 0) (q := 0) (by decide +kernel)) (m_s_iast sh_23 c65) ?_
  refine m_R_sg (by decide) [(.aload_n 0, 1, 0, 0, 0, 0, 0), (.getfield 24, 3, 0, 1, 4, 3, 260), (.iload_n 3, 1, 0, 3, 0, 0, 0), (.iconst 0, 1, 0, 0, 0, 0, 0)] (by decide +kernel) (show m_sgl X _ _ _ _ _ = some (39, [some (.ref 19), some (.int v1), some (.int v2), some (.int (m.1 19 11))], [.int (0 : Int32), .int (m.1 19 11), .ref 24], (SH, (m_up (m_up (m_up (m_up m.1 20 (m.1 19 11).toNatClampNeg v1) 21 (m.1 19 11).toNatClampNeg v2) 22 (m.1 19 11).toNatClampNeg (0 : Int32)) 23 (m.1 19 11).toNatClampNeg (0 : Int32)), m.2)) from rfl) ?_
  refine m_R_1 (by decide) (m_opb_of (ins := .iastore) (len := 1) (tag := 0) (a := 0) (b := 0) (c := 0) (q := 0) (by decide +kernel)) (m_s_iast sh_24 c65) ?_
  exact ok_Houses_addHouse_40 X d F _ _ _ _ _ _ h
def f_x_house_37 (F : Nat)   (v1 : Int32) (v2 : Int32) (m : mM) : Option (Int32 × mM) := (if (m.1 19 11) < (16 : Int32) then ((f_Houses_addHouse F v1 v2 m).bind fun q4 => some (q4.1, q4.2)) else ((f_x_refuse F (-8 : Int32) m).bind fun q5 => some (q5.1, q5.2)))
theorem ok_x_house_37 (X : mX) (d F : Nat) : ∀ (v1 : Int32) (v2 : Int32)  (m : mM) (r : Int32) (m' : mM), f_x_house_37 F v1 v2 m = some (r, m') → m_R X (d + 1) 21 37 [some (.ref 0), some (.int v1), some (.int v2)] [] (SH, m) (some (.int r), (SH, m')) := by
  intro v1 v2 m r m' h
  unfold f_x_house_37 at h
  refine m_R_sg (by decide) [(.aload_n 0, 1, 0, 0, 0, 0, 0), (.getfield 28, 3, 0, 11, 2, 3, 632), (.getfield 95, 3, 0, 10, 1, 3, 507), (.getfield 99, 3, 0, 1, 11, 0, 279), (.bipush 16, 2, 0, 16, 0, 0, 0)] (by decide +kernel) (show m_sgl X _ _ _ _ _ = some (49, [some (.ref 0), some (.int v1), some (.int v2)], [.int (16 : Int32), .int (m.1 19 11)], (SH, m.1, m.2)) from rfl) ?_
  rcases m_ite h with ⟨c66, h⟩ | ⟨c66, h⟩
  · refine m_R_1 (by decide) (m_opb_of (ins := .if_icmp .lt 10) (len := 3) (tag := 0) (a := 59) (b := 0) (c := 0) (q := 0) (by decide +kernel)) (if_pos c66) ?_
    refine m_R_sg (by decide) [(.aload_n 0, 1, 0, 0, 0, 0, 0), (.getfield 28, 3, 0, 11, 2, 3, 632), (.getfield 95, 3, 0, 10, 1, 3, 507), (.iload_n 1, 1, 0, 1, 0, 0, 0), (.iload_n 2, 1, 0, 2, 0, 0, 0)] (by decide +kernel) (show m_sgl X _ _ _ _ _ = some (68, [some (.ref 0), some (.int v1), some (.int v2)], [.int v2, .int v1, .ref 19], (SH, m.1, m.2)) from rfl) ?_
    obtain ⟨q4, hc4, h⟩ := Option.bind_eq_some_iff.mp h
    refine m_R_cV (v := (some (.int q4.1))) (h1 := (SH, q4.2)) (rest := []) (lo' := [some (.ref 19), some (.int v1), some (.int v2), none]) (ml := 4) (k0 := 19) (by decide) (Or.inl rfl) (m_opb_of (ins := .invokevirtual 104) (len := 3) (tag := 5) (a := 22) (b := 2) (c := 0) (q := 704) (by decide +kernel)) (by decide +kernel) rfl (show m_isO 22 19 (SH, _) = true from m_isO_of (by decide +kernel)) (Nat.le_of_ble_eq_true rfl) rfl rfl (ok_Houses_addHouse X (d + 0) F _ _ _ _ _ hc4) ?_
    obtain ⟨rfl, rfl⟩ := m_some h
    exact m_R_iret (by decide) (m_opb_of (ins := .ireturn) (len := 1) (tag := 1) (a := 0) (b := 0) (c := 0) (q := 0) (by decide +kernel)) (Or.inl rfl)
  · refine m_R_1 (by decide) (m_opb_of (ins := .if_icmp .lt 10) (len := 3) (tag := 0) (a := 59) (b := 0) (c := 0) (q := 0) (by decide +kernel)) (if_neg c66) ?_
    refine m_R_sg (by decide) [(.aload_n 0, 1, 0, 0, 0, 0, 0), (.bipush (-8), 2, 0, 8, 1, 0, 0)] (by decide +kernel) (show m_sgl X _ _ _ _ _ = some (55, [some (.ref 0), some (.int v1), some (.int v2)], [.int (-8 : Int32), .ref 0], (SH, m.1, m.2)) from rfl) ?_
    obtain ⟨q5, hc5, h⟩ := Option.bind_eq_some_iff.mp h
    refine m_R_cV (v := (some (.int q5.1))) (h1 := (SH, q5.2)) (rest := []) (lo' := [some (.ref 0), some (.int (-8 : Int32))]) (ml := 2) (k0 := 0) (by decide) (Or.inl rfl) (m_opb_of (ins := .invokevirtual 76) (len := 3) (tag := 5) (a := 14) (b := 1) (c := 0) (q := 671) (by decide +kernel)) (by decide +kernel) rfl (show m_isO 14 0 (SH, _) = true from m_isO_of (by decide +kernel)) (Nat.le_of_ble_eq_true rfl) rfl rfl (ok_x_refuse X (d + 0) F _ _ _ _ hc5) ?_
    obtain ⟨rfl, rfl⟩ := m_some h
    exact m_R_iret (by decide) (m_opb_of (ins := .ireturn) (len := 1) (tag := 1) (a := 0) (b := 0) (c := 0) (q := 0) (by decide +kernel)) (Or.inl rfl)
def f_x_house (F : Nat)   (v1 : Int32) (v2 : Int32) (m : mM) : Option (Int32 × mM) := ((f_Land_isTown F v2 m).bind fun q1 => (if q1.1 = 0 then ((f_x_refuse F (-3 : Int32) q1.2).bind fun q2 => some (q2.1, q2.2)) else (if v1 = 0 then f_x_house_37 F v1 v2 q1.2 else (if v1 = (1 : Int32) then f_x_house_37 F v1 v2 q1.2 else ((f_x_refuse F (-5 : Int32) q1.2).bind fun q3 => some (q3.1, q3.2))))))
theorem ok_x_house (X : mX) (d F : Nat) : ∀ (v1 : Int32) (v2 : Int32)  (m : mM) (r : Int32) (m' : mM), f_x_house F v1 v2 m = some (r, m') → m_R X (d + 1) 21 0 [some (.ref 0), some (.int v1), some (.int v2)] [] (SH, m) (some (.int r), (SH, m')) := by
  intro v1 v2 m r m' h
  unfold f_x_house at h
  refine m_R_sg (by decide) [(.aload_n 0, 1, 0, 0, 0, 0, 0), (.getfield 28, 3, 0, 11, 2, 3, 632), (.getfield 67, 3, 0, 10, 0, 3, 504), (.iload_n 2, 1, 0, 2, 0, 0, 0)] (by decide +kernel) (show m_sgl X _ _ _ _ _ = some (8, [some (.ref 0), some (.int v1), some (.int v2)], [.int v2, .ref 17], (SH, m.1, m.2)) from rfl) ?_
  obtain ⟨q1, hc1, h⟩ := Option.bind_eq_some_iff.mp h
  refine m_R_cV (v := (some (.int q1.1))) (h1 := (SH, q1.2)) (rest := []) (lo' := [some (.ref 17), some (.int v2)]) (ml := 2) (k0 := 17) (by decide) (Or.inl rfl) (m_opb_of (ins := .invokevirtual 80) (len := 3) (tag := 5) (a := 16) (b := 1) (c := 0) (q := 679) (by decide +kernel)) (by decide +kernel) rfl (show m_isO 16 17 (SH, _) = true from m_isO_of (by decide +kernel)) (Nat.le_of_ble_eq_true rfl) rfl rfl (ok_Land_isTown X (d + 0) F _ _ _ _ hc1) ?_
  rcases m_ite h with ⟨c67, h⟩ | ⟨c67, h⟩
  · refine m_R_1 (by decide) (m_opb_of (ins := .ifCond .ne 10) (len := 3) (tag := 0) (a := 21) (b := 0) (c := 0) (q := 0) (by decide +kernel)) (if_pos c67) ?_
    refine m_R_sg (by decide) [(.aload_n 0, 1, 0, 0, 0, 0, 0), (.bipush (-3), 2, 0, 3, 1, 0, 0)] (by decide +kernel) (show m_sgl X _ _ _ _ _ = some (17, [some (.ref 0), some (.int v1), some (.int v2)], [.int (-3 : Int32), .ref 0], (SH, q1.2.1, q1.2.2)) from rfl) ?_
    obtain ⟨q2, hc2, h⟩ := Option.bind_eq_some_iff.mp h
    refine m_R_cV (v := (some (.int q2.1))) (h1 := (SH, q2.2)) (rest := []) (lo' := [some (.ref 0), some (.int (-3 : Int32))]) (ml := 2) (k0 := 0) (by decide) (Or.inl rfl) (m_opb_of (ins := .invokevirtual 76) (len := 3) (tag := 5) (a := 14) (b := 1) (c := 0) (q := 671) (by decide +kernel)) (by decide +kernel) rfl (show m_isO 14 0 (SH, _) = true from m_isO_of (by decide +kernel)) (Nat.le_of_ble_eq_true rfl) rfl rfl (ok_x_refuse X (d + 0) F _ _ _ _ hc2) ?_
    obtain ⟨rfl, rfl⟩ := m_some h
    exact m_R_iret (by decide) (m_opb_of (ins := .ireturn) (len := 1) (tag := 1) (a := 0) (b := 0) (c := 0) (q := 0) (by decide +kernel)) (Or.inl rfl)
  · refine m_R_1 (by decide) (m_opb_of (ins := .ifCond .ne 10) (len := 3) (tag := 0) (a := 21) (b := 0) (c := 0) (q := 0) (by decide +kernel)) (if_neg c67) ?_
    refine m_R_sg (by decide) [(.iload_n 1, 1, 0, 1, 0, 0, 0)] (by decide +kernel) (show m_sgl X _ _ _ _ _ = some (22, [some (.ref 0), some (.int v1), some (.int v2)], [.int v1], (SH, q1.2.1, q1.2.2)) from rfl) ?_
    rcases m_ite h with ⟨c68, h⟩ | ⟨c68, h⟩
    · refine m_R_1 (by decide) (m_opb_of (ins := .ifCond .eq 15) (len := 3) (tag := 0) (a := 37) (b := 0) (c := 0) (q := 0) (by decide +kernel)) (if_pos c68) ?_
      exact ok_x_house_37 X d F _ _ _ _ _ h
    · refine m_R_1 (by decide) (m_opb_of (ins := .ifCond .eq 15) (len := 3) (tag := 0) (a := 37) (b := 0) (c := 0) (q := 0) (by decide +kernel)) (if_neg c68) ?_
      refine m_R_sg (by decide) [(.iload_n 1, 1, 0, 1, 0, 0, 0), (.iconst 1, 1, 0, 1, 0, 0, 0)] (by decide +kernel) (show m_sgl X _ _ _ _ _ = some (27, [some (.ref 0), some (.int v1), some (.int v2)], [.int (1 : Int32), .int v1], (SH, q1.2.1, q1.2.2)) from rfl) ?_
      rcases m_ite h with ⟨c69, h⟩ | ⟨c69, h⟩
      · refine m_R_1 (by decide) (m_opb_of (ins := .if_icmp .eq 10) (len := 3) (tag := 0) (a := 37) (b := 0) (c := 0) (q := 0) (by decide +kernel)) (if_pos c69) ?_
        exact ok_x_house_37 X d F _ _ _ _ _ h
      · refine m_R_1 (by decide) (m_opb_of (ins := .if_icmp .eq 10) (len := 3) (tag := 0) (a := 37) (b := 0) (c := 0) (q := 0) (by decide +kernel)) (if_neg c69) ?_
        refine m_R_sg (by decide) [(.aload_n 0, 1, 0, 0, 0, 0, 0), (.bipush (-5), 2, 0, 5, 1, 0, 0)] (by decide +kernel) (show m_sgl X _ _ _ _ _ = some (33, [some (.ref 0), some (.int v1), some (.int v2)], [.int (-5 : Int32), .ref 0], (SH, q1.2.1, q1.2.2)) from rfl) ?_
        obtain ⟨q3, hc3, h⟩ := Option.bind_eq_some_iff.mp h
        refine m_R_cV (v := (some (.int q3.1))) (h1 := (SH, q3.2)) (rest := []) (lo' := [some (.ref 0), some (.int (-5 : Int32))]) (ml := 2) (k0 := 0) (by decide) (Or.inl rfl) (m_opb_of (ins := .invokevirtual 76) (len := 3) (tag := 5) (a := 14) (b := 1) (c := 0) (q := 671) (by decide +kernel)) (by decide +kernel) rfl (show m_isO 14 0 (SH, _) = true from m_isO_of (by decide +kernel)) (Nat.le_of_ble_eq_true rfl) rfl rfl (ok_x_refuse X (d + 0) F _ _ _ _ hc3) ?_
        obtain ⟨rfl, rfl⟩ := m_some h
        exact m_R_iret (by decide) (m_opb_of (ins := .ireturn) (len := 1) (tag := 1) (a := 0) (b := 0) (c := 0) (q := 0) (by decide +kernel)) (Or.inl rfl)
def f_m_house_127 (F : Nat)    (m : mM) : Option (Int32 × mM) := some ((((m_up m.1 305 (2 : Int32).toNatClampNeg ((m.1 305 (2 : Int32).toNatClampNeg) + (1 : Int32))) 305 (2 : Int32).toNatClampNeg) - (1 : Int32)), ((m_up m.1 305 (2 : Int32).toNatClampNeg ((m.1 305 (2 : Int32).toNatClampNeg) + (1 : Int32))), m.2))
theorem ok_m_house_127 (X : mX) (d F : Nat) : ∀  (w1 : Option Value) (w2 : Option Value) (w3 : Option Value) (w4 : Option Value) (m : mM) (r : Int32) (m' : mM), f_m_house_127 F  m = some (r, m') → m_R X (d + 2) 208 127 [some (.ref 304), w1, w2, w3, w4] [] (SH, m) (some (.int r), (SH, m')) := by
  intro w1 w2 w3 w4 m r m' h
  unfold f_m_house_127 at h
  refine m_R_sg (by decide) [(.aload_n 0, 1, 0, 0, 0, 0, 0), (.getfield 13, 3, 0, 12, 1, 3, 1493), (.iconst 2, 1, 0, 2, 0, 0, 0), (.dup2, 1, 0, 0, 0, 0, 0)] (by decide +kernel) (show m_sgl X _ _ _ _ _ = some (133, [some (.ref 304), w1, w2, w3, w4], [.int (2 : Int32), .ref 305, .int (2 : Int32), .ref 305], (SH, m.1, m.2)) from rfl) ?_
  refine m_R_1 (by decide) (m_opb_of (ins := .iaload) (len := 1) (tag := 0) (a := 0) (b := 0) (c := 0) (q := 0) (by decide +kernel)) (m_s_iald sh_305 (by decide) (show ¬ ((2 : Int32) < 0 ∨ 9732 ≤ (2 : Int32).toNatClampNeg) by decide)) ?_
  refine m_R_sg (by decide) [(.iconst 1, 1, 0, 1, 0, 0, 0), (.iadd, 1, 0, 0, 0, 0, 0)] (by decide +kernel) (show m_sgl X _ _ _ _ _ = some (136, [some (.ref 304), w1, w2, w3, w4], [.int ((m.1 305 (2 : Int32).toNatClampNeg) + (1 : Int32)), .int (2 : Int32), .ref 305], (SH, m.1, m.2)) from rfl) ?_
  refine m_R_1 (by decide) (m_opb_of (ins := .iastore) (len := 1) (tag := 0) (a := 0) (b := 0) (c := 0) (q := 0) (by decide +kernel)) (m_s_iast sh_305 (show ¬ ((2 : Int32) < 0 ∨ 9732 ≤ (2 : Int32).toNatClampNeg) by decide)) ?_
  refine m_R_sg (by decide) [(.aload_n 0, 1, 0, 0, 0, 0, 0), (.getfield 13, 3, 0, 12, 1, 3, 1493), (.iconst 2, 1, 0, 2, 0, 0, 0)] (by decide +kernel) (show m_sgl X _ _ _ _ _ = some (142, [some (.ref 304), w1, w2, w3, w4], [.int (2 : Int32), .ref 305], (SH, (m_up m.1 305 (2 : Int32).toNatClampNeg ((m.1 305 (2 : Int32).toNatClampNeg) + (1 : Int32))), m.2)) from rfl) ?_
  refine m_R_1 (by decide) (m_opb_of (ins := .iaload) (len := 1) (tag := 0) (a := 0) (b := 0) (c := 0) (q := 0) (by decide +kernel)) (m_s_iald sh_305 (by decide) (show ¬ ((2 : Int32) < 0 ∨ 9732 ≤ (2 : Int32).toNatClampNeg) by decide)) ?_
  refine m_R_sg (by decide) [(.iconst 1, 1, 0, 1, 0, 0, 0), (.isub, 1, 0, 0, 0, 0, 0)] (by decide +kernel) (show m_sgl X _ _ _ _ _ = some (145, [some (.ref 304), w1, w2, w3, w4], [.int (((m_up m.1 305 (2 : Int32).toNatClampNeg ((m.1 305 (2 : Int32).toNatClampNeg) + (1 : Int32))) 305 (2 : Int32).toNatClampNeg) - (1 : Int32))], (SH, (m_up m.1 305 (2 : Int32).toNatClampNeg ((m.1 305 (2 : Int32).toNatClampNeg) + (1 : Int32))), m.2)) from rfl) ?_
  obtain ⟨rfl, rfl⟩ := m_some h
  exact m_R_iret (by decide) (m_opb_of (ins := .ireturn) (len := 1) (tag := 1) (a := 0) (b := 0) (c := 0) (q := 0) (by decide +kernel)) (Or.inl rfl)
def f_m_house_66 (F : Nat)   : Nat → Int32 → Int32 → Int32 → Int32 → mM → Option (Int32 × mM)
  | 0, _, _, _, _, _ => none
  | n + 1, v1, v2, v3, v4, m => (if (12 : Int32) ≤ v4 then (if (v3 + (0 : Int32)) < 0 ∨ 9732 ≤ (v3 + (0 : Int32)).toNatClampNeg then none else (if (v3 + (1 : Int32)) < 0 ∨ 9732 ≤ (v3 + (1 : Int32)).toNatClampNeg then none else (if (v3 + (3 : Int32)) < 0 ∨ 9732 ≤ (v3 + (3 : Int32)).toNatClampNeg then none else (if (v3 + (6 : Int32)) < 0 ∨ 9732 ≤ (v3 + (6 : Int32)).toNatClampNeg then none else f_m_house_127 F ((m_up (m_up (m_up (m_up m.1 305 (v3 + (0 : Int32)).toNatClampNeg v1) 305 (v3 + (1 : Int32)).toNatClampNeg v2) 305 (v3 + (3 : Int32)).toNatClampNeg (1 : Int32)) 305 (v3 + (6 : Int32)).toNatClampNeg (9 : Int32)), m.2))))) else (if (v3 + v4) < 0 ∨ 9732 ≤ (v3 + v4).toNatClampNeg then none else f_m_house_66 F n v1 v2 v3 (v4 + (1 : Int32)) ((m_up m.1 305 (v3 + v4).toNatClampNeg (0 : Int32)), m.2)))
theorem ok_m_house_66 (X : mX) (d F : Nat) : ∀ (n : Nat) (v1 : Int32) (v2 : Int32) (v3 : Int32) (v4 : Int32)  (m : mM) (r : Int32) (m' : mM), f_m_house_66 F n v1 v2 v3 v4 m = some (r, m') → m_R X (d + 2) 208 66 [some (.ref 304), some (.int v1), some (.int v2), some (.int v3), some (.int v4)] [] (SH, m) (some (.int r), (SH, m')) := by
  intro n
  induction n with
  | zero => intro v1 v2 v3 v4 m r m' h; cases h
  | succ n ih =>
    intro v1 v2 v3 v4 m r m' h
    simp only [f_m_house_66] at h
    refine m_R_sg (by decide) [(.iload 4, 2, 0, 4, 0, 0, 0), (.bipush 12, 2, 0, 12, 0, 0, 0)] (by decide +kernel) (show m_sgl X _ _ _ _ _ = some (70, [some (.ref 304), some (.int v1), some (.int v2), some (.int v3), some (.int v4)], [.int (12 : Int32), .int v4], (SH, m.1, m.2)) from rfl) ?_
    rcases m_ite h with ⟨c70, h⟩ | ⟨c70, h⟩
    · refine m_R_1 (by decide) (m_opb_of (ins := .if_icmp .ge 19) (len := 3) (tag := 0) (a := 89) (b := 0) (c := 0) (q := 0) (by decide +kernel)) (if_pos c70) ?_
      refine m_R_sg (by decide) [(.aload_n 0, 1, 0, 0, 0, 0, 0), (.getfield 13, 3, 0, 12, 1, 3, 1493), (.iload_n 3, 1, 0, 3, 0, 0, 0), (.iconst 0, 1, 0, 0, 0, 0, 0), (.iadd, 1, 0, 0, 0, 0, 0), (.iload_n 1, 1, 0, 1, 0, 0, 0)] (by decide +kernel) (show m_sgl X _ _ _ _ _ = some (97, [some (.ref 304), some (.int v1), some (.int v2), some (.int v3), some (.int v4)], [.int v1, .int (v3 + (0 : Int32)), .ref 305], (SH, m.1, m.2)) from rfl) ?_
      obtain ⟨c71, h⟩ := m_ite_n h
      refine m_R_1 (by decide) (m_opb_of (ins := .iastore) (len := 1) (tag := 0) (a := 0) (b := 0) (c := 0) (q := 0) (by decide +kernel)) (m_s_iast sh_305 c71) ?_
      refine m_R_sg (by decide) [(.aload_n 0, 1, 0, 0, 0, 0, 0), (.getfield 13, 3, 0, 12, 1, 3, 1493), (.iload_n 3, 1, 0, 3, 0, 0, 0), (.iconst 1, 1, 0, 1, 0, 0, 0), (.iadd, 1, 0, 0, 0, 0, 0), (.iload_n 2, 1, 0, 2, 0, 0, 0)] (by decide +kernel) (show m_sgl X _ _ _ _ _ = some (106, [some (.ref 304), some (.int v1), some (.int v2), some (.int v3), some (.int v4)], [.int v2, .int (v3 + (1 : Int32)), .ref 305], (SH, (m_up m.1 305 (v3 + (0 : Int32)).toNatClampNeg v1), m.2)) from rfl) ?_
      obtain ⟨c72, h⟩ := m_ite_n h
      refine m_R_1 (by decide) (m_opb_of (ins := .iastore) (len := 1) (tag := 0) (a := 0) (b := 0) (c := 0) (q := 0) (by decide +kernel)) (m_s_iast sh_305 c72) ?_
      refine m_R_sg (by decide) [(.aload_n 0, 1, 0, 0, 0, 0, 0), (.getfield 13, 3, 0, 12, 1, 3, 1493), (.iload_n 3, 1, 0, 3, 0, 0, 0), (.iconst 3, 1, 0, 3, 0, 0, 0), (.iadd, 1, 0, 0, 0, 0, 0), (.iconst 1, 1, 0, 1, 0, 0, 0)] (by decide +kernel) (show m_sgl X _ _ _ _ _ = some (115, [some (.ref 304), some (.int v1), some (.int v2), some (.int v3), some (.int v4)], [.int (1 : Int32), .int (v3 + (3 : Int32)), .ref 305], (SH, (m_up (m_up m.1 305 (v3 + (0 : Int32)).toNatClampNeg v1) 305 (v3 + (1 : Int32)).toNatClampNeg v2), m.2)) from rfl) ?_
      obtain ⟨c73, h⟩ := m_ite_n h
      refine m_R_1 (by decide) (m_opb_of (ins := .iastore) (len := 1) (tag := 0) (a := 0) (b := 0) (c := 0) (q := 0) (by decide +kernel)) (m_s_iast sh_305 c73) ?_
      refine m_R_sg (by decide) [(.aload_n 0, 1, 0, 0, 0, 0, 0), (.getfield 13, 3, 0, 12, 1, 3, 1493), (.iload_n 3, 1, 0, 3, 0, 0, 0), (.bipush 6, 2, 0, 6, 0, 0, 0), (.iadd, 1, 0, 0, 0, 0, 0), (.bipush 9, 2, 0, 9, 0, 0, 0)] (by decide +kernel) (show m_sgl X _ _ _ _ _ = some (126, [some (.ref 304), some (.int v1), some (.int v2), some (.int v3), some (.int v4)], [.int (9 : Int32), .int (v3 + (6 : Int32)), .ref 305], (SH, (m_up (m_up (m_up m.1 305 (v3 + (0 : Int32)).toNatClampNeg v1) 305 (v3 + (1 : Int32)).toNatClampNeg v2) 305 (v3 + (3 : Int32)).toNatClampNeg (1 : Int32)), m.2)) from rfl) ?_
      obtain ⟨c74, h⟩ := m_ite_n h
      refine m_R_1 (by decide) (m_opb_of (ins := .iastore) (len := 1) (tag := 0) (a := 0) (b := 0) (c := 0) (q := 0) (by decide +kernel)) (m_s_iast sh_305 c74) ?_
      exact ok_m_house_127 X d F _ _ _ _ _ _ _ h
    · refine m_R_1 (by decide) (m_opb_of (ins := .if_icmp .ge 19) (len := 3) (tag := 0) (a := 89) (b := 0) (c := 0) (q := 0) (by decide +kernel)) (if_neg c70) ?_
      refine m_R_sg (by decide) [(.aload_n 0, 1, 0, 0, 0, 0, 0), (.getfield 13, 3, 0, 12, 1, 3, 1493), (.iload_n 3, 1, 0, 3, 0, 0, 0), (.iload 4, 2, 0, 4, 0, 0, 0), (.iadd, 1, 0, 0, 0, 0, 0), (.iconst 0, 1, 0, 0, 0, 0, 0)] (by decide +kernel) (show m_sgl X _ _ _ _ _ = some (82, [some (.ref 304), some (.int v1), some (.int v2), some (.int v3), some (.int v4)], [.int (0 : Int32), .int (v3 + v4), .ref 305], (SH, m.1, m.2)) from rfl) ?_
      obtain ⟨c75, h⟩ := m_ite_n h
      refine m_R_1 (by decide) (m_opb_of (ins := .iastore) (len := 1) (tag := 0) (a := 0) (b := 0) (c := 0) (q := 0) (by decide +kernel)) (m_s_iast sh_305 c75) ?_
      refine m_R_sg (by decide) [(.iinc 4 1, 3, 0, 4, 1, 0, 0), (.goto (-20), 3, 0, 66, 0, 0, 0)] (by decide +kernel) (show m_sgl X _ _ _ _ _ = some (66, [some (.ref 304), some (.int v1), some (.int v2), some (.int v3), some (.int (v4 + (1 : Int32)))], [], (SH, (m_up m.1 305 (v3 + v4).toNatClampNeg (0 : Int32)), m.2)) from rfl) ?_
      exact ih _ _ _ _ _ _ _ h
def f_m_house_31 (F : Nat)   (v1 : Int32) (v2 : Int32) (m : mM) : Option (Int32 × mM) := (if (m.1 305 (2 : Int32).toNatClampNeg) = (16 : Int32) then ((f_m_refuse F (-8 : Int32) m).bind fun q4 => some (q4.1, q4.2)) else f_m_house_66 F F v1 v2 ((128 : Int32) + ((12 : Int32) * (m.1 305 (2 : Int32).toNatClampNeg))) (0 : Int32) m)
theorem ok_m_house_31 (X : mX) (d F : Nat) : ∀ (v1 : Int32) (v2 : Int32) (w3 : Option Value) (w4 : Option Value) (m : mM) (r : Int32) (m' : mM), f_m_house_31 F v1 v2 m = some (r, m') → m_R X (d + 2) 208 31 [some (.ref 304), some (.int v1), some (.int v2), w3, w4] [] (SH, m) (some (.int r), (SH, m')) := by
  intro v1 v2 w3 w4 m r m' h
  unfold f_m_house_31 at h
  refine m_R_sg (by decide) [(.aload_n 0, 1, 0, 0, 0, 0, 0), (.getfield 13, 3, 0, 12, 1, 3, 1493), (.iconst 2, 1, 0, 2, 0, 0, 0)] (by decide +kernel) (show m_sgl X _ _ _ _ _ = some (36, [some (.ref 304), some (.int v1), some (.int v2), w3, w4], [.int (2 : Int32), .ref 305], (SH, m.1, m.2)) from rfl) ?_
  refine m_R_1 (by decide) (m_opb_of (ins := .iaload) (len := 1) (tag := 0) (a := 0) (b := 0) (c := 0) (q := 0) (by decide +kernel)) (m_s_iald sh_305 (by decide) (show ¬ ((2 : Int32) < 0 ∨ 9732 ≤ (2 : Int32).toNatClampNeg) by decide)) ?_
  refine m_R_sg (by decide) [(.bipush 16, 2, 0, 16, 0, 0, 0)] (by decide +kernel) (show m_sgl X _ _ _ _ _ = some (39, [some (.ref 304), some (.int v1), some (.int v2), w3, w4], [.int (16 : Int32), .int (m.1 305 (2 : Int32).toNatClampNeg)], (SH, m.1, m.2)) from rfl) ?_
  rcases m_ite h with ⟨c76, h⟩ | ⟨c76, h⟩
  · refine m_R_1 (by decide) (m_opb_of (ins := .if_icmp .ne 10) (len := 3) (tag := 0) (a := 49) (b := 0) (c := 0) (q := 0) (by decide +kernel)) (if_pos c76) ?_
    refine m_R_sg (by decide) [(.aload_n 0, 1, 0, 0, 0, 0, 0), (.bipush (-8), 2, 0, 8, 1, 0, 0)] (by decide +kernel) (show m_sgl X _ _ _ _ _ = some (45, [some (.ref 304), some (.int v1), some (.int v2), w3, w4], [.int (-8 : Int32), .ref 304], (SH, m.1, m.2)) from rfl) ?_
    obtain ⟨q4, hc4, h⟩ := Option.bind_eq_some_iff.mp h
    refine m_R_cV (v := (some (.int q4.1))) (h1 := (SH, q4.2)) (rest := []) (lo' := [some (.ref 304), some (.int (-8 : Int32))]) (ml := 2) (k0 := 304) (by decide) (Or.inl rfl) (m_opb_of (ins := .invokevirtual 61) (len := 3) (tag := 5) (a := 202) (b := 1) (c := 0) (q := 1593) (by decide +kernel)) (by decide +kernel) rfl (show m_isO 202 304 (SH, _) = true from m_isO_of (by decide +kernel)) (Nat.le_of_ble_eq_true rfl) rfl rfl (ok_m_refuse X (d + 1) F _ _ _ _ hc4) ?_
    obtain ⟨rfl, rfl⟩ := m_some h
    exact m_R_iret (by decide) (m_opb_of (ins := .ireturn) (len := 1) (tag := 1) (a := 0) (b := 0) (c := 0) (q := 0) (by decide +kernel)) (Or.inl rfl)
  · refine m_R_1 (by decide) (m_opb_of (ins := .if_icmp .ne 10) (len := 3) (tag := 0) (a := 49) (b := 0) (c := 0) (q := 0) (by decide +kernel)) (if_neg c76) ?_
    refine m_R_sg (by decide) [(.sipush 128, 3, 0, 128, 0, 0, 0), (.bipush 12, 2, 0, 12, 0, 0, 0), (.aload_n 0, 1, 0, 0, 0, 0, 0), (.getfield 13, 3, 0, 12, 1, 3, 1493), (.iconst 2, 1, 0, 2, 0, 0, 0)] (by decide +kernel) (show m_sgl X _ _ _ _ _ = some (59, [some (.ref 304), some (.int v1), some (.int v2), w3, w4], [.int (2 : Int32), .ref 305, .int (12 : Int32), .int (128 : Int32)], (SH, m.1, m.2)) from rfl) ?_
    refine m_R_1 (by decide) (m_opb_of (ins := .iaload) (len := 1) (tag := 0) (a := 0) (b := 0) (c := 0) (q := 0) (by decide +kernel)) (m_s_iald sh_305 (by decide) (show ¬ ((2 : Int32) < 0 ∨ 9732 ≤ (2 : Int32).toNatClampNeg) by decide)) ?_
    refine m_R_sg (by decide) [(.imul, 1, 0, 0, 0, 0, 0), (.iadd, 1, 0, 0, 0, 0, 0), (.istore_n 3, 1, 0, 3, 0, 0, 0), (.iconst 0, 1, 0, 0, 0, 0, 0), (.istore 4, 2, 0, 4, 0, 0, 0)] (by decide +kernel) (show m_sgl X _ _ _ _ _ = some (66, [some (.ref 304), some (.int v1), some (.int v2), some (.int ((128 : Int32) + ((12 : Int32) * (m.1 305 (2 : Int32).toNatClampNeg)))), some (.int (0 : Int32))], [], (SH, m.1, m.2)) from rfl) ?_
    exact ok_m_house_66 X d F F _ _ _ _ _ _ _ h
def f_m_house (F : Nat)   (v1 : Int32) (v2 : Int32) (m : mM) : Option (Int32 × mM) := ((f_m_isTown F v2 m).bind fun q1 => (if q1.1 = 0 then ((f_m_refuse F (-3 : Int32) q1.2).bind fun q2 => some (q2.1, q2.2)) else (if v1 = 0 then f_m_house_31 F v1 v2 q1.2 else (if v1 = (1 : Int32) then f_m_house_31 F v1 v2 q1.2 else ((f_m_refuse F (-5 : Int32) q1.2).bind fun q3 => some (q3.1, q3.2))))))
theorem ok_m_house (X : mX) (d F : Nat) : ∀ (v1 : Int32) (v2 : Int32)  (m : mM) (r : Int32) (m' : mM), f_m_house F v1 v2 m = some (r, m') → m_R X (d + 2) 208 0 [some (.ref 304), some (.int v1), some (.int v2), none, none] [] (SH, m) (some (.int r), (SH, m')) := by
  intro v1 v2 m r m' h
  unfold f_m_house at h
  refine m_R_sg (by decide) [(.aload_n 0, 1, 0, 0, 0, 0, 0), (.iload_n 2, 1, 0, 2, 0, 0, 0)] (by decide +kernel) (show m_sgl X _ _ _ _ _ = some (2, [some (.ref 304), some (.int v1), some (.int v2), none, none], [.int v2, .ref 304], (SH, m.1, m.2)) from rfl) ?_
  obtain ⟨q1, hc1, h⟩ := Option.bind_eq_some_iff.mp h
  refine m_R_cV (v := (some (.int q1.1))) (h1 := (SH, q1.2)) (rest := []) (lo' := [some (.ref 304), some (.int v2)]) (ml := 2) (k0 := 304) (by decide) (Or.inl rfl) (m_opb_of (ins := .invokevirtual 70) (len := 3) (tag := 5) (a := 205) (b := 1) (c := 0) (q := 1605) (by decide +kernel)) (by decide +kernel) rfl (show m_isO 205 304 (SH, _) = true from m_isO_of (by decide +kernel)) (Nat.le_of_ble_eq_true rfl) rfl rfl (ok_m_isTown X (d + 0) F _ _ _ _ hc1) ?_
  rcases m_ite h with ⟨c77, h⟩ | ⟨c77, h⟩
  · refine m_R_1 (by decide) (m_opb_of (ins := .ifCond .ne 10) (len := 3) (tag := 0) (a := 15) (b := 0) (c := 0) (q := 0) (by decide +kernel)) (if_pos c77) ?_
    refine m_R_sg (by decide) [(.aload_n 0, 1, 0, 0, 0, 0, 0), (.bipush (-3), 2, 0, 3, 1, 0, 0)] (by decide +kernel) (show m_sgl X _ _ _ _ _ = some (11, [some (.ref 304), some (.int v1), some (.int v2), none, none], [.int (-3 : Int32), .ref 304], (SH, q1.2.1, q1.2.2)) from rfl) ?_
    obtain ⟨q2, hc2, h⟩ := Option.bind_eq_some_iff.mp h
    refine m_R_cV (v := (some (.int q2.1))) (h1 := (SH, q2.2)) (rest := []) (lo' := [some (.ref 304), some (.int (-3 : Int32))]) (ml := 2) (k0 := 304) (by decide) (Or.inl rfl) (m_opb_of (ins := .invokevirtual 61) (len := 3) (tag := 5) (a := 202) (b := 1) (c := 0) (q := 1593) (by decide +kernel)) (by decide +kernel) rfl (show m_isO 202 304 (SH, _) = true from m_isO_of (by decide +kernel)) (Nat.le_of_ble_eq_true rfl) rfl rfl (ok_m_refuse X (d + 1) F _ _ _ _ hc2) ?_
    obtain ⟨rfl, rfl⟩ := m_some h
    exact m_R_iret (by decide) (m_opb_of (ins := .ireturn) (len := 1) (tag := 1) (a := 0) (b := 0) (c := 0) (q := 0) (by decide +kernel)) (Or.inl rfl)
  · refine m_R_1 (by decide) (m_opb_of (ins := .ifCond .ne 10) (len := 3) (tag := 0) (a := 15) (b := 0) (c := 0) (q := 0) (by decide +kernel)) (if_neg c77) ?_
    refine m_R_sg (by decide) [(.iload_n 1, 1, 0, 1, 0, 0, 0)] (by decide +kernel) (show m_sgl X _ _ _ _ _ = some (16, [some (.ref 304), some (.int v1), some (.int v2), none, none], [.int v1], (SH, q1.2.1, q1.2.2)) from rfl) ?_
    rcases m_ite h with ⟨c78, h⟩ | ⟨c78, h⟩
    · refine m_R_1 (by decide) (m_opb_of (ins := .ifCond .eq 15) (len := 3) (tag := 0) (a := 31) (b := 0) (c := 0) (q := 0) (by decide +kernel)) (if_pos c78) ?_
      exact ok_m_house_31 X d F _ _ _ _ _ _ _ h
    · refine m_R_1 (by decide) (m_opb_of (ins := .ifCond .eq 15) (len := 3) (tag := 0) (a := 31) (b := 0) (c := 0) (q := 0) (by decide +kernel)) (if_neg c78) ?_
      refine m_R_sg (by decide) [(.iload_n 1, 1, 0, 1, 0, 0, 0), (.iconst 1, 1, 0, 1, 0, 0, 0)] (by decide +kernel) (show m_sgl X _ _ _ _ _ = some (21, [some (.ref 304), some (.int v1), some (.int v2), none, none], [.int (1 : Int32), .int v1], (SH, q1.2.1, q1.2.2)) from rfl) ?_
      rcases m_ite h with ⟨c79, h⟩ | ⟨c79, h⟩
      · refine m_R_1 (by decide) (m_opb_of (ins := .if_icmp .eq 10) (len := 3) (tag := 0) (a := 31) (b := 0) (c := 0) (q := 0) (by decide +kernel)) (if_pos c79) ?_
        exact ok_m_house_31 X d F _ _ _ _ _ _ _ h
      · refine m_R_1 (by decide) (m_opb_of (ins := .if_icmp .eq 10) (len := 3) (tag := 0) (a := 31) (b := 0) (c := 0) (q := 0) (by decide +kernel)) (if_neg c79) ?_
        refine m_R_sg (by decide) [(.aload_n 0, 1, 0, 0, 0, 0, 0), (.bipush (-5), 2, 0, 5, 1, 0, 0)] (by decide +kernel) (show m_sgl X _ _ _ _ _ = some (27, [some (.ref 304), some (.int v1), some (.int v2), none, none], [.int (-5 : Int32), .ref 304], (SH, q1.2.1, q1.2.2)) from rfl) ?_
        obtain ⟨q3, hc3, h⟩ := Option.bind_eq_some_iff.mp h
        refine m_R_cV (v := (some (.int q3.1))) (h1 := (SH, q3.2)) (rest := []) (lo' := [some (.ref 304), some (.int (-5 : Int32))]) (ml := 2) (k0 := 304) (by decide) (Or.inl rfl) (m_opb_of (ins := .invokevirtual 61) (len := 3) (tag := 5) (a := 202) (b := 1) (c := 0) (q := 1593) (by decide +kernel)) (by decide +kernel) rfl (show m_isO 202 304 (SH, _) = true from m_isO_of (by decide +kernel)) (Nat.le_of_ble_eq_true rfl) rfl rfl (ok_m_refuse X (d + 1) F _ _ _ _ hc3) ?_
        obtain ⟨rfl, rfl⟩ := m_some h
        exact m_R_iret (by decide) (m_opb_of (ins := .ireturn) (len := 1) (tag := 1) (a := 0) (b := 0) (c := 0) (q := 0) (by decide +kernel)) (Or.inl rfl)
def f_Houses_isHouse_17 (F : Nat)   (s0 : Int32) (m : mM) : Option (Int32 × mM) := (if s0 = 0 ∨ s0 = 1 then some (s0, m) else none)
theorem ok_Houses_isHouse_17 (X : mX) (d F : Nat) : ∀ (s0 : Int32) (w0 : Option Value) (w1 : Option Value) (m : mM) (r : Int32) (m' : mM), f_Houses_isHouse_17 F s0 m = some (r, m') → m_R X (d + 0) 24 17 [w0, w1] [.int s0] (SH, m) (some (.int r), (SH, m')) := by
  intro s0 w0 w1 m r m' h
  unfold f_Houses_isHouse_17 at h
  obtain ⟨c0, h⟩ := m_ite_p h
  obtain ⟨rfl, rfl⟩ := m_some h
  exact m_R_iret (by decide) (m_opb_of (ins := .ireturn) (len := 1) (tag := 1) (a := 1) (b := 0) (c := 0) (q := 0) (by decide +kernel)) (Or.inr c0)
def f_Houses_isHouse_16 (F : Nat)    (m : mM) : Option (Int32 × mM) := f_Houses_isHouse_17 F (0 : Int32) m
theorem ok_Houses_isHouse_16 (X : mX) (d F : Nat) : ∀  (w0 : Option Value) (w1 : Option Value) (m : mM) (r : Int32) (m' : mM), f_Houses_isHouse_16 F  m = some (r, m') → m_R X (d + 0) 24 16 [w0, w1] [] (SH, m) (some (.int r), (SH, m')) := by
  intro w0 w1 m r m' h
  unfold f_Houses_isHouse_16 at h
  refine m_R_sg (by decide) [(.iconst 0, 1, 0, 0, 0, 0, 0)] (by decide +kernel) (show m_sgl X _ _ _ _ _ = some (17, [w0, w1], [.int (0 : Int32)], (SH, m.1, m.2)) from rfl) ?_
  exact ok_Houses_isHouse_17 X d F _ _ _ _ _ _ h
def f_Houses_isHouse (F : Nat)   (v1 : Int32) (m : mM) : Option (Int32 × mM) := (if v1 < 0 then f_Houses_isHouse_16 F m else (if (m.1 19 11) ≤ v1 then f_Houses_isHouse_16 F m else f_Houses_isHouse_17 F (1 : Int32) m))
theorem ok_Houses_isHouse (X : mX) (d F : Nat) : ∀ (v1 : Int32)  (m : mM) (r : Int32) (m' : mM), f_Houses_isHouse F v1 m = some (r, m') → m_R X (d + 0) 24 0 [some (.ref 19), some (.int v1)] [] (SH, m) (some (.int r), (SH, m')) := by
  intro v1 m r m' h
  unfold f_Houses_isHouse at h
  refine m_R_sg (by decide) [(.iload_n 1, 1, 0, 1, 0, 0, 0)] (by decide +kernel) (show m_sgl X _ _ _ _ _ = some (1, [some (.ref 19), some (.int v1)], [.int v1], (SH, m.1, m.2)) from rfl) ?_
  rcases m_ite h with ⟨c80, h⟩ | ⟨c80, h⟩
  · refine m_R_1 (by decide) (m_opb_of (ins := .ifCond .lt 15) (len := 3) (tag := 0) (a := 16) (b := 0) (c := 0) (q := 0) (by decide +kernel)) (if_pos c80) ?_
    exact ok_Houses_isHouse_16 X d F _ _ _ _ _ h
  · refine m_R_1 (by decide) (m_opb_of (ins := .ifCond .lt 15) (len := 3) (tag := 0) (a := 16) (b := 0) (c := 0) (q := 0) (by decide +kernel)) (if_neg c80) ?_
    refine m_R_sg (by decide) [(.iload_n 1, 1, 0, 1, 0, 0, 0), (.aload_n 0, 1, 0, 0, 0, 0, 0), (.getfield 45, 3, 0, 1, 11, 0, 278)] (by decide +kernel) (show m_sgl X _ _ _ _ _ = some (9, [some (.ref 19), some (.int v1)], [.int (m.1 19 11), .int v1], (SH, m.1, m.2)) from rfl) ?_
    rcases m_ite h with ⟨c81, h⟩ | ⟨c81, h⟩
    · refine m_R_1 (by decide) (m_opb_of (ins := .if_icmp .ge 7) (len := 3) (tag := 0) (a := 16) (b := 0) (c := 0) (q := 0) (by decide +kernel)) (if_pos c81) ?_
      exact ok_Houses_isHouse_16 X d F _ _ _ _ _ h
    · refine m_R_1 (by decide) (m_opb_of (ins := .if_icmp .ge 7) (len := 3) (tag := 0) (a := 16) (b := 0) (c := 0) (q := 0) (by decide +kernel)) (if_neg c81) ?_
      refine m_R_sg (by decide) [(.iconst 1, 1, 0, 1, 0, 0, 0), (.goto 4, 3, 0, 17, 0, 0, 0)] (by decide +kernel) (show m_sgl X _ _ _ _ _ = some (17, [some (.ref 19), some (.int v1)], [.int (1 : Int32)], (SH, m.1, m.2)) from rfl) ?_
      exact ok_Houses_isHouse_17 X d F _ _ _ _ _ _ h
def f_Houses_isUp_23 (F : Nat)   (s0 : Int32) (m : mM) : Option (Int32 × mM) := (if s0 = 0 ∨ s0 = 1 then some (s0, m) else none)
theorem ok_Houses_isUp_23 (X : mX) (d F : Nat) : ∀ (s0 : Int32) (w0 : Option Value) (w1 : Option Value) (m : mM) (r : Int32) (m' : mM), f_Houses_isUp_23 F s0 m = some (r, m') → m_R X (d + 1) 25 23 [w0, w1] [.int s0] (SH, m) (some (.int r), (SH, m')) := by
  intro s0 w0 w1 m r m' h
  unfold f_Houses_isUp_23 at h
  obtain ⟨c0, h⟩ := m_ite_p h
  obtain ⟨rfl, rfl⟩ := m_some h
  exact m_R_iret (by decide) (m_opb_of (ins := .ireturn) (len := 1) (tag := 1) (a := 1) (b := 0) (c := 0) (q := 0) (by decide +kernel)) (Or.inr c0)
def f_Houses_isUp_22 (F : Nat)    (m : mM) : Option (Int32 × mM) := f_Houses_isUp_23 F (0 : Int32) m
theorem ok_Houses_isUp_22 (X : mX) (d F : Nat) : ∀  (w0 : Option Value) (w1 : Option Value) (m : mM) (r : Int32) (m' : mM), f_Houses_isUp_22 F  m = some (r, m') → m_R X (d + 1) 25 22 [w0, w1] [] (SH, m) (some (.int r), (SH, m')) := by
  intro w0 w1 m r m' h
  unfold f_Houses_isUp_22 at h
  refine m_R_sg (by decide) [(.iconst 0, 1, 0, 0, 0, 0, 0)] (by decide +kernel) (show m_sgl X _ _ _ _ _ = some (23, [w0, w1], [.int (0 : Int32)], (SH, m.1, m.2)) from rfl) ?_
  exact ok_Houses_isUp_23 X d F _ _ _ _ _ _ h
def f_Houses_isUp (F : Nat)   (v1 : Int32) (m : mM) : Option (Int32 × mM) := ((f_Houses_isHouse F v1 m).bind fun q1 => (if q1.1 = 0 then f_Houses_isUp_22 F q1.2 else (if v1 < 0 ∨ 16 ≤ v1.toNatClampNeg then none else (if (q1.2.1 27 v1.toNatClampNeg) = (-1 : Int32) then f_Houses_isUp_23 F (1 : Int32) q1.2 else f_Houses_isUp_22 F q1.2))))
theorem ok_Houses_isUp (X : mX) (d F : Nat) : ∀ (v1 : Int32)  (m : mM) (r : Int32) (m' : mM), f_Houses_isUp F v1 m = some (r, m') → m_R X (d + 1) 25 0 [some (.ref 19), some (.int v1)] [] (SH, m) (some (.int r), (SH, m')) := by
  intro v1 m r m' h
  unfold f_Houses_isUp at h
  refine m_R_sg (by decide) [(.aload_n 0, 1, 0, 0, 0, 0, 0), (.iload_n 1, 1, 0, 1, 0, 0, 0)] (by decide +kernel) (show m_sgl X _ _ _ _ _ = some (2, [some (.ref 19), some (.int v1)], [.int v1, .ref 19], (SH, m.1, m.2)) from rfl) ?_
  obtain ⟨q1, hc1, h⟩ := Option.bind_eq_some_iff.mp h
  refine m_R_cV (v := (some (.int q1.1))) (h1 := (SH, q1.2)) (rest := []) (lo' := [some (.ref 19), some (.int v1)]) (ml := 2) (k0 := 19) (by decide) (Or.inl rfl) (m_opb_of (ins := .invokevirtual 56) (len := 3) (tag := 5) (a := 24) (b := 1) (c := 0) (q := 720) (by decide +kernel)) (by decide +kernel) rfl (show m_isO 24 19 (SH, _) = true from m_isO_of (by decide +kernel)) (Nat.le_of_ble_eq_true rfl) rfl rfl (ok_Houses_isHouse X (d + 0) F _ _ _ _ hc1) ?_
  rcases m_ite h with ⟨c82, h⟩ | ⟨c82, h⟩
  · refine m_R_1 (by decide) (m_opb_of (ins := .ifCond .eq 17) (len := 3) (tag := 0) (a := 22) (b := 0) (c := 0) (q := 0) (by decide +kernel)) (if_pos c82) ?_
    exact ok_Houses_isUp_22 X d F _ _ _ _ _ h
  · refine m_R_1 (by decide) (m_opb_of (ins := .ifCond .eq 17) (len := 3) (tag := 0) (a := 22) (b := 0) (c := 0) (q := 0) (by decide +kernel)) (if_neg c82) ?_
    refine m_R_sg (by decide) [(.aload_n 0, 1, 0, 0, 0, 0, 0), (.getfield 33, 3, 0, 1, 7, 3, 269), (.iload_n 1, 1, 0, 1, 0, 0, 0)] (by decide +kernel) (show m_sgl X _ _ _ _ _ = some (13, [some (.ref 19), some (.int v1)], [.int v1, .ref 27], (SH, q1.2.1, q1.2.2)) from rfl) ?_
    obtain ⟨c83, h⟩ := m_ite_n h
    refine m_R_1 (by decide) (m_opb_of (ins := .iaload) (len := 1) (tag := 0) (a := 0) (b := 0) (c := 0) (q := 0) (by decide +kernel)) (m_s_iald sh_27 (by decide) c83) ?_
    refine m_R_sg (by decide) [(.iconst (-1), 1, 0, 1, 1, 0, 0)] (by decide +kernel) (show m_sgl X _ _ _ _ _ = some (15, [some (.ref 19), some (.int v1)], [.int (-1 : Int32), .int (q1.2.1 27 v1.toNatClampNeg)], (SH, q1.2.1, q1.2.2)) from rfl) ?_
    rcases m_ite h with ⟨c84, h⟩ | ⟨c84, h⟩
    · refine m_R_1 (by decide) (m_opb_of (ins := .if_icmp .ne 7) (len := 3) (tag := 0) (a := 22) (b := 0) (c := 0) (q := 0) (by decide +kernel)) (if_pos c84) ?_
      refine m_R_sg (by decide) [(.iconst 1, 1, 0, 1, 0, 0, 0), (.goto 4, 3, 0, 23, 0, 0, 0)] (by decide +kernel) (show m_sgl X _ _ _ _ _ = some (23, [some (.ref 19), some (.int v1)], [.int (1 : Int32)], (SH, q1.2.1, q1.2.2)) from rfl) ?_
      exact ok_Houses_isUp_23 X d F _ _ _ _ _ _ h
    · refine m_R_1 (by decide) (m_opb_of (ins := .if_icmp .ne 7) (len := 3) (tag := 0) (a := 22) (b := 0) (c := 0) (q := 0) (by decide +kernel)) (if_neg c84) ?_
      exact ok_Houses_isUp_22 X d F _ _ _ _ _ h
def f_x_gold_46 (F : Nat)    (m : mM) : Option (Int32 × mM) := ((f_x_refuse F (-7 : Int32) m).bind fun q4 => some (q4.1, q4.2))
theorem ok_x_gold_46 (X : mX) (d F : Nat) : ∀  (w1 : Option Value) (w2 : Option Value) (m : mM) (r : Int32) (m' : mM), f_x_gold_46 F  m = some (r, m') → m_R X (d + 2) 23 46 [some (.ref 0), w1, w2] [] (SH, m) (some (.int r), (SH, m')) := by
  intro w1 w2 m r m' h
  unfold f_x_gold_46 at h
  refine m_R_sg (by decide) [(.aload_n 0, 1, 0, 0, 0, 0, 0), (.bipush (-7), 2, 0, 7, 1, 0, 0)] (by decide +kernel) (show m_sgl X _ _ _ _ _ = some (49, [some (.ref 0), w1, w2], [.int (-7 : Int32), .ref 0], (SH, m.1, m.2)) from rfl) ?_
  obtain ⟨q4, hc4, h⟩ := Option.bind_eq_some_iff.mp h
  refine m_R_cV (v := (some (.int q4.1))) (h1 := (SH, q4.2)) (rest := []) (lo' := [some (.ref 0), some (.int (-7 : Int32))]) (ml := 2) (k0 := 0) (by decide) (Or.inl rfl) (m_opb_of (ins := .invokevirtual 76) (len := 3) (tag := 5) (a := 14) (b := 1) (c := 0) (q := 671) (by decide +kernel)) (by decide +kernel) rfl (show m_isO 14 0 (SH, _) = true from m_isO_of (by decide +kernel)) (Nat.le_of_ble_eq_true rfl) rfl rfl (ok_x_refuse X (d + 1) F _ _ _ _ hc4) ?_
  obtain ⟨rfl, rfl⟩ := m_some h
  exact m_R_iret (by decide) (m_opb_of (ins := .ireturn) (len := 1) (tag := 1) (a := 0) (b := 0) (c := 0) (q := 0) (by decide +kernel)) (Or.inl rfl)
def f_x_gold (F : Nat)   (v1 : Int32) (v2 : Int32) (m : mM) : Option (Int32 × mM) := ((f_Houses_isHouse F v1 m).bind fun q1 => (if q1.1 = 0 then ((f_x_refuse F (-3 : Int32) q1.2).bind fun q2 => some (q2.1, q2.2)) else (if v2 < 0 then f_x_gold_46 F q1.2 else (if (10000 : Int32) < v2 then f_x_gold_46 F q1.2 else ((f_Houses_isUp F v1 q1.2).bind fun q3 => (if q3.1 = 0 then f_x_gold_46 F q3.2 else (if v1 < 0 ∨ 16 ≤ v1.toNatClampNeg then none else some (((m_up q3.2.1 22 v1.toNatClampNeg ((q3.2.1 22 v1.toNatClampNeg) + v2)) 22 v1.toNatClampNeg), ((m_up q3.2.1 22 v1.toNatClampNeg ((q3.2.1 22 v1.toNatClampNeg) + v2)), q3.2.2)))))))))
theorem ok_x_gold (X : mX) (d F : Nat) : ∀ (v1 : Int32) (v2 : Int32)  (m : mM) (r : Int32) (m' : mM), f_x_gold F v1 v2 m = some (r, m') → m_R X (d + 2) 23 0 [some (.ref 0), some (.int v1), some (.int v2)] [] (SH, m) (some (.int r), (SH, m')) := by
  intro v1 v2 m r m' h
  unfold f_x_gold at h
  refine m_R_sg (by decide) [(.aload_n 0, 1, 0, 0, 0, 0, 0), (.getfield 28, 3, 0, 11, 2, 3, 632), (.getfield 95, 3, 0, 10, 1, 3, 507), (.iload_n 1, 1, 0, 1, 0, 0, 0)] (by decide +kernel) (show m_sgl X _ _ _ _ _ = some (8, [some (.ref 0), some (.int v1), some (.int v2)], [.int v1, .ref 19], (SH, m.1, m.2)) from rfl) ?_
  obtain ⟨q1, hc1, h⟩ := Option.bind_eq_some_iff.mp h
  refine m_R_cV (v := (some (.int q1.1))) (h1 := (SH, q1.2)) (rest := []) (lo' := [some (.ref 19), some (.int v1)]) (ml := 2) (k0 := 19) (by decide) (Or.inl rfl) (m_opb_of (ins := .invokevirtual 107) (len := 3) (tag := 5) (a := 24) (b := 1) (c := 0) (q := 712) (by decide +kernel)) (by decide +kernel) rfl (show m_isO 24 19 (SH, _) = true from m_isO_of (by decide +kernel)) (Nat.le_of_ble_eq_true rfl) rfl rfl (ok_Houses_isHouse X (d + 1) F _ _ _ _ hc1) ?_
  rcases m_ite h with ⟨c85, h⟩ | ⟨c85, h⟩
  · refine m_R_1 (by decide) (m_opb_of (ins := .ifCond .ne 10) (len := 3) (tag := 0) (a := 21) (b := 0) (c := 0) (q := 0) (by decide +kernel)) (if_pos c85) ?_
    refine m_R_sg (by decide) [(.aload_n 0, 1, 0, 0, 0, 0, 0), (.bipush (-3), 2, 0, 3, 1, 0, 0)] (by decide +kernel) (show m_sgl X _ _ _ _ _ = some (17, [some (.ref 0), some (.int v1), some (.int v2)], [.int (-3 : Int32), .ref 0], (SH, q1.2.1, q1.2.2)) from rfl) ?_
    obtain ⟨q2, hc2, h⟩ := Option.bind_eq_some_iff.mp h
    refine m_R_cV (v := (some (.int q2.1))) (h1 := (SH, q2.2)) (rest := []) (lo' := [some (.ref 0), some (.int (-3 : Int32))]) (ml := 2) (k0 := 0) (by decide) (Or.inl rfl) (m_opb_of (ins := .invokevirtual 76) (len := 3) (tag := 5) (a := 14) (b := 1) (c := 0) (q := 671) (by decide +kernel)) (by decide +kernel) rfl (show m_isO 14 0 (SH, _) = true from m_isO_of (by decide +kernel)) (Nat.le_of_ble_eq_true rfl) rfl rfl (ok_x_refuse X (d + 1) F _ _ _ _ hc2) ?_
    obtain ⟨rfl, rfl⟩ := m_some h
    exact m_R_iret (by decide) (m_opb_of (ins := .ireturn) (len := 1) (tag := 1) (a := 0) (b := 0) (c := 0) (q := 0) (by decide +kernel)) (Or.inl rfl)
  · refine m_R_1 (by decide) (m_opb_of (ins := .ifCond .ne 10) (len := 3) (tag := 0) (a := 21) (b := 0) (c := 0) (q := 0) (by decide +kernel)) (if_neg c85) ?_
    refine m_R_sg (by decide) [(.iload_n 2, 1, 0, 2, 0, 0, 0)] (by decide +kernel) (show m_sgl X _ _ _ _ _ = some (22, [some (.ref 0), some (.int v1), some (.int v2)], [.int v2], (SH, q1.2.1, q1.2.2)) from rfl) ?_
    rcases m_ite h with ⟨c86, h⟩ | ⟨c86, h⟩
    · refine m_R_1 (by decide) (m_opb_of (ins := .ifCond .lt 24) (len := 3) (tag := 0) (a := 46) (b := 0) (c := 0) (q := 0) (by decide +kernel)) (if_pos c86) ?_
      exact ok_x_gold_46 X d F _ _ _ _ _ h
    · refine m_R_1 (by decide) (m_opb_of (ins := .ifCond .lt 24) (len := 3) (tag := 0) (a := 46) (b := 0) (c := 0) (q := 0) (by decide +kernel)) (if_neg c86) ?_
      refine m_R_sg (by decide) [(.iload_n 2, 1, 0, 2, 0, 0, 0), (.sipush 10000, 3, 0, 10000, 0, 0, 0)] (by decide +kernel) (show m_sgl X _ _ _ _ _ = some (29, [some (.ref 0), some (.int v1), some (.int v2)], [.int (10000 : Int32), .int v2], (SH, q1.2.1, q1.2.2)) from rfl) ?_
      rcases m_ite h with ⟨c87, h⟩ | ⟨c87, h⟩
      · refine m_R_1 (by decide) (m_opb_of (ins := .if_icmp .gt 17) (len := 3) (tag := 0) (a := 46) (b := 0) (c := 0) (q := 0) (by decide +kernel)) (if_pos c87) ?_
        exact ok_x_gold_46 X d F _ _ _ _ _ h
      · refine m_R_1 (by decide) (m_opb_of (ins := .if_icmp .gt 17) (len := 3) (tag := 0) (a := 46) (b := 0) (c := 0) (q := 0) (by decide +kernel)) (if_neg c87) ?_
        refine m_R_sg (by decide) [(.aload_n 0, 1, 0, 0, 0, 0, 0), (.getfield 28, 3, 0, 11, 2, 3, 632), (.getfield 95, 3, 0, 10, 1, 3, 507), (.iload_n 1, 1, 0, 1, 0, 0, 0)] (by decide +kernel) (show m_sgl X _ _ _ _ _ = some (40, [some (.ref 0), some (.int v1), some (.int v2)], [.int v1, .ref 19], (SH, q1.2.1, q1.2.2)) from rfl) ?_
        obtain ⟨q3, hc3, h⟩ := Option.bind_eq_some_iff.mp h
        refine m_R_cV (v := (some (.int q3.1))) (h1 := (SH, q3.2)) (rest := []) (lo' := [some (.ref 19), some (.int v1)]) (ml := 2) (k0 := 19) (by decide) (Or.inl rfl) (m_opb_of (ins := .invokevirtual 110) (len := 3) (tag := 5) (a := 25) (b := 1) (c := 0) (q := 716) (by decide +kernel)) (by decide +kernel) rfl (show m_isO 25 19 (SH, _) = true from m_isO_of (by decide +kernel)) (Nat.le_of_ble_eq_true rfl) rfl rfl (ok_Houses_isUp X (d + 0) F _ _ _ _ hc3) ?_
        rcases m_ite h with ⟨c88, h⟩ | ⟨c88, h⟩
        · refine m_R_1 (by decide) (m_opb_of (ins := .ifCond .ne 10) (len := 3) (tag := 0) (a := 53) (b := 0) (c := 0) (q := 0) (by decide +kernel)) (if_pos c88) ?_
          exact ok_x_gold_46 X d F _ _ _ _ _ h
        · refine m_R_1 (by decide) (m_opb_of (ins := .ifCond .ne 10) (len := 3) (tag := 0) (a := 53) (b := 0) (c := 0) (q := 0) (by decide +kernel)) (if_neg c88) ?_
          refine m_R_sg (by decide) [(.aload_n 0, 1, 0, 0, 0, 0, 0), (.getfield 28, 3, 0, 11, 2, 3, 632), (.getfield 95, 3, 0, 10, 1, 3, 507), (.getfield 113, 3, 0, 1, 2, 3, 256), (.iload_n 1, 1, 0, 1, 0, 0, 0), (.dup2, 1, 0, 0, 0, 0, 0)] (by decide +kernel) (show m_sgl X _ _ _ _ _ = some (65, [some (.ref 0), some (.int v1), some (.int v2)], [.int v1, .ref 22, .int v1, .ref 22], (SH, q3.2.1, q3.2.2)) from rfl) ?_
          obtain ⟨c89, h⟩ := m_ite_n h
          refine m_R_1 (by decide) (m_opb_of (ins := .iaload) (len := 1) (tag := 0) (a := 0) (b := 0) (c := 0) (q := 0) (by decide +kernel)) (m_s_iald sh_22 (by decide) c89) ?_
          refine m_R_sg (by decide) [(.iload_n 2, 1, 0, 2, 0, 0, 0), (.iadd, 1, 0, 0, 0, 0, 0)] (by decide +kernel) (show m_sgl X _ _ _ _ _ = some (68, [some (.ref 0), some (.int v1), some (.int v2)], [.int ((q3.2.1 22 v1.toNatClampNeg) + v2), .int v1, .ref 22], (SH, q3.2.1, q3.2.2)) from rfl) ?_
          refine m_R_1 (by decide) (m_opb_of (ins := .iastore) (len := 1) (tag := 0) (a := 0) (b := 0) (c := 0) (q := 0) (by decide +kernel)) (m_s_iast sh_22 c89) ?_
          refine m_R_sg (by decide) [(.aload_n 0, 1, 0, 0, 0, 0, 0), (.getfield 28, 3, 0, 11, 2, 3, 632), (.getfield 95, 3, 0, 10, 1, 3, 507), (.getfield 113, 3, 0, 1, 2, 3, 256), (.iload_n 1, 1, 0, 1, 0, 0, 0)] (by decide +kernel) (show m_sgl X _ _ _ _ _ = some (80, [some (.ref 0), some (.int v1), some (.int v2)], [.int v1, .ref 22], (SH, (m_up q3.2.1 22 v1.toNatClampNeg ((q3.2.1 22 v1.toNatClampNeg) + v2)), q3.2.2)) from rfl) ?_
          refine m_R_1 (by decide) (m_opb_of (ins := .iaload) (len := 1) (tag := 0) (a := 0) (b := 0) (c := 0) (q := 0) (by decide +kernel)) (m_s_iald sh_22 (by decide) c89) ?_
          obtain ⟨rfl, rfl⟩ := m_some h
          exact m_R_iret (by decide) (m_opb_of (ins := .ireturn) (len := 1) (tag := 1) (a := 0) (b := 0) (c := 0) (q := 0) (by decide +kernel)) (Or.inl rfl)
def f_m_isHouse (F : Nat)   (v1 : Int32) (m : mM) : Option (Int32 × mM) := ((f_m_in F v1 (0 : Int32) ((m.1 305 (2 : Int32).toNatClampNeg) - (1 : Int32)) m).bind fun q1 => (if q1.1 = 0 ∨ q1.1 = 1 then some (q1.1, q1.2) else none))
theorem ok_m_isHouse (X : mX) (d F : Nat) : ∀ (v1 : Int32)  (m : mM) (r : Int32) (m' : mM), f_m_isHouse F v1 m = some (r, m') → m_R X (d + 1) 210 0 [some (.ref 304), some (.int v1)] [] (SH, m) (some (.int r), (SH, m')) := by
  intro v1 m r m' h
  unfold f_m_isHouse at h
  refine m_R_sg (by decide) [(.iload_n 1, 1, 0, 1, 0, 0, 0), (.iconst 0, 1, 0, 0, 0, 0, 0), (.aload_n 0, 1, 0, 0, 0, 0, 0), (.getfield 13, 3, 0, 12, 1, 3, 1493), (.iconst 2, 1, 0, 2, 0, 0, 0)] (by decide +kernel) (show m_sgl X _ _ _ _ _ = some (7, [some (.ref 304), some (.int v1)], [.int (2 : Int32), .ref 305, .int (0 : Int32), .int v1], (SH, m.1, m.2)) from rfl) ?_
  refine m_R_1 (by decide) (m_opb_of (ins := .iaload) (len := 1) (tag := 0) (a := 0) (b := 0) (c := 0) (q := 0) (by decide +kernel)) (m_s_iald sh_305 (by decide) (show ¬ ((2 : Int32) < 0 ∨ 9732 ≤ (2 : Int32).toNatClampNeg) by decide)) ?_
  refine m_R_sg (by decide) [(.iconst 1, 1, 0, 1, 0, 0, 0), (.isub, 1, 0, 0, 0, 0, 0)] (by decide +kernel) (show m_sgl X _ _ _ _ _ = some (10, [some (.ref 304), some (.int v1)], [.int ((m.1 305 (2 : Int32).toNatClampNeg) - (1 : Int32)), .int (0 : Int32), .int v1], (SH, m.1, m.2)) from rfl) ?_
  obtain ⟨q1, hc1, h⟩ := Option.bind_eq_some_iff.mp h
  refine m_R_cS (v := (some (.int q1.1))) (h1 := (SH, q1.2)) (rest := []) (lo' := [some (.int v1), some (.int (0 : Int32)), some (.int ((m.1 305 (2 : Int32).toNatClampNeg) - (1 : Int32)))]) (ml := 3) (by decide) (m_opb_of (ins := .invokestatic 57) (len := 3) (tag := 4) (a := 201) (b := 3) (c := 0) (q := 1590) (by decide +kernel)) (by decide +kernel) (Nat.le_of_ble_eq_true rfl) rfl (Nat.le_of_ble_eq_true rfl) rfl rfl (ok_m_in X (d + 0) F _ _ _ _ _ _ hc1) ?_
  obtain ⟨c0, h⟩ := m_ite_p h
  obtain ⟨rfl, rfl⟩ := m_some h
  exact m_R_iret (by decide) (m_opb_of (ins := .ireturn) (len := 1) (tag := 1) (a := 1) (b := 0) (c := 0) (q := 0) (by decide +kernel)) (Or.inr c0)
def f_m_hs (F : Nat)   (v1 : Int32) (v2 : Int32) (m : mM) : Option (Int32 × mM) := (if (((128 : Int32) + ((12 : Int32) * v1)) + v2) < 0 ∨ 9732 ≤ (((128 : Int32) + ((12 : Int32) * v1)) + v2).toNatClampNeg then none else some ((m.1 305 (((128 : Int32) + ((12 : Int32) * v1)) + v2).toNatClampNeg), m))
theorem ok_m_hs (X : mX) (d F : Nat) : ∀ (v1 : Int32) (v2 : Int32)  (m : mM) (r : Int32) (m' : mM), f_m_hs F v1 v2 m = some (r, m') → m_R X (d + 0) 212 0 [some (.ref 304), some (.int v1), some (.int v2)] [] (SH, m) (some (.int r), (SH, m')) := by
  intro v1 v2 m r m' h
  unfold f_m_hs at h
  refine m_R_sg (by decide) [(.aload_n 0, 1, 0, 0, 0, 0, 0), (.getfield 13, 3, 0, 12, 1, 3, 1493), (.sipush 128, 3, 0, 128, 0, 0, 0), (.bipush 12, 2, 0, 12, 0, 0, 0), (.iload_n 1, 1, 0, 1, 0, 0, 0), (.imul, 1, 0, 0, 0, 0, 0), (.iadd, 1, 0, 0, 0, 0, 0), (.iload_n 2, 1, 0, 2, 0, 0, 0), (.iadd, 1, 0, 0, 0, 0, 0)] (by decide +kernel) (show m_sgl X _ _ _ _ _ = some (14, [some (.ref 304), some (.int v1), some (.int v2)], [.int (((128 : Int32) + ((12 : Int32) * v1)) + v2), .ref 305], (SH, m.1, m.2)) from rfl) ?_
  obtain ⟨c90, h⟩ := m_ite_n h
  refine m_R_1 (by decide) (m_opb_of (ins := .iaload) (len := 1) (tag := 0) (a := 0) (b := 0) (c := 0) (q := 0) (by decide +kernel)) (m_s_iald sh_305 (by decide) c90) ?_
  obtain ⟨rfl, rfl⟩ := m_some h
  exact m_R_iret (by decide) (m_opb_of (ins := .ireturn) (len := 1) (tag := 1) (a := 0) (b := 0) (c := 0) (q := 0) (by decide +kernel)) (Or.inl rfl)
def f_m_isUp_15 (F : Nat)   (s0 : Int32) (m : mM) : Option (Int32 × mM) := (if s0 = 0 ∨ s0 = 1 then some (s0, m) else none)
theorem ok_m_isUp_15 (X : mX) (d F : Nat) : ∀ (s0 : Int32) (w0 : Option Value) (w1 : Option Value) (m : mM) (r : Int32) (m' : mM), f_m_isUp_15 F s0 m = some (r, m') → m_R X (d + 1) 211 15 [w0, w1] [.int s0] (SH, m) (some (.int r), (SH, m')) := by
  intro s0 w0 w1 m r m' h
  unfold f_m_isUp_15 at h
  obtain ⟨c0, h⟩ := m_ite_p h
  obtain ⟨rfl, rfl⟩ := m_some h
  exact m_R_iret (by decide) (m_opb_of (ins := .ireturn) (len := 1) (tag := 1) (a := 1) (b := 0) (c := 0) (q := 0) (by decide +kernel)) (Or.inr c0)
def f_m_isUp (F : Nat)   (v1 : Int32) (m : mM) : Option (Int32 × mM) := ((f_m_hs F v1 (3 : Int32) m).bind fun q1 => (if q1.1 = (1 : Int32) then f_m_isUp_15 F (1 : Int32) q1.2 else f_m_isUp_15 F (0 : Int32) q1.2))
theorem ok_m_isUp (X : mX) (d F : Nat) : ∀ (v1 : Int32)  (m : mM) (r : Int32) (m' : mM), f_m_isUp F v1 m = some (r, m') → m_R X (d + 1) 211 0 [some (.ref 304), some (.int v1)] [] (SH, m) (some (.int r), (SH, m')) := by
  intro v1 m r m' h
  unfold f_m_isUp at h
  refine m_R_sg (by decide) [(.aload_n 0, 1, 0, 0, 0, 0, 0), (.iload_n 1, 1, 0, 1, 0, 0, 0), (.iconst 3, 1, 0, 3, 0, 0, 0)] (by decide +kernel) (show m_sgl X _ _ _ _ _ = some (3, [some (.ref 304), some (.int v1)], [.int (3 : Int32), .int v1, .ref 304], (SH, m.1, m.2)) from rfl) ?_
  obtain ⟨q1, hc1, h⟩ := Option.bind_eq_some_iff.mp h
  refine m_R_cV (v := (some (.int q1.1))) (h1 := (SH, q1.2)) (rest := []) (lo' := [some (.ref 304), some (.int v1), some (.int (3 : Int32))]) (ml := 3) (k0 := 304) (by decide) (Or.inl rfl) (m_opb_of (ins := .invokevirtual 65) (len := 3) (tag := 5) (a := 212) (b := 2) (c := 0) (q := 1633) (by decide +kernel)) (by decide +kernel) rfl (show m_isO 212 304 (SH, _) = true from m_isO_of (by decide +kernel)) (Nat.le_of_ble_eq_true rfl) rfl rfl (ok_m_hs X (d + 0) F _ _ _ _ _ hc1) ?_
  refine m_R_sg (by decide) [(.iconst 1, 1, 0, 1, 0, 0, 0)] (by decide +kernel) (show m_sgl X _ _ _ _ _ = some (7, [some (.ref 304), some (.int v1)], [.int (1 : Int32), .int q1.1], (SH, q1.2.1, q1.2.2)) from rfl) ?_
  rcases m_ite h with ⟨c91, h⟩ | ⟨c91, h⟩
  · refine m_R_1 (by decide) (m_opb_of (ins := .if_icmp .ne 7) (len := 3) (tag := 0) (a := 14) (b := 0) (c := 0) (q := 0) (by decide +kernel)) (if_pos c91) ?_
    refine m_R_sg (by decide) [(.iconst 1, 1, 0, 1, 0, 0, 0), (.goto 4, 3, 0, 15, 0, 0, 0)] (by decide +kernel) (show m_sgl X _ _ _ _ _ = some (15, [some (.ref 304), some (.int v1)], [.int (1 : Int32)], (SH, q1.2.1, q1.2.2)) from rfl) ?_
    exact ok_m_isUp_15 X d F _ _ _ _ _ _ h
  · refine m_R_1 (by decide) (m_opb_of (ins := .if_icmp .ne 7) (len := 3) (tag := 0) (a := 14) (b := 0) (c := 0) (q := 0) (by decide +kernel)) (if_neg c91) ?_
    refine m_R_sg (by decide) [(.iconst 0, 1, 0, 0, 0, 0, 0)] (by decide +kernel) (show m_sgl X _ _ _ _ _ = some (15, [some (.ref 304), some (.int v1)], [.int (0 : Int32)], (SH, q1.2.1, q1.2.2)) from rfl) ?_
    exact ok_m_isUp_15 X d F _ _ _ _ _ _ h
def f_m_gold_34 (F : Nat)    (m : mM) : Option (Int32 × mM) := ((f_m_refuse F (-7 : Int32) m).bind fun q6 => some (q6.1, q6.2))
theorem ok_m_gold_34 (X : mX) (d F : Nat) : ∀  (w1 : Option Value) (w2 : Option Value) (m : mM) (r : Int32) (m' : mM), f_m_gold_34 F  m = some (r, m') → m_R X (d + 2) 209 34 [some (.ref 304), w1, w2] [] (SH, m) (some (.int r), (SH, m')) := by
  intro w1 w2 m r m' h
  unfold f_m_gold_34 at h
  refine m_R_sg (by decide) [(.aload_n 0, 1, 0, 0, 0, 0, 0), (.bipush (-7), 2, 0, 7, 1, 0, 0)] (by decide +kernel) (show m_sgl X _ _ _ _ _ = some (37, [some (.ref 304), w1, w2], [.int (-7 : Int32), .ref 304], (SH, m.1, m.2)) from rfl) ?_
  obtain ⟨q6, hc6, h⟩ := Option.bind_eq_some_iff.mp h
  refine m_R_cV (v := (some (.int q6.1))) (h1 := (SH, q6.2)) (rest := []) (lo' := [some (.ref 304), some (.int (-7 : Int32))]) (ml := 2) (k0 := 304) (by decide) (Or.inl rfl) (m_opb_of (ins := .invokevirtual 61) (len := 3) (tag := 5) (a := 202) (b := 1) (c := 0) (q := 1593) (by decide +kernel)) (by decide +kernel) rfl (show m_isO 202 304 (SH, _) = true from m_isO_of (by decide +kernel)) (Nat.le_of_ble_eq_true rfl) rfl rfl (ok_m_refuse X (d + 1) F _ _ _ _ hc6) ?_
  obtain ⟨rfl, rfl⟩ := m_some h
  exact m_R_iret (by decide) (m_opb_of (ins := .ireturn) (len := 1) (tag := 1) (a := 0) (b := 0) (c := 0) (q := 0) (by decide +kernel)) (Or.inl rfl)
def f_m_gold (F : Nat)   (v1 : Int32) (v2 : Int32) (m : mM) : Option (Int32 × mM) := ((f_m_isHouse F v1 m).bind fun q1 => (if q1.1 = 0 then ((f_m_refuse F (-3 : Int32) q1.2).bind fun q2 => some (q2.1, q2.2)) else ((f_m_in F v2 (0 : Int32) (10000 : Int32) q1.2).bind fun q3 => (if q3.1 = 0 then f_m_gold_34 F q3.2 else ((f_m_isUp F v1 q3.2).bind fun q4 => (if q4.1 = 0 then f_m_gold_34 F q4.2 else (if (((128 : Int32) + ((12 : Int32) * v1)) + (2 : Int32)) < 0 ∨ 9732 ≤ (((128 : Int32) + ((12 : Int32) * v1)) + (2 : Int32)).toNatClampNeg then none else ((f_m_hs F v1 (2 : Int32) ((m_up q4.2.1 305 (((128 : Int32) + ((12 : Int32) * v1)) + (2 : Int32)).toNatClampNeg ((q4.2.1 305 (((128 : Int32) + ((12 : Int32) * v1)) + (2 : Int32)).toNatClampNeg) + v2)), q4.2.2)).bind fun q5 => some (q5.1, q5.2)))))))))
theorem ok_m_gold (X : mX) (d F : Nat) : ∀ (v1 : Int32) (v2 : Int32)  (m : mM) (r : Int32) (m' : mM), f_m_gold F v1 v2 m = some (r, m') → m_R X (d + 2) 209 0 [some (.ref 304), some (.int v1), some (.int v2)] [] (SH, m) (some (.int r), (SH, m')) := by
  intro v1 v2 m r m' h
  unfold f_m_gold at h
  refine m_R_sg (by decide) [(.aload_n 0, 1, 0, 0, 0, 0, 0), (.iload_n 1, 1, 0, 1, 0, 0, 0)] (by decide +kernel) (show m_sgl X _ _ _ _ _ = some (2, [some (.ref 304), some (.int v1), some (.int v2)], [.int v1, .ref 304], (SH, m.1, m.2)) from rfl) ?_
  obtain ⟨q1, hc1, h⟩ := Option.bind_eq_some_iff.mp h
  refine m_R_cV (v := (some (.int q1.1))) (h1 := (SH, q1.2)) (rest := []) (lo' := [some (.ref 304), some (.int v1)]) (ml := 2) (k0 := 304) (by decide) (Or.inl rfl) (m_opb_of (ins := .invokevirtual 77) (len := 3) (tag := 5) (a := 210) (b := 1) (c := 0) (q := 1625) (by decide +kernel)) (by decide +kernel) rfl (show m_isO 210 304 (SH, _) = true from m_isO_of (by decide +kernel)) (Nat.le_of_ble_eq_true rfl) rfl rfl (ok_m_isHouse X (d + 0) F _ _ _ _ hc1) ?_
  rcases m_ite h with ⟨c92, h⟩ | ⟨c92, h⟩
  · refine m_R_1 (by decide) (m_opb_of (ins := .ifCond .ne 10) (len := 3) (tag := 0) (a := 15) (b := 0) (c := 0) (q := 0) (by decide +kernel)) (if_pos c92) ?_
    refine m_R_sg (by decide) [(.aload_n 0, 1, 0, 0, 0, 0, 0), (.bipush (-3), 2, 0, 3, 1, 0, 0)] (by decide +kernel) (show m_sgl X _ _ _ _ _ = some (11, [some (.ref 304), some (.int v1), some (.int v2)], [.int (-3 : Int32), .ref 304], (SH, q1.2.1, q1.2.2)) from rfl) ?_
    obtain ⟨q2, hc2, h⟩ := Option.bind_eq_some_iff.mp h
    refine m_R_cV (v := (some (.int q2.1))) (h1 := (SH, q2.2)) (rest := []) (lo' := [some (.ref 304), some (.int (-3 : Int32))]) (ml := 2) (k0 := 304) (by decide) (Or.inl rfl) (m_opb_of (ins := .invokevirtual 61) (len := 3) (tag := 5) (a := 202) (b := 1) (c := 0) (q := 1593) (by decide +kernel)) (by decide +kernel) rfl (show m_isO 202 304 (SH, _) = true from m_isO_of (by decide +kernel)) (Nat.le_of_ble_eq_true rfl) rfl rfl (ok_m_refuse X (d + 1) F _ _ _ _ hc2) ?_
    obtain ⟨rfl, rfl⟩ := m_some h
    exact m_R_iret (by decide) (m_opb_of (ins := .ireturn) (len := 1) (tag := 1) (a := 0) (b := 0) (c := 0) (q := 0) (by decide +kernel)) (Or.inl rfl)
  · refine m_R_1 (by decide) (m_opb_of (ins := .ifCond .ne 10) (len := 3) (tag := 0) (a := 15) (b := 0) (c := 0) (q := 0) (by decide +kernel)) (if_neg c92) ?_
    refine m_R_sg (by decide) [(.iload_n 2, 1, 0, 2, 0, 0, 0), (.iconst 0, 1, 0, 0, 0, 0, 0), (.sipush 10000, 3, 0, 10000, 0, 0, 0)] (by decide +kernel) (show m_sgl X _ _ _ _ _ = some (20, [some (.ref 304), some (.int v1), some (.int v2)], [.int (10000 : Int32), .int (0 : Int32), .int v2], (SH, q1.2.1, q1.2.2)) from rfl) ?_
    obtain ⟨q3, hc3, h⟩ := Option.bind_eq_some_iff.mp h
    refine m_R_cS (v := (some (.int q3.1))) (h1 := (SH, q3.2)) (rest := []) (lo' := [some (.int v2), some (.int (0 : Int32)), some (.int (10000 : Int32))]) (ml := 3) (by decide) (m_opb_of (ins := .invokestatic 57) (len := 3) (tag := 4) (a := 201) (b := 3) (c := 0) (q := 1590) (by decide +kernel)) (by decide +kernel) (Nat.le_of_ble_eq_true rfl) rfl (Nat.le_of_ble_eq_true rfl) rfl rfl (ok_m_in X (d + 1) F _ _ _ _ _ _ hc3) ?_
    rcases m_ite h with ⟨c93, h⟩ | ⟨c93, h⟩
    · refine m_R_1 (by decide) (m_opb_of (ins := .ifCond .eq 11) (len := 3) (tag := 0) (a := 34) (b := 0) (c := 0) (q := 0) (by decide +kernel)) (if_pos c93) ?_
      exact ok_m_gold_34 X d F _ _ _ _ _ h
    · refine m_R_1 (by decide) (m_opb_of (ins := .ifCond .eq 11) (len := 3) (tag := 0) (a := 34) (b := 0) (c := 0) (q := 0) (by decide +kernel)) (if_neg c93) ?_
      refine m_R_sg (by decide) [(.aload_n 0, 1, 0, 0, 0, 0, 0), (.iload_n 1, 1, 0, 1, 0, 0, 0)] (by decide +kernel) (show m_sgl X _ _ _ _ _ = some (28, [some (.ref 304), some (.int v1), some (.int v2)], [.int v1, .ref 304], (SH, q3.2.1, q3.2.2)) from rfl) ?_
      obtain ⟨q4, hc4, h⟩ := Option.bind_eq_some_iff.mp h
      refine m_R_cV (v := (some (.int q4.1))) (h1 := (SH, q4.2)) (rest := []) (lo' := [some (.ref 304), some (.int v1)]) (ml := 2) (k0 := 304) (by decide) (Or.inl rfl) (m_opb_of (ins := .invokevirtual 80) (len := 3) (tag := 5) (a := 211) (b := 1) (c := 0) (q := 1629) (by decide +kernel)) (by decide +kernel) rfl (show m_isO 211 304 (SH, _) = true from m_isO_of (by decide +kernel)) (Nat.le_of_ble_eq_true rfl) rfl rfl (ok_m_isUp X (d + 0) F _ _ _ _ hc4) ?_
      rcases m_ite h with ⟨c94, h⟩ | ⟨c94, h⟩
      · refine m_R_1 (by decide) (m_opb_of (ins := .ifCond .ne 10) (len := 3) (tag := 0) (a := 41) (b := 0) (c := 0) (q := 0) (by decide +kernel)) (if_pos c94) ?_
        exact ok_m_gold_34 X d F _ _ _ _ _ h
      · refine m_R_1 (by decide) (m_opb_of (ins := .ifCond .ne 10) (len := 3) (tag := 0) (a := 41) (b := 0) (c := 0) (q := 0) (by decide +kernel)) (if_neg c94) ?_
        refine m_R_sg (by decide) [(.aload_n 0, 1, 0, 0, 0, 0, 0), (.getfield 13, 3, 0, 12, 1, 3, 1493), (.sipush 128, 3, 0, 128, 0, 0, 0), (.bipush 12, 2, 0, 12, 0, 0, 0), (.iload_n 1, 1, 0, 1, 0, 0, 0), (.imul, 1, 0, 0, 0, 0, 0), (.iadd, 1, 0, 0, 0, 0, 0), (.iconst 2, 1, 0, 2, 0, 0, 0), (.iadd, 1, 0, 0, 0, 0, 0), (.dup2, 1, 0, 0, 0, 0, 0)] (by decide +kernel) (show m_sgl X _ _ _ _ _ = some (56, [some (.ref 304), some (.int v1), some (.int v2)], [.int (((128 : Int32) + ((12 : Int32) * v1)) + (2 : Int32)), .ref 305, .int (((128 : Int32) + ((12 : Int32) * v1)) + (2 : Int32)), .ref 305], (SH, q4.2.1, q4.2.2)) from rfl) ?_
        obtain ⟨c95, h⟩ := m_ite_n h
        refine m_R_1 (by decide) (m_opb_of (ins := .iaload) (len := 1) (tag := 0) (a := 0) (b := 0) (c := 0) (q := 0) (by decide +kernel)) (m_s_iald sh_305 (by decide) c95) ?_
        refine m_R_sg (by decide) [(.iload_n 2, 1, 0, 2, 0, 0, 0), (.iadd, 1, 0, 0, 0, 0, 0)] (by decide +kernel) (show m_sgl X _ _ _ _ _ = some (59, [some (.ref 304), some (.int v1), some (.int v2)], [.int ((q4.2.1 305 (((128 : Int32) + ((12 : Int32) * v1)) + (2 : Int32)).toNatClampNeg) + v2), .int (((128 : Int32) + ((12 : Int32) * v1)) + (2 : Int32)), .ref 305], (SH, q4.2.1, q4.2.2)) from rfl) ?_
        refine m_R_1 (by decide) (m_opb_of (ins := .iastore) (len := 1) (tag := 0) (a := 0) (b := 0) (c := 0) (q := 0) (by decide +kernel)) (m_s_iast sh_305 c95) ?_
        refine m_R_sg (by decide) [(.aload_n 0, 1, 0, 0, 0, 0, 0), (.iload_n 1, 1, 0, 1, 0, 0, 0), (.iconst 2, 1, 0, 2, 0, 0, 0)] (by decide +kernel) (show m_sgl X _ _ _ _ _ = some (63, [some (.ref 304), some (.int v1), some (.int v2)], [.int (2 : Int32), .int v1, .ref 304], (SH, (m_up q4.2.1 305 (((128 : Int32) + ((12 : Int32) * v1)) + (2 : Int32)).toNatClampNeg ((q4.2.1 305 (((128 : Int32) + ((12 : Int32) * v1)) + (2 : Int32)).toNatClampNeg) + v2)), q4.2.2)) from rfl) ?_
        obtain ⟨q5, hc5, h⟩ := Option.bind_eq_some_iff.mp h
        refine m_R_cV (v := (some (.int q5.1))) (h1 := (SH, q5.2)) (rest := []) (lo' := [some (.ref 304), some (.int v1), some (.int (2 : Int32))]) (ml := 3) (k0 := 304) (by decide) (Or.inl rfl) (m_opb_of (ins := .invokevirtual 65) (len := 3) (tag := 5) (a := 212) (b := 2) (c := 0) (q := 1633) (by decide +kernel)) (by decide +kernel) rfl (show m_isO 212 304 (SH, _) = true from m_isO_of (by decide +kernel)) (Nat.le_of_ble_eq_true rfl) rfl rfl (ok_m_hs X (d + 1) F _ _ _ _ _ hc5) ?_
        obtain ⟨rfl, rfl⟩ := m_some h
        exact m_R_iret (by decide) (m_opb_of (ins := .ireturn) (len := 1) (tag := 1) (a := 0) (b := 0) (c := 0) (q := 0) (by decide +kernel)) (Or.inl rfl)
def f_x_mind_27 (F : Nat)    (m : mM) : Option (Int32 × mM) := ((f_x_refuse F (-3 : Int32) m).bind fun q3 => some (q3.1, q3.2))
theorem ok_x_mind_27 (X : mX) (d F : Nat) : ∀  (w1 : Option Value) (w2 : Option Value) (w3 : Option Value) (w4 : Option Value) (w5 : Option Value) (m : mM) (r : Int32) (m' : mM), f_x_mind_27 F  m = some (r, m') → m_R X (d + 1) 26 27 [some (.ref 0), w1, w2, w3, w4, w5] [] (SH, m) (some (.int r), (SH, m')) := by
  intro w1 w2 w3 w4 w5 m r m' h
  unfold f_x_mind_27 at h
  refine m_R_sg (by decide) [(.aload_n 0, 1, 0, 0, 0, 0, 0), (.bipush (-3), 2, 0, 3, 1, 0, 0)] (by decide +kernel) (show m_sgl X _ _ _ _ _ = some (30, [some (.ref 0), w1, w2, w3, w4, w5], [.int (-3 : Int32), .ref 0], (SH, m.1, m.2)) from rfl) ?_
  obtain ⟨q3, hc3, h⟩ := Option.bind_eq_some_iff.mp h
  refine m_R_cV (v := (some (.int q3.1))) (h1 := (SH, q3.2)) (rest := []) (lo' := [some (.ref 0), some (.int (-3 : Int32))]) (ml := 2) (k0 := 0) (by decide) (Or.inl rfl) (m_opb_of (ins := .invokevirtual 76) (len := 3) (tag := 5) (a := 14) (b := 1) (c := 0) (q := 671) (by decide +kernel)) (by decide +kernel) rfl (show m_isO 14 0 (SH, _) = true from m_isO_of (by decide +kernel)) (Nat.le_of_ble_eq_true rfl) rfl rfl (ok_x_refuse X (d + 0) F _ _ _ _ hc3) ?_
  obtain ⟨rfl, rfl⟩ := m_some h
  exact m_R_iret (by decide) (m_opb_of (ins := .ireturn) (len := 1) (tag := 1) (a := 0) (b := 0) (c := 0) (q := 0) (by decide +kernel)) (Or.inl rfl)
def f_x_mind_55 (F : Nat)    (m : mM) : Option (Int32 × mM) := ((f_x_refuse F (-5 : Int32) m).bind fun q4 => some (q4.1, q4.2))
theorem ok_x_mind_55 (X : mX) (d F : Nat) : ∀  (w1 : Option Value) (w2 : Option Value) (w3 : Option Value) (w4 : Option Value) (w5 : Option Value) (m : mM) (r : Int32) (m' : mM), f_x_mind_55 F  m = some (r, m') → m_R X (d + 1) 26 55 [some (.ref 0), w1, w2, w3, w4, w5] [] (SH, m) (some (.int r), (SH, m')) := by
  intro w1 w2 w3 w4 w5 m r m' h
  unfold f_x_mind_55 at h
  refine m_R_sg (by decide) [(.aload_n 0, 1, 0, 0, 0, 0, 0), (.bipush (-5), 2, 0, 5, 1, 0, 0)] (by decide +kernel) (show m_sgl X _ _ _ _ _ = some (58, [some (.ref 0), w1, w2, w3, w4, w5], [.int (-5 : Int32), .ref 0], (SH, m.1, m.2)) from rfl) ?_
  obtain ⟨q4, hc4, h⟩ := Option.bind_eq_some_iff.mp h
  refine m_R_cV (v := (some (.int q4.1))) (h1 := (SH, q4.2)) (rest := []) (lo' := [some (.ref 0), some (.int (-5 : Int32))]) (ml := 2) (k0 := 0) (by decide) (Or.inl rfl) (m_opb_of (ins := .invokevirtual 76) (len := 3) (tag := 5) (a := 14) (b := 1) (c := 0) (q := 671) (by decide +kernel)) (by decide +kernel) rfl (show m_isO 14 0 (SH, _) = true from m_isO_of (by decide +kernel)) (Nat.le_of_ble_eq_true rfl) rfl rfl (ok_x_refuse X (d + 0) F _ _ _ _ hc4) ?_
  obtain ⟨rfl, rfl⟩ := m_some h
  exact m_R_iret (by decide) (m_opb_of (ins := .ireturn) (len := 1) (tag := 1) (a := 0) (b := 0) (c := 0) (q := 0) (by decide +kernel)) (Or.inl rfl)
def f_x_mind_73 (F : Nat)    (m : mM) : Option (Int32 × mM) := ((f_x_refuse F (-7 : Int32) m).bind fun q5 => some (q5.1, q5.2))
theorem ok_x_mind_73 (X : mX) (d F : Nat) : ∀  (w1 : Option Value) (w2 : Option Value) (w3 : Option Value) (w4 : Option Value) (w5 : Option Value) (m : mM) (r : Int32) (m' : mM), f_x_mind_73 F  m = some (r, m') → m_R X (d + 1) 26 73 [some (.ref 0), w1, w2, w3, w4, w5] [] (SH, m) (some (.int r), (SH, m')) := by
  intro w1 w2 w3 w4 w5 m r m' h
  unfold f_x_mind_73 at h
  refine m_R_sg (by decide) [(.aload_n 0, 1, 0, 0, 0, 0, 0), (.bipush (-7), 2, 0, 7, 1, 0, 0)] (by decide +kernel) (show m_sgl X _ _ _ _ _ = some (76, [some (.ref 0), w1, w2, w3, w4, w5], [.int (-7 : Int32), .ref 0], (SH, m.1, m.2)) from rfl) ?_
  obtain ⟨q5, hc5, h⟩ := Option.bind_eq_some_iff.mp h
  refine m_R_cV (v := (some (.int q5.1))) (h1 := (SH, q5.2)) (rest := []) (lo' := [some (.ref 0), some (.int (-7 : Int32))]) (ml := 2) (k0 := 0) (by decide) (Or.inl rfl) (m_opb_of (ins := .invokevirtual 76) (len := 3) (tag := 5) (a := 14) (b := 1) (c := 0) (q := 671) (by decide +kernel)) (by decide +kernel) rfl (show m_isO 14 0 (SH, _) = true from m_isO_of (by decide +kernel)) (Nat.le_of_ble_eq_true rfl) rfl rfl (ok_x_refuse X (d + 0) F _ _ _ _ hc5) ?_
  obtain ⟨rfl, rfl⟩ := m_some h
  exact m_R_iret (by decide) (m_opb_of (ins := .ireturn) (len := 1) (tag := 1) (a := 0) (b := 0) (c := 0) (q := 0) (by decide +kernel)) (Or.inl rfl)
def f_x_mind (F : Nat)   (v1 : Int32) (v2 : Int32) (v3 : Int32) (m : mM) : Option (Int32 × mM) := ((f_Houses_isHouse F v1 m).bind fun q1 => (if q1.1 = 0 then f_x_mind_27 F q1.2 else ((f_Houses_isHouse F v3 q1.2).bind fun q2 => (if q2.1 = 0 then f_x_mind_27 F q2.2 else (if v1 = 0 then f_x_mind_55 F q2.2 else (if v3 < 0 ∨ 16 ≤ v3.toNatClampNeg then none else (if v1 < 0 ∨ 16 ≤ v1.toNatClampNeg then none else (if (q2.2.1 20 v1.toNatClampNeg) < (q2.2.1 20 v3.toNatClampNeg) then (if v2 < 0 then f_x_mind_73 F q2.2 else (if v2 ≤ (9999 : Int32) then some ((q2.2.1 23 v1.toNatClampNeg), ((m_up (m_up q2.2.1 23 v1.toNatClampNeg v2) 24 v1.toNatClampNeg v3), q2.2.2)) else f_x_mind_73 F q2.2)) else f_x_mind_55 F q2.2))))))))
theorem ok_x_mind (X : mX) (d F : Nat) : ∀ (v1 : Int32) (v2 : Int32) (v3 : Int32)  (m : mM) (r : Int32) (m' : mM), f_x_mind F v1 v2 v3 m = some (r, m') → m_R X (d + 1) 26 0 [some (.ref 0), some (.int v1), some (.int v2), some (.int v3), none, none] [] (SH, m) (some (.int r), (SH, m')) := by
  intro v1 v2 v3 m r m' h
  unfold f_x_mind at h
  refine m_R_sg (by decide) [(.aload_n 0, 1, 0, 0, 0, 0, 0), (.getfield 28, 3, 0, 11, 2, 3, 632), (.getfield 95, 3, 0, 10, 1, 3, 507), (.astore 4, 2, 0, 4, 0, 0, 0), (.aload 4, 2, 0, 4, 0, 0, 0), (.iload_n 1, 1, 0, 1, 0, 0, 0)] (by decide +kernel) (show m_sgl X _ _ _ _ _ = some (12, [some (.ref 0), some (.int v1), some (.int v2), some (.int v3), some (.ref 19), none], [.int v1, .ref 19], (SH, m.1, m.2)) from rfl) ?_
  obtain ⟨q1, hc1, h⟩ := Option.bind_eq_some_iff.mp h
  refine m_R_cV (v := (some (.int q1.1))) (h1 := (SH, q1.2)) (rest := []) (lo' := [some (.ref 19), some (.int v1)]) (ml := 2) (k0 := 19) (by decide) (Or.inl rfl) (m_opb_of (ins := .invokevirtual 107) (len := 3) (tag := 5) (a := 24) (b := 1) (c := 0) (q := 712) (by decide +kernel)) (by decide +kernel) rfl (show m_isO 24 19 (SH, _) = true from m_isO_of (by decide +kernel)) (Nat.le_of_ble_eq_true rfl) rfl rfl (ok_Houses_isHouse X (d + 0) F _ _ _ _ hc1) ?_
  rcases m_ite h with ⟨c96, h⟩ | ⟨c96, h⟩
  · refine m_R_1 (by decide) (m_opb_of (ins := .ifCond .eq 12) (len := 3) (tag := 0) (a := 27) (b := 0) (c := 0) (q := 0) (by decide +kernel)) (if_pos c96) ?_
    exact ok_x_mind_27 X d F _ _ _ _ _ _ _ _ h
  · refine m_R_1 (by decide) (m_opb_of (ins := .ifCond .eq 12) (len := 3) (tag := 0) (a := 27) (b := 0) (c := 0) (q := 0) (by decide +kernel)) (if_neg c96) ?_
    refine m_R_sg (by decide) [(.aload 4, 2, 0, 4, 0, 0, 0), (.iload_n 3, 1, 0, 3, 0, 0, 0)] (by decide +kernel) (show m_sgl X _ _ _ _ _ = some (21, [some (.ref 0), some (.int v1), some (.int v2), some (.int v3), some (.ref 19), none], [.int v3, .ref 19], (SH, q1.2.1, q1.2.2)) from rfl) ?_
    obtain ⟨q2, hc2, h⟩ := Option.bind_eq_some_iff.mp h
    refine m_R_cV (v := (some (.int q2.1))) (h1 := (SH, q2.2)) (rest := []) (lo' := [some (.ref 19), some (.int v3)]) (ml := 2) (k0 := 19) (by decide) (Or.inl rfl) (m_opb_of (ins := .invokevirtual 107) (len := 3) (tag := 5) (a := 24) (b := 1) (c := 0) (q := 712) (by decide +kernel)) (by decide +kernel) rfl (show m_isO 24 19 (SH, _) = true from m_isO_of (by decide +kernel)) (Nat.le_of_ble_eq_true rfl) rfl rfl (ok_Houses_isHouse X (d + 0) F _ _ _ _ hc2) ?_
    rcases m_ite h with ⟨c97, h⟩ | ⟨c97, h⟩
    · refine m_R_1 (by decide) (m_opb_of (ins := .ifCond .ne 10) (len := 3) (tag := 0) (a := 34) (b := 0) (c := 0) (q := 0) (by decide +kernel)) (if_pos c97) ?_
      exact ok_x_mind_27 X d F _ _ _ _ _ _ _ _ h
    · refine m_R_1 (by decide) (m_opb_of (ins := .ifCond .ne 10) (len := 3) (tag := 0) (a := 34) (b := 0) (c := 0) (q := 0) (by decide +kernel)) (if_neg c97) ?_
      refine m_R_sg (by decide) [(.iload_n 1, 1, 0, 1, 0, 0, 0)] (by decide +kernel) (show m_sgl X _ _ _ _ _ = some (35, [some (.ref 0), some (.int v1), some (.int v2), some (.int v3), some (.ref 19), none], [.int v1], (SH, q2.2.1, q2.2.2)) from rfl) ?_
      rcases m_ite h with ⟨c98, h⟩ | ⟨c98, h⟩
      · refine m_R_1 (by decide) (m_opb_of (ins := .ifCond .eq 20) (len := 3) (tag := 0) (a := 55) (b := 0) (c := 0) (q := 0) (by decide +kernel)) (if_pos c98) ?_
        exact ok_x_mind_55 X d F _ _ _ _ _ _ _ _ h
      · refine m_R_1 (by decide) (m_opb_of (ins := .ifCond .eq 20) (len := 3) (tag := 0) (a := 55) (b := 0) (c := 0) (q := 0) (by decide +kernel)) (if_neg c98) ?_
        refine m_R_sg (by decide) [(.aload 4, 2, 0, 4, 0, 0, 0), (.getfield 116, 3, 0, 1, 0, 3, 250), (.iload_n 3, 1, 0, 3, 0, 0, 0)] (by decide +kernel) (show m_sgl X _ _ _ _ _ = some (44, [some (.ref 0), some (.int v1), some (.int v2), some (.int v3), some (.ref 19), none], [.int v3, .ref 20], (SH, q2.2.1, q2.2.2)) from rfl) ?_
        obtain ⟨c99, h⟩ := m_ite_n h
        refine m_R_1 (by decide) (m_opb_of (ins := .iaload) (len := 1) (tag := 0) (a := 0) (b := 0) (c := 0) (q := 0) (by decide +kernel)) (m_s_iald sh_20 (by decide) c99) ?_
        refine m_R_sg (by decide) [(.aload 4, 2, 0, 4, 0, 0, 0), (.getfield 116, 3, 0, 1, 0, 3, 250), (.iload_n 1, 1, 0, 1, 0, 0, 0)] (by decide +kernel) (show m_sgl X _ _ _ _ _ = some (51, [some (.ref 0), some (.int v1), some (.int v2), some (.int v3), some (.ref 19), none], [.int v1, .ref 20, .int (q2.2.1 20 v3.toNatClampNeg)], (SH, q2.2.1, q2.2.2)) from rfl) ?_
        obtain ⟨c100, h⟩ := m_ite_n h
        refine m_R_1 (by decide) (m_opb_of (ins := .iaload) (len := 1) (tag := 0) (a := 0) (b := 0) (c := 0) (q := 0) (by decide +kernel)) (m_s_iald sh_20 (by decide) c100) ?_
        rcases m_ite h with ⟨c101, h⟩ | ⟨c101, h⟩
        · refine m_R_1 (by decide) (m_opb_of (ins := .if_icmp .gt 10) (len := 3) (tag := 0) (a := 62) (b := 0) (c := 0) (q := 0) (by decide +kernel)) (if_pos c101) ?_
          refine m_R_sg (by decide) [(.iload_n 2, 1, 0, 2, 0, 0, 0)] (by decide +kernel) (show m_sgl X _ _ _ _ _ = some (63, [some (.ref 0), some (.int v1), some (.int v2), some (.int v3), some (.ref 19), none], [.int v2], (SH, q2.2.1, q2.2.2)) from rfl) ?_
          rcases m_ite h with ⟨c102, h⟩ | ⟨c102, h⟩
          · refine m_R_1 (by decide) (m_opb_of (ins := .ifCond .lt 10) (len := 3) (tag := 0) (a := 73) (b := 0) (c := 0) (q := 0) (by decide +kernel)) (if_pos c102) ?_
            exact ok_x_mind_73 X d F _ _ _ _ _ _ _ _ h
          · refine m_R_1 (by decide) (m_opb_of (ins := .ifCond .lt 10) (len := 3) (tag := 0) (a := 73) (b := 0) (c := 0) (q := 0) (by decide +kernel)) (if_neg c102) ?_
            refine m_R_sg (by decide) [(.iload_n 2, 1, 0, 2, 0, 0, 0), (.sipush 9999, 3, 0, 9999, 0, 0, 0)] (by decide +kernel) (show m_sgl X _ _ _ _ _ = some (70, [some (.ref 0), some (.int v1), some (.int v2), some (.int v3), some (.ref 19), none], [.int (9999 : Int32), .int v2], (SH, q2.2.1, q2.2.2)) from rfl) ?_
            rcases m_ite h with ⟨c103, h⟩ | ⟨c103, h⟩
            · refine m_R_1 (by decide) (m_opb_of (ins := .if_icmp .le 10) (len := 3) (tag := 0) (a := 80) (b := 0) (c := 0) (q := 0) (by decide +kernel)) (if_pos c103) ?_
              refine m_R_sg (by decide) [(.aload 4, 2, 0, 4, 0, 0, 0), (.getfield 119, 3, 0, 1, 3, 3, 258), (.iload_n 1, 1, 0, 1, 0, 0, 0)] (by decide +kernel) (show m_sgl X _ _ _ _ _ = some (86, [some (.ref 0), some (.int v1), some (.int v2), some (.int v3), some (.ref 19), none], [.int v1, .ref 23], (SH, q2.2.1, q2.2.2)) from rfl) ?_
              refine m_R_1 (by decide) (m_opb_of (ins := .iaload) (len := 1) (tag := 0) (a := 0) (b := 0) (c := 0) (q := 0) (by decide +kernel)) (m_s_iald sh_23 (by decide) c100) ?_
              refine m_R_sg (by decide) [(.istore 5, 2, 0, 5, 0, 0, 0), (.aload 4, 2, 0, 4, 0, 0, 0), (.getfield 119, 3, 0, 1, 3, 3, 258), (.iload_n 1, 1, 0, 1, 0, 0, 0), (.iload_n 2, 1, 0, 2, 0, 0, 0)] (by decide +kernel) (show m_sgl X _ _ _ _ _ = some (96, [some (.ref 0), some (.int v1), some (.int v2), some (.int v3), some (.ref 19), some (.int (q2.2.1 23 v1.toNatClampNeg))], [.int v2, .int v1, .ref 23], (SH, q2.2.1, q2.2.2)) from rfl) ?_
              refine m_R_1 (by decide) (m_opb_of (ins := .iastore) (len := 1) (tag := 0) (a := 0) (b := 0) (c := 0) (q := 0) (by decide +kernel)) (m_s_iast sh_23 c100) ?_
              refine m_R_sg (by decide) [(.aload 4, 2, 0, 4, 0, 0, 0), (.getfield 122, 3, 0, 1, 4, 3, 261), (.iload_n 1, 1, 0, 1, 0, 0, 0), (.iload_n 3, 1, 0, 3, 0, 0, 0)] (by decide +kernel) (show m_sgl X _ _ _ _ _ = some (104, [some (.ref 0), some (.int v1), some (.int v2), some (.int v3), some (.ref 19), some (.int (q2.2.1 23 v1.toNatClampNeg))], [.int v3, .int v1, .ref 24], (SH, (m_up q2.2.1 23 v1.toNatClampNeg v2), q2.2.2)) from rfl) ?_
              refine m_R_1 (by decide) (m_opb_of (ins := .iastore) (len := 1) (tag := 0) (a := 0) (b := 0) (c := 0) (q := 0) (by decide +kernel)) (m_s_iast sh_24 c100) ?_
              refine m_R_sg (by decide) [(.iload 5, 2, 0, 5, 0, 0, 0)] (by decide +kernel) (show m_sgl X _ _ _ _ _ = some (107, [some (.ref 0), some (.int v1), some (.int v2), some (.int v3), some (.ref 19), some (.int (q2.2.1 23 v1.toNatClampNeg))], [.int (q2.2.1 23 v1.toNatClampNeg)], (SH, (m_up (m_up q2.2.1 23 v1.toNatClampNeg v2) 24 v1.toNatClampNeg v3), q2.2.2)) from rfl) ?_
              obtain ⟨rfl, rfl⟩ := m_some h
              exact m_R_iret (by decide) (m_opb_of (ins := .ireturn) (len := 1) (tag := 1) (a := 0) (b := 0) (c := 0) (q := 0) (by decide +kernel)) (Or.inl rfl)
            · refine m_R_1 (by decide) (m_opb_of (ins := .if_icmp .le 10) (len := 3) (tag := 0) (a := 80) (b := 0) (c := 0) (q := 0) (by decide +kernel)) (if_neg c103) ?_
              exact ok_x_mind_73 X d F _ _ _ _ _ _ _ _ h
        · refine m_R_1 (by decide) (m_opb_of (ins := .if_icmp .gt 10) (len := 3) (tag := 0) (a := 62) (b := 0) (c := 0) (q := 0) (by decide +kernel)) (if_neg c101) ?_
          exact ok_x_mind_55 X d F _ _ _ _ _ _ _ _ h
def f_m_mind_16 (F : Nat)    (m : mM) : Option (Int32 × mM) := ((f_m_refuse F (-3 : Int32) m).bind fun q8 => some (q8.1, q8.2))
theorem ok_m_mind_16 (X : mX) (d F : Nat) : ∀  (w1 : Option Value) (w2 : Option Value) (w3 : Option Value) (w4 : Option Value) (m : mM) (r : Int32) (m' : mM), f_m_mind_16 F  m = some (r, m') → m_R X (d + 2) 213 16 [some (.ref 304), w1, w2, w3, w4] [] (SH, m) (some (.int r), (SH, m')) := by
  intro w1 w2 w3 w4 m r m' h
  unfold f_m_mind_16 at h
  refine m_R_sg (by decide) [(.aload_n 0, 1, 0, 0, 0, 0, 0), (.bipush (-3), 2, 0, 3, 1, 0, 0)] (by decide +kernel) (show m_sgl X _ _ _ _ _ = some (19, [some (.ref 304), w1, w2, w3, w4], [.int (-3 : Int32), .ref 304], (SH, m.1, m.2)) from rfl) ?_
  obtain ⟨q8, hc8, h⟩ := Option.bind_eq_some_iff.mp h
  refine m_R_cV (v := (some (.int q8.1))) (h1 := (SH, q8.2)) (rest := []) (lo' := [some (.ref 304), some (.int (-3 : Int32))]) (ml := 2) (k0 := 304) (by decide) (Or.inl rfl) (m_opb_of (ins := .invokevirtual 61) (len := 3) (tag := 5) (a := 202) (b := 1) (c := 0) (q := 1593) (by decide +kernel)) (by decide +kernel) rfl (show m_isO 202 304 (SH, _) = true from m_isO_of (by decide +kernel)) (Nat.le_of_ble_eq_true rfl) rfl rfl (ok_m_refuse X (d + 1) F _ _ _ _ hc8) ?_
  obtain ⟨rfl, rfl⟩ := m_some h
  exact m_R_iret (by decide) (m_opb_of (ins := .ireturn) (len := 1) (tag := 1) (a := 0) (b := 0) (c := 0) (q := 0) (by decide +kernel)) (Or.inl rfl)
def f_m_mind_42 (F : Nat)    (m : mM) : Option (Int32 × mM) := ((f_m_refuse F (-5 : Int32) m).bind fun q9 => some (q9.1, q9.2))
theorem ok_m_mind_42 (X : mX) (d F : Nat) : ∀  (w1 : Option Value) (w2 : Option Value) (w3 : Option Value) (w4 : Option Value) (m : mM) (r : Int32) (m' : mM), f_m_mind_42 F  m = some (r, m') → m_R X (d + 2) 213 42 [some (.ref 304), w1, w2, w3, w4] [] (SH, m) (some (.int r), (SH, m')) := by
  intro w1 w2 w3 w4 m r m' h
  unfold f_m_mind_42 at h
  refine m_R_sg (by decide) [(.aload_n 0, 1, 0, 0, 0, 0, 0), (.bipush (-5), 2, 0, 5, 1, 0, 0)] (by decide +kernel) (show m_sgl X _ _ _ _ _ = some (45, [some (.ref 304), w1, w2, w3, w4], [.int (-5 : Int32), .ref 304], (SH, m.1, m.2)) from rfl) ?_
  obtain ⟨q9, hc9, h⟩ := Option.bind_eq_some_iff.mp h
  refine m_R_cV (v := (some (.int q9.1))) (h1 := (SH, q9.2)) (rest := []) (lo' := [some (.ref 304), some (.int (-5 : Int32))]) (ml := 2) (k0 := 304) (by decide) (Or.inl rfl) (m_opb_of (ins := .invokevirtual 61) (len := 3) (tag := 5) (a := 202) (b := 1) (c := 0) (q := 1593) (by decide +kernel)) (by decide +kernel) rfl (show m_isO 202 304 (SH, _) = true from m_isO_of (by decide +kernel)) (Nat.le_of_ble_eq_true rfl) rfl rfl (ok_m_refuse X (d + 1) F _ _ _ _ hc9) ?_
  obtain ⟨rfl, rfl⟩ := m_some h
  exact m_R_iret (by decide) (m_opb_of (ins := .ireturn) (len := 1) (tag := 1) (a := 0) (b := 0) (c := 0) (q := 0) (by decide +kernel)) (Or.inl rfl)
def f_m_mind (F : Nat)   (v1 : Int32) (v2 : Int32) (v3 : Int32) (m : mM) : Option (Int32 × mM) := ((f_m_isHouse F v1 m).bind fun q1 => (if q1.1 = 0 then f_m_mind_16 F q1.2 else ((f_m_isHouse F v3 q1.2).bind fun q2 => (if q2.1 = 0 then f_m_mind_16 F q2.2 else (if v1 = 0 then f_m_mind_42 F q2.2 else ((f_m_hs F v3 (0 : Int32) q2.2).bind fun q3 => ((f_m_hs F v1 (0 : Int32) q3.2).bind fun q4 => (if q4.1 < q3.1 then ((f_m_in F v2 (0 : Int32) (9999 : Int32) q4.2).bind fun q5 => (if q5.1 = 0 then ((f_m_refuse F (-7 : Int32) q5.2).bind fun q6 => some (q6.1, q6.2)) else ((f_m_hs F v1 (4 : Int32) q5.2).bind fun q7 => (if (((128 : Int32) + ((12 : Int32) * v1)) + (4 : Int32)) < 0 ∨ 9732 ≤ (((128 : Int32) + ((12 : Int32) * v1)) + (4 : Int32)).toNatClampNeg then none else (if (((128 : Int32) + ((12 : Int32) * v1)) + (5 : Int32)) < 0 ∨ 9732 ≤ (((128 : Int32) + ((12 : Int32) * v1)) + (5 : Int32)).toNatClampNeg then none else some (q7.1, ((m_up (m_up q7.2.1 305 (((128 : Int32) + ((12 : Int32) * v1)) + (4 : Int32)).toNatClampNeg v2) 305 (((128 : Int32) + ((12 : Int32) * v1)) + (5 : Int32)).toNatClampNeg v3), q7.2.2))))))) else f_m_mind_42 F q4.2))))))))
theorem ok_m_mind (X : mX) (d F : Nat) : ∀ (v1 : Int32) (v2 : Int32) (v3 : Int32)  (m : mM) (r : Int32) (m' : mM), f_m_mind F v1 v2 v3 m = some (r, m') → m_R X (d + 2) 213 0 [some (.ref 304), some (.int v1), some (.int v2), some (.int v3), none] [] (SH, m) (some (.int r), (SH, m')) := by
  intro v1 v2 v3 m r m' h
  unfold f_m_mind at h
  refine m_R_sg (by decide) [(.aload_n 0, 1, 0, 0, 0, 0, 0), (.iload_n 1, 1, 0, 1, 0, 0, 0)] (by decide +kernel) (show m_sgl X _ _ _ _ _ = some (2, [some (.ref 304), some (.int v1), some (.int v2), some (.int v3), none], [.int v1, .ref 304], (SH, m.1, m.2)) from rfl) ?_
  obtain ⟨q1, hc1, h⟩ := Option.bind_eq_some_iff.mp h
  refine m_R_cV (v := (some (.int q1.1))) (h1 := (SH, q1.2)) (rest := []) (lo' := [some (.ref 304), some (.int v1)]) (ml := 2) (k0 := 304) (by decide) (Or.inl rfl) (m_opb_of (ins := .invokevirtual 77) (len := 3) (tag := 5) (a := 210) (b := 1) (c := 0) (q := 1625) (by decide +kernel)) (by decide +kernel) rfl (show m_isO 210 304 (SH, _) = true from m_isO_of (by decide +kernel)) (Nat.le_of_ble_eq_true rfl) rfl rfl (ok_m_isHouse X (d + 0) F _ _ _ _ hc1) ?_
  rcases m_ite h with ⟨c104, h⟩ | ⟨c104, h⟩
  · refine m_R_1 (by decide) (m_opb_of (ins := .ifCond .eq 11) (len := 3) (tag := 0) (a := 16) (b := 0) (c := 0) (q := 0) (by decide +kernel)) (if_pos c104) ?_
    exact ok_m_mind_16 X d F _ _ _ _ _ _ _ h
  · refine m_R_1 (by decide) (m_opb_of (ins := .ifCond .eq 11) (len := 3) (tag := 0) (a := 16) (b := 0) (c := 0) (q := 0) (by decide +kernel)) (if_neg c104) ?_
    refine m_R_sg (by decide) [(.aload_n 0, 1, 0, 0, 0, 0, 0), (.iload_n 3, 1, 0, 3, 0, 0, 0)] (by decide +kernel) (show m_sgl X _ _ _ _ _ = some (10, [some (.ref 304), some (.int v1), some (.int v2), some (.int v3), none], [.int v3, .ref 304], (SH, q1.2.1, q1.2.2)) from rfl) ?_
    obtain ⟨q2, hc2, h⟩ := Option.bind_eq_some_iff.mp h
    refine m_R_cV (v := (some (.int q2.1))) (h1 := (SH, q2.2)) (rest := []) (lo' := [some (.ref 304), some (.int v3)]) (ml := 2) (k0 := 304) (by decide) (Or.inl rfl) (m_opb_of (ins := .invokevirtual 77) (len := 3) (tag := 5) (a := 210) (b := 1) (c := 0) (q := 1625) (by decide +kernel)) (by decide +kernel) rfl (show m_isO 210 304 (SH, _) = true from m_isO_of (by decide +kernel)) (Nat.le_of_ble_eq_true rfl) rfl rfl (ok_m_isHouse X (d + 0) F _ _ _ _ hc2) ?_
    rcases m_ite h with ⟨c105, h⟩ | ⟨c105, h⟩
    · refine m_R_1 (by decide) (m_opb_of (ins := .ifCond .ne 10) (len := 3) (tag := 0) (a := 23) (b := 0) (c := 0) (q := 0) (by decide +kernel)) (if_pos c105) ?_
      exact ok_m_mind_16 X d F _ _ _ _ _ _ _ h
    · refine m_R_1 (by decide) (m_opb_of (ins := .ifCond .ne 10) (len := 3) (tag := 0) (a := 23) (b := 0) (c := 0) (q := 0) (by decide +kernel)) (if_neg c105) ?_
      refine m_R_sg (by decide) [(.iload_n 1, 1, 0, 1, 0, 0, 0)] (by decide +kernel) (show m_sgl X _ _ _ _ _ = some (24, [some (.ref 304), some (.int v1), some (.int v2), some (.int v3), none], [.int v1], (SH, q2.2.1, q2.2.2)) from rfl) ?_
      rcases m_ite h with ⟨c106, h⟩ | ⟨c106, h⟩
      · refine m_R_1 (by decide) (m_opb_of (ins := .ifCond .eq 18) (len := 3) (tag := 0) (a := 42) (b := 0) (c := 0) (q := 0) (by decide +kernel)) (if_pos c106) ?_
        exact ok_m_mind_42 X d F _ _ _ _ _ _ _ h
      · refine m_R_1 (by decide) (m_opb_of (ins := .ifCond .eq 18) (len := 3) (tag := 0) (a := 42) (b := 0) (c := 0) (q := 0) (by decide +kernel)) (if_neg c106) ?_
        refine m_R_sg (by decide) [(.aload_n 0, 1, 0, 0, 0, 0, 0), (.iload_n 3, 1, 0, 3, 0, 0, 0), (.iconst 0, 1, 0, 0, 0, 0, 0)] (by decide +kernel) (show m_sgl X _ _ _ _ _ = some (30, [some (.ref 304), some (.int v1), some (.int v2), some (.int v3), none], [.int (0 : Int32), .int v3, .ref 304], (SH, q2.2.1, q2.2.2)) from rfl) ?_
        obtain ⟨q3, hc3, h⟩ := Option.bind_eq_some_iff.mp h
        refine m_R_cV (v := (some (.int q3.1))) (h1 := (SH, q3.2)) (rest := []) (lo' := [some (.ref 304), some (.int v3), some (.int (0 : Int32))]) (ml := 3) (k0 := 304) (by decide) (Or.inl rfl) (m_opb_of (ins := .invokevirtual 65) (len := 3) (tag := 5) (a := 212) (b := 2) (c := 0) (q := 1633) (by decide +kernel)) (by decide +kernel) rfl (show m_isO 212 304 (SH, _) = true from m_isO_of (by decide +kernel)) (Nat.le_of_ble_eq_true rfl) rfl rfl (ok_m_hs X (d + 1) F _ _ _ _ _ hc3) ?_
        refine m_R_sg (by decide) [(.aload_n 0, 1, 0, 0, 0, 0, 0), (.iload_n 1, 1, 0, 1, 0, 0, 0), (.iconst 0, 1, 0, 0, 0, 0, 0)] (by decide +kernel) (show m_sgl X _ _ _ _ _ = some (36, [some (.ref 304), some (.int v1), some (.int v2), some (.int v3), none], [.int (0 : Int32), .int v1, .ref 304, .int q3.1], (SH, q3.2.1, q3.2.2)) from rfl) ?_
        obtain ⟨q4, hc4, h⟩ := Option.bind_eq_some_iff.mp h
        refine m_R_cV (v := (some (.int q4.1))) (h1 := (SH, q4.2)) (rest := [.int q3.1]) (lo' := [some (.ref 304), some (.int v1), some (.int (0 : Int32))]) (ml := 3) (k0 := 304) (by decide) (Or.inl rfl) (m_opb_of (ins := .invokevirtual 65) (len := 3) (tag := 5) (a := 212) (b := 2) (c := 0) (q := 1633) (by decide +kernel)) (by decide +kernel) rfl (show m_isO 212 304 (SH, _) = true from m_isO_of (by decide +kernel)) (Nat.le_of_ble_eq_true rfl) rfl rfl (ok_m_hs X (d + 1) F _ _ _ _ _ hc4) ?_
        rcases m_ite h with ⟨c107, h⟩ | ⟨c107, h⟩
        · refine m_R_1 (by decide) (m_opb_of (ins := .if_icmp .gt 10) (len := 3) (tag := 0) (a := 49) (b := 0) (c := 0) (q := 0) (by decide +kernel)) (if_pos c107) ?_
          refine m_R_sg (by decide) [(.iload_n 2, 1, 0, 2, 0, 0, 0), (.iconst 0, 1, 0, 0, 0, 0, 0), (.sipush 9999, 3, 0, 9999, 0, 0, 0)] (by decide +kernel) (show m_sgl X _ _ _ _ _ = some (54, [some (.ref 304), some (.int v1), some (.int v2), some (.int v3), none], [.int (9999 : Int32), .int (0 : Int32), .int v2], (SH, q4.2.1, q4.2.2)) from rfl) ?_
          obtain ⟨q5, hc5, h⟩ := Option.bind_eq_some_iff.mp h
          refine m_R_cS (v := (some (.int q5.1))) (h1 := (SH, q5.2)) (rest := []) (lo' := [some (.int v2), some (.int (0 : Int32)), some (.int (9999 : Int32))]) (ml := 3) (by decide) (m_opb_of (ins := .invokestatic 57) (len := 3) (tag := 4) (a := 201) (b := 3) (c := 0) (q := 1590) (by decide +kernel)) (by decide +kernel) (Nat.le_of_ble_eq_true rfl) rfl (Nat.le_of_ble_eq_true rfl) rfl rfl (ok_m_in X (d + 1) F _ _ _ _ _ _ hc5) ?_
          rcases m_ite h with ⟨c108, h⟩ | ⟨c108, h⟩
          · refine m_R_1 (by decide) (m_opb_of (ins := .ifCond .ne 10) (len := 3) (tag := 0) (a := 67) (b := 0) (c := 0) (q := 0) (by decide +kernel)) (if_pos c108) ?_
            refine m_R_sg (by decide) [(.aload_n 0, 1, 0, 0, 0, 0, 0), (.bipush (-7), 2, 0, 7, 1, 0, 0)] (by decide +kernel) (show m_sgl X _ _ _ _ _ = some (63, [some (.ref 304), some (.int v1), some (.int v2), some (.int v3), none], [.int (-7 : Int32), .ref 304], (SH, q5.2.1, q5.2.2)) from rfl) ?_
            obtain ⟨q6, hc6, h⟩ := Option.bind_eq_some_iff.mp h
            refine m_R_cV (v := (some (.int q6.1))) (h1 := (SH, q6.2)) (rest := []) (lo' := [some (.ref 304), some (.int (-7 : Int32))]) (ml := 2) (k0 := 304) (by decide) (Or.inl rfl) (m_opb_of (ins := .invokevirtual 61) (len := 3) (tag := 5) (a := 202) (b := 1) (c := 0) (q := 1593) (by decide +kernel)) (by decide +kernel) rfl (show m_isO 202 304 (SH, _) = true from m_isO_of (by decide +kernel)) (Nat.le_of_ble_eq_true rfl) rfl rfl (ok_m_refuse X (d + 1) F _ _ _ _ hc6) ?_
            obtain ⟨rfl, rfl⟩ := m_some h
            exact m_R_iret (by decide) (m_opb_of (ins := .ireturn) (len := 1) (tag := 1) (a := 0) (b := 0) (c := 0) (q := 0) (by decide +kernel)) (Or.inl rfl)
          · refine m_R_1 (by decide) (m_opb_of (ins := .ifCond .ne 10) (len := 3) (tag := 0) (a := 67) (b := 0) (c := 0) (q := 0) (by decide +kernel)) (if_neg c108) ?_
            refine m_R_sg (by decide) [(.aload_n 0, 1, 0, 0, 0, 0, 0), (.iload_n 1, 1, 0, 1, 0, 0, 0), (.iconst 4, 1, 0, 4, 0, 0, 0)] (by decide +kernel) (show m_sgl X _ _ _ _ _ = some (70, [some (.ref 304), some (.int v1), some (.int v2), some (.int v3), none], [.int (4 : Int32), .int v1, .ref 304], (SH, q5.2.1, q5.2.2)) from rfl) ?_
            obtain ⟨q7, hc7, h⟩ := Option.bind_eq_some_iff.mp h
            refine m_R_cV (v := (some (.int q7.1))) (h1 := (SH, q7.2)) (rest := []) (lo' := [some (.ref 304), some (.int v1), some (.int (4 : Int32))]) (ml := 3) (k0 := 304) (by decide) (Or.inl rfl) (m_opb_of (ins := .invokevirtual 65) (len := 3) (tag := 5) (a := 212) (b := 2) (c := 0) (q := 1633) (by decide +kernel)) (by decide +kernel) rfl (show m_isO 212 304 (SH, _) = true from m_isO_of (by decide +kernel)) (Nat.le_of_ble_eq_true rfl) rfl rfl (ok_m_hs X (d + 1) F _ _ _ _ _ hc7) ?_
            refine m_R_sg (by decide) [(.istore 4, 2, 0, 4, 0, 0, 0), (.aload_n 0, 1, 0, 0, 0, 0, 0), (.getfield 13, 3, 0, 12, 1, 3, 1493), (.sipush 128, 3, 0, 128, 0, 0, 0), (.bipush 12, 2, 0, 12, 0, 0, 0), (.iload_n 1, 1, 0, 1, 0, 0, 0), (.imul, 1, 0, 0, 0, 0, 0), (.iadd, 1, 0, 0, 0, 0, 0), (.iconst 4, 1, 0, 4, 0, 0, 0), (.iadd, 1, 0, 0, 0, 0, 0), (.iload_n 2, 1, 0, 2, 0, 0, 0)] (by decide +kernel) (show m_sgl X _ _ _ _ _ = some (90, [some (.ref 304), some (.int v1), some (.int v2), some (.int v3), some (.int q7.1)], [.int v2, .int (((128 : Int32) + ((12 : Int32) * v1)) + (4 : Int32)), .ref 305], (SH, q7.2.1, q7.2.2)) from rfl) ?_
            obtain ⟨c109, h⟩ := m_ite_n h
            refine m_R_1 (by decide) (m_opb_of (ins := .iastore) (len := 1) (tag := 0) (a := 0) (b := 0) (c := 0) (q := 0) (by decide +kernel)) (m_s_iast sh_305 c109) ?_
            refine m_R_sg (by decide) [(.aload_n 0, 1, 0, 0, 0, 0, 0), (.getfield 13, 3, 0, 12, 1, 3, 1493), (.sipush 128, 3, 0, 128, 0, 0, 0), (.bipush 12, 2, 0, 12, 0, 0, 0), (.iload_n 1, 1, 0, 1, 0, 0, 0), (.imul, 1, 0, 0, 0, 0, 0), (.iadd, 1, 0, 0, 0, 0, 0), (.iconst 5, 1, 0, 5, 0, 0, 0), (.iadd, 1, 0, 0, 0, 0, 0), (.iload_n 3, 1, 0, 3, 0, 0, 0)] (by decide +kernel) (show m_sgl X _ _ _ _ _ = some (106, [some (.ref 304), some (.int v1), some (.int v2), some (.int v3), some (.int q7.1)], [.int v3, .int (((128 : Int32) + ((12 : Int32) * v1)) + (5 : Int32)), .ref 305], (SH, (m_up q7.2.1 305 (((128 : Int32) + ((12 : Int32) * v1)) + (4 : Int32)).toNatClampNeg v2), q7.2.2)) from rfl) ?_
            obtain ⟨c110, h⟩ := m_ite_n h
            refine m_R_1 (by decide) (m_opb_of (ins := .iastore) (len := 1) (tag := 0) (a := 0) (b := 0) (c := 0) (q := 0) (by decide +kernel)) (m_s_iast sh_305 c110) ?_
            refine m_R_sg (by decide) [(.iload 4, 2, 0, 4, 0, 0, 0)] (by decide +kernel) (show m_sgl X _ _ _ _ _ = some (109, [some (.ref 304), some (.int v1), some (.int v2), some (.int v3), some (.int q7.1)], [.int q7.1], (SH, (m_up (m_up q7.2.1 305 (((128 : Int32) + ((12 : Int32) * v1)) + (4 : Int32)).toNatClampNeg v2) 305 (((128 : Int32) + ((12 : Int32) * v1)) + (5 : Int32)).toNatClampNeg v3), q7.2.2)) from rfl) ?_
            obtain ⟨rfl, rfl⟩ := m_some h
            exact m_R_iret (by decide) (m_opb_of (ins := .ireturn) (len := 1) (tag := 1) (a := 0) (b := 0) (c := 0) (q := 0) (by decide +kernel)) (Or.inl rfl)
        · refine m_R_1 (by decide) (m_opb_of (ins := .if_icmp .gt 10) (len := 3) (tag := 0) (a := 49) (b := 0) (c := 0) (q := 0) (by decide +kernel)) (if_neg c107) ?_
          exact ok_m_mind_42 X d F _ _ _ _ _ _ _ h
def f_x_bold_45 (F : Nat)    (m : mM) : Option (Int32 × mM) := ((f_x_refuse F (-7 : Int32) m).bind fun q4 => some (q4.1, q4.2))
theorem ok_x_bold_45 (X : mX) (d F : Nat) : ∀  (w1 : Option Value) (w2 : Option Value) (w3 : Option Value) (w4 : Option Value) (m : mM) (r : Int32) (m' : mM), f_x_bold_45 F  m = some (r, m') → m_R X (d + 1) 27 45 [some (.ref 0), w1, w2, w3, w4] [] (SH, m) (some (.int r), (SH, m')) := by
  intro w1 w2 w3 w4 m r m' h
  unfold f_x_bold_45 at h
  refine m_R_sg (by decide) [(.aload_n 0, 1, 0, 0, 0, 0, 0), (.bipush (-7), 2, 0, 7, 1, 0, 0)] (by decide +kernel) (show m_sgl X _ _ _ _ _ = some (48, [some (.ref 0), w1, w2, w3, w4], [.int (-7 : Int32), .ref 0], (SH, m.1, m.2)) from rfl) ?_
  obtain ⟨q4, hc4, h⟩ := Option.bind_eq_some_iff.mp h
  refine m_R_cV (v := (some (.int q4.1))) (h1 := (SH, q4.2)) (rest := []) (lo' := [some (.ref 0), some (.int (-7 : Int32))]) (ml := 2) (k0 := 0) (by decide) (Or.inl rfl) (m_opb_of (ins := .invokevirtual 76) (len := 3) (tag := 5) (a := 14) (b := 1) (c := 0) (q := 671) (by decide +kernel)) (by decide +kernel) rfl (show m_isO 14 0 (SH, _) = true from m_isO_of (by decide +kernel)) (Nat.le_of_ble_eq_true rfl) rfl rfl (ok_x_refuse X (d + 0) F _ _ _ _ hc4) ?_
  obtain ⟨rfl, rfl⟩ := m_some h
  exact m_R_iret (by decide) (m_opb_of (ins := .ireturn) (len := 1) (tag := 1) (a := 0) (b := 0) (c := 0) (q := 0) (by decide +kernel)) (Or.inl rfl)
def f_x_bold_93 (F : Nat)   (v4 : Int32) (m : mM) : Option (Int32 × mM) := some (v4, m)
theorem ok_x_bold_93 (X : mX) (d F : Nat) : ∀ (v4 : Int32) (w0 : Option Value) (w1 : Option Value) (w2 : Option Value) (w3 : Option Value) (m : mM) (r : Int32) (m' : mM), f_x_bold_93 F v4 m = some (r, m') → m_R X (d + 1) 27 93 [w0, w1, w2, w3, some (.int v4)] [] (SH, m) (some (.int r), (SH, m')) := by
  intro v4 w0 w1 w2 w3 m r m' h
  unfold f_x_bold_93 at h
  refine m_R_sg (by decide) [(.iload 4, 2, 0, 4, 0, 0, 0)] (by decide +kernel) (show m_sgl X _ _ _ _ _ = some (95, [w0, w1, w2, w3, some (.int v4)], [.int v4], (SH, m.1, m.2)) from rfl) ?_
  obtain ⟨rfl, rfl⟩ := m_some h
  exact m_R_iret (by decide) (m_opb_of (ins := .ireturn) (len := 1) (tag := 1) (a := 0) (b := 0) (c := 0) (q := 0) (by decide +kernel)) (Or.inl rfl)
def f_x_bold (F : Nat)   (v1 : Int32) (v2 : Int32) (m : mM) : Option (Int32 × mM) := ((f_Houses_isHouse F v1 m).bind fun q1 => (if q1.1 = 0 then ((f_x_refuse F (-3 : Int32) q1.2).bind fun q2 => some (q2.1, q2.2)) else (if v1 = 0 then ((f_x_refuse F (-5 : Int32) q1.2).bind fun q3 => some (q3.1, q3.2)) else (if v2 < 0 then f_x_bold_45 F q1.2 else (if v2 < (10000 : Int32) then (if v1 < 0 ∨ 16 ≤ v1.toNatClampNeg then none else f_x_bold_93 F (((1000 : Int32) * (q1.2.1 25 v1.toNatClampNeg)) + (q1.2.1 26 v1.toNatClampNeg)) ((m_up (m_up q1.2.1 25 v1.toNatClampNeg (v2 / (1000 : Int32))) 26 v1.toNatClampNeg (v2 - v2 / (1000 : Int32) * (1000 : Int32))), q1.2.2)) else f_x_bold_45 F q1.2)))))
theorem ok_x_bold (X : mX) (d F : Nat) : ∀ (v1 : Int32) (v2 : Int32)  (m : mM) (r : Int32) (m' : mM), f_x_bold F v1 v2 m = some (r, m') → m_R X (d + 1) 27 0 [some (.ref 0), some (.int v1), some (.int v2), none, none] [] (SH, m) (some (.int r), (SH, m')) := by
  intro v1 v2 m r m' h
  unfold f_x_bold at h
  refine m_R_sg (by decide) [(.aload_n 0, 1, 0, 0, 0, 0, 0), (.getfield 28, 3, 0, 11, 2, 3, 632), (.getfield 95, 3, 0, 10, 1, 3, 507), (.astore_n 3, 1, 0, 3, 0, 0, 0), (.aload_n 3, 1, 0, 3, 0, 0, 0), (.iload_n 1, 1, 0, 1, 0, 0, 0)] (by decide +kernel) (show m_sgl X _ _ _ _ _ = some (10, [some (.ref 0), some (.int v1), some (.int v2), some (.ref 19), none], [.int v1, .ref 19], (SH, m.1, m.2)) from rfl) ?_
  obtain ⟨q1, hc1, h⟩ := Option.bind_eq_some_iff.mp h
  refine m_R_cV (v := (some (.int q1.1))) (h1 := (SH, q1.2)) (rest := []) (lo' := [some (.ref 19), some (.int v1)]) (ml := 2) (k0 := 19) (by decide) (Or.inl rfl) (m_opb_of (ins := .invokevirtual 107) (len := 3) (tag := 5) (a := 24) (b := 1) (c := 0) (q := 712) (by decide +kernel)) (by decide +kernel) rfl (show m_isO 24 19 (SH, _) = true from m_isO_of (by decide +kernel)) (Nat.le_of_ble_eq_true rfl) rfl rfl (ok_Houses_isHouse X (d + 0) F _ _ _ _ hc1) ?_
  rcases m_ite h with ⟨c111, h⟩ | ⟨c111, h⟩
  · refine m_R_1 (by decide) (m_opb_of (ins := .ifCond .ne 10) (len := 3) (tag := 0) (a := 23) (b := 0) (c := 0) (q := 0) (by decide +kernel)) (if_pos c111) ?_
    refine m_R_sg (by decide) [(.aload_n 0, 1, 0, 0, 0, 0, 0), (.bipush (-3), 2, 0, 3, 1, 0, 0)] (by decide +kernel) (show m_sgl X _ _ _ _ _ = some (19, [some (.ref 0), some (.int v1), some (.int v2), some (.ref 19), none], [.int (-3 : Int32), .ref 0], (SH, q1.2.1, q1.2.2)) from rfl) ?_
    obtain ⟨q2, hc2, h⟩ := Option.bind_eq_some_iff.mp h
    refine m_R_cV (v := (some (.int q2.1))) (h1 := (SH, q2.2)) (rest := []) (lo' := [some (.ref 0), some (.int (-3 : Int32))]) (ml := 2) (k0 := 0) (by decide) (Or.inl rfl) (m_opb_of (ins := .invokevirtual 76) (len := 3) (tag := 5) (a := 14) (b := 1) (c := 0) (q := 671) (by decide +kernel)) (by decide +kernel) rfl (show m_isO 14 0 (SH, _) = true from m_isO_of (by decide +kernel)) (Nat.le_of_ble_eq_true rfl) rfl rfl (ok_x_refuse X (d + 0) F _ _ _ _ hc2) ?_
    obtain ⟨rfl, rfl⟩ := m_some h
    exact m_R_iret (by decide) (m_opb_of (ins := .ireturn) (len := 1) (tag := 1) (a := 0) (b := 0) (c := 0) (q := 0) (by decide +kernel)) (Or.inl rfl)
  · refine m_R_1 (by decide) (m_opb_of (ins := .ifCond .ne 10) (len := 3) (tag := 0) (a := 23) (b := 0) (c := 0) (q := 0) (by decide +kernel)) (if_neg c111) ?_
    refine m_R_sg (by decide) [(.iload_n 1, 1, 0, 1, 0, 0, 0)] (by decide +kernel) (show m_sgl X _ _ _ _ _ = some (24, [some (.ref 0), some (.int v1), some (.int v2), some (.ref 19), none], [.int v1], (SH, q1.2.1, q1.2.2)) from rfl) ?_
    rcases m_ite h with ⟨c112, h⟩ | ⟨c112, h⟩
    · refine m_R_1 (by decide) (m_opb_of (ins := .ifCond .ne 10) (len := 3) (tag := 0) (a := 34) (b := 0) (c := 0) (q := 0) (by decide +kernel)) (if_pos c112) ?_
      refine m_R_sg (by decide) [(.aload_n 0, 1, 0, 0, 0, 0, 0), (.bipush (-5), 2, 0, 5, 1, 0, 0)] (by decide +kernel) (show m_sgl X _ _ _ _ _ = some (30, [some (.ref 0), some (.int v1), some (.int v2), some (.ref 19), none], [.int (-5 : Int32), .ref 0], (SH, q1.2.1, q1.2.2)) from rfl) ?_
      obtain ⟨q3, hc3, h⟩ := Option.bind_eq_some_iff.mp h
      refine m_R_cV (v := (some (.int q3.1))) (h1 := (SH, q3.2)) (rest := []) (lo' := [some (.ref 0), some (.int (-5 : Int32))]) (ml := 2) (k0 := 0) (by decide) (Or.inl rfl) (m_opb_of (ins := .invokevirtual 76) (len := 3) (tag := 5) (a := 14) (b := 1) (c := 0) (q := 671) (by decide +kernel)) (by decide +kernel) rfl (show m_isO 14 0 (SH, _) = true from m_isO_of (by decide +kernel)) (Nat.le_of_ble_eq_true rfl) rfl rfl (ok_x_refuse X (d + 0) F _ _ _ _ hc3) ?_
      obtain ⟨rfl, rfl⟩ := m_some h
      exact m_R_iret (by decide) (m_opb_of (ins := .ireturn) (len := 1) (tag := 1) (a := 0) (b := 0) (c := 0) (q := 0) (by decide +kernel)) (Or.inl rfl)
    · refine m_R_1 (by decide) (m_opb_of (ins := .ifCond .ne 10) (len := 3) (tag := 0) (a := 34) (b := 0) (c := 0) (q := 0) (by decide +kernel)) (if_neg c112) ?_
      refine m_R_sg (by decide) [(.iload_n 2, 1, 0, 2, 0, 0, 0)] (by decide +kernel) (show m_sgl X _ _ _ _ _ = some (35, [some (.ref 0), some (.int v1), some (.int v2), some (.ref 19), none], [.int v2], (SH, q1.2.1, q1.2.2)) from rfl) ?_
      rcases m_ite h with ⟨c113, h⟩ | ⟨c113, h⟩
      · refine m_R_1 (by decide) (m_opb_of (ins := .ifCond .lt 10) (len := 3) (tag := 0) (a := 45) (b := 0) (c := 0) (q := 0) (by decide +kernel)) (if_pos c113) ?_
        exact ok_x_bold_45 X d F _ _ _ _ _ _ _ h
      · refine m_R_1 (by decide) (m_opb_of (ins := .ifCond .lt 10) (len := 3) (tag := 0) (a := 45) (b := 0) (c := 0) (q := 0) (by decide +kernel)) (if_neg c113) ?_
        refine m_R_sg (by decide) [(.iload_n 2, 1, 0, 2, 0, 0, 0), (.sipush 10000, 3, 0, 10000, 0, 0, 0)] (by decide +kernel) (show m_sgl X _ _ _ _ _ = some (42, [some (.ref 0), some (.int v1), some (.int v2), some (.ref 19), none], [.int (10000 : Int32), .int v2], (SH, q1.2.1, q1.2.2)) from rfl) ?_
        rcases m_ite h with ⟨c114, h⟩ | ⟨c114, h⟩
        · refine m_R_1 (by decide) (m_opb_of (ins := .if_icmp .lt 10) (len := 3) (tag := 0) (a := 52) (b := 0) (c := 0) (q := 0) (by decide +kernel)) (if_pos c114) ?_
          refine m_R_sg (by decide) [(.sipush 1000, 3, 0, 1000, 0, 0, 0), (.aload_n 3, 1, 0, 3, 0, 0, 0), (.getfield 125, 3, 0, 1, 5, 3, 264), (.iload_n 1, 1, 0, 1, 0, 0, 0)] (by decide +kernel) (show m_sgl X _ _ _ _ _ = some (60, [some (.ref 0), some (.int v1), some (.int v2), some (.ref 19), none], [.int v1, .ref 25, .int (1000 : Int32)], (SH, q1.2.1, q1.2.2)) from rfl) ?_
          obtain ⟨c115, h⟩ := m_ite_n h
          refine m_R_1 (by decide) (m_opb_of (ins := .iaload) (len := 1) (tag := 0) (a := 0) (b := 0) (c := 0) (q := 0) (by decide +kernel)) (m_s_iald sh_25 (by decide) c115) ?_
          refine m_R_sg (by decide) [(.imul, 1, 0, 0, 0, 0, 0), (.aload_n 3, 1, 0, 3, 0, 0, 0), (.getfield 128, 3, 0, 1, 6, 3, 267), (.iload_n 1, 1, 0, 1, 0, 0, 0)] (by decide +kernel) (show m_sgl X _ _ _ _ _ = some (67, [some (.ref 0), some (.int v1), some (.int v2), some (.ref 19), none], [.int v1, .ref 26, .int ((1000 : Int32) * (q1.2.1 25 v1.toNatClampNeg))], (SH, q1.2.1, q1.2.2)) from rfl) ?_
          refine m_R_1 (by decide) (m_opb_of (ins := .iaload) (len := 1) (tag := 0) (a := 0) (b := 0) (c := 0) (q := 0) (by decide +kernel)) (m_s_iald sh_26 (by decide) c115) ?_
          refine m_R_sg (by decide) [(.iadd, 1, 0, 0, 0, 0, 0), (.istore 4, 2, 0, 4, 0, 0, 0), (.aload_n 3, 1, 0, 3, 0, 0, 0), (.getfield 125, 3, 0, 1, 5, 3, 264), (.iload_n 1, 1, 0, 1, 0, 0, 0), (.iload_n 2, 1, 0, 2, 0, 0, 0), (.sipush 1000, 3, 0, 1000, 0, 0, 0)] (by decide +kernel) (show m_sgl X _ _ _ _ _ = some (80, [some (.ref 0), some (.int v1), some (.int v2), some (.ref 19), some (.int (((1000 : Int32) * (q1.2.1 25 v1.toNatClampNeg)) + (q1.2.1 26 v1.toNatClampNeg)))], [.int (1000 : Int32), .int v2, .int v1, .ref 25], (SH, q1.2.1, q1.2.2)) from rfl) ?_
          refine m_R_1 (by decide) (m_opb_of (ins := .idiv) (len := 1) (tag := 0) (a := 0) (b := 0) (c := 0) (q := 0) (by decide +kernel)) (m_s_idiv (by decide)) ?_
          refine m_R_1 (by decide) (m_opb_of (ins := .iastore) (len := 1) (tag := 0) (a := 0) (b := 0) (c := 0) (q := 0) (by decide +kernel)) (m_s_iast sh_25 c115) ?_
          refine m_R_sg (by decide) [(.aload_n 3, 1, 0, 3, 0, 0, 0), (.getfield 128, 3, 0, 1, 6, 3, 267), (.iload_n 1, 1, 0, 1, 0, 0, 0), (.iload_n 2, 1, 0, 2, 0, 0, 0), (.sipush 1000, 3, 0, 1000, 0, 0, 0)] (by decide +kernel) (show m_sgl X _ _ _ _ _ = some (91, [some (.ref 0), some (.int v1), some (.int v2), some (.ref 19), some (.int (((1000 : Int32) * (q1.2.1 25 v1.toNatClampNeg)) + (q1.2.1 26 v1.toNatClampNeg)))], [.int (1000 : Int32), .int v2, .int v1, .ref 26], (SH, (m_up q1.2.1 25 v1.toNatClampNeg (v2 / (1000 : Int32))), q1.2.2)) from rfl) ?_
          refine m_R_1 (by decide) (m_opb_of (ins := .irem) (len := 1) (tag := 0) (a := 0) (b := 0) (c := 0) (q := 0) (by decide +kernel)) (m_s_irem (by decide)) ?_
          refine m_R_1 (by decide) (m_opb_of (ins := .iastore) (len := 1) (tag := 0) (a := 0) (b := 0) (c := 0) (q := 0) (by decide +kernel)) (m_s_iast sh_26 c115) ?_
          exact ok_x_bold_93 X d F _ _ _ _ _ _ _ _ h
        · refine m_R_1 (by decide) (m_opb_of (ins := .if_icmp .lt 10) (len := 3) (tag := 0) (a := 52) (b := 0) (c := 0) (q := 0) (by decide +kernel)) (if_neg c114) ?_
          exact ok_x_bold_45 X d F _ _ _ _ _ _ _ h
def f_m_bold_106 (F : Nat)   (v3 : Int32) (m : mM) : Option (Int32 × mM) := some (v3, m)
theorem ok_m_bold_106 (X : mX) (d F : Nat) : ∀ (v3 : Int32) (w0 : Option Value) (w1 : Option Value) (w2 : Option Value) (m : mM) (r : Int32) (m' : mM), f_m_bold_106 F v3 m = some (r, m') → m_R X (d + 2) 214 106 [w0, w1, w2, some (.int v3)] [] (SH, m) (some (.int r), (SH, m')) := by
  intro v3 w0 w1 w2 m r m' h
  unfold f_m_bold_106 at h
  refine m_R_sg (by decide) [(.iload_n 3, 1, 0, 3, 0, 0, 0)] (by decide +kernel) (show m_sgl X _ _ _ _ _ = some (107, [w0, w1, w2, some (.int v3)], [.int v3], (SH, m.1, m.2)) from rfl) ?_
  obtain ⟨rfl, rfl⟩ := m_some h
  exact m_R_iret (by decide) (m_opb_of (ins := .ireturn) (len := 1) (tag := 1) (a := 0) (b := 0) (c := 0) (q := 0) (by decide +kernel)) (Or.inl rfl)
def f_m_bold (F : Nat)   (v1 : Int32) (v2 : Int32) (m : mM) : Option (Int32 × mM) := ((f_m_isHouse F v1 m).bind fun q1 => (if q1.1 = 0 then ((f_m_refuse F (-3 : Int32) q1.2).bind fun q2 => some (q2.1, q2.2)) else (if v1 = 0 then ((f_m_refuse F (-5 : Int32) q1.2).bind fun q3 => some (q3.1, q3.2)) else ((f_m_in F v2 (0 : Int32) (9999 : Int32) q1.2).bind fun q4 => (if q4.1 = 0 then ((f_m_refuse F (-7 : Int32) q4.2).bind fun q5 => some (q5.1, q5.2)) else ((f_m_hs F v1 (6 : Int32) q4.2).bind fun q6 => ((f_m_hs F v1 (7 : Int32) q6.2).bind fun q7 => (if (((128 : Int32) + ((12 : Int32) * v1)) + (6 : Int32)) < 0 ∨ 9732 ≤ (((128 : Int32) + ((12 : Int32) * v1)) + (6 : Int32)).toNatClampNeg then none else (if (((128 : Int32) + ((12 : Int32) * v1)) + (7 : Int32)) < 0 ∨ 9732 ≤ (((128 : Int32) + ((12 : Int32) * v1)) + (7 : Int32)).toNatClampNeg then none else f_m_bold_106 F (((1000 : Int32) * q6.1) + q7.1) ((m_up (m_up q7.2.1 305 (((128 : Int32) + ((12 : Int32) * v1)) + (6 : Int32)).toNatClampNeg (v2 / (1000 : Int32))) 305 (((128 : Int32) + ((12 : Int32) * v1)) + (7 : Int32)).toNatClampNeg (v2 - v2 / (1000 : Int32) * (1000 : Int32))), q7.2.2))))))))))
theorem ok_m_bold (X : mX) (d F : Nat) : ∀ (v1 : Int32) (v2 : Int32)  (m : mM) (r : Int32) (m' : mM), f_m_bold F v1 v2 m = some (r, m') → m_R X (d + 2) 214 0 [some (.ref 304), some (.int v1), some (.int v2), none] [] (SH, m) (some (.int r), (SH, m')) := by
  intro v1 v2 m r m' h
  unfold f_m_bold at h
  refine m_R_sg (by decide) [(.aload_n 0, 1, 0, 0, 0, 0, 0), (.iload_n 1, 1, 0, 1, 0, 0, 0)] (by decide +kernel) (show m_sgl X _ _ _ _ _ = some (2, [some (.ref 304), some (.int v1), some (.int v2), none], [.int v1, .ref 304], (SH, m.1, m.2)) from rfl) ?_
  obtain ⟨q1, hc1, h⟩ := Option.bind_eq_some_iff.mp h
  refine m_R_cV (v := (some (.int q1.1))) (h1 := (SH, q1.2)) (rest := []) (lo' := [some (.ref 304), some (.int v1)]) (ml := 2) (k0 := 304) (by decide) (Or.inl rfl) (m_opb_of (ins := .invokevirtual 77) (len := 3) (tag := 5) (a := 210) (b := 1) (c := 0) (q := 1625) (by decide +kernel)) (by decide +kernel) rfl (show m_isO 210 304 (SH, _) = true from m_isO_of (by decide +kernel)) (Nat.le_of_ble_eq_true rfl) rfl rfl (ok_m_isHouse X (d + 0) F _ _ _ _ hc1) ?_
  rcases m_ite h with ⟨c116, h⟩ | ⟨c116, h⟩
  · refine m_R_1 (by decide) (m_opb_of (ins := .ifCond .ne 10) (len := 3) (tag := 0) (a := 15) (b := 0) (c := 0) (q := 0) (by decide +kernel)) (if_pos c116) ?_
    refine m_R_sg (by decide) [(.aload_n 0, 1, 0, 0, 0, 0, 0), (.bipush (-3), 2, 0, 3, 1, 0, 0)] (by decide +kernel) (show m_sgl X _ _ _ _ _ = some (11, [some (.ref 304), some (.int v1), some (.int v2), none], [.int (-3 : Int32), .ref 304], (SH, q1.2.1, q1.2.2)) from rfl) ?_
    obtain ⟨q2, hc2, h⟩ := Option.bind_eq_some_iff.mp h
    refine m_R_cV (v := (some (.int q2.1))) (h1 := (SH, q2.2)) (rest := []) (lo' := [some (.ref 304), some (.int (-3 : Int32))]) (ml := 2) (k0 := 304) (by decide) (Or.inl rfl) (m_opb_of (ins := .invokevirtual 61) (len := 3) (tag := 5) (a := 202) (b := 1) (c := 0) (q := 1593) (by decide +kernel)) (by decide +kernel) rfl (show m_isO 202 304 (SH, _) = true from m_isO_of (by decide +kernel)) (Nat.le_of_ble_eq_true rfl) rfl rfl (ok_m_refuse X (d + 1) F _ _ _ _ hc2) ?_
    obtain ⟨rfl, rfl⟩ := m_some h
    exact m_R_iret (by decide) (m_opb_of (ins := .ireturn) (len := 1) (tag := 1) (a := 0) (b := 0) (c := 0) (q := 0) (by decide +kernel)) (Or.inl rfl)
  · refine m_R_1 (by decide) (m_opb_of (ins := .ifCond .ne 10) (len := 3) (tag := 0) (a := 15) (b := 0) (c := 0) (q := 0) (by decide +kernel)) (if_neg c116) ?_
    refine m_R_sg (by decide) [(.iload_n 1, 1, 0, 1, 0, 0, 0)] (by decide +kernel) (show m_sgl X _ _ _ _ _ = some (16, [some (.ref 304), some (.int v1), some (.int v2), none], [.int v1], (SH, q1.2.1, q1.2.2)) from rfl) ?_
    rcases m_ite h with ⟨c117, h⟩ | ⟨c117, h⟩
    · refine m_R_1 (by decide) (m_opb_of (ins := .ifCond .ne 10) (len := 3) (tag := 0) (a := 26) (b := 0) (c := 0) (q := 0) (by decide +kernel)) (if_pos c117) ?_
      refine m_R_sg (by decide) [(.aload_n 0, 1, 0, 0, 0, 0, 0), (.bipush (-5), 2, 0, 5, 1, 0, 0)] (by decide +kernel) (show m_sgl X _ _ _ _ _ = some (22, [some (.ref 304), some (.int v1), some (.int v2), none], [.int (-5 : Int32), .ref 304], (SH, q1.2.1, q1.2.2)) from rfl) ?_
      obtain ⟨q3, hc3, h⟩ := Option.bind_eq_some_iff.mp h
      refine m_R_cV (v := (some (.int q3.1))) (h1 := (SH, q3.2)) (rest := []) (lo' := [some (.ref 304), some (.int (-5 : Int32))]) (ml := 2) (k0 := 304) (by decide) (Or.inl rfl) (m_opb_of (ins := .invokevirtual 61) (len := 3) (tag := 5) (a := 202) (b := 1) (c := 0) (q := 1593) (by decide +kernel)) (by decide +kernel) rfl (show m_isO 202 304 (SH, _) = true from m_isO_of (by decide +kernel)) (Nat.le_of_ble_eq_true rfl) rfl rfl (ok_m_refuse X (d + 1) F _ _ _ _ hc3) ?_
      obtain ⟨rfl, rfl⟩ := m_some h
      exact m_R_iret (by decide) (m_opb_of (ins := .ireturn) (len := 1) (tag := 1) (a := 0) (b := 0) (c := 0) (q := 0) (by decide +kernel)) (Or.inl rfl)
    · refine m_R_1 (by decide) (m_opb_of (ins := .ifCond .ne 10) (len := 3) (tag := 0) (a := 26) (b := 0) (c := 0) (q := 0) (by decide +kernel)) (if_neg c117) ?_
      refine m_R_sg (by decide) [(.iload_n 2, 1, 0, 2, 0, 0, 0), (.iconst 0, 1, 0, 0, 0, 0, 0), (.sipush 9999, 3, 0, 9999, 0, 0, 0)] (by decide +kernel) (show m_sgl X _ _ _ _ _ = some (31, [some (.ref 304), some (.int v1), some (.int v2), none], [.int (9999 : Int32), .int (0 : Int32), .int v2], (SH, q1.2.1, q1.2.2)) from rfl) ?_
      obtain ⟨q4, hc4, h⟩ := Option.bind_eq_some_iff.mp h
      refine m_R_cS (v := (some (.int q4.1))) (h1 := (SH, q4.2)) (rest := []) (lo' := [some (.int v2), some (.int (0 : Int32)), some (.int (9999 : Int32))]) (ml := 3) (by decide) (m_opb_of (ins := .invokestatic 57) (len := 3) (tag := 4) (a := 201) (b := 3) (c := 0) (q := 1590) (by decide +kernel)) (by decide +kernel) (Nat.le_of_ble_eq_true rfl) rfl (Nat.le_of_ble_eq_true rfl) rfl rfl (ok_m_in X (d + 1) F _ _ _ _ _ _ hc4) ?_
      rcases m_ite h with ⟨c118, h⟩ | ⟨c118, h⟩
      · refine m_R_1 (by decide) (m_opb_of (ins := .ifCond .ne 10) (len := 3) (tag := 0) (a := 44) (b := 0) (c := 0) (q := 0) (by decide +kernel)) (if_pos c118) ?_
        refine m_R_sg (by decide) [(.aload_n 0, 1, 0, 0, 0, 0, 0), (.bipush (-7), 2, 0, 7, 1, 0, 0)] (by decide +kernel) (show m_sgl X _ _ _ _ _ = some (40, [some (.ref 304), some (.int v1), some (.int v2), none], [.int (-7 : Int32), .ref 304], (SH, q4.2.1, q4.2.2)) from rfl) ?_
        obtain ⟨q5, hc5, h⟩ := Option.bind_eq_some_iff.mp h
        refine m_R_cV (v := (some (.int q5.1))) (h1 := (SH, q5.2)) (rest := []) (lo' := [some (.ref 304), some (.int (-7 : Int32))]) (ml := 2) (k0 := 304) (by decide) (Or.inl rfl) (m_opb_of (ins := .invokevirtual 61) (len := 3) (tag := 5) (a := 202) (b := 1) (c := 0) (q := 1593) (by decide +kernel)) (by decide +kernel) rfl (show m_isO 202 304 (SH, _) = true from m_isO_of (by decide +kernel)) (Nat.le_of_ble_eq_true rfl) rfl rfl (ok_m_refuse X (d + 1) F _ _ _ _ hc5) ?_
        obtain ⟨rfl, rfl⟩ := m_some h
        exact m_R_iret (by decide) (m_opb_of (ins := .ireturn) (len := 1) (tag := 1) (a := 0) (b := 0) (c := 0) (q := 0) (by decide +kernel)) (Or.inl rfl)
      · refine m_R_1 (by decide) (m_opb_of (ins := .ifCond .ne 10) (len := 3) (tag := 0) (a := 44) (b := 0) (c := 0) (q := 0) (by decide +kernel)) (if_neg c118) ?_
        refine m_R_sg (by decide) [(.sipush 1000, 3, 0, 1000, 0, 0, 0), (.aload_n 0, 1, 0, 0, 0, 0, 0), (.iload_n 1, 1, 0, 1, 0, 0, 0), (.bipush 6, 2, 0, 6, 0, 0, 0)] (by decide +kernel) (show m_sgl X _ _ _ _ _ = some (51, [some (.ref 304), some (.int v1), some (.int v2), none], [.int (6 : Int32), .int v1, .ref 304, .int (1000 : Int32)], (SH, q4.2.1, q4.2.2)) from rfl) ?_
        obtain ⟨q6, hc6, h⟩ := Option.bind_eq_some_iff.mp h
        refine m_R_cV (v := (some (.int q6.1))) (h1 := (SH, q6.2)) (rest := [.int (1000 : Int32)]) (lo' := [some (.ref 304), some (.int v1), some (.int (6 : Int32))]) (ml := 3) (k0 := 304) (by decide) (Or.inl rfl) (m_opb_of (ins := .invokevirtual 65) (len := 3) (tag := 5) (a := 212) (b := 2) (c := 0) (q := 1633) (by decide +kernel)) (by decide +kernel) rfl (show m_isO 212 304 (SH, _) = true from m_isO_of (by decide +kernel)) (Nat.le_of_ble_eq_true rfl) rfl rfl (ok_m_hs X (d + 1) F _ _ _ _ _ hc6) ?_
        refine m_R_sg (by decide) [(.imul, 1, 0, 0, 0, 0, 0), (.aload_n 0, 1, 0, 0, 0, 0, 0), (.iload_n 1, 1, 0, 1, 0, 0, 0), (.bipush 7, 2, 0, 7, 0, 0, 0)] (by decide +kernel) (show m_sgl X _ _ _ _ _ = some (59, [some (.ref 304), some (.int v1), some (.int v2), none], [.int (7 : Int32), .int v1, .ref 304, .int ((1000 : Int32) * q6.1)], (SH, q6.2.1, q6.2.2)) from rfl) ?_
        obtain ⟨q7, hc7, h⟩ := Option.bind_eq_some_iff.mp h
        refine m_R_cV (v := (some (.int q7.1))) (h1 := (SH, q7.2)) (rest := [.int ((1000 : Int32) * q6.1)]) (lo' := [some (.ref 304), some (.int v1), some (.int (7 : Int32))]) (ml := 3) (k0 := 304) (by decide) (Or.inl rfl) (m_opb_of (ins := .invokevirtual 65) (len := 3) (tag := 5) (a := 212) (b := 2) (c := 0) (q := 1633) (by decide +kernel)) (by decide +kernel) rfl (show m_isO 212 304 (SH, _) = true from m_isO_of (by decide +kernel)) (Nat.le_of_ble_eq_true rfl) rfl rfl (ok_m_hs X (d + 1) F _ _ _ _ _ hc7) ?_
        refine m_R_sg (by decide) [(.iadd, 1, 0, 0, 0, 0, 0), (.istore_n 3, 1, 0, 3, 0, 0, 0), (.aload_n 0, 1, 0, 0, 0, 0, 0), (.getfield 13, 3, 0, 12, 1, 3, 1493), (.sipush 128, 3, 0, 128, 0, 0, 0), (.bipush 12, 2, 0, 12, 0, 0, 0), (.iload_n 1, 1, 0, 1, 0, 0, 0), (.imul, 1, 0, 0, 0, 0, 0), (.iadd, 1, 0, 0, 0, 0, 0), (.bipush 6, 2, 0, 6, 0, 0, 0), (.iadd, 1, 0, 0, 0, 0, 0), (.iload_n 2, 1, 0, 2, 0, 0, 0), (.sipush 1000, 3, 0, 1000, 0, 0, 0)] (by decide +kernel) (show m_sgl X _ _ _ _ _ = some (83, [some (.ref 304), some (.int v1), some (.int v2), some (.int (((1000 : Int32) * q6.1) + q7.1))], [.int (1000 : Int32), .int v2, .int (((128 : Int32) + ((12 : Int32) * v1)) + (6 : Int32)), .ref 305], (SH, q7.2.1, q7.2.2)) from rfl) ?_
        refine m_R_1 (by decide) (m_opb_of (ins := .idiv) (len := 1) (tag := 0) (a := 0) (b := 0) (c := 0) (q := 0) (by decide +kernel)) (m_s_idiv (by decide)) ?_
        obtain ⟨c119, h⟩ := m_ite_n h
        refine m_R_1 (by decide) (m_opb_of (ins := .iastore) (len := 1) (tag := 0) (a := 0) (b := 0) (c := 0) (q := 0) (by decide +kernel)) (m_s_iast sh_305 c119) ?_
        refine m_R_sg (by decide) [(.aload_n 0, 1, 0, 0, 0, 0, 0), (.getfield 13, 3, 0, 12, 1, 3, 1493), (.sipush 128, 3, 0, 128, 0, 0, 0), (.bipush 12, 2, 0, 12, 0, 0, 0), (.iload_n 1, 1, 0, 1, 0, 0, 0), (.imul, 1, 0, 0, 0, 0, 0), (.iadd, 1, 0, 0, 0, 0, 0), (.bipush 7, 2, 0, 7, 0, 0, 0), (.iadd, 1, 0, 0, 0, 0, 0), (.iload_n 2, 1, 0, 2, 0, 0, 0), (.sipush 1000, 3, 0, 1000, 0, 0, 0)] (by decide +kernel) (show m_sgl X _ _ _ _ _ = some (104, [some (.ref 304), some (.int v1), some (.int v2), some (.int (((1000 : Int32) * q6.1) + q7.1))], [.int (1000 : Int32), .int v2, .int (((128 : Int32) + ((12 : Int32) * v1)) + (7 : Int32)), .ref 305], (SH, (m_up q7.2.1 305 (((128 : Int32) + ((12 : Int32) * v1)) + (6 : Int32)).toNatClampNeg (v2 / (1000 : Int32))), q7.2.2)) from rfl) ?_
        refine m_R_1 (by decide) (m_opb_of (ins := .irem) (len := 1) (tag := 0) (a := 0) (b := 0) (c := 0) (q := 0) (by decide +kernel)) (m_s_irem (by decide)) ?_
        obtain ⟨c120, h⟩ := m_ite_n h
        refine m_R_1 (by decide) (m_opb_of (ins := .iastore) (len := 1) (tag := 0) (a := 0) (b := 0) (c := 0) (q := 0) (by decide +kernel)) (m_s_iast sh_305 c120) ?_
        exact ok_m_bold_106 X d F _ _ _ _ _ _ _ h
def f_World_coin (F : Nat)   (v1 : Int32) (m : mM) : Option (Int32 × mM) := (if v1 < 0 ∨ 16 ≤ v1.toNatClampNeg then none else some (((m.1 22 v1.toNatClampNeg) + ((10 : Int32) * (m.1 61 v1.toNatClampNeg))), m))
theorem ok_World_coin (X : mX) (d F : Nat) : ∀ (v1 : Int32)  (m : mM) (r : Int32) (m' : mM), f_World_coin F v1 m = some (r, m') → m_R X (d + 0) 29 0 [some (.ref 16), some (.int v1)] [] (SH, m) (some (.int r), (SH, m')) := by
  intro v1 m r m' h
  unfold f_World_coin at h
  refine m_R_sg (by decide) [(.aload_n 0, 1, 0, 0, 0, 0, 0), (.getfield 21, 3, 0, 10, 1, 3, 505), (.getfield 107, 3, 0, 1, 2, 3, 255), (.iload_n 1, 1, 0, 1, 0, 0, 0)] (by decide +kernel) (show m_sgl X _ _ _ _ _ = some (8, [some (.ref 16), some (.int v1)], [.int v1, .ref 22], (SH, m.1, m.2)) from rfl) ?_
  obtain ⟨c121, h⟩ := m_ite_n h
  refine m_R_1 (by decide) (m_opb_of (ins := .iaload) (len := 1) (tag := 0) (a := 0) (b := 0) (c := 0) (q := 0) (by decide +kernel)) (m_s_iald sh_22 (by decide) c121) ?_
  refine m_R_sg (by decide) [(.bipush 10, 2, 0, 10, 0, 0, 0), (.aload_n 0, 1, 0, 0, 0, 0, 0), (.getfield 72, 3, 0, 10, 8, 3, 518), (.getfield 110, 3, 0, 3, 6, 3, 461), (.iload_n 1, 1, 0, 1, 0, 0, 0)] (by decide +kernel) (show m_sgl X _ _ _ _ _ = some (19, [some (.ref 16), some (.int v1)], [.int v1, .ref 61, .int (10 : Int32), .int (m.1 22 v1.toNatClampNeg)], (SH, m.1, m.2)) from rfl) ?_
  refine m_R_1 (by decide) (m_opb_of (ins := .iaload) (len := 1) (tag := 0) (a := 0) (b := 0) (c := 0) (q := 0) (by decide +kernel)) (m_s_iald sh_61 (by decide) c121) ?_
  refine m_R_sg (by decide) [(.imul, 1, 0, 0, 0, 0, 0), (.iadd, 1, 0, 0, 0, 0, 0)] (by decide +kernel) (show m_sgl X _ _ _ _ _ = some (22, [some (.ref 16), some (.int v1)], [.int ((m.1 22 v1.toNatClampNeg) + ((10 : Int32) * (m.1 61 v1.toNatClampNeg)))], (SH, m.1, m.2)) from rfl) ?_
  obtain ⟨rfl, rfl⟩ := m_some h
  exact m_R_iret (by decide) (m_opb_of (ins := .ireturn) (len := 1) (tag := 1) (a := 0) (b := 0) (c := 0) (q := 0) (by decide +kernel)) (Or.inl rfl)
def f_Papers_heldBy_38 (F : Nat)  (k4 : Int32 → Int32 → Int32 → mM → Option (Int32 × mM)) (v1 : Int32) (v3 : Int32) (s0 : Int32) (s1 : Int32) (m : mM) : Option (Int32 × mM) := k4 v1 (s0 + s1) (v3 + (1 : Int32)) m
theorem ok_Papers_heldBy_38 (X : mX) (d F : Nat) (k4 : Int32 → Int32 → Int32 → mM → Option (Int32 × mM)) (hk4 : ∀ (v1 : Int32) (v2 : Int32) (v3 : Int32) (m : mM) (r : Int32) (m' : mM), k4 v1 v2 v3 m = some (r, m') → m_R X (d + 0) 30 4 [some (.ref 31), some (.int v1), some (.int v2), some (.int v3)] [] (SH, m) (some (.int r), (SH, m'))) : ∀ (v1 : Int32) (v3 : Int32) (s0 : Int32) (s1 : Int32) (w2 : Option Value) (m : mM) (r : Int32) (m' : mM), f_Papers_heldBy_38 F k4 v1 v3 s0 s1 m = some (r, m') → m_R X (d + 0) 30 38 [some (.ref 31), some (.int v1), w2, some (.int v3)] [.int s1, .int s0] (SH, m) (some (.int r), (SH, m')) := by
  intro v1 v3 s0 s1 w2 m r m' h
  unfold f_Papers_heldBy_38 at h
  refine m_R_sg (by decide) [(.iadd, 1, 0, 0, 0, 0, 0), (.istore_n 2, 1, 0, 2, 0, 0, 0), (.iinc 3 1, 3, 0, 3, 1, 0, 0), (.goto (-39), 3, 0, 4, 0, 0, 0)] (by decide +kernel) (show m_sgl X _ _ _ _ _ = some (4, [some (.ref 31), some (.int v1), some (.int (s0 + s1)), some (.int (v3 + (1 : Int32)))], [], (SH, m.1, m.2)) from rfl) ?_
  exact hk4 _ _ _ _ _ _ h
def f_Papers_heldBy_37 (F : Nat)  (k4 : Int32 → Int32 → Int32 → mM → Option (Int32 × mM)) (v1 : Int32) (v3 : Int32) (s0 : Int32) (m : mM) : Option (Int32 × mM) := f_Papers_heldBy_38 F k4 v1 v3 s0 (0 : Int32) m
theorem ok_Papers_heldBy_37 (X : mX) (d F : Nat) (k4 : Int32 → Int32 → Int32 → mM → Option (Int32 × mM)) (hk4 : ∀ (v1 : Int32) (v2 : Int32) (v3 : Int32) (m : mM) (r : Int32) (m' : mM), k4 v1 v2 v3 m = some (r, m') → m_R X (d + 0) 30 4 [some (.ref 31), some (.int v1), some (.int v2), some (.int v3)] [] (SH, m) (some (.int r), (SH, m'))) : ∀ (v1 : Int32) (v3 : Int32) (s0 : Int32) (w2 : Option Value) (m : mM) (r : Int32) (m' : mM), f_Papers_heldBy_37 F k4 v1 v3 s0 m = some (r, m') → m_R X (d + 0) 30 37 [some (.ref 31), some (.int v1), w2, some (.int v3)] [.int s0] (SH, m) (some (.int r), (SH, m')) := by
  intro v1 v3 s0 w2 m r m' h
  unfold f_Papers_heldBy_37 at h
  refine m_R_sg (by decide) [(.iconst 0, 1, 0, 0, 0, 0, 0)] (by decide +kernel) (show m_sgl X _ _ _ _ _ = some (38, [some (.ref 31), some (.int v1), w2, some (.int v3)], [.int (0 : Int32), .int s0], (SH, m.1, m.2)) from rfl) ?_
  exact ok_Papers_heldBy_38 X d F _ hk4 _ _ _ _ _ _ _ _ h
def f_Papers_heldBy_4 (F : Nat)   : Nat → Int32 → Int32 → Int32 → mM → Option (Int32 × mM)
  | 0, _, _, _, _ => none
  | n + 1, v1, v2, v3, m => (if (m.1 31 15) ≤ v3 then some (v2, m) else (if v3 < 0 ∨ 60 ≤ v3.toNatClampNeg then none else (if (m.1 32 v3.toNatClampNeg) = (-1 : Int32) then f_Papers_heldBy_37 F (f_Papers_heldBy_4 F n) v1 v3 v2 m else (if (m.1 35 v3.toNatClampNeg) = v1 then f_Papers_heldBy_38 F (f_Papers_heldBy_4 F n) v1 v3 v2 (1 : Int32) m else f_Papers_heldBy_37 F (f_Papers_heldBy_4 F n) v1 v3 v2 m))))
theorem ok_Papers_heldBy_4 (X : mX) (d F : Nat) : ∀ (n : Nat) (v1 : Int32) (v2 : Int32) (v3 : Int32)  (m : mM) (r : Int32) (m' : mM), f_Papers_heldBy_4 F n v1 v2 v3 m = some (r, m') → m_R X (d + 0) 30 4 [some (.ref 31), some (.int v1), some (.int v2), some (.int v3)] [] (SH, m) (some (.int r), (SH, m')) := by
  intro n
  induction n with
  | zero => intro v1 v2 v3 m r m' h; cases h
  | succ n ih =>
    intro v1 v2 v3 m r m' h
    simp only [f_Papers_heldBy_4] at h
    refine m_R_sg (by decide) [(.iload_n 3, 1, 0, 3, 0, 0, 0), (.aload_n 0, 1, 0, 0, 0, 0, 0), (.getfield 63, 3, 0, 4, 15, 0, 363)] (by decide +kernel) (show m_sgl X _ _ _ _ _ = some (9, [some (.ref 31), some (.int v1), some (.int v2), some (.int v3)], [.int (m.1 31 15), .int v3], (SH, m.1, m.2)) from rfl) ?_
    rcases m_ite h with ⟨c122, h⟩ | ⟨c122, h⟩
    · refine m_R_1 (by decide) (m_opb_of (ins := .if_icmp .ge 37) (len := 3) (tag := 0) (a := 46) (b := 0) (c := 0) (q := 0) (by decide +kernel)) (if_pos c122) ?_
      refine m_R_sg (by decide) [(.iload_n 2, 1, 0, 2, 0, 0, 0)] (by decide +kernel) (show m_sgl X _ _ _ _ _ = some (47, [some (.ref 31), some (.int v1), some (.int v2), some (.int v3)], [.int v2], (SH, m.1, m.2)) from rfl) ?_
      obtain ⟨rfl, rfl⟩ := m_some h
      exact m_R_iret (by decide) (m_opb_of (ins := .ireturn) (len := 1) (tag := 1) (a := 0) (b := 0) (c := 0) (q := 0) (by decide +kernel)) (Or.inl rfl)
    · refine m_R_1 (by decide) (m_opb_of (ins := .if_icmp .ge 37) (len := 3) (tag := 0) (a := 46) (b := 0) (c := 0) (q := 0) (by decide +kernel)) (if_neg c122) ?_
      refine m_R_sg (by decide) [(.iload_n 2, 1, 0, 2, 0, 0, 0), (.aload_n 0, 1, 0, 0, 0, 0, 0), (.getfield 9, 3, 0, 4, 0, 3, 317), (.iload_n 3, 1, 0, 3, 0, 0, 0)] (by decide +kernel) (show m_sgl X _ _ _ _ _ = some (18, [some (.ref 31), some (.int v1), some (.int v2), some (.int v3)], [.int v3, .ref 32, .int v2], (SH, m.1, m.2)) from rfl) ?_
      obtain ⟨c123, h⟩ := m_ite_n h
      refine m_R_1 (by decide) (m_opb_of (ins := .iaload) (len := 1) (tag := 0) (a := 0) (b := 0) (c := 0) (q := 0) (by decide +kernel)) (m_s_iald sh_32 (by decide) c123) ?_
      refine m_R_sg (by decide) [(.iconst (-1), 1, 0, 1, 1, 0, 0)] (by decide +kernel) (show m_sgl X _ _ _ _ _ = some (20, [some (.ref 31), some (.int v1), some (.int v2), some (.int v3)], [.int (-1 : Int32), .int (m.1 32 v3.toNatClampNeg), .int v2], (SH, m.1, m.2)) from rfl) ?_
      rcases m_ite h with ⟨c124, h⟩ | ⟨c124, h⟩
      · refine m_R_1 (by decide) (m_opb_of (ins := .if_icmp .eq 17) (len := 3) (tag := 0) (a := 37) (b := 0) (c := 0) (q := 0) (by decide +kernel)) (if_pos c124) ?_
        exact ok_Papers_heldBy_37 X d F _ (fun a0 a1 a2 m r m' h => ih a0 a1 a2 m r m' h) _ _ _ _ _ _ _ h
      · refine m_R_1 (by decide) (m_opb_of (ins := .if_icmp .eq 17) (len := 3) (tag := 0) (a := 37) (b := 0) (c := 0) (q := 0) (by decide +kernel)) (if_neg c124) ?_
        refine m_R_sg (by decide) [(.aload_n 0, 1, 0, 0, 0, 0, 0), (.getfield 21, 3, 0, 4, 3, 3, 329), (.iload_n 3, 1, 0, 3, 0, 0, 0)] (by decide +kernel) (show m_sgl X _ _ _ _ _ = some (28, [some (.ref 31), some (.int v1), some (.int v2), some (.int v3)], [.int v3, .ref 35, .int v2], (SH, m.1, m.2)) from rfl) ?_
        refine m_R_1 (by decide) (m_opb_of (ins := .iaload) (len := 1) (tag := 0) (a := 0) (b := 0) (c := 0) (q := 0) (by decide +kernel)) (m_s_iald sh_35 (by decide) c123) ?_
        refine m_R_sg (by decide) [(.iload_n 1, 1, 0, 1, 0, 0, 0)] (by decide +kernel) (show m_sgl X _ _ _ _ _ = some (30, [some (.ref 31), some (.int v1), some (.int v2), some (.int v3)], [.int v1, .int (m.1 35 v3.toNatClampNeg), .int v2], (SH, m.1, m.2)) from rfl) ?_
        rcases m_ite h with ⟨c125, h⟩ | ⟨c125, h⟩
        · refine m_R_1 (by decide) (m_opb_of (ins := .if_icmp .ne 7) (len := 3) (tag := 0) (a := 37) (b := 0) (c := 0) (q := 0) (by decide +kernel)) (if_pos c125) ?_
          refine m_R_sg (by decide) [(.iconst 1, 1, 0, 1, 0, 0, 0), (.goto 4, 3, 0, 38, 0, 0, 0)] (by decide +kernel) (show m_sgl X _ _ _ _ _ = some (38, [some (.ref 31), some (.int v1), some (.int v2), some (.int v3)], [.int (1 : Int32), .int v2], (SH, m.1, m.2)) from rfl) ?_
          exact ok_Papers_heldBy_38 X d F _ (fun a0 a1 a2 m r m' h => ih a0 a1 a2 m r m' h) _ _ _ _ _ _ _ _ h
        · refine m_R_1 (by decide) (m_opb_of (ins := .if_icmp .ne 7) (len := 3) (tag := 0) (a := 37) (b := 0) (c := 0) (q := 0) (by decide +kernel)) (if_neg c125) ?_
          exact ok_Papers_heldBy_37 X d F _ (fun a0 a1 a2 m r m' h => ih a0 a1 a2 m r m' h) _ _ _ _ _ _ _ h
def f_Papers_heldBy (F : Nat)   (v1 : Int32) (m : mM) : Option (Int32 × mM) := f_Papers_heldBy_4 F F v1 (0 : Int32) (0 : Int32) m
theorem ok_Papers_heldBy (X : mX) (d F : Nat) : ∀ (v1 : Int32)  (m : mM) (r : Int32) (m' : mM), f_Papers_heldBy F v1 m = some (r, m') → m_R X (d + 0) 30 0 [some (.ref 31), some (.int v1), none, none] [] (SH, m) (some (.int r), (SH, m')) := by
  intro v1 m r m' h
  unfold f_Papers_heldBy at h
  refine m_R_sg (by decide) [(.iconst 0, 1, 0, 0, 0, 0, 0), (.istore_n 2, 1, 0, 2, 0, 0, 0), (.iconst 0, 1, 0, 0, 0, 0, 0), (.istore_n 3, 1, 0, 3, 0, 0, 0)] (by decide +kernel) (show m_sgl X _ _ _ _ _ = some (4, [some (.ref 31), some (.int v1), some (.int (0 : Int32)), some (.int (0 : Int32))], [], (SH, m.1, m.2)) from rfl) ?_
  exact ok_Papers_heldBy_4 X d F F _ _ _ _ _ _ h
def f_Papers_owedBy_38 (F : Nat)  (k4 : Int32 → Int32 → Int32 → mM → Option (Int32 × mM)) (v1 : Int32) (v3 : Int32) (s0 : Int32) (s1 : Int32) (m : mM) : Option (Int32 × mM) := k4 v1 (s0 + s1) (v3 + (1 : Int32)) m
theorem ok_Papers_owedBy_38 (X : mX) (d F : Nat) (k4 : Int32 → Int32 → Int32 → mM → Option (Int32 × mM)) (hk4 : ∀ (v1 : Int32) (v2 : Int32) (v3 : Int32) (m : mM) (r : Int32) (m' : mM), k4 v1 v2 v3 m = some (r, m') → m_R X (d + 0) 31 4 [some (.ref 31), some (.int v1), some (.int v2), some (.int v3)] [] (SH, m) (some (.int r), (SH, m'))) : ∀ (v1 : Int32) (v3 : Int32) (s0 : Int32) (s1 : Int32) (w2 : Option Value) (m : mM) (r : Int32) (m' : mM), f_Papers_owedBy_38 F k4 v1 v3 s0 s1 m = some (r, m') → m_R X (d + 0) 31 38 [some (.ref 31), some (.int v1), w2, some (.int v3)] [.int s1, .int s0] (SH, m) (some (.int r), (SH, m')) := by
  intro v1 v3 s0 s1 w2 m r m' h
  unfold f_Papers_owedBy_38 at h
  refine m_R_sg (by decide) [(.iadd, 1, 0, 0, 0, 0, 0), (.istore_n 2, 1, 0, 2, 0, 0, 0), (.iinc 3 1, 3, 0, 3, 1, 0, 0), (.goto (-39), 3, 0, 4, 0, 0, 0)] (by decide +kernel) (show m_sgl X _ _ _ _ _ = some (4, [some (.ref 31), some (.int v1), some (.int (s0 + s1)), some (.int (v3 + (1 : Int32)))], [], (SH, m.1, m.2)) from rfl) ?_
  exact hk4 _ _ _ _ _ _ h
def f_Papers_owedBy_37 (F : Nat)  (k4 : Int32 → Int32 → Int32 → mM → Option (Int32 × mM)) (v1 : Int32) (v3 : Int32) (s0 : Int32) (m : mM) : Option (Int32 × mM) := f_Papers_owedBy_38 F k4 v1 v3 s0 (0 : Int32) m
theorem ok_Papers_owedBy_37 (X : mX) (d F : Nat) (k4 : Int32 → Int32 → Int32 → mM → Option (Int32 × mM)) (hk4 : ∀ (v1 : Int32) (v2 : Int32) (v3 : Int32) (m : mM) (r : Int32) (m' : mM), k4 v1 v2 v3 m = some (r, m') → m_R X (d + 0) 31 4 [some (.ref 31), some (.int v1), some (.int v2), some (.int v3)] [] (SH, m) (some (.int r), (SH, m'))) : ∀ (v1 : Int32) (v3 : Int32) (s0 : Int32) (w2 : Option Value) (m : mM) (r : Int32) (m' : mM), f_Papers_owedBy_37 F k4 v1 v3 s0 m = some (r, m') → m_R X (d + 0) 31 37 [some (.ref 31), some (.int v1), w2, some (.int v3)] [.int s0] (SH, m) (some (.int r), (SH, m')) := by
  intro v1 v3 s0 w2 m r m' h
  unfold f_Papers_owedBy_37 at h
  refine m_R_sg (by decide) [(.iconst 0, 1, 0, 0, 0, 0, 0)] (by decide +kernel) (show m_sgl X _ _ _ _ _ = some (38, [some (.ref 31), some (.int v1), w2, some (.int v3)], [.int (0 : Int32), .int s0], (SH, m.1, m.2)) from rfl) ?_
  exact ok_Papers_owedBy_38 X d F _ hk4 _ _ _ _ _ _ _ _ h
def f_Papers_owedBy_4 (F : Nat)   : Nat → Int32 → Int32 → Int32 → mM → Option (Int32 × mM)
  | 0, _, _, _, _ => none
  | n + 1, v1, v2, v3, m => (if (m.1 31 15) ≤ v3 then some (v2, m) else (if v3 < 0 ∨ 60 ≤ v3.toNatClampNeg then none else (if (m.1 32 v3.toNatClampNeg) = (-1 : Int32) then f_Papers_owedBy_37 F (f_Papers_owedBy_4 F n) v1 v3 v2 m else (if (m.1 34 v3.toNatClampNeg) = v1 then f_Papers_owedBy_38 F (f_Papers_owedBy_4 F n) v1 v3 v2 (1 : Int32) m else f_Papers_owedBy_37 F (f_Papers_owedBy_4 F n) v1 v3 v2 m))))
theorem ok_Papers_owedBy_4 (X : mX) (d F : Nat) : ∀ (n : Nat) (v1 : Int32) (v2 : Int32) (v3 : Int32)  (m : mM) (r : Int32) (m' : mM), f_Papers_owedBy_4 F n v1 v2 v3 m = some (r, m') → m_R X (d + 0) 31 4 [some (.ref 31), some (.int v1), some (.int v2), some (.int v3)] [] (SH, m) (some (.int r), (SH, m')) := by
  intro n
  induction n with
  | zero => intro v1 v2 v3 m r m' h; cases h
  | succ n ih =>
    intro v1 v2 v3 m r m' h
    simp only [f_Papers_owedBy_4] at h
    refine m_R_sg (by decide) [(.iload_n 3, 1, 0, 3, 0, 0, 0), (.aload_n 0, 1, 0, 0, 0, 0, 0), (.getfield 63, 3, 0, 4, 15, 0, 363)] (by decide +kernel) (show m_sgl X _ _ _ _ _ = some (9, [some (.ref 31), some (.int v1), some (.int v2), some (.int v3)], [.int (m.1 31 15), .int v3], (SH, m.1, m.2)) from rfl) ?_
    rcases m_ite h with ⟨c126, h⟩ | ⟨c126, h⟩
    · refine m_R_1 (by decide) (m_opb_of (ins := .if_icmp .ge 37) (len := 3) (tag := 0) (a := 46) (b := 0) (c := 0) (q := 0) (by decide +kernel)) (if_pos c126) ?_
      refine m_R_sg (by decide) [(.iload_n 2, 1, 0, 2, 0, 0, 0)] (by decide +kernel) (show m_sgl X _ _ _ _ _ = some (47, [some (.ref 31), some (.int v1), some (.int v2), some (.int v3)], [.int v2], (SH, m.1, m.2)) from rfl) ?_
      obtain ⟨rfl, rfl⟩ := m_some h
      exact m_R_iret (by decide) (m_opb_of (ins := .ireturn) (len := 1) (tag := 1) (a := 0) (b := 0) (c := 0) (q := 0) (by decide +kernel)) (Or.inl rfl)
    · refine m_R_1 (by decide) (m_opb_of (ins := .if_icmp .ge 37) (len := 3) (tag := 0) (a := 46) (b := 0) (c := 0) (q := 0) (by decide +kernel)) (if_neg c126) ?_
      refine m_R_sg (by decide) [(.iload_n 2, 1, 0, 2, 0, 0, 0), (.aload_n 0, 1, 0, 0, 0, 0, 0), (.getfield 9, 3, 0, 4, 0, 3, 317), (.iload_n 3, 1, 0, 3, 0, 0, 0)] (by decide +kernel) (show m_sgl X _ _ _ _ _ = some (18, [some (.ref 31), some (.int v1), some (.int v2), some (.int v3)], [.int v3, .ref 32, .int v2], (SH, m.1, m.2)) from rfl) ?_
      obtain ⟨c127, h⟩ := m_ite_n h
      refine m_R_1 (by decide) (m_opb_of (ins := .iaload) (len := 1) (tag := 0) (a := 0) (b := 0) (c := 0) (q := 0) (by decide +kernel)) (m_s_iald sh_32 (by decide) c127) ?_
      refine m_R_sg (by decide) [(.iconst (-1), 1, 0, 1, 1, 0, 0)] (by decide +kernel) (show m_sgl X _ _ _ _ _ = some (20, [some (.ref 31), some (.int v1), some (.int v2), some (.int v3)], [.int (-1 : Int32), .int (m.1 32 v3.toNatClampNeg), .int v2], (SH, m.1, m.2)) from rfl) ?_
      rcases m_ite h with ⟨c128, h⟩ | ⟨c128, h⟩
      · refine m_R_1 (by decide) (m_opb_of (ins := .if_icmp .eq 17) (len := 3) (tag := 0) (a := 37) (b := 0) (c := 0) (q := 0) (by decide +kernel)) (if_pos c128) ?_
        exact ok_Papers_owedBy_37 X d F _ (fun a0 a1 a2 m r m' h => ih a0 a1 a2 m r m' h) _ _ _ _ _ _ _ h
      · refine m_R_1 (by decide) (m_opb_of (ins := .if_icmp .eq 17) (len := 3) (tag := 0) (a := 37) (b := 0) (c := 0) (q := 0) (by decide +kernel)) (if_neg c128) ?_
        refine m_R_sg (by decide) [(.aload_n 0, 1, 0, 0, 0, 0, 0), (.getfield 18, 3, 0, 4, 2, 3, 325), (.iload_n 3, 1, 0, 3, 0, 0, 0)] (by decide +kernel) (show m_sgl X _ _ _ _ _ = some (28, [some (.ref 31), some (.int v1), some (.int v2), some (.int v3)], [.int v3, .ref 34, .int v2], (SH, m.1, m.2)) from rfl) ?_
        refine m_R_1 (by decide) (m_opb_of (ins := .iaload) (len := 1) (tag := 0) (a := 0) (b := 0) (c := 0) (q := 0) (by decide +kernel)) (m_s_iald sh_34 (by decide) c127) ?_
        refine m_R_sg (by decide) [(.iload_n 1, 1, 0, 1, 0, 0, 0)] (by decide +kernel) (show m_sgl X _ _ _ _ _ = some (30, [some (.ref 31), some (.int v1), some (.int v2), some (.int v3)], [.int v1, .int (m.1 34 v3.toNatClampNeg), .int v2], (SH, m.1, m.2)) from rfl) ?_
        rcases m_ite h with ⟨c129, h⟩ | ⟨c129, h⟩
        · refine m_R_1 (by decide) (m_opb_of (ins := .if_icmp .ne 7) (len := 3) (tag := 0) (a := 37) (b := 0) (c := 0) (q := 0) (by decide +kernel)) (if_pos c129) ?_
          refine m_R_sg (by decide) [(.iconst 1, 1, 0, 1, 0, 0, 0), (.goto 4, 3, 0, 38, 0, 0, 0)] (by decide +kernel) (show m_sgl X _ _ _ _ _ = some (38, [some (.ref 31), some (.int v1), some (.int v2), some (.int v3)], [.int (1 : Int32), .int v2], (SH, m.1, m.2)) from rfl) ?_
          exact ok_Papers_owedBy_38 X d F _ (fun a0 a1 a2 m r m' h => ih a0 a1 a2 m r m' h) _ _ _ _ _ _ _ _ h
        · refine m_R_1 (by decide) (m_opb_of (ins := .if_icmp .ne 7) (len := 3) (tag := 0) (a := 37) (b := 0) (c := 0) (q := 0) (by decide +kernel)) (if_neg c129) ?_
          exact ok_Papers_owedBy_37 X d F _ (fun a0 a1 a2 m r m' h => ih a0 a1 a2 m r m' h) _ _ _ _ _ _ _ h
def f_Papers_owedBy (F : Nat)   (v1 : Int32) (m : mM) : Option (Int32 × mM) := f_Papers_owedBy_4 F F v1 (0 : Int32) (0 : Int32) m
theorem ok_Papers_owedBy (X : mX) (d F : Nat) : ∀ (v1 : Int32)  (m : mM) (r : Int32) (m' : mM), f_Papers_owedBy F v1 m = some (r, m') → m_R X (d + 0) 31 0 [some (.ref 31), some (.int v1), none, none] [] (SH, m) (some (.int r), (SH, m')) := by
  intro v1 m r m' h
  unfold f_Papers_owedBy at h
  refine m_R_sg (by decide) [(.iconst 0, 1, 0, 0, 0, 0, 0), (.istore_n 2, 1, 0, 2, 0, 0, 0), (.iconst 0, 1, 0, 0, 0, 0, 0), (.istore_n 3, 1, 0, 3, 0, 0, 0)] (by decide +kernel) (show m_sgl X _ _ _ _ _ = some (4, [some (.ref 31), some (.int v1), some (.int (0 : Int32)), some (.int (0 : Int32))], [], (SH, m.1, m.2)) from rfl) ?_
  exact ok_Papers_owedBy_4 X d F F _ _ _ _ _ _ h
def f_x_look_127 (F : Nat)   (s0 : Int32) (m : mM) : Option (Int32 × mM) := some (s0, m)
theorem ok_x_look_127 (X : mX) (d F : Nat) : ∀ (s0 : Int32) (w0 : Option Value) (w1 : Option Value) (w2 : Option Value) (w3 : Option Value) (m : mM) (r : Int32) (m' : mM), f_x_look_127 F s0 m = some (r, m') → m_R X (d + 2) 28 127 [w0, w1, w2, w3] [.int s0] (SH, m) (some (.int r), (SH, m')) := by
  intro s0 w0 w1 w2 w3 m r m' h
  unfold f_x_look_127 at h
  obtain ⟨rfl, rfl⟩ := m_some h
  exact m_R_iret (by decide) (m_opb_of (ins := .ireturn) (len := 1) (tag := 1) (a := 0) (b := 0) (c := 0) (q := 0) (by decide +kernel)) (Or.inl rfl)
def f_x_look (F : Nat)   (v1 : Int32) (v2 : Int32) (m : mM) : Option (Int32 × mM) := ((f_Houses_isHouse F v1 m).bind fun q1 => (if q1.1 = 0 then ((f_x_refuse F (-3 : Int32) q1.2).bind fun q2 => some (q2.1, q2.2)) else (if v2 = (0 : Int32) then (if v1 < 0 ∨ 16 ≤ v1.toNatClampNeg then none else some ((q1.2.1 20 v1.toNatClampNeg), q1.2)) else (if v2 = (1 : Int32) then (if v1 < 0 ∨ 16 ≤ v1.toNatClampNeg then none else some ((q1.2.1 21 v1.toNatClampNeg), q1.2)) else (if v2 = (2 : Int32) then (if v1 < 0 ∨ 16 ≤ v1.toNatClampNeg then none else some ((q1.2.1 22 v1.toNatClampNeg), q1.2)) else (if v2 = (3 : Int32) then (if v1 < 0 ∨ 16 ≤ v1.toNatClampNeg then none else some ((q1.2.1 61 v1.toNatClampNeg), q1.2)) else (if v2 = (4 : Int32) then ((f_Houses_isUp F v1 q1.2).bind fun q3 => (if q3.1 = 0 then f_x_look_127 F (0 : Int32) q3.2 else f_x_look_127 F (1 : Int32) q3.2)) else (if v2 = (5 : Int32) then (if v1 < 0 ∨ 16 ≤ v1.toNatClampNeg then none else some ((q1.2.1 23 v1.toNatClampNeg), q1.2)) else (if v2 = (6 : Int32) then (if v1 < 0 ∨ 16 ≤ v1.toNatClampNeg then none else some ((q1.2.1 24 v1.toNatClampNeg), q1.2)) else (if v2 = (7 : Int32) then ((f_World_coin F v1 q1.2).bind fun q4 => some (q4.1, q4.2)) else (if v2 = (8 : Int32) then ((f_Papers_heldBy F v1 q1.2).bind fun q5 => some (q5.1, q5.2)) else (if v2 = (9 : Int32) then ((f_Papers_owedBy F v1 q1.2).bind fun q6 => some (q6.1, q6.2)) else ((f_x_refuse F (-7 : Int32) q1.2).bind fun q7 => some (q7.1, q7.2))))))))))))))
theorem ok_x_look (X : mX) (d F : Nat) : ∀ (v1 : Int32) (v2 : Int32)  (m : mM) (r : Int32) (m' : mM), f_x_look F v1 v2 m = some (r, m') → m_R X (d + 2) 28 0 [some (.ref 0), some (.int v1), some (.int v2), none] [] (SH, m) (some (.int r), (SH, m')) := by
  intro v1 v2 m r m' h
  unfold f_x_look at h
  refine m_R_sg (by decide) [(.aload_n 0, 1, 0, 0, 0, 0, 0), (.getfield 28, 3, 0, 11, 2, 3, 632), (.getfield 95, 3, 0, 10, 1, 3, 507), (.astore_n 3, 1, 0, 3, 0, 0, 0), (.aload_n 3, 1, 0, 3, 0, 0, 0), (.iload_n 1, 1, 0, 1, 0, 0, 0)] (by decide +kernel) (show m_sgl X _ _ _ _ _ = some (10, [some (.ref 0), some (.int v1), some (.int v2), some (.ref 19)], [.int v1, .ref 19], (SH, m.1, m.2)) from rfl) ?_
  obtain ⟨q1, hc1, h⟩ := Option.bind_eq_some_iff.mp h
  refine m_R_cV (v := (some (.int q1.1))) (h1 := (SH, q1.2)) (rest := []) (lo' := [some (.ref 19), some (.int v1)]) (ml := 2) (k0 := 19) (by decide) (Or.inl rfl) (m_opb_of (ins := .invokevirtual 107) (len := 3) (tag := 5) (a := 24) (b := 1) (c := 0) (q := 712) (by decide +kernel)) (by decide +kernel) rfl (show m_isO 24 19 (SH, _) = true from m_isO_of (by decide +kernel)) (Nat.le_of_ble_eq_true rfl) rfl rfl (ok_Houses_isHouse X (d + 1) F _ _ _ _ hc1) ?_
  rcases m_ite h with ⟨c130, h⟩ | ⟨c130, h⟩
  · refine m_R_1 (by decide) (m_opb_of (ins := .ifCond .ne 10) (len := 3) (tag := 0) (a := 23) (b := 0) (c := 0) (q := 0) (by decide +kernel)) (if_pos c130) ?_
    refine m_R_sg (by decide) [(.aload_n 0, 1, 0, 0, 0, 0, 0), (.bipush (-3), 2, 0, 3, 1, 0, 0)] (by decide +kernel) (show m_sgl X _ _ _ _ _ = some (19, [some (.ref 0), some (.int v1), some (.int v2), some (.ref 19)], [.int (-3 : Int32), .ref 0], (SH, q1.2.1, q1.2.2)) from rfl) ?_
    obtain ⟨q2, hc2, h⟩ := Option.bind_eq_some_iff.mp h
    refine m_R_cV (v := (some (.int q2.1))) (h1 := (SH, q2.2)) (rest := []) (lo' := [some (.ref 0), some (.int (-3 : Int32))]) (ml := 2) (k0 := 0) (by decide) (Or.inl rfl) (m_opb_of (ins := .invokevirtual 76) (len := 3) (tag := 5) (a := 14) (b := 1) (c := 0) (q := 671) (by decide +kernel)) (by decide +kernel) rfl (show m_isO 14 0 (SH, _) = true from m_isO_of (by decide +kernel)) (Nat.le_of_ble_eq_true rfl) rfl rfl (ok_x_refuse X (d + 1) F _ _ _ _ hc2) ?_
    obtain ⟨rfl, rfl⟩ := m_some h
    exact m_R_iret (by decide) (m_opb_of (ins := .ireturn) (len := 1) (tag := 1) (a := 0) (b := 0) (c := 0) (q := 0) (by decide +kernel)) (Or.inl rfl)
  · refine m_R_1 (by decide) (m_opb_of (ins := .ifCond .ne 10) (len := 3) (tag := 0) (a := 23) (b := 0) (c := 0) (q := 0) (by decide +kernel)) (if_neg c130) ?_
    refine m_R_sg (by decide) [(.iload_n 2, 1, 0, 2, 0, 0, 0)] (by decide +kernel) (show m_sgl X _ _ _ _ _ = some (24, [some (.ref 0), some (.int v1), some (.int v2), some (.ref 19)], [.int v2], (SH, q1.2.1, q1.2.2)) from rfl) ?_
    rcases m_ite h with ⟨c0, h⟩ | ⟨d0, h⟩
    · refine m_R_1 (by decide) (m_opb_of (ins := .tableswitch 151 0 9 #[56, 63, 70, 77, 90, 104, 111, 118, 127, 139]) (len := 56) (tag := 0) (a := 0) (b := 0) (c := 0) (q := 0) (by decide +kernel)) (m_s_sw (by rw [c0]; decide) (by rw [c0]; rfl) (by decide) (t := 80) rfl) ?_
      refine m_R_sg (by decide) [(.aload_n 3, 1, 0, 3, 0, 0, 0), (.getfield 116, 3, 0, 1, 0, 3, 250), (.iload_n 1, 1, 0, 1, 0, 0, 0)] (by decide +kernel) (show m_sgl X _ _ _ _ _ = some (85, [some (.ref 0), some (.int v1), some (.int v2), some (.ref 19)], [.int v1, .ref 20], (SH, q1.2.1, q1.2.2)) from rfl) ?_
      obtain ⟨c131, h⟩ := m_ite_n h
      refine m_R_1 (by decide) (m_opb_of (ins := .iaload) (len := 1) (tag := 0) (a := 0) (b := 0) (c := 0) (q := 0) (by decide +kernel)) (m_s_iald sh_20 (by decide) c131) ?_
      obtain ⟨rfl, rfl⟩ := m_some h
      exact m_R_iret (by decide) (m_opb_of (ins := .ireturn) (len := 1) (tag := 1) (a := 0) (b := 0) (c := 0) (q := 0) (by decide +kernel)) (Or.inl rfl)
    rcases m_ite h with ⟨c0, h⟩ | ⟨d1, h⟩
    · refine m_R_1 (by decide) (m_opb_of (ins := .tableswitch 151 0 9 #[56, 63, 70, 77, 90, 104, 111, 118, 127, 139]) (len := 56) (tag := 0) (a := 0) (b := 0) (c := 0) (q := 0) (by decide +kernel)) (m_s_sw (by rw [c0]; decide) (by rw [c0]; rfl) (by decide) (t := 87) rfl) ?_
      refine m_R_sg (by decide) [(.aload_n 3, 1, 0, 3, 0, 0, 0), (.getfield 131, 3, 0, 1, 1, 3, 253), (.iload_n 1, 1, 0, 1, 0, 0, 0)] (by decide +kernel) (show m_sgl X _ _ _ _ _ = some (92, [some (.ref 0), some (.int v1), some (.int v2), some (.ref 19)], [.int v1, .ref 21], (SH, q1.2.1, q1.2.2)) from rfl) ?_
      obtain ⟨c132, h⟩ := m_ite_n h
      refine m_R_1 (by decide) (m_opb_of (ins := .iaload) (len := 1) (tag := 0) (a := 0) (b := 0) (c := 0) (q := 0) (by decide +kernel)) (m_s_iald sh_21 (by decide) c132) ?_
      obtain ⟨rfl, rfl⟩ := m_some h
      exact m_R_iret (by decide) (m_opb_of (ins := .ireturn) (len := 1) (tag := 1) (a := 0) (b := 0) (c := 0) (q := 0) (by decide +kernel)) (Or.inl rfl)
    rcases m_ite h with ⟨c0, h⟩ | ⟨d2, h⟩
    · refine m_R_1 (by decide) (m_opb_of (ins := .tableswitch 151 0 9 #[56, 63, 70, 77, 90, 104, 111, 118, 127, 139]) (len := 56) (tag := 0) (a := 0) (b := 0) (c := 0) (q := 0) (by decide +kernel)) (m_s_sw (by rw [c0]; decide) (by rw [c0]; rfl) (by decide) (t := 94) rfl) ?_
      refine m_R_sg (by decide) [(.aload_n 3, 1, 0, 3, 0, 0, 0), (.getfield 113, 3, 0, 1, 2, 3, 256), (.iload_n 1, 1, 0, 1, 0, 0, 0)] (by decide +kernel) (show m_sgl X _ _ _ _ _ = some (99, [some (.ref 0), some (.int v1), some (.int v2), some (.ref 19)], [.int v1, .ref 22], (SH, q1.2.1, q1.2.2)) from rfl) ?_
      obtain ⟨c133, h⟩ := m_ite_n h
      refine m_R_1 (by decide) (m_opb_of (ins := .iaload) (len := 1) (tag := 0) (a := 0) (b := 0) (c := 0) (q := 0) (by decide +kernel)) (m_s_iald sh_22 (by decide) c133) ?_
      obtain ⟨rfl, rfl⟩ := m_some h
      exact m_R_iret (by decide) (m_opb_of (ins := .ireturn) (len := 1) (tag := 1) (a := 0) (b := 0) (c := 0) (q := 0) (by decide +kernel)) (Or.inl rfl)
    rcases m_ite h with ⟨c0, h⟩ | ⟨d3, h⟩
    · refine m_R_1 (by decide) (m_opb_of (ins := .tableswitch 151 0 9 #[56, 63, 70, 77, 90, 104, 111, 118, 127, 139]) (len := 56) (tag := 0) (a := 0) (b := 0) (c := 0) (q := 0) (by decide +kernel)) (m_s_sw (by rw [c0]; decide) (by rw [c0]; rfl) (by decide) (t := 101) rfl) ?_
      refine m_R_sg (by decide) [(.aload_n 0, 1, 0, 0, 0, 0, 0), (.getfield 28, 3, 0, 11, 2, 3, 632), (.getfield 134, 3, 0, 10, 8, 3, 519), (.getfield 138, 3, 0, 3, 6, 3, 462), (.iload_n 1, 1, 0, 1, 0, 0, 0)] (by decide +kernel) (show m_sgl X _ _ _ _ _ = some (112, [some (.ref 0), some (.int v1), some (.int v2), some (.ref 19)], [.int v1, .ref 61], (SH, q1.2.1, q1.2.2)) from rfl) ?_
      obtain ⟨c134, h⟩ := m_ite_n h
      refine m_R_1 (by decide) (m_opb_of (ins := .iaload) (len := 1) (tag := 0) (a := 0) (b := 0) (c := 0) (q := 0) (by decide +kernel)) (m_s_iald sh_61 (by decide) c134) ?_
      obtain ⟨rfl, rfl⟩ := m_some h
      exact m_R_iret (by decide) (m_opb_of (ins := .ireturn) (len := 1) (tag := 1) (a := 0) (b := 0) (c := 0) (q := 0) (by decide +kernel)) (Or.inl rfl)
    rcases m_ite h with ⟨c0, h⟩ | ⟨d4, h⟩
    · refine m_R_1 (by decide) (m_opb_of (ins := .tableswitch 151 0 9 #[56, 63, 70, 77, 90, 104, 111, 118, 127, 139]) (len := 56) (tag := 0) (a := 0) (b := 0) (c := 0) (q := 0) (by decide +kernel)) (m_s_sw (by rw [c0]; decide) (by rw [c0]; rfl) (by decide) (t := 114) rfl) ?_
      refine m_R_sg (by decide) [(.aload_n 3, 1, 0, 3, 0, 0, 0), (.iload_n 1, 1, 0, 1, 0, 0, 0)] (by decide +kernel) (show m_sgl X _ _ _ _ _ = some (116, [some (.ref 0), some (.int v1), some (.int v2), some (.ref 19)], [.int v1, .ref 19], (SH, q1.2.1, q1.2.2)) from rfl) ?_
      obtain ⟨q3, hc3, h⟩ := Option.bind_eq_some_iff.mp h
      refine m_R_cV (v := (some (.int q3.1))) (h1 := (SH, q3.2)) (rest := []) (lo' := [some (.ref 19), some (.int v1)]) (ml := 2) (k0 := 19) (by decide) (Or.inl rfl) (m_opb_of (ins := .invokevirtual 110) (len := 3) (tag := 5) (a := 25) (b := 1) (c := 0) (q := 716) (by decide +kernel)) (by decide +kernel) rfl (show m_isO 25 19 (SH, _) = true from m_isO_of (by decide +kernel)) (Nat.le_of_ble_eq_true rfl) rfl rfl (ok_Houses_isUp X (d + 0) F _ _ _ _ hc3) ?_
      rcases m_ite h with ⟨c135, h⟩ | ⟨c135, h⟩
      · refine m_R_1 (by decide) (m_opb_of (ins := .ifCond .eq 7) (len := 3) (tag := 0) (a := 126) (b := 0) (c := 0) (q := 0) (by decide +kernel)) (if_pos c135) ?_
        refine m_R_sg (by decide) [(.iconst 0, 1, 0, 0, 0, 0, 0)] (by decide +kernel) (show m_sgl X _ _ _ _ _ = some (127, [some (.ref 0), some (.int v1), some (.int v2), some (.ref 19)], [.int (0 : Int32)], (SH, q3.2.1, q3.2.2)) from rfl) ?_
        exact ok_x_look_127 X d F _ _ _ _ _ _ _ _ h
      · refine m_R_1 (by decide) (m_opb_of (ins := .ifCond .eq 7) (len := 3) (tag := 0) (a := 126) (b := 0) (c := 0) (q := 0) (by decide +kernel)) (if_neg c135) ?_
        refine m_R_sg (by decide) [(.iconst 1, 1, 0, 1, 0, 0, 0), (.goto 4, 3, 0, 127, 0, 0, 0)] (by decide +kernel) (show m_sgl X _ _ _ _ _ = some (127, [some (.ref 0), some (.int v1), some (.int v2), some (.ref 19)], [.int (1 : Int32)], (SH, q3.2.1, q3.2.2)) from rfl) ?_
        exact ok_x_look_127 X d F _ _ _ _ _ _ _ _ h
    rcases m_ite h with ⟨c0, h⟩ | ⟨d5, h⟩
    · refine m_R_1 (by decide) (m_opb_of (ins := .tableswitch 151 0 9 #[56, 63, 70, 77, 90, 104, 111, 118, 127, 139]) (len := 56) (tag := 0) (a := 0) (b := 0) (c := 0) (q := 0) (by decide +kernel)) (m_s_sw (by rw [c0]; decide) (by rw [c0]; rfl) (by decide) (t := 128) rfl) ?_
      refine m_R_sg (by decide) [(.aload_n 3, 1, 0, 3, 0, 0, 0), (.getfield 119, 3, 0, 1, 3, 3, 258), (.iload_n 1, 1, 0, 1, 0, 0, 0)] (by decide +kernel) (show m_sgl X _ _ _ _ _ = some (133, [some (.ref 0), some (.int v1), some (.int v2), some (.ref 19)], [.int v1, .ref 23], (SH, q1.2.1, q1.2.2)) from rfl) ?_
      obtain ⟨c136, h⟩ := m_ite_n h
      refine m_R_1 (by decide) (m_opb_of (ins := .iaload) (len := 1) (tag := 0) (a := 0) (b := 0) (c := 0) (q := 0) (by decide +kernel)) (m_s_iald sh_23 (by decide) c136) ?_
      obtain ⟨rfl, rfl⟩ := m_some h
      exact m_R_iret (by decide) (m_opb_of (ins := .ireturn) (len := 1) (tag := 1) (a := 0) (b := 0) (c := 0) (q := 0) (by decide +kernel)) (Or.inl rfl)
    rcases m_ite h with ⟨c0, h⟩ | ⟨d6, h⟩
    · refine m_R_1 (by decide) (m_opb_of (ins := .tableswitch 151 0 9 #[56, 63, 70, 77, 90, 104, 111, 118, 127, 139]) (len := 56) (tag := 0) (a := 0) (b := 0) (c := 0) (q := 0) (by decide +kernel)) (m_s_sw (by rw [c0]; decide) (by rw [c0]; rfl) (by decide) (t := 135) rfl) ?_
      refine m_R_sg (by decide) [(.aload_n 3, 1, 0, 3, 0, 0, 0), (.getfield 122, 3, 0, 1, 4, 3, 261), (.iload_n 1, 1, 0, 1, 0, 0, 0)] (by decide +kernel) (show m_sgl X _ _ _ _ _ = some (140, [some (.ref 0), some (.int v1), some (.int v2), some (.ref 19)], [.int v1, .ref 24], (SH, q1.2.1, q1.2.2)) from rfl) ?_
      obtain ⟨c137, h⟩ := m_ite_n h
      refine m_R_1 (by decide) (m_opb_of (ins := .iaload) (len := 1) (tag := 0) (a := 0) (b := 0) (c := 0) (q := 0) (by decide +kernel)) (m_s_iald sh_24 (by decide) c137) ?_
      obtain ⟨rfl, rfl⟩ := m_some h
      exact m_R_iret (by decide) (m_opb_of (ins := .ireturn) (len := 1) (tag := 1) (a := 0) (b := 0) (c := 0) (q := 0) (by decide +kernel)) (Or.inl rfl)
    rcases m_ite h with ⟨c0, h⟩ | ⟨d7, h⟩
    · refine m_R_1 (by decide) (m_opb_of (ins := .tableswitch 151 0 9 #[56, 63, 70, 77, 90, 104, 111, 118, 127, 139]) (len := 56) (tag := 0) (a := 0) (b := 0) (c := 0) (q := 0) (by decide +kernel)) (m_s_sw (by rw [c0]; decide) (by rw [c0]; rfl) (by decide) (t := 142) rfl) ?_
      refine m_R_sg (by decide) [(.aload_n 0, 1, 0, 0, 0, 0, 0), (.getfield 28, 3, 0, 11, 2, 3, 632), (.iload_n 1, 1, 0, 1, 0, 0, 0)] (by decide +kernel) (show m_sgl X _ _ _ _ _ = some (147, [some (.ref 0), some (.int v1), some (.int v2), some (.ref 19)], [.int v1, .ref 16], (SH, q1.2.1, q1.2.2)) from rfl) ?_
      obtain ⟨q4, hc4, h⟩ := Option.bind_eq_some_iff.mp h
      refine m_R_cV (v := (some (.int q4.1))) (h1 := (SH, q4.2)) (rest := []) (lo' := [some (.ref 16), some (.int v1)]) (ml := 2) (k0 := 16) (by decide) (Or.inl rfl) (m_opb_of (ins := .invokevirtual 143) (len := 3) (tag := 5) (a := 29) (b := 1) (c := 0) (q := 733) (by decide +kernel)) (by decide +kernel) rfl (show m_isO 29 16 (SH, _) = true from m_isO_of (by decide +kernel)) (Nat.le_of_ble_eq_true rfl) rfl rfl (ok_World_coin X (d + 1) F _ _ _ _ hc4) ?_
      obtain ⟨rfl, rfl⟩ := m_some h
      exact m_R_iret (by decide) (m_opb_of (ins := .ireturn) (len := 1) (tag := 1) (a := 0) (b := 0) (c := 0) (q := 0) (by decide +kernel)) (Or.inl rfl)
    rcases m_ite h with ⟨c0, h⟩ | ⟨d8, h⟩
    · refine m_R_1 (by decide) (m_opb_of (ins := .tableswitch 151 0 9 #[56, 63, 70, 77, 90, 104, 111, 118, 127, 139]) (len := 56) (tag := 0) (a := 0) (b := 0) (c := 0) (q := 0) (by decide +kernel)) (m_s_sw (by rw [c0]; decide) (by rw [c0]; rfl) (by decide) (t := 151) rfl) ?_
      refine m_R_sg (by decide) [(.aload_n 0, 1, 0, 0, 0, 0, 0), (.getfield 28, 3, 0, 11, 2, 3, 632), (.getfield 146, 3, 0, 10, 2, 3, 510), (.iload_n 1, 1, 0, 1, 0, 0, 0)] (by decide +kernel) (show m_sgl X _ _ _ _ _ = some (159, [some (.ref 0), some (.int v1), some (.int v2), some (.ref 19)], [.int v1, .ref 31], (SH, q1.2.1, q1.2.2)) from rfl) ?_
      obtain ⟨q5, hc5, h⟩ := Option.bind_eq_some_iff.mp h
      refine m_R_cV (v := (some (.int q5.1))) (h1 := (SH, q5.2)) (rest := []) (lo' := [some (.ref 31), some (.int v1), none, none]) (ml := 4) (k0 := 31) (by decide) (Or.inl rfl) (m_opb_of (ins := .invokevirtual 150) (len := 3) (tag := 5) (a := 30) (b := 1) (c := 0) (q := 737) (by decide +kernel)) (by decide +kernel) rfl (show m_isO 30 31 (SH, _) = true from m_isO_of (by decide +kernel)) (Nat.le_of_ble_eq_true rfl) rfl rfl (ok_Papers_heldBy X (d + 1) F _ _ _ _ hc5) ?_
      obtain ⟨rfl, rfl⟩ := m_some h
      exact m_R_iret (by decide) (m_opb_of (ins := .ireturn) (len := 1) (tag := 1) (a := 0) (b := 0) (c := 0) (q := 0) (by decide +kernel)) (Or.inl rfl)
    rcases m_ite h with ⟨c0, h⟩ | ⟨d9, h⟩
    · refine m_R_1 (by decide) (m_opb_of (ins := .tableswitch 151 0 9 #[56, 63, 70, 77, 90, 104, 111, 118, 127, 139]) (len := 56) (tag := 0) (a := 0) (b := 0) (c := 0) (q := 0) (by decide +kernel)) (m_s_sw (by rw [c0]; decide) (by rw [c0]; rfl) (by decide) (t := 163) rfl) ?_
      refine m_R_sg (by decide) [(.aload_n 0, 1, 0, 0, 0, 0, 0), (.getfield 28, 3, 0, 11, 2, 3, 632), (.getfield 146, 3, 0, 10, 2, 3, 510), (.iload_n 1, 1, 0, 1, 0, 0, 0)] (by decide +kernel) (show m_sgl X _ _ _ _ _ = some (171, [some (.ref 0), some (.int v1), some (.int v2), some (.ref 19)], [.int v1, .ref 31], (SH, q1.2.1, q1.2.2)) from rfl) ?_
      obtain ⟨q6, hc6, h⟩ := Option.bind_eq_some_iff.mp h
      refine m_R_cV (v := (some (.int q6.1))) (h1 := (SH, q6.2)) (rest := []) (lo' := [some (.ref 31), some (.int v1), none, none]) (ml := 4) (k0 := 31) (by decide) (Or.inl rfl) (m_opb_of (ins := .invokevirtual 155) (len := 3) (tag := 5) (a := 31) (b := 1) (c := 0) (q := 741) (by decide +kernel)) (by decide +kernel) rfl (show m_isO 31 31 (SH, _) = true from m_isO_of (by decide +kernel)) (Nat.le_of_ble_eq_true rfl) rfl rfl (ok_Papers_owedBy X (d + 1) F _ _ _ _ hc6) ?_
      obtain ⟨rfl, rfl⟩ := m_some h
      exact m_R_iret (by decide) (m_opb_of (ins := .ireturn) (len := 1) (tag := 1) (a := 0) (b := 0) (c := 0) (q := 0) (by decide +kernel)) (Or.inl rfl)
    refine m_R_1 (by decide) (m_opb_of (ins := .tableswitch 151 0 9 #[56, 63, 70, 77, 90, 104, 111, 118, 127, 139]) (len := 56) (tag := 0) (a := 0) (b := 0) (c := 0) (q := 0) (by decide +kernel)) (m_s_swd (m_swx 10 (fun j hj => match j, hj with | 0, _ => fun e => d0 (e.trans (by decide)) | 1, _ => fun e => d1 (e.trans (by decide)) | 2, _ => fun e => d2 (e.trans (by decide)) | 3, _ => fun e => d3 (e.trans (by decide)) | 4, _ => fun e => d4 (e.trans (by decide)) | 5, _ => fun e => d5 (e.trans (by decide)) | 6, _ => fun e => d6 (e.trans (by decide)) | 7, _ => fun e => d7 (e.trans (by decide)) | 8, _ => fun e => d8 (e.trans (by decide)) | 9, _ => fun e => d9 (e.trans (by decide)) | j + 10, hj => absurd hj (by omega))) (by decide) (t := 175) rfl) ?_
    refine m_R_sg (by decide) [(.aload_n 0, 1, 0, 0, 0, 0, 0), (.bipush (-7), 2, 0, 7, 1, 0, 0)] (by decide +kernel) (show m_sgl X _ _ _ _ _ = some (178, [some (.ref 0), some (.int v1), some (.int v2), some (.ref 19)], [.int (-7 : Int32), .ref 0], (SH, q1.2.1, q1.2.2)) from rfl) ?_
    obtain ⟨q7, hc7, h⟩ := Option.bind_eq_some_iff.mp h
    refine m_R_cV (v := (some (.int q7.1))) (h1 := (SH, q7.2)) (rest := []) (lo' := [some (.ref 0), some (.int (-7 : Int32))]) (ml := 2) (k0 := 0) (by decide) (Or.inl rfl) (m_opb_of (ins := .invokevirtual 76) (len := 3) (tag := 5) (a := 14) (b := 1) (c := 0) (q := 671) (by decide +kernel)) (by decide +kernel) rfl (show m_isO 14 0 (SH, _) = true from m_isO_of (by decide +kernel)) (Nat.le_of_ble_eq_true rfl) rfl rfl (ok_x_refuse X (d + 1) F _ _ _ _ hc7) ?_
    obtain ⟨rfl, rfl⟩ := m_some h
    exact m_R_iret (by decide) (m_opb_of (ins := .ireturn) (len := 1) (tag := 1) (a := 0) (b := 0) (c := 0) (q := 0) (by decide +kernel)) (Or.inl rfl)
def f_m_notesOf_44 (F : Nat)  (k4 : Int32 → Int32 → Int32 → mM → Option (Int32 × mM)) (v1 : Int32) (v3 : Int32) (s0 : Int32) (s1 : Int32) (m : mM) : Option (Int32 × mM) := k4 v1 (s0 + s1) (v3 + (1 : Int32)) m
theorem ok_m_notesOf_44 (X : mX) (d F : Nat) (k4 : Int32 → Int32 → Int32 → mM → Option (Int32 × mM)) (hk4 : ∀ (v1 : Int32) (v2 : Int32) (v3 : Int32) (m : mM) (r : Int32) (m' : mM), k4 v1 v2 v3 m = some (r, m') → m_R X (d + 0) 216 4 [some (.ref 304), some (.int v1), some (.int v2), some (.int v3)] [] (SH, m) (some (.int r), (SH, m'))) : ∀ (v1 : Int32) (v3 : Int32) (s0 : Int32) (s1 : Int32) (w2 : Option Value) (m : mM) (r : Int32) (m' : mM), f_m_notesOf_44 F k4 v1 v3 s0 s1 m = some (r, m') → m_R X (d + 0) 216 44 [some (.ref 304), some (.int v1), w2, some (.int v3)] [.int s1, .int s0] (SH, m) (some (.int r), (SH, m')) := by
  intro v1 v3 s0 s1 w2 m r m' h
  unfold f_m_notesOf_44 at h
  refine m_R_sg (by decide) [(.iadd, 1, 0, 0, 0, 0, 0), (.istore_n 2, 1, 0, 2, 0, 0, 0), (.iinc 3 1, 3, 0, 3, 1, 0, 0), (.goto (-45), 3, 0, 4, 0, 0, 0)] (by decide +kernel) (show m_sgl X _ _ _ _ _ = some (4, [some (.ref 304), some (.int v1), some (.int (s0 + s1)), some (.int (v3 + (1 : Int32)))], [], (SH, m.1, m.2)) from rfl) ?_
  exact hk4 _ _ _ _ _ _ h
def f_m_notesOf_52 (F : Nat)   (v2 : Int32) (m : mM) : Option (Int32 × mM) := some (v2, m)
theorem ok_m_notesOf_52 (X : mX) (d F : Nat) : ∀ (v2 : Int32) (w0 : Option Value) (w1 : Option Value) (w3 : Option Value) (m : mM) (r : Int32) (m' : mM), f_m_notesOf_52 F v2 m = some (r, m') → m_R X (d + 0) 216 52 [w0, w1, some (.int v2), w3] [] (SH, m) (some (.int r), (SH, m')) := by
  intro v2 w0 w1 w3 m r m' h
  unfold f_m_notesOf_52 at h
  refine m_R_sg (by decide) [(.iload_n 2, 1, 0, 2, 0, 0, 0)] (by decide +kernel) (show m_sgl X _ _ _ _ _ = some (53, [w0, w1, some (.int v2), w3], [.int v2], (SH, m.1, m.2)) from rfl) ?_
  obtain ⟨rfl, rfl⟩ := m_some h
  exact m_R_iret (by decide) (m_opb_of (ins := .ireturn) (len := 1) (tag := 1) (a := 0) (b := 0) (c := 0) (q := 0) (by decide +kernel)) (Or.inl rfl)
def f_m_notesOf_4 (F : Nat)   : Nat → Int32 → Int32 → Int32 → mM → Option (Int32 × mM)
  | 0, _, _, _, _ => none
  | n + 1, v1, v2, v3, m => (if (m.1 305 (6 : Int32).toNatClampNeg) ≤ v3 then f_m_notesOf_52 F v2 m else (if v1 ≤ 0 then f_m_notesOf_52 F v2 m else (if (((1220 : Int32) + ((12 : Int32) * v3)) + (2 : Int32)) < 0 ∨ 9732 ≤ (((1220 : Int32) + ((12 : Int32) * v3)) + (2 : Int32)).toNatClampNeg then none else (if (m.1 305 (((1220 : Int32) + ((12 : Int32) * v3)) + (2 : Int32)).toNatClampNeg) = v1 then f_m_notesOf_44 F (f_m_notesOf_4 F n) v1 v3 v2 (1 : Int32) m else f_m_notesOf_44 F (f_m_notesOf_4 F n) v1 v3 v2 (0 : Int32) m))))
theorem ok_m_notesOf_4 (X : mX) (d F : Nat) : ∀ (n : Nat) (v1 : Int32) (v2 : Int32) (v3 : Int32)  (m : mM) (r : Int32) (m' : mM), f_m_notesOf_4 F n v1 v2 v3 m = some (r, m') → m_R X (d + 0) 216 4 [some (.ref 304), some (.int v1), some (.int v2), some (.int v3)] [] (SH, m) (some (.int r), (SH, m')) := by
  intro n
  induction n with
  | zero => intro v1 v2 v3 m r m' h; cases h
  | succ n ih =>
    intro v1 v2 v3 m r m' h
    simp only [f_m_notesOf_4] at h
    refine m_R_sg (by decide) [(.iload_n 3, 1, 0, 3, 0, 0, 0), (.aload_n 0, 1, 0, 0, 0, 0, 0), (.getfield 13, 3, 0, 12, 1, 3, 1493), (.bipush 6, 2, 0, 6, 0, 0, 0)] (by decide +kernel) (show m_sgl X _ _ _ _ _ = some (11, [some (.ref 304), some (.int v1), some (.int v2), some (.int v3)], [.int (6 : Int32), .ref 305, .int v3], (SH, m.1, m.2)) from rfl) ?_
    refine m_R_1 (by decide) (m_opb_of (ins := .iaload) (len := 1) (tag := 0) (a := 0) (b := 0) (c := 0) (q := 0) (by decide +kernel)) (m_s_iald sh_305 (by decide) (show ¬ ((6 : Int32) < 0 ∨ 9732 ≤ (6 : Int32).toNatClampNeg) by decide)) ?_
    rcases m_ite h with ⟨c138, h⟩ | ⟨c138, h⟩
    · refine m_R_1 (by decide) (m_opb_of (ins := .if_icmp .ge 40) (len := 3) (tag := 0) (a := 52) (b := 0) (c := 0) (q := 0) (by decide +kernel)) (if_pos c138) ?_
      exact ok_m_notesOf_52 X d F _ _ _ _ _ _ _ h
    · refine m_R_1 (by decide) (m_opb_of (ins := .if_icmp .ge 40) (len := 3) (tag := 0) (a := 52) (b := 0) (c := 0) (q := 0) (by decide +kernel)) (if_neg c138) ?_
      refine m_R_sg (by decide) [(.iload_n 1, 1, 0, 1, 0, 0, 0)] (by decide +kernel) (show m_sgl X _ _ _ _ _ = some (16, [some (.ref 304), some (.int v1), some (.int v2), some (.int v3)], [.int v1], (SH, m.1, m.2)) from rfl) ?_
      rcases m_ite h with ⟨c139, h⟩ | ⟨c139, h⟩
      · refine m_R_1 (by decide) (m_opb_of (ins := .ifCond .le 36) (len := 3) (tag := 0) (a := 52) (b := 0) (c := 0) (q := 0) (by decide +kernel)) (if_pos c139) ?_
        exact ok_m_notesOf_52 X d F _ _ _ _ _ _ _ h
      · refine m_R_1 (by decide) (m_opb_of (ins := .ifCond .le 36) (len := 3) (tag := 0) (a := 52) (b := 0) (c := 0) (q := 0) (by decide +kernel)) (if_neg c139) ?_
        refine m_R_sg (by decide) [(.iload_n 2, 1, 0, 2, 0, 0, 0), (.aload_n 0, 1, 0, 0, 0, 0, 0), (.getfield 13, 3, 0, 12, 1, 3, 1493), (.sipush 1220, 3, 0, 1220, 0, 0, 0), (.bipush 12, 2, 0, 12, 0, 0, 0), (.iload_n 3, 1, 0, 3, 0, 0, 0), (.imul, 1, 0, 0, 0, 0, 0), (.iadd, 1, 0, 0, 0, 0, 0), (.iconst 2, 1, 0, 2, 0, 0, 0), (.iadd, 1, 0, 0, 0, 0, 0)] (by decide +kernel) (show m_sgl X _ _ _ _ _ = some (34, [some (.ref 304), some (.int v1), some (.int v2), some (.int v3)], [.int (((1220 : Int32) + ((12 : Int32) * v3)) + (2 : Int32)), .ref 305, .int v2], (SH, m.1, m.2)) from rfl) ?_
        obtain ⟨c140, h⟩ := m_ite_n h
        refine m_R_1 (by decide) (m_opb_of (ins := .iaload) (len := 1) (tag := 0) (a := 0) (b := 0) (c := 0) (q := 0) (by decide +kernel)) (m_s_iald sh_305 (by decide) c140) ?_
        refine m_R_sg (by decide) [(.iload_n 1, 1, 0, 1, 0, 0, 0)] (by decide +kernel) (show m_sgl X _ _ _ _ _ = some (36, [some (.ref 304), some (.int v1), some (.int v2), some (.int v3)], [.int v1, .int (m.1 305 (((1220 : Int32) + ((12 : Int32) * v3)) + (2 : Int32)).toNatClampNeg), .int v2], (SH, m.1, m.2)) from rfl) ?_
        rcases m_ite h with ⟨c141, h⟩ | ⟨c141, h⟩
        · refine m_R_1 (by decide) (m_opb_of (ins := .if_icmp .ne 7) (len := 3) (tag := 0) (a := 43) (b := 0) (c := 0) (q := 0) (by decide +kernel)) (if_pos c141) ?_
          refine m_R_sg (by decide) [(.iconst 1, 1, 0, 1, 0, 0, 0), (.goto 4, 3, 0, 44, 0, 0, 0)] (by decide +kernel) (show m_sgl X _ _ _ _ _ = some (44, [some (.ref 304), some (.int v1), some (.int v2), some (.int v3)], [.int (1 : Int32), .int v2], (SH, m.1, m.2)) from rfl) ?_
          exact ok_m_notesOf_44 X d F _ (fun a0 a1 a2 m r m' h => ih a0 a1 a2 m r m' h) _ _ _ _ _ _ _ _ h
        · refine m_R_1 (by decide) (m_opb_of (ins := .if_icmp .ne 7) (len := 3) (tag := 0) (a := 43) (b := 0) (c := 0) (q := 0) (by decide +kernel)) (if_neg c141) ?_
          refine m_R_sg (by decide) [(.iconst 0, 1, 0, 0, 0, 0, 0)] (by decide +kernel) (show m_sgl X _ _ _ _ _ = some (44, [some (.ref 304), some (.int v1), some (.int v2), some (.int v3)], [.int (0 : Int32), .int v2], (SH, m.1, m.2)) from rfl) ?_
          exact ok_m_notesOf_44 X d F _ (fun a0 a1 a2 m r m' h => ih a0 a1 a2 m r m' h) _ _ _ _ _ _ _ _ h
def f_m_notesOf (F : Nat)   (v1 : Int32) (m : mM) : Option (Int32 × mM) := f_m_notesOf_4 F F v1 (0 : Int32) (0 : Int32) m
theorem ok_m_notesOf (X : mX) (d F : Nat) : ∀ (v1 : Int32)  (m : mM) (r : Int32) (m' : mM), f_m_notesOf F v1 m = some (r, m') → m_R X (d + 0) 216 0 [some (.ref 304), some (.int v1), none, none] [] (SH, m) (some (.int r), (SH, m')) := by
  intro v1 m r m' h
  unfold f_m_notesOf at h
  refine m_R_sg (by decide) [(.iconst 0, 1, 0, 0, 0, 0, 0), (.istore_n 2, 1, 0, 2, 0, 0, 0), (.iconst 0, 1, 0, 0, 0, 0, 0), (.istore_n 3, 1, 0, 3, 0, 0, 0)] (by decide +kernel) (show m_sgl X _ _ _ _ _ = some (4, [some (.ref 304), some (.int v1), some (.int (0 : Int32)), some (.int (0 : Int32))], [], (SH, m.1, m.2)) from rfl) ?_
  exact ok_m_notesOf_4 X d F F _ _ _ _ _ _ h
def f_m_coinOf (F : Nat)   (v1 : Int32) (m : mM) : Option (Int32 × mM) := ((f_m_hs F v1 (2 : Int32) m).bind fun q1 => ((f_m_notesOf F v1 q1.2).bind fun q2 => some ((q1.1 + ((10 : Int32) * q2.1)), q2.2)))
theorem ok_m_coinOf (X : mX) (d F : Nat) : ∀ (v1 : Int32)  (m : mM) (r : Int32) (m' : mM), f_m_coinOf F v1 m = some (r, m') → m_R X (d + 1) 217 0 [some (.ref 304), some (.int v1)] [] (SH, m) (some (.int r), (SH, m')) := by
  intro v1 m r m' h
  unfold f_m_coinOf at h
  refine m_R_sg (by decide) [(.aload_n 0, 1, 0, 0, 0, 0, 0), (.iload_n 1, 1, 0, 1, 0, 0, 0), (.iconst 2, 1, 0, 2, 0, 0, 0)] (by decide +kernel) (show m_sgl X _ _ _ _ _ = some (3, [some (.ref 304), some (.int v1)], [.int (2 : Int32), .int v1, .ref 304], (SH, m.1, m.2)) from rfl) ?_
  obtain ⟨q1, hc1, h⟩ := Option.bind_eq_some_iff.mp h
  refine m_R_cV (v := (some (.int q1.1))) (h1 := (SH, q1.2)) (rest := []) (lo' := [some (.ref 304), some (.int v1), some (.int (2 : Int32))]) (ml := 3) (k0 := 304) (by decide) (Or.inl rfl) (m_opb_of (ins := .invokevirtual 65) (len := 3) (tag := 5) (a := 212) (b := 2) (c := 0) (q := 1633) (by decide +kernel)) (by decide +kernel) rfl (show m_isO 212 304 (SH, _) = true from m_isO_of (by decide +kernel)) (Nat.le_of_ble_eq_true rfl) rfl rfl (ok_m_hs X (d + 0) F _ _ _ _ _ hc1) ?_
  refine m_R_sg (by decide) [(.bipush 10, 2, 0, 10, 0, 0, 0), (.aload_n 0, 1, 0, 0, 0, 0, 0), (.iload_n 1, 1, 0, 1, 0, 0, 0)] (by decide +kernel) (show m_sgl X _ _ _ _ _ = some (10, [some (.ref 304), some (.int v1)], [.int v1, .ref 304, .int (10 : Int32), .int q1.1], (SH, q1.2.1, q1.2.2)) from rfl) ?_
  obtain ⟨q2, hc2, h⟩ := Option.bind_eq_some_iff.mp h
  refine m_R_cV (v := (some (.int q2.1))) (h1 := (SH, q2.2)) (rest := [.int (10 : Int32), .int q1.1]) (lo' := [some (.ref 304), some (.int v1), none, none]) (ml := 4) (k0 := 304) (by decide) (Or.inl rfl) (m_opb_of (ins := .invokevirtual 83) (len := 3) (tag := 5) (a := 216) (b := 1) (c := 0) (q := 1649) (by decide +kernel)) (by decide +kernel) rfl (show m_isO 216 304 (SH, _) = true from m_isO_of (by decide +kernel)) (Nat.le_of_ble_eq_true rfl) rfl rfl (ok_m_notesOf X (d + 0) F _ _ _ _ hc2) ?_
  refine m_R_sg (by decide) [(.imul, 1, 0, 0, 0, 0, 0), (.iadd, 1, 0, 0, 0, 0, 0)] (by decide +kernel) (show m_sgl X _ _ _ _ _ = some (15, [some (.ref 304), some (.int v1)], [.int (q1.1 + ((10 : Int32) * q2.1))], (SH, q2.2.1, q2.2.2)) from rfl) ?_
  obtain ⟨rfl, rfl⟩ := m_some h
  exact m_R_iret (by decide) (m_opb_of (ins := .ireturn) (len := 1) (tag := 1) (a := 0) (b := 0) (c := 0) (q := 0) (by decide +kernel)) (Or.inl rfl)
def f_m_papersOf_56 (F : Nat)  (k5 : Int32 → Int32 → Int32 → Int32 → mM → Option (Int32 × mM)) (v1 : Int32) (v2 : Int32) (v4 : Int32) (s0 : Int32) (s1 : Int32) (m : mM) : Option (Int32 × mM) := k5 v1 v2 (s0 + s1) (v4 + (1 : Int32)) m
theorem ok_m_papersOf_56 (X : mX) (d F : Nat) (k5 : Int32 → Int32 → Int32 → Int32 → mM → Option (Int32 × mM)) (hk5 : ∀ (v1 : Int32) (v2 : Int32) (v3 : Int32) (v4 : Int32) (m : mM) (r : Int32) (m' : mM), k5 v1 v2 v3 v4 m = some (r, m') → m_R X (d + 0) 218 5 [some (.ref 304), some (.int v1), some (.int v2), some (.int v3), some (.int v4)] [] (SH, m) (some (.int r), (SH, m'))) : ∀ (v1 : Int32) (v2 : Int32) (v4 : Int32) (s0 : Int32) (s1 : Int32) (w3 : Option Value) (m : mM) (r : Int32) (m' : mM), f_m_papersOf_56 F k5 v1 v2 v4 s0 s1 m = some (r, m') → m_R X (d + 0) 218 56 [some (.ref 304), some (.int v1), some (.int v2), w3, some (.int v4)] [.int s1, .int s0] (SH, m) (some (.int r), (SH, m')) := by
  intro v1 v2 v4 s0 s1 w3 m r m' h
  unfold f_m_papersOf_56 at h
  refine m_R_sg (by decide) [(.iadd, 1, 0, 0, 0, 0, 0), (.istore_n 3, 1, 0, 3, 0, 0, 0), (.iinc 4 1, 3, 0, 4, 1, 0, 0), (.goto (-56), 3, 0, 5, 0, 0, 0)] (by decide +kernel) (show m_sgl X _ _ _ _ _ = some (5, [some (.ref 304), some (.int v1), some (.int v2), some (.int (s0 + s1)), some (.int (v4 + (1 : Int32)))], [], (SH, m.1, m.2)) from rfl) ?_
  exact hk5 _ _ _ _ _ _ _ h
def f_m_papersOf_55 (F : Nat)  (k5 : Int32 → Int32 → Int32 → Int32 → mM → Option (Int32 × mM)) (v1 : Int32) (v2 : Int32) (v4 : Int32) (s0 : Int32) (m : mM) : Option (Int32 × mM) := f_m_papersOf_56 F k5 v1 v2 v4 s0 (0 : Int32) m
theorem ok_m_papersOf_55 (X : mX) (d F : Nat) (k5 : Int32 → Int32 → Int32 → Int32 → mM → Option (Int32 × mM)) (hk5 : ∀ (v1 : Int32) (v2 : Int32) (v3 : Int32) (v4 : Int32) (m : mM) (r : Int32) (m' : mM), k5 v1 v2 v3 v4 m = some (r, m') → m_R X (d + 0) 218 5 [some (.ref 304), some (.int v1), some (.int v2), some (.int v3), some (.int v4)] [] (SH, m) (some (.int r), (SH, m'))) : ∀ (v1 : Int32) (v2 : Int32) (v4 : Int32) (s0 : Int32) (w3 : Option Value) (m : mM) (r : Int32) (m' : mM), f_m_papersOf_55 F k5 v1 v2 v4 s0 m = some (r, m') → m_R X (d + 0) 218 55 [some (.ref 304), some (.int v1), some (.int v2), w3, some (.int v4)] [.int s0] (SH, m) (some (.int r), (SH, m')) := by
  intro v1 v2 v4 s0 w3 m r m' h
  unfold f_m_papersOf_55 at h
  refine m_R_sg (by decide) [(.iconst 0, 1, 0, 0, 0, 0, 0)] (by decide +kernel) (show m_sgl X _ _ _ _ _ = some (56, [some (.ref 304), some (.int v1), some (.int v2), w3, some (.int v4)], [.int (0 : Int32), .int s0], (SH, m.1, m.2)) from rfl) ?_
  exact ok_m_papersOf_56 X d F _ hk5 _ _ _ _ _ _ _ _ _ h
def f_m_papersOf_5 (F : Nat)   : Nat → Int32 → Int32 → Int32 → Int32 → mM → Option (Int32 × mM)
  | 0, _, _, _, _, _ => none
  | n + 1, v1, v2, v3, v4, m => (if (60 : Int32) ≤ v4 then some (v3, m) else (if ((6200 : Int32) + ((20 : Int32) * v4)) < 0 ∨ 9732 ≤ ((6200 : Int32) + ((20 : Int32) * v4)).toNatClampNeg then none else (if (m.1 305 ((6200 : Int32) + ((20 : Int32) * v4)).toNatClampNeg) = (1 : Int32) then (if (((6200 : Int32) + ((20 : Int32) * v4)) + v2) < 0 ∨ 9732 ≤ (((6200 : Int32) + ((20 : Int32) * v4)) + v2).toNatClampNeg then none else (if (m.1 305 (((6200 : Int32) + ((20 : Int32) * v4)) + v2).toNatClampNeg) = v1 then f_m_papersOf_56 F (f_m_papersOf_5 F n) v1 v2 v4 v3 (1 : Int32) m else f_m_papersOf_55 F (f_m_papersOf_5 F n) v1 v2 v4 v3 m)) else f_m_papersOf_55 F (f_m_papersOf_5 F n) v1 v2 v4 v3 m)))
theorem ok_m_papersOf_5 (X : mX) (d F : Nat) : ∀ (n : Nat) (v1 : Int32) (v2 : Int32) (v3 : Int32) (v4 : Int32)  (m : mM) (r : Int32) (m' : mM), f_m_papersOf_5 F n v1 v2 v3 v4 m = some (r, m') → m_R X (d + 0) 218 5 [some (.ref 304), some (.int v1), some (.int v2), some (.int v3), some (.int v4)] [] (SH, m) (some (.int r), (SH, m')) := by
  intro n
  induction n with
  | zero => intro v1 v2 v3 v4 m r m' h; cases h
  | succ n ih =>
    intro v1 v2 v3 v4 m r m' h
    simp only [f_m_papersOf_5] at h
    refine m_R_sg (by decide) [(.iload 4, 2, 0, 4, 0, 0, 0), (.bipush 60, 2, 0, 60, 0, 0, 0)] (by decide +kernel) (show m_sgl X _ _ _ _ _ = some (9, [some (.ref 304), some (.int v1), some (.int v2), some (.int v3), some (.int v4)], [.int (60 : Int32), .int v4], (SH, m.1, m.2)) from rfl) ?_
    rcases m_ite h with ⟨c142, h⟩ | ⟨c142, h⟩
    · refine m_R_1 (by decide) (m_opb_of (ins := .if_icmp .ge 55) (len := 3) (tag := 0) (a := 64) (b := 0) (c := 0) (q := 0) (by decide +kernel)) (if_pos c142) ?_
      refine m_R_sg (by decide) [(.iload_n 3, 1, 0, 3, 0, 0, 0)] (by decide +kernel) (show m_sgl X _ _ _ _ _ = some (65, [some (.ref 304), some (.int v1), some (.int v2), some (.int v3), some (.int v4)], [.int v3], (SH, m.1, m.2)) from rfl) ?_
      obtain ⟨rfl, rfl⟩ := m_some h
      exact m_R_iret (by decide) (m_opb_of (ins := .ireturn) (len := 1) (tag := 1) (a := 0) (b := 0) (c := 0) (q := 0) (by decide +kernel)) (Or.inl rfl)
    · refine m_R_1 (by decide) (m_opb_of (ins := .if_icmp .ge 55) (len := 3) (tag := 0) (a := 64) (b := 0) (c := 0) (q := 0) (by decide +kernel)) (if_neg c142) ?_
      refine m_R_sg (by decide) [(.iload_n 3, 1, 0, 3, 0, 0, 0), (.aload_n 0, 1, 0, 0, 0, 0, 0), (.getfield 13, 3, 0, 12, 1, 3, 1493), (.sipush 6200, 3, 0, 6200, 0, 0, 0), (.bipush 20, 2, 0, 20, 0, 0, 0), (.iload 4, 2, 0, 4, 0, 0, 0), (.imul, 1, 0, 0, 0, 0, 0), (.iadd, 1, 0, 0, 0, 0, 0)] (by decide +kernel) (show m_sgl X _ _ _ _ _ = some (26, [some (.ref 304), some (.int v1), some (.int v2), some (.int v3), some (.int v4)], [.int ((6200 : Int32) + ((20 : Int32) * v4)), .ref 305, .int v3], (SH, m.1, m.2)) from rfl) ?_
      obtain ⟨c143, h⟩ := m_ite_n h
      refine m_R_1 (by decide) (m_opb_of (ins := .iaload) (len := 1) (tag := 0) (a := 0) (b := 0) (c := 0) (q := 0) (by decide +kernel)) (m_s_iald sh_305 (by decide) c143) ?_
      refine m_R_sg (by decide) [(.iconst 1, 1, 0, 1, 0, 0, 0)] (by decide +kernel) (show m_sgl X _ _ _ _ _ = some (28, [some (.ref 304), some (.int v1), some (.int v2), some (.int v3), some (.int v4)], [.int (1 : Int32), .int (m.1 305 ((6200 : Int32) + ((20 : Int32) * v4)).toNatClampNeg), .int v3], (SH, m.1, m.2)) from rfl) ?_
      rcases m_ite h with ⟨c144, h⟩ | ⟨c144, h⟩
      · refine m_R_1 (by decide) (m_opb_of (ins := .if_icmp .ne 27) (len := 3) (tag := 0) (a := 55) (b := 0) (c := 0) (q := 0) (by decide +kernel)) (if_pos c144) ?_
        refine m_R_sg (by decide) [(.aload_n 0, 1, 0, 0, 0, 0, 0), (.getfield 13, 3, 0, 12, 1, 3, 1493), (.sipush 6200, 3, 0, 6200, 0, 0, 0), (.bipush 20, 2, 0, 20, 0, 0, 0), (.iload 4, 2, 0, 4, 0, 0, 0), (.imul, 1, 0, 0, 0, 0, 0), (.iadd, 1, 0, 0, 0, 0, 0), (.iload_n 2, 1, 0, 2, 0, 0, 0), (.iadd, 1, 0, 0, 0, 0, 0)] (by decide +kernel) (show m_sgl X _ _ _ _ _ = some (46, [some (.ref 304), some (.int v1), some (.int v2), some (.int v3), some (.int v4)], [.int (((6200 : Int32) + ((20 : Int32) * v4)) + v2), .ref 305, .int v3], (SH, m.1, m.2)) from rfl) ?_
        obtain ⟨c145, h⟩ := m_ite_n h
        refine m_R_1 (by decide) (m_opb_of (ins := .iaload) (len := 1) (tag := 0) (a := 0) (b := 0) (c := 0) (q := 0) (by decide +kernel)) (m_s_iald sh_305 (by decide) c145) ?_
        refine m_R_sg (by decide) [(.iload_n 1, 1, 0, 1, 0, 0, 0)] (by decide +kernel) (show m_sgl X _ _ _ _ _ = some (48, [some (.ref 304), some (.int v1), some (.int v2), some (.int v3), some (.int v4)], [.int v1, .int (m.1 305 (((6200 : Int32) + ((20 : Int32) * v4)) + v2).toNatClampNeg), .int v3], (SH, m.1, m.2)) from rfl) ?_
        rcases m_ite h with ⟨c146, h⟩ | ⟨c146, h⟩
        · refine m_R_1 (by decide) (m_opb_of (ins := .if_icmp .ne 7) (len := 3) (tag := 0) (a := 55) (b := 0) (c := 0) (q := 0) (by decide +kernel)) (if_pos c146) ?_
          refine m_R_sg (by decide) [(.iconst 1, 1, 0, 1, 0, 0, 0), (.goto 4, 3, 0, 56, 0, 0, 0)] (by decide +kernel) (show m_sgl X _ _ _ _ _ = some (56, [some (.ref 304), some (.int v1), some (.int v2), some (.int v3), some (.int v4)], [.int (1 : Int32), .int v3], (SH, m.1, m.2)) from rfl) ?_
          exact ok_m_papersOf_56 X d F _ (fun a0 a1 a2 a3 m r m' h => ih a0 a1 a2 a3 m r m' h) _ _ _ _ _ _ _ _ _ h
        · refine m_R_1 (by decide) (m_opb_of (ins := .if_icmp .ne 7) (len := 3) (tag := 0) (a := 55) (b := 0) (c := 0) (q := 0) (by decide +kernel)) (if_neg c146) ?_
          exact ok_m_papersOf_55 X d F _ (fun a0 a1 a2 a3 m r m' h => ih a0 a1 a2 a3 m r m' h) _ _ _ _ _ _ _ _ h
      · refine m_R_1 (by decide) (m_opb_of (ins := .if_icmp .ne 27) (len := 3) (tag := 0) (a := 55) (b := 0) (c := 0) (q := 0) (by decide +kernel)) (if_neg c144) ?_
        exact ok_m_papersOf_55 X d F _ (fun a0 a1 a2 a3 m r m' h => ih a0 a1 a2 a3 m r m' h) _ _ _ _ _ _ _ _ h
def f_m_papersOf (F : Nat)   (v1 : Int32) (v2 : Int32) (m : mM) : Option (Int32 × mM) := f_m_papersOf_5 F F v1 v2 (0 : Int32) (0 : Int32) m
theorem ok_m_papersOf (X : mX) (d F : Nat) : ∀ (v1 : Int32) (v2 : Int32)  (m : mM) (r : Int32) (m' : mM), f_m_papersOf F v1 v2 m = some (r, m') → m_R X (d + 0) 218 0 [some (.ref 304), some (.int v1), some (.int v2), none, none] [] (SH, m) (some (.int r), (SH, m')) := by
  intro v1 v2 m r m' h
  unfold f_m_papersOf at h
  refine m_R_sg (by decide) [(.iconst 0, 1, 0, 0, 0, 0, 0), (.istore_n 3, 1, 0, 3, 0, 0, 0), (.iconst 0, 1, 0, 0, 0, 0, 0), (.istore 4, 2, 0, 4, 0, 0, 0)] (by decide +kernel) (show m_sgl X _ _ _ _ _ = some (5, [some (.ref 304), some (.int v1), some (.int v2), some (.int (0 : Int32)), some (.int (0 : Int32))], [], (SH, m.1, m.2)) from rfl) ?_
  exact ok_m_papersOf_5 X d F F _ _ _ _ _ _ _ h
def f_m_look (F : Nat)   (v1 : Int32) (v2 : Int32) (m : mM) : Option (Int32 × mM) := ((f_m_isHouse F v1 m).bind fun q1 => (if q1.1 = 0 then ((f_m_refuse F (-3 : Int32) q1.2).bind fun q2 => some (q2.1, q2.2)) else (if v2 = (0 : Int32) then ((f_m_hs F v1 (0 : Int32) q1.2).bind fun q3 => some (q3.1, q3.2)) else (if v2 = (1 : Int32) then ((f_m_hs F v1 (1 : Int32) q1.2).bind fun q4 => some (q4.1, q4.2)) else (if v2 = (2 : Int32) then ((f_m_hs F v1 (2 : Int32) q1.2).bind fun q5 => some (q5.1, q5.2)) else (if v2 = (3 : Int32) then ((f_m_notesOf F v1 q1.2).bind fun q6 => some (q6.1, q6.2)) else (if v2 = (4 : Int32) then ((f_m_hs F v1 (3 : Int32) q1.2).bind fun q7 => some (q7.1, q7.2)) else (if v2 = (5 : Int32) then ((f_m_hs F v1 (4 : Int32) q1.2).bind fun q8 => some (q8.1, q8.2)) else (if v2 = (6 : Int32) then ((f_m_hs F v1 (5 : Int32) q1.2).bind fun q9 => some (q9.1, q9.2)) else (if v2 = (7 : Int32) then ((f_m_coinOf F v1 q1.2).bind fun q10 => some (q10.1, q10.2)) else (if v2 = (8 : Int32) then ((f_m_papersOf F v1 (4 : Int32) q1.2).bind fun q11 => some (q11.1, q11.2)) else (if v2 = (9 : Int32) then ((f_m_papersOf F v1 (3 : Int32) q1.2).bind fun q12 => some (q12.1, q12.2)) else ((f_m_refuse F (-7 : Int32) q1.2).bind fun q13 => some (q13.1, q13.2))))))))))))))
theorem ok_m_look (X : mX) (d F : Nat) : ∀ (v1 : Int32) (v2 : Int32)  (m : mM) (r : Int32) (m' : mM), f_m_look F v1 v2 m = some (r, m') → m_R X (d + 2) 215 0 [some (.ref 304), some (.int v1), some (.int v2)] [] (SH, m) (some (.int r), (SH, m')) := by
  intro v1 v2 m r m' h
  unfold f_m_look at h
  refine m_R_sg (by decide) [(.aload_n 0, 1, 0, 0, 0, 0, 0), (.iload_n 1, 1, 0, 1, 0, 0, 0)] (by decide +kernel) (show m_sgl X _ _ _ _ _ = some (2, [some (.ref 304), some (.int v1), some (.int v2)], [.int v1, .ref 304], (SH, m.1, m.2)) from rfl) ?_
  obtain ⟨q1, hc1, h⟩ := Option.bind_eq_some_iff.mp h
  refine m_R_cV (v := (some (.int q1.1))) (h1 := (SH, q1.2)) (rest := []) (lo' := [some (.ref 304), some (.int v1)]) (ml := 2) (k0 := 304) (by decide) (Or.inl rfl) (m_opb_of (ins := .invokevirtual 77) (len := 3) (tag := 5) (a := 210) (b := 1) (c := 0) (q := 1625) (by decide +kernel)) (by decide +kernel) rfl (show m_isO 210 304 (SH, _) = true from m_isO_of (by decide +kernel)) (Nat.le_of_ble_eq_true rfl) rfl rfl (ok_m_isHouse X (d + 0) F _ _ _ _ hc1) ?_
  rcases m_ite h with ⟨c147, h⟩ | ⟨c147, h⟩
  · refine m_R_1 (by decide) (m_opb_of (ins := .ifCond .ne 10) (len := 3) (tag := 0) (a := 15) (b := 0) (c := 0) (q := 0) (by decide +kernel)) (if_pos c147) ?_
    refine m_R_sg (by decide) [(.aload_n 0, 1, 0, 0, 0, 0, 0), (.bipush (-3), 2, 0, 3, 1, 0, 0)] (by decide +kernel) (show m_sgl X _ _ _ _ _ = some (11, [some (.ref 304), some (.int v1), some (.int v2)], [.int (-3 : Int32), .ref 304], (SH, q1.2.1, q1.2.2)) from rfl) ?_
    obtain ⟨q2, hc2, h⟩ := Option.bind_eq_some_iff.mp h
    refine m_R_cV (v := (some (.int q2.1))) (h1 := (SH, q2.2)) (rest := []) (lo' := [some (.ref 304), some (.int (-3 : Int32))]) (ml := 2) (k0 := 304) (by decide) (Or.inl rfl) (m_opb_of (ins := .invokevirtual 61) (len := 3) (tag := 5) (a := 202) (b := 1) (c := 0) (q := 1593) (by decide +kernel)) (by decide +kernel) rfl (show m_isO 202 304 (SH, _) = true from m_isO_of (by decide +kernel)) (Nat.le_of_ble_eq_true rfl) rfl rfl (ok_m_refuse X (d + 1) F _ _ _ _ hc2) ?_
    obtain ⟨rfl, rfl⟩ := m_some h
    exact m_R_iret (by decide) (m_opb_of (ins := .ireturn) (len := 1) (tag := 1) (a := 0) (b := 0) (c := 0) (q := 0) (by decide +kernel)) (Or.inl rfl)
  · refine m_R_1 (by decide) (m_opb_of (ins := .ifCond .ne 10) (len := 3) (tag := 0) (a := 15) (b := 0) (c := 0) (q := 0) (by decide +kernel)) (if_neg c147) ?_
    refine m_R_sg (by decide) [(.iload_n 2, 1, 0, 2, 0, 0, 0)] (by decide +kernel) (show m_sgl X _ _ _ _ _ = some (16, [some (.ref 304), some (.int v1), some (.int v2)], [.int v2], (SH, q1.2.1, q1.2.2)) from rfl) ?_
    rcases m_ite h with ⟨c0, h⟩ | ⟨d0, h⟩
    · refine m_R_1 (by decide) (m_opb_of (ins := .tableswitch 124 0 9 #[56, 63, 70, 77, 83, 90, 97, 104, 110, 117]) (len := 56) (tag := 0) (a := 0) (b := 0) (c := 0) (q := 0) (by decide +kernel)) (m_s_sw (by rw [c0]; decide) (by rw [c0]; rfl) (by decide) (t := 72) rfl) ?_
      refine m_R_sg (by decide) [(.aload_n 0, 1, 0, 0, 0, 0, 0), (.iload_n 1, 1, 0, 1, 0, 0, 0), (.iconst 0, 1, 0, 0, 0, 0, 0)] (by decide +kernel) (show m_sgl X _ _ _ _ _ = some (75, [some (.ref 304), some (.int v1), some (.int v2)], [.int (0 : Int32), .int v1, .ref 304], (SH, q1.2.1, q1.2.2)) from rfl) ?_
      obtain ⟨q3, hc3, h⟩ := Option.bind_eq_some_iff.mp h
      refine m_R_cV (v := (some (.int q3.1))) (h1 := (SH, q3.2)) (rest := []) (lo' := [some (.ref 304), some (.int v1), some (.int (0 : Int32))]) (ml := 3) (k0 := 304) (by decide) (Or.inl rfl) (m_opb_of (ins := .invokevirtual 65) (len := 3) (tag := 5) (a := 212) (b := 2) (c := 0) (q := 1633) (by decide +kernel)) (by decide +kernel) rfl (show m_isO 212 304 (SH, _) = true from m_isO_of (by decide +kernel)) (Nat.le_of_ble_eq_true rfl) rfl rfl (ok_m_hs X (d + 1) F _ _ _ _ _ hc3) ?_
      obtain ⟨rfl, rfl⟩ := m_some h
      exact m_R_iret (by decide) (m_opb_of (ins := .ireturn) (len := 1) (tag := 1) (a := 0) (b := 0) (c := 0) (q := 0) (by decide +kernel)) (Or.inl rfl)
    rcases m_ite h with ⟨c0, h⟩ | ⟨d1, h⟩
    · refine m_R_1 (by decide) (m_opb_of (ins := .tableswitch 124 0 9 #[56, 63, 70, 77, 83, 90, 97, 104, 110, 117]) (len := 56) (tag := 0) (a := 0) (b := 0) (c := 0) (q := 0) (by decide +kernel)) (m_s_sw (by rw [c0]; decide) (by rw [c0]; rfl) (by decide) (t := 79) rfl) ?_
      refine m_R_sg (by decide) [(.aload_n 0, 1, 0, 0, 0, 0, 0), (.iload_n 1, 1, 0, 1, 0, 0, 0), (.iconst 1, 1, 0, 1, 0, 0, 0)] (by decide +kernel) (show m_sgl X _ _ _ _ _ = some (82, [some (.ref 304), some (.int v1), some (.int v2)], [.int (1 : Int32), .int v1, .ref 304], (SH, q1.2.1, q1.2.2)) from rfl) ?_
      obtain ⟨q4, hc4, h⟩ := Option.bind_eq_some_iff.mp h
      refine m_R_cV (v := (some (.int q4.1))) (h1 := (SH, q4.2)) (rest := []) (lo' := [some (.ref 304), some (.int v1), some (.int (1 : Int32))]) (ml := 3) (k0 := 304) (by decide) (Or.inl rfl) (m_opb_of (ins := .invokevirtual 65) (len := 3) (tag := 5) (a := 212) (b := 2) (c := 0) (q := 1633) (by decide +kernel)) (by decide +kernel) rfl (show m_isO 212 304 (SH, _) = true from m_isO_of (by decide +kernel)) (Nat.le_of_ble_eq_true rfl) rfl rfl (ok_m_hs X (d + 1) F _ _ _ _ _ hc4) ?_
      obtain ⟨rfl, rfl⟩ := m_some h
      exact m_R_iret (by decide) (m_opb_of (ins := .ireturn) (len := 1) (tag := 1) (a := 0) (b := 0) (c := 0) (q := 0) (by decide +kernel)) (Or.inl rfl)
    rcases m_ite h with ⟨c0, h⟩ | ⟨d2, h⟩
    · refine m_R_1 (by decide) (m_opb_of (ins := .tableswitch 124 0 9 #[56, 63, 70, 77, 83, 90, 97, 104, 110, 117]) (len := 56) (tag := 0) (a := 0) (b := 0) (c := 0) (q := 0) (by decide +kernel)) (m_s_sw (by rw [c0]; decide) (by rw [c0]; rfl) (by decide) (t := 86) rfl) ?_
      refine m_R_sg (by decide) [(.aload_n 0, 1, 0, 0, 0, 0, 0), (.iload_n 1, 1, 0, 1, 0, 0, 0), (.iconst 2, 1, 0, 2, 0, 0, 0)] (by decide +kernel) (show m_sgl X _ _ _ _ _ = some (89, [some (.ref 304), some (.int v1), some (.int v2)], [.int (2 : Int32), .int v1, .ref 304], (SH, q1.2.1, q1.2.2)) from rfl) ?_
      obtain ⟨q5, hc5, h⟩ := Option.bind_eq_some_iff.mp h
      refine m_R_cV (v := (some (.int q5.1))) (h1 := (SH, q5.2)) (rest := []) (lo' := [some (.ref 304), some (.int v1), some (.int (2 : Int32))]) (ml := 3) (k0 := 304) (by decide) (Or.inl rfl) (m_opb_of (ins := .invokevirtual 65) (len := 3) (tag := 5) (a := 212) (b := 2) (c := 0) (q := 1633) (by decide +kernel)) (by decide +kernel) rfl (show m_isO 212 304 (SH, _) = true from m_isO_of (by decide +kernel)) (Nat.le_of_ble_eq_true rfl) rfl rfl (ok_m_hs X (d + 1) F _ _ _ _ _ hc5) ?_
      obtain ⟨rfl, rfl⟩ := m_some h
      exact m_R_iret (by decide) (m_opb_of (ins := .ireturn) (len := 1) (tag := 1) (a := 0) (b := 0) (c := 0) (q := 0) (by decide +kernel)) (Or.inl rfl)
    rcases m_ite h with ⟨c0, h⟩ | ⟨d3, h⟩
    · refine m_R_1 (by decide) (m_opb_of (ins := .tableswitch 124 0 9 #[56, 63, 70, 77, 83, 90, 97, 104, 110, 117]) (len := 56) (tag := 0) (a := 0) (b := 0) (c := 0) (q := 0) (by decide +kernel)) (m_s_sw (by rw [c0]; decide) (by rw [c0]; rfl) (by decide) (t := 93) rfl) ?_
      refine m_R_sg (by decide) [(.aload_n 0, 1, 0, 0, 0, 0, 0), (.iload_n 1, 1, 0, 1, 0, 0, 0)] (by decide +kernel) (show m_sgl X _ _ _ _ _ = some (95, [some (.ref 304), some (.int v1), some (.int v2)], [.int v1, .ref 304], (SH, q1.2.1, q1.2.2)) from rfl) ?_
      obtain ⟨q6, hc6, h⟩ := Option.bind_eq_some_iff.mp h
      refine m_R_cV (v := (some (.int q6.1))) (h1 := (SH, q6.2)) (rest := []) (lo' := [some (.ref 304), some (.int v1), none, none]) (ml := 4) (k0 := 304) (by decide) (Or.inl rfl) (m_opb_of (ins := .invokevirtual 83) (len := 3) (tag := 5) (a := 216) (b := 1) (c := 0) (q := 1649) (by decide +kernel)) (by decide +kernel) rfl (show m_isO 216 304 (SH, _) = true from m_isO_of (by decide +kernel)) (Nat.le_of_ble_eq_true rfl) rfl rfl (ok_m_notesOf X (d + 1) F _ _ _ _ hc6) ?_
      obtain ⟨rfl, rfl⟩ := m_some h
      exact m_R_iret (by decide) (m_opb_of (ins := .ireturn) (len := 1) (tag := 1) (a := 0) (b := 0) (c := 0) (q := 0) (by decide +kernel)) (Or.inl rfl)
    rcases m_ite h with ⟨c0, h⟩ | ⟨d4, h⟩
    · refine m_R_1 (by decide) (m_opb_of (ins := .tableswitch 124 0 9 #[56, 63, 70, 77, 83, 90, 97, 104, 110, 117]) (len := 56) (tag := 0) (a := 0) (b := 0) (c := 0) (q := 0) (by decide +kernel)) (m_s_sw (by rw [c0]; decide) (by rw [c0]; rfl) (by decide) (t := 99) rfl) ?_
      refine m_R_sg (by decide) [(.aload_n 0, 1, 0, 0, 0, 0, 0), (.iload_n 1, 1, 0, 1, 0, 0, 0), (.iconst 3, 1, 0, 3, 0, 0, 0)] (by decide +kernel) (show m_sgl X _ _ _ _ _ = some (102, [some (.ref 304), some (.int v1), some (.int v2)], [.int (3 : Int32), .int v1, .ref 304], (SH, q1.2.1, q1.2.2)) from rfl) ?_
      obtain ⟨q7, hc7, h⟩ := Option.bind_eq_some_iff.mp h
      refine m_R_cV (v := (some (.int q7.1))) (h1 := (SH, q7.2)) (rest := []) (lo' := [some (.ref 304), some (.int v1), some (.int (3 : Int32))]) (ml := 3) (k0 := 304) (by decide) (Or.inl rfl) (m_opb_of (ins := .invokevirtual 65) (len := 3) (tag := 5) (a := 212) (b := 2) (c := 0) (q := 1633) (by decide +kernel)) (by decide +kernel) rfl (show m_isO 212 304 (SH, _) = true from m_isO_of (by decide +kernel)) (Nat.le_of_ble_eq_true rfl) rfl rfl (ok_m_hs X (d + 1) F _ _ _ _ _ hc7) ?_
      obtain ⟨rfl, rfl⟩ := m_some h
      exact m_R_iret (by decide) (m_opb_of (ins := .ireturn) (len := 1) (tag := 1) (a := 0) (b := 0) (c := 0) (q := 0) (by decide +kernel)) (Or.inl rfl)
    rcases m_ite h with ⟨c0, h⟩ | ⟨d5, h⟩
    · refine m_R_1 (by decide) (m_opb_of (ins := .tableswitch 124 0 9 #[56, 63, 70, 77, 83, 90, 97, 104, 110, 117]) (len := 56) (tag := 0) (a := 0) (b := 0) (c := 0) (q := 0) (by decide +kernel)) (m_s_sw (by rw [c0]; decide) (by rw [c0]; rfl) (by decide) (t := 106) rfl) ?_
      refine m_R_sg (by decide) [(.aload_n 0, 1, 0, 0, 0, 0, 0), (.iload_n 1, 1, 0, 1, 0, 0, 0), (.iconst 4, 1, 0, 4, 0, 0, 0)] (by decide +kernel) (show m_sgl X _ _ _ _ _ = some (109, [some (.ref 304), some (.int v1), some (.int v2)], [.int (4 : Int32), .int v1, .ref 304], (SH, q1.2.1, q1.2.2)) from rfl) ?_
      obtain ⟨q8, hc8, h⟩ := Option.bind_eq_some_iff.mp h
      refine m_R_cV (v := (some (.int q8.1))) (h1 := (SH, q8.2)) (rest := []) (lo' := [some (.ref 304), some (.int v1), some (.int (4 : Int32))]) (ml := 3) (k0 := 304) (by decide) (Or.inl rfl) (m_opb_of (ins := .invokevirtual 65) (len := 3) (tag := 5) (a := 212) (b := 2) (c := 0) (q := 1633) (by decide +kernel)) (by decide +kernel) rfl (show m_isO 212 304 (SH, _) = true from m_isO_of (by decide +kernel)) (Nat.le_of_ble_eq_true rfl) rfl rfl (ok_m_hs X (d + 1) F _ _ _ _ _ hc8) ?_
      obtain ⟨rfl, rfl⟩ := m_some h
      exact m_R_iret (by decide) (m_opb_of (ins := .ireturn) (len := 1) (tag := 1) (a := 0) (b := 0) (c := 0) (q := 0) (by decide +kernel)) (Or.inl rfl)
    rcases m_ite h with ⟨c0, h⟩ | ⟨d6, h⟩
    · refine m_R_1 (by decide) (m_opb_of (ins := .tableswitch 124 0 9 #[56, 63, 70, 77, 83, 90, 97, 104, 110, 117]) (len := 56) (tag := 0) (a := 0) (b := 0) (c := 0) (q := 0) (by decide +kernel)) (m_s_sw (by rw [c0]; decide) (by rw [c0]; rfl) (by decide) (t := 113) rfl) ?_
      refine m_R_sg (by decide) [(.aload_n 0, 1, 0, 0, 0, 0, 0), (.iload_n 1, 1, 0, 1, 0, 0, 0), (.iconst 5, 1, 0, 5, 0, 0, 0)] (by decide +kernel) (show m_sgl X _ _ _ _ _ = some (116, [some (.ref 304), some (.int v1), some (.int v2)], [.int (5 : Int32), .int v1, .ref 304], (SH, q1.2.1, q1.2.2)) from rfl) ?_
      obtain ⟨q9, hc9, h⟩ := Option.bind_eq_some_iff.mp h
      refine m_R_cV (v := (some (.int q9.1))) (h1 := (SH, q9.2)) (rest := []) (lo' := [some (.ref 304), some (.int v1), some (.int (5 : Int32))]) (ml := 3) (k0 := 304) (by decide) (Or.inl rfl) (m_opb_of (ins := .invokevirtual 65) (len := 3) (tag := 5) (a := 212) (b := 2) (c := 0) (q := 1633) (by decide +kernel)) (by decide +kernel) rfl (show m_isO 212 304 (SH, _) = true from m_isO_of (by decide +kernel)) (Nat.le_of_ble_eq_true rfl) rfl rfl (ok_m_hs X (d + 1) F _ _ _ _ _ hc9) ?_
      obtain ⟨rfl, rfl⟩ := m_some h
      exact m_R_iret (by decide) (m_opb_of (ins := .ireturn) (len := 1) (tag := 1) (a := 0) (b := 0) (c := 0) (q := 0) (by decide +kernel)) (Or.inl rfl)
    rcases m_ite h with ⟨c0, h⟩ | ⟨d7, h⟩
    · refine m_R_1 (by decide) (m_opb_of (ins := .tableswitch 124 0 9 #[56, 63, 70, 77, 83, 90, 97, 104, 110, 117]) (len := 56) (tag := 0) (a := 0) (b := 0) (c := 0) (q := 0) (by decide +kernel)) (m_s_sw (by rw [c0]; decide) (by rw [c0]; rfl) (by decide) (t := 120) rfl) ?_
      refine m_R_sg (by decide) [(.aload_n 0, 1, 0, 0, 0, 0, 0), (.iload_n 1, 1, 0, 1, 0, 0, 0)] (by decide +kernel) (show m_sgl X _ _ _ _ _ = some (122, [some (.ref 304), some (.int v1), some (.int v2)], [.int v1, .ref 304], (SH, q1.2.1, q1.2.2)) from rfl) ?_
      obtain ⟨q10, hc10, h⟩ := Option.bind_eq_some_iff.mp h
      refine m_R_cV (v := (some (.int q10.1))) (h1 := (SH, q10.2)) (rest := []) (lo' := [some (.ref 304), some (.int v1)]) (ml := 2) (k0 := 304) (by decide) (Or.inl rfl) (m_opb_of (ins := .invokevirtual 86) (len := 3) (tag := 5) (a := 217) (b := 1) (c := 0) (q := 1653) (by decide +kernel)) (by decide +kernel) rfl (show m_isO 217 304 (SH, _) = true from m_isO_of (by decide +kernel)) (Nat.le_of_ble_eq_true rfl) rfl rfl (ok_m_coinOf X (d + 0) F _ _ _ _ hc10) ?_
      obtain ⟨rfl, rfl⟩ := m_some h
      exact m_R_iret (by decide) (m_opb_of (ins := .ireturn) (len := 1) (tag := 1) (a := 0) (b := 0) (c := 0) (q := 0) (by decide +kernel)) (Or.inl rfl)
    rcases m_ite h with ⟨c0, h⟩ | ⟨d8, h⟩
    · refine m_R_1 (by decide) (m_opb_of (ins := .tableswitch 124 0 9 #[56, 63, 70, 77, 83, 90, 97, 104, 110, 117]) (len := 56) (tag := 0) (a := 0) (b := 0) (c := 0) (q := 0) (by decide +kernel)) (m_s_sw (by rw [c0]; decide) (by rw [c0]; rfl) (by decide) (t := 126) rfl) ?_
      refine m_R_sg (by decide) [(.aload_n 0, 1, 0, 0, 0, 0, 0), (.iload_n 1, 1, 0, 1, 0, 0, 0), (.iconst 4, 1, 0, 4, 0, 0, 0)] (by decide +kernel) (show m_sgl X _ _ _ _ _ = some (129, [some (.ref 304), some (.int v1), some (.int v2)], [.int (4 : Int32), .int v1, .ref 304], (SH, q1.2.1, q1.2.2)) from rfl) ?_
      obtain ⟨q11, hc11, h⟩ := Option.bind_eq_some_iff.mp h
      refine m_R_cV (v := (some (.int q11.1))) (h1 := (SH, q11.2)) (rest := []) (lo' := [some (.ref 304), some (.int v1), some (.int (4 : Int32)), none, none]) (ml := 5) (k0 := 304) (by decide) (Or.inl rfl) (m_opb_of (ins := .invokevirtual 89) (len := 3) (tag := 5) (a := 218) (b := 2) (c := 0) (q := 1657) (by decide +kernel)) (by decide +kernel) rfl (show m_isO 218 304 (SH, _) = true from m_isO_of (by decide +kernel)) (Nat.le_of_ble_eq_true rfl) rfl rfl (ok_m_papersOf X (d + 1) F _ _ _ _ _ hc11) ?_
      obtain ⟨rfl, rfl⟩ := m_some h
      exact m_R_iret (by decide) (m_opb_of (ins := .ireturn) (len := 1) (tag := 1) (a := 0) (b := 0) (c := 0) (q := 0) (by decide +kernel)) (Or.inl rfl)
    rcases m_ite h with ⟨c0, h⟩ | ⟨d9, h⟩
    · refine m_R_1 (by decide) (m_opb_of (ins := .tableswitch 124 0 9 #[56, 63, 70, 77, 83, 90, 97, 104, 110, 117]) (len := 56) (tag := 0) (a := 0) (b := 0) (c := 0) (q := 0) (by decide +kernel)) (m_s_sw (by rw [c0]; decide) (by rw [c0]; rfl) (by decide) (t := 133) rfl) ?_
      refine m_R_sg (by decide) [(.aload_n 0, 1, 0, 0, 0, 0, 0), (.iload_n 1, 1, 0, 1, 0, 0, 0), (.iconst 3, 1, 0, 3, 0, 0, 0)] (by decide +kernel) (show m_sgl X _ _ _ _ _ = some (136, [some (.ref 304), some (.int v1), some (.int v2)], [.int (3 : Int32), .int v1, .ref 304], (SH, q1.2.1, q1.2.2)) from rfl) ?_
      obtain ⟨q12, hc12, h⟩ := Option.bind_eq_some_iff.mp h
      refine m_R_cV (v := (some (.int q12.1))) (h1 := (SH, q12.2)) (rest := []) (lo' := [some (.ref 304), some (.int v1), some (.int (3 : Int32)), none, none]) (ml := 5) (k0 := 304) (by decide) (Or.inl rfl) (m_opb_of (ins := .invokevirtual 89) (len := 3) (tag := 5) (a := 218) (b := 2) (c := 0) (q := 1657) (by decide +kernel)) (by decide +kernel) rfl (show m_isO 218 304 (SH, _) = true from m_isO_of (by decide +kernel)) (Nat.le_of_ble_eq_true rfl) rfl rfl (ok_m_papersOf X (d + 1) F _ _ _ _ _ hc12) ?_
      obtain ⟨rfl, rfl⟩ := m_some h
      exact m_R_iret (by decide) (m_opb_of (ins := .ireturn) (len := 1) (tag := 1) (a := 0) (b := 0) (c := 0) (q := 0) (by decide +kernel)) (Or.inl rfl)
    refine m_R_1 (by decide) (m_opb_of (ins := .tableswitch 124 0 9 #[56, 63, 70, 77, 83, 90, 97, 104, 110, 117]) (len := 56) (tag := 0) (a := 0) (b := 0) (c := 0) (q := 0) (by decide +kernel)) (m_s_swd (m_swx 10 (fun j hj => match j, hj with | 0, _ => fun e => d0 (e.trans (by decide)) | 1, _ => fun e => d1 (e.trans (by decide)) | 2, _ => fun e => d2 (e.trans (by decide)) | 3, _ => fun e => d3 (e.trans (by decide)) | 4, _ => fun e => d4 (e.trans (by decide)) | 5, _ => fun e => d5 (e.trans (by decide)) | 6, _ => fun e => d6 (e.trans (by decide)) | 7, _ => fun e => d7 (e.trans (by decide)) | 8, _ => fun e => d8 (e.trans (by decide)) | 9, _ => fun e => d9 (e.trans (by decide)) | j + 10, hj => absurd hj (by omega))) (by decide) (t := 140) rfl) ?_
    refine m_R_sg (by decide) [(.aload_n 0, 1, 0, 0, 0, 0, 0), (.bipush (-7), 2, 0, 7, 1, 0, 0)] (by decide +kernel) (show m_sgl X _ _ _ _ _ = some (143, [some (.ref 304), some (.int v1), some (.int v2)], [.int (-7 : Int32), .ref 304], (SH, q1.2.1, q1.2.2)) from rfl) ?_
    obtain ⟨q13, hc13, h⟩ := Option.bind_eq_some_iff.mp h
    refine m_R_cV (v := (some (.int q13.1))) (h1 := (SH, q13.2)) (rest := []) (lo' := [some (.ref 304), some (.int (-7 : Int32))]) (ml := 2) (k0 := 304) (by decide) (Or.inl rfl) (m_opb_of (ins := .invokevirtual 61) (len := 3) (tag := 5) (a := 202) (b := 1) (c := 0) (q := 1593) (by decide +kernel)) (by decide +kernel) rfl (show m_isO 202 304 (SH, _) = true from m_isO_of (by decide +kernel)) (Nat.le_of_ble_eq_true rfl) rfl rfl (ok_m_refuse X (d + 1) F _ _ _ _ hc13) ?_
    obtain ⟨rfl, rfl⟩ := m_some h
    exact m_R_iret (by decide) (m_opb_of (ins := .ireturn) (len := 1) (tag := 1) (a := 0) (b := 0) (c := 0) (q := 0) (by decide +kernel)) (Or.inl rfl)
def f_x_down (F : Nat)   (v1 : Int32) (v2 : Int32) (m : mM) : Option (Int32 × mM) := ((f_Houses_isHouse F v1 m).bind fun q1 => (if q1.1 = 0 then ((f_x_refuse F (-3 : Int32) q1.2).bind fun q2 => some (q2.1, q2.2)) else ((f_Houses_isUp F v1 q1.2).bind fun q3 => (if q3.1 = 0 then (if v2 = (0 : Int32) then (if v1 < 0 ∨ 16 ≤ v1.toNatClampNeg then none else some ((q3.2.1 27 v1.toNatClampNeg), q3.2)) else (if v2 = (1 : Int32) then (if v1 < 0 ∨ 16 ≤ v1.toNatClampNeg then none else some ((q3.2.1 28 v1.toNatClampNeg), q3.2)) else (if v2 = (2 : Int32) then (if v1 < 0 ∨ 16 ≤ v1.toNatClampNeg then none else some ((q3.2.1 29 v1.toNatClampNeg), q3.2)) else (if v2 = (3 : Int32) then (if v1 < 0 ∨ 16 ≤ v1.toNatClampNeg then none else some ((q3.2.1 30 v1.toNatClampNeg), q3.2)) else ((f_x_refuse F (-7 : Int32) q3.2).bind fun q4 => some (q4.1, q4.2)))))) else ((f_x_refuse F (-2 : Int32) q3.2).bind fun q5 => some (q5.1, q5.2))))))
theorem ok_x_down (X : mX) (d F : Nat) : ∀ (v1 : Int32) (v2 : Int32)  (m : mM) (r : Int32) (m' : mM), f_x_down F v1 v2 m = some (r, m') → m_R X (d + 2) 32 0 [some (.ref 0), some (.int v1), some (.int v2), none] [] (SH, m) (some (.int r), (SH, m')) := by
  intro v1 v2 m r m' h
  unfold f_x_down at h
  refine m_R_sg (by decide) [(.aload_n 0, 1, 0, 0, 0, 0, 0), (.getfield 28, 3, 0, 11, 2, 3, 632), (.getfield 95, 3, 0, 10, 1, 3, 507), (.astore_n 3, 1, 0, 3, 0, 0, 0), (.aload_n 3, 1, 0, 3, 0, 0, 0), (.iload_n 1, 1, 0, 1, 0, 0, 0)] (by decide +kernel) (show m_sgl X _ _ _ _ _ = some (10, [some (.ref 0), some (.int v1), some (.int v2), some (.ref 19)], [.int v1, .ref 19], (SH, m.1, m.2)) from rfl) ?_
  obtain ⟨q1, hc1, h⟩ := Option.bind_eq_some_iff.mp h
  refine m_R_cV (v := (some (.int q1.1))) (h1 := (SH, q1.2)) (rest := []) (lo' := [some (.ref 19), some (.int v1)]) (ml := 2) (k0 := 19) (by decide) (Or.inl rfl) (m_opb_of (ins := .invokevirtual 107) (len := 3) (tag := 5) (a := 24) (b := 1) (c := 0) (q := 712) (by decide +kernel)) (by decide +kernel) rfl (show m_isO 24 19 (SH, _) = true from m_isO_of (by decide +kernel)) (Nat.le_of_ble_eq_true rfl) rfl rfl (ok_Houses_isHouse X (d + 1) F _ _ _ _ hc1) ?_
  rcases m_ite h with ⟨c148, h⟩ | ⟨c148, h⟩
  · refine m_R_1 (by decide) (m_opb_of (ins := .ifCond .ne 10) (len := 3) (tag := 0) (a := 23) (b := 0) (c := 0) (q := 0) (by decide +kernel)) (if_pos c148) ?_
    refine m_R_sg (by decide) [(.aload_n 0, 1, 0, 0, 0, 0, 0), (.bipush (-3), 2, 0, 3, 1, 0, 0)] (by decide +kernel) (show m_sgl X _ _ _ _ _ = some (19, [some (.ref 0), some (.int v1), some (.int v2), some (.ref 19)], [.int (-3 : Int32), .ref 0], (SH, q1.2.1, q1.2.2)) from rfl) ?_
    obtain ⟨q2, hc2, h⟩ := Option.bind_eq_some_iff.mp h
    refine m_R_cV (v := (some (.int q2.1))) (h1 := (SH, q2.2)) (rest := []) (lo' := [some (.ref 0), some (.int (-3 : Int32))]) (ml := 2) (k0 := 0) (by decide) (Or.inl rfl) (m_opb_of (ins := .invokevirtual 76) (len := 3) (tag := 5) (a := 14) (b := 1) (c := 0) (q := 671) (by decide +kernel)) (by decide +kernel) rfl (show m_isO 14 0 (SH, _) = true from m_isO_of (by decide +kernel)) (Nat.le_of_ble_eq_true rfl) rfl rfl (ok_x_refuse X (d + 1) F _ _ _ _ hc2) ?_
    obtain ⟨rfl, rfl⟩ := m_some h
    exact m_R_iret (by decide) (m_opb_of (ins := .ireturn) (len := 1) (tag := 1) (a := 0) (b := 0) (c := 0) (q := 0) (by decide +kernel)) (Or.inl rfl)
  · refine m_R_1 (by decide) (m_opb_of (ins := .ifCond .ne 10) (len := 3) (tag := 0) (a := 23) (b := 0) (c := 0) (q := 0) (by decide +kernel)) (if_neg c148) ?_
    refine m_R_sg (by decide) [(.aload_n 3, 1, 0, 3, 0, 0, 0), (.iload_n 1, 1, 0, 1, 0, 0, 0)] (by decide +kernel) (show m_sgl X _ _ _ _ _ = some (25, [some (.ref 0), some (.int v1), some (.int v2), some (.ref 19)], [.int v1, .ref 19], (SH, q1.2.1, q1.2.2)) from rfl) ?_
    obtain ⟨q3, hc3, h⟩ := Option.bind_eq_some_iff.mp h
    refine m_R_cV (v := (some (.int q3.1))) (h1 := (SH, q3.2)) (rest := []) (lo' := [some (.ref 19), some (.int v1)]) (ml := 2) (k0 := 19) (by decide) (Or.inl rfl) (m_opb_of (ins := .invokevirtual 110) (len := 3) (tag := 5) (a := 25) (b := 1) (c := 0) (q := 716) (by decide +kernel)) (by decide +kernel) rfl (show m_isO 25 19 (SH, _) = true from m_isO_of (by decide +kernel)) (Nat.le_of_ble_eq_true rfl) rfl rfl (ok_Houses_isUp X (d + 0) F _ _ _ _ hc3) ?_
    rcases m_ite h with ⟨c149, h⟩ | ⟨c149, h⟩
    · refine m_R_1 (by decide) (m_opb_of (ins := .ifCond .eq 10) (len := 3) (tag := 0) (a := 38) (b := 0) (c := 0) (q := 0) (by decide +kernel)) (if_pos c149) ?_
      refine m_R_sg (by decide) [(.iload_n 2, 1, 0, 2, 0, 0, 0)] (by decide +kernel) (show m_sgl X _ _ _ _ _ = some (39, [some (.ref 0), some (.int v1), some (.int v2), some (.ref 19)], [.int v2], (SH, q3.2.1, q3.2.2)) from rfl) ?_
      rcases m_ite h with ⟨c0, h⟩ | ⟨d0, h⟩
      · refine m_R_1 (by decide) (m_opb_of (ins := .tableswitch 57 0 3 #[29, 36, 43, 50]) (len := 29) (tag := 0) (a := 0) (b := 0) (c := 0) (q := 0) (by decide +kernel)) (m_s_sw (by rw [c0]; decide) (by rw [c0]; rfl) (by decide) (t := 68) rfl) ?_
        refine m_R_sg (by decide) [(.aload_n 3, 1, 0, 3, 0, 0, 0), (.getfield 158, 3, 0, 1, 7, 3, 270), (.iload_n 1, 1, 0, 1, 0, 0, 0)] (by decide +kernel) (show m_sgl X _ _ _ _ _ = some (73, [some (.ref 0), some (.int v1), some (.int v2), some (.ref 19)], [.int v1, .ref 27], (SH, q3.2.1, q3.2.2)) from rfl) ?_
        obtain ⟨c150, h⟩ := m_ite_n h
        refine m_R_1 (by decide) (m_opb_of (ins := .iaload) (len := 1) (tag := 0) (a := 0) (b := 0) (c := 0) (q := 0) (by decide +kernel)) (m_s_iald sh_27 (by decide) c150) ?_
        obtain ⟨rfl, rfl⟩ := m_some h
        exact m_R_iret (by decide) (m_opb_of (ins := .ireturn) (len := 1) (tag := 1) (a := 0) (b := 0) (c := 0) (q := 0) (by decide +kernel)) (Or.inl rfl)
      rcases m_ite h with ⟨c0, h⟩ | ⟨d1, h⟩
      · refine m_R_1 (by decide) (m_opb_of (ins := .tableswitch 57 0 3 #[29, 36, 43, 50]) (len := 29) (tag := 0) (a := 0) (b := 0) (c := 0) (q := 0) (by decide +kernel)) (m_s_sw (by rw [c0]; decide) (by rw [c0]; rfl) (by decide) (t := 75) rfl) ?_
        refine m_R_sg (by decide) [(.aload_n 3, 1, 0, 3, 0, 0, 0), (.getfield 161, 3, 0, 1, 8, 3, 273), (.iload_n 1, 1, 0, 1, 0, 0, 0)] (by decide +kernel) (show m_sgl X _ _ _ _ _ = some (80, [some (.ref 0), some (.int v1), some (.int v2), some (.ref 19)], [.int v1, .ref 28], (SH, q3.2.1, q3.2.2)) from rfl) ?_
        obtain ⟨c151, h⟩ := m_ite_n h
        refine m_R_1 (by decide) (m_opb_of (ins := .iaload) (len := 1) (tag := 0) (a := 0) (b := 0) (c := 0) (q := 0) (by decide +kernel)) (m_s_iald sh_28 (by decide) c151) ?_
        obtain ⟨rfl, rfl⟩ := m_some h
        exact m_R_iret (by decide) (m_opb_of (ins := .ireturn) (len := 1) (tag := 1) (a := 0) (b := 0) (c := 0) (q := 0) (by decide +kernel)) (Or.inl rfl)
      rcases m_ite h with ⟨c0, h⟩ | ⟨d2, h⟩
      · refine m_R_1 (by decide) (m_opb_of (ins := .tableswitch 57 0 3 #[29, 36, 43, 50]) (len := 29) (tag := 0) (a := 0) (b := 0) (c := 0) (q := 0) (by decide +kernel)) (m_s_sw (by rw [c0]; decide) (by rw [c0]; rfl) (by decide) (t := 82) rfl) ?_
        refine m_R_sg (by decide) [(.aload_n 3, 1, 0, 3, 0, 0, 0), (.getfield 164, 3, 0, 1, 9, 3, 275), (.iload_n 1, 1, 0, 1, 0, 0, 0)] (by decide +kernel) (show m_sgl X _ _ _ _ _ = some (87, [some (.ref 0), some (.int v1), some (.int v2), some (.ref 19)], [.int v1, .ref 29], (SH, q3.2.1, q3.2.2)) from rfl) ?_
        obtain ⟨c152, h⟩ := m_ite_n h
        refine m_R_1 (by decide) (m_opb_of (ins := .iaload) (len := 1) (tag := 0) (a := 0) (b := 0) (c := 0) (q := 0) (by decide +kernel)) (m_s_iald sh_29 (by decide) c152) ?_
        obtain ⟨rfl, rfl⟩ := m_some h
        exact m_R_iret (by decide) (m_opb_of (ins := .ireturn) (len := 1) (tag := 1) (a := 0) (b := 0) (c := 0) (q := 0) (by decide +kernel)) (Or.inl rfl)
      rcases m_ite h with ⟨c0, h⟩ | ⟨d3, h⟩
      · refine m_R_1 (by decide) (m_opb_of (ins := .tableswitch 57 0 3 #[29, 36, 43, 50]) (len := 29) (tag := 0) (a := 0) (b := 0) (c := 0) (q := 0) (by decide +kernel)) (m_s_sw (by rw [c0]; decide) (by rw [c0]; rfl) (by decide) (t := 89) rfl) ?_
        refine m_R_sg (by decide) [(.aload_n 3, 1, 0, 3, 0, 0, 0), (.getfield 167, 3, 0, 1, 10, 3, 277), (.iload_n 1, 1, 0, 1, 0, 0, 0)] (by decide +kernel) (show m_sgl X _ _ _ _ _ = some (94, [some (.ref 0), some (.int v1), some (.int v2), some (.ref 19)], [.int v1, .ref 30], (SH, q3.2.1, q3.2.2)) from rfl) ?_
        obtain ⟨c153, h⟩ := m_ite_n h
        refine m_R_1 (by decide) (m_opb_of (ins := .iaload) (len := 1) (tag := 0) (a := 0) (b := 0) (c := 0) (q := 0) (by decide +kernel)) (m_s_iald sh_30 (by decide) c153) ?_
        obtain ⟨rfl, rfl⟩ := m_some h
        exact m_R_iret (by decide) (m_opb_of (ins := .ireturn) (len := 1) (tag := 1) (a := 0) (b := 0) (c := 0) (q := 0) (by decide +kernel)) (Or.inl rfl)
      refine m_R_1 (by decide) (m_opb_of (ins := .tableswitch 57 0 3 #[29, 36, 43, 50]) (len := 29) (tag := 0) (a := 0) (b := 0) (c := 0) (q := 0) (by decide +kernel)) (m_s_swd (m_swx 4 (fun j hj => match j, hj with | 0, _ => fun e => d0 (e.trans (by decide)) | 1, _ => fun e => d1 (e.trans (by decide)) | 2, _ => fun e => d2 (e.trans (by decide)) | 3, _ => fun e => d3 (e.trans (by decide)) | j + 4, hj => absurd hj (by omega))) (by decide) (t := 96) rfl) ?_
      refine m_R_sg (by decide) [(.aload_n 0, 1, 0, 0, 0, 0, 0), (.bipush (-7), 2, 0, 7, 1, 0, 0)] (by decide +kernel) (show m_sgl X _ _ _ _ _ = some (99, [some (.ref 0), some (.int v1), some (.int v2), some (.ref 19)], [.int (-7 : Int32), .ref 0], (SH, q3.2.1, q3.2.2)) from rfl) ?_
      obtain ⟨q4, hc4, h⟩ := Option.bind_eq_some_iff.mp h
      refine m_R_cV (v := (some (.int q4.1))) (h1 := (SH, q4.2)) (rest := []) (lo' := [some (.ref 0), some (.int (-7 : Int32))]) (ml := 2) (k0 := 0) (by decide) (Or.inl rfl) (m_opb_of (ins := .invokevirtual 76) (len := 3) (tag := 5) (a := 14) (b := 1) (c := 0) (q := 671) (by decide +kernel)) (by decide +kernel) rfl (show m_isO 14 0 (SH, _) = true from m_isO_of (by decide +kernel)) (Nat.le_of_ble_eq_true rfl) rfl rfl (ok_x_refuse X (d + 1) F _ _ _ _ hc4) ?_
      obtain ⟨rfl, rfl⟩ := m_some h
      exact m_R_iret (by decide) (m_opb_of (ins := .ireturn) (len := 1) (tag := 1) (a := 0) (b := 0) (c := 0) (q := 0) (by decide +kernel)) (Or.inl rfl)
    · refine m_R_1 (by decide) (m_opb_of (ins := .ifCond .eq 10) (len := 3) (tag := 0) (a := 38) (b := 0) (c := 0) (q := 0) (by decide +kernel)) (if_neg c149) ?_
      refine m_R_sg (by decide) [(.aload_n 0, 1, 0, 0, 0, 0, 0), (.bipush (-2), 2, 0, 2, 1, 0, 0)] (by decide +kernel) (show m_sgl X _ _ _ _ _ = some (34, [some (.ref 0), some (.int v1), some (.int v2), some (.ref 19)], [.int (-2 : Int32), .ref 0], (SH, q3.2.1, q3.2.2)) from rfl) ?_
      obtain ⟨q5, hc5, h⟩ := Option.bind_eq_some_iff.mp h
      refine m_R_cV (v := (some (.int q5.1))) (h1 := (SH, q5.2)) (rest := []) (lo' := [some (.ref 0), some (.int (-2 : Int32))]) (ml := 2) (k0 := 0) (by decide) (Or.inl rfl) (m_opb_of (ins := .invokevirtual 76) (len := 3) (tag := 5) (a := 14) (b := 1) (c := 0) (q := 671) (by decide +kernel)) (by decide +kernel) rfl (show m_isO 14 0 (SH, _) = true from m_isO_of (by decide +kernel)) (Nat.le_of_ble_eq_true rfl) rfl rfl (ok_x_refuse X (d + 1) F _ _ _ _ hc5) ?_
      obtain ⟨rfl, rfl⟩ := m_some h
      exact m_R_iret (by decide) (m_opb_of (ins := .ireturn) (len := 1) (tag := 1) (a := 0) (b := 0) (c := 0) (q := 0) (by decide +kernel)) (Or.inl rfl)
def f_m_down_57 (F : Nat)   (s0 : Int32) (m : mM) : Option (Int32 × mM) := some (s0, m)
theorem ok_m_down_57 (X : mX) (d F : Nat) : ∀ (s0 : Int32) (w0 : Option Value) (w1 : Option Value) (w2 : Option Value) (m : mM) (r : Int32) (m' : mM), f_m_down_57 F s0 m = some (r, m') → m_R X (d + 2) 219 57 [w0, w1, w2] [.int s0] (SH, m) (some (.int r), (SH, m')) := by
  intro s0 w0 w1 w2 m r m' h
  unfold f_m_down_57 at h
  obtain ⟨rfl, rfl⟩ := m_some h
  exact m_R_iret (by decide) (m_opb_of (ins := .ireturn) (len := 1) (tag := 1) (a := 0) (b := 0) (c := 0) (q := 0) (by decide +kernel)) (Or.inl rfl)
def f_m_down (F : Nat)   (v1 : Int32) (v2 : Int32) (m : mM) : Option (Int32 × mM) := ((f_m_isHouse F v1 m).bind fun q1 => (if q1.1 = 0 then ((f_m_refuse F (-3 : Int32) q1.2).bind fun q2 => some (q2.1, q2.2)) else ((f_m_isUp F v1 q1.2).bind fun q3 => (if q3.1 = 0 then ((f_m_in F v2 (0 : Int32) (3 : Int32) q3.2).bind fun q4 => (if q4.1 = 0 then ((f_m_refuse F (-7 : Int32) q4.2).bind fun q5 => f_m_down_57 F q5.1 q5.2) else ((f_m_hs F v1 ((8 : Int32) + v2) q4.2).bind fun q6 => f_m_down_57 F q6.1 q6.2))) else ((f_m_refuse F (-2 : Int32) q3.2).bind fun q7 => some (q7.1, q7.2))))))
theorem ok_m_down (X : mX) (d F : Nat) : ∀ (v1 : Int32) (v2 : Int32)  (m : mM) (r : Int32) (m' : mM), f_m_down F v1 v2 m = some (r, m') → m_R X (d + 2) 219 0 [some (.ref 304), some (.int v1), some (.int v2)] [] (SH, m) (some (.int r), (SH, m')) := by
  intro v1 v2 m r m' h
  unfold f_m_down at h
  refine m_R_sg (by decide) [(.aload_n 0, 1, 0, 0, 0, 0, 0), (.iload_n 1, 1, 0, 1, 0, 0, 0)] (by decide +kernel) (show m_sgl X _ _ _ _ _ = some (2, [some (.ref 304), some (.int v1), some (.int v2)], [.int v1, .ref 304], (SH, m.1, m.2)) from rfl) ?_
  obtain ⟨q1, hc1, h⟩ := Option.bind_eq_some_iff.mp h
  refine m_R_cV (v := (some (.int q1.1))) (h1 := (SH, q1.2)) (rest := []) (lo' := [some (.ref 304), some (.int v1)]) (ml := 2) (k0 := 304) (by decide) (Or.inl rfl) (m_opb_of (ins := .invokevirtual 77) (len := 3) (tag := 5) (a := 210) (b := 1) (c := 0) (q := 1625) (by decide +kernel)) (by decide +kernel) rfl (show m_isO 210 304 (SH, _) = true from m_isO_of (by decide +kernel)) (Nat.le_of_ble_eq_true rfl) rfl rfl (ok_m_isHouse X (d + 0) F _ _ _ _ hc1) ?_
  rcases m_ite h with ⟨c154, h⟩ | ⟨c154, h⟩
  · refine m_R_1 (by decide) (m_opb_of (ins := .ifCond .ne 10) (len := 3) (tag := 0) (a := 15) (b := 0) (c := 0) (q := 0) (by decide +kernel)) (if_pos c154) ?_
    refine m_R_sg (by decide) [(.aload_n 0, 1, 0, 0, 0, 0, 0), (.bipush (-3), 2, 0, 3, 1, 0, 0)] (by decide +kernel) (show m_sgl X _ _ _ _ _ = some (11, [some (.ref 304), some (.int v1), some (.int v2)], [.int (-3 : Int32), .ref 304], (SH, q1.2.1, q1.2.2)) from rfl) ?_
    obtain ⟨q2, hc2, h⟩ := Option.bind_eq_some_iff.mp h
    refine m_R_cV (v := (some (.int q2.1))) (h1 := (SH, q2.2)) (rest := []) (lo' := [some (.ref 304), some (.int (-3 : Int32))]) (ml := 2) (k0 := 304) (by decide) (Or.inl rfl) (m_opb_of (ins := .invokevirtual 61) (len := 3) (tag := 5) (a := 202) (b := 1) (c := 0) (q := 1593) (by decide +kernel)) (by decide +kernel) rfl (show m_isO 202 304 (SH, _) = true from m_isO_of (by decide +kernel)) (Nat.le_of_ble_eq_true rfl) rfl rfl (ok_m_refuse X (d + 1) F _ _ _ _ hc2) ?_
    obtain ⟨rfl, rfl⟩ := m_some h
    exact m_R_iret (by decide) (m_opb_of (ins := .ireturn) (len := 1) (tag := 1) (a := 0) (b := 0) (c := 0) (q := 0) (by decide +kernel)) (Or.inl rfl)
  · refine m_R_1 (by decide) (m_opb_of (ins := .ifCond .ne 10) (len := 3) (tag := 0) (a := 15) (b := 0) (c := 0) (q := 0) (by decide +kernel)) (if_neg c154) ?_
    refine m_R_sg (by decide) [(.aload_n 0, 1, 0, 0, 0, 0, 0), (.iload_n 1, 1, 0, 1, 0, 0, 0)] (by decide +kernel) (show m_sgl X _ _ _ _ _ = some (17, [some (.ref 304), some (.int v1), some (.int v2)], [.int v1, .ref 304], (SH, q1.2.1, q1.2.2)) from rfl) ?_
    obtain ⟨q3, hc3, h⟩ := Option.bind_eq_some_iff.mp h
    refine m_R_cV (v := (some (.int q3.1))) (h1 := (SH, q3.2)) (rest := []) (lo' := [some (.ref 304), some (.int v1)]) (ml := 2) (k0 := 304) (by decide) (Or.inl rfl) (m_opb_of (ins := .invokevirtual 80) (len := 3) (tag := 5) (a := 211) (b := 1) (c := 0) (q := 1629) (by decide +kernel)) (by decide +kernel) rfl (show m_isO 211 304 (SH, _) = true from m_isO_of (by decide +kernel)) (Nat.le_of_ble_eq_true rfl) rfl rfl (ok_m_isUp X (d + 0) F _ _ _ _ hc3) ?_
    rcases m_ite h with ⟨c155, h⟩ | ⟨c155, h⟩
    · refine m_R_1 (by decide) (m_opb_of (ins := .ifCond .eq 10) (len := 3) (tag := 0) (a := 30) (b := 0) (c := 0) (q := 0) (by decide +kernel)) (if_pos c155) ?_
      refine m_R_sg (by decide) [(.iload_n 2, 1, 0, 2, 0, 0, 0), (.iconst 0, 1, 0, 0, 0, 0, 0), (.iconst 3, 1, 0, 3, 0, 0, 0)] (by decide +kernel) (show m_sgl X _ _ _ _ _ = some (33, [some (.ref 304), some (.int v1), some (.int v2)], [.int (3 : Int32), .int (0 : Int32), .int v2], (SH, q3.2.1, q3.2.2)) from rfl) ?_
      obtain ⟨q4, hc4, h⟩ := Option.bind_eq_some_iff.mp h
      refine m_R_cS (v := (some (.int q4.1))) (h1 := (SH, q4.2)) (rest := []) (lo' := [some (.int v2), some (.int (0 : Int32)), some (.int (3 : Int32))]) (ml := 3) (by decide) (m_opb_of (ins := .invokestatic 57) (len := 3) (tag := 4) (a := 201) (b := 3) (c := 0) (q := 1590) (by decide +kernel)) (by decide +kernel) (Nat.le_of_ble_eq_true rfl) rfl (Nat.le_of_ble_eq_true rfl) rfl rfl (ok_m_in X (d + 1) F _ _ _ _ _ _ hc4) ?_
      rcases m_ite h with ⟨c156, h⟩ | ⟨c156, h⟩
      · refine m_R_1 (by decide) (m_opb_of (ins := .ifCond .eq 15) (len := 3) (tag := 0) (a := 51) (b := 0) (c := 0) (q := 0) (by decide +kernel)) (if_pos c156) ?_
        refine m_R_sg (by decide) [(.aload_n 0, 1, 0, 0, 0, 0, 0), (.bipush (-7), 2, 0, 7, 1, 0, 0)] (by decide +kernel) (show m_sgl X _ _ _ _ _ = some (54, [some (.ref 304), some (.int v1), some (.int v2)], [.int (-7 : Int32), .ref 304], (SH, q4.2.1, q4.2.2)) from rfl) ?_
        obtain ⟨q5, hc5, h⟩ := Option.bind_eq_some_iff.mp h
        refine m_R_cV (v := (some (.int q5.1))) (h1 := (SH, q5.2)) (rest := []) (lo' := [some (.ref 304), some (.int (-7 : Int32))]) (ml := 2) (k0 := 304) (by decide) (Or.inl rfl) (m_opb_of (ins := .invokevirtual 61) (len := 3) (tag := 5) (a := 202) (b := 1) (c := 0) (q := 1593) (by decide +kernel)) (by decide +kernel) rfl (show m_isO 202 304 (SH, _) = true from m_isO_of (by decide +kernel)) (Nat.le_of_ble_eq_true rfl) rfl rfl (ok_m_refuse X (d + 1) F _ _ _ _ hc5) ?_
        exact ok_m_down_57 X d F _ _ _ _ _ _ _ h
      · refine m_R_1 (by decide) (m_opb_of (ins := .ifCond .eq 15) (len := 3) (tag := 0) (a := 51) (b := 0) (c := 0) (q := 0) (by decide +kernel)) (if_neg c156) ?_
        refine m_R_sg (by decide) [(.aload_n 0, 1, 0, 0, 0, 0, 0), (.iload_n 1, 1, 0, 1, 0, 0, 0), (.bipush 8, 2, 0, 8, 0, 0, 0), (.iload_n 2, 1, 0, 2, 0, 0, 0), (.iadd, 1, 0, 0, 0, 0, 0)] (by decide +kernel) (show m_sgl X _ _ _ _ _ = some (45, [some (.ref 304), some (.int v1), some (.int v2)], [.int ((8 : Int32) + v2), .int v1, .ref 304], (SH, q4.2.1, q4.2.2)) from rfl) ?_
        obtain ⟨q6, hc6, h⟩ := Option.bind_eq_some_iff.mp h
        refine m_R_cV (v := (some (.int q6.1))) (h1 := (SH, q6.2)) (rest := []) (lo' := [some (.ref 304), some (.int v1), some (.int ((8 : Int32) + v2))]) (ml := 3) (k0 := 304) (by decide) (Or.inl rfl) (m_opb_of (ins := .invokevirtual 65) (len := 3) (tag := 5) (a := 212) (b := 2) (c := 0) (q := 1633) (by decide +kernel)) (by decide +kernel) rfl (show m_isO 212 304 (SH, _) = true from m_isO_of (by decide +kernel)) (Nat.le_of_ble_eq_true rfl) rfl rfl (ok_m_hs X (d + 1) F _ _ _ _ _ hc6) ?_
        refine m_R_sg (by decide) [(.goto 9, 3, 0, 57, 0, 0, 0)] (by decide +kernel) (show m_sgl X _ _ _ _ _ = some (57, [some (.ref 304), some (.int v1), some (.int v2)], [.int q6.1], (SH, q6.2.1, q6.2.2)) from rfl) ?_
        exact ok_m_down_57 X d F _ _ _ _ _ _ _ h
    · refine m_R_1 (by decide) (m_opb_of (ins := .ifCond .eq 10) (len := 3) (tag := 0) (a := 30) (b := 0) (c := 0) (q := 0) (by decide +kernel)) (if_neg c155) ?_
      refine m_R_sg (by decide) [(.aload_n 0, 1, 0, 0, 0, 0, 0), (.bipush (-2), 2, 0, 2, 1, 0, 0)] (by decide +kernel) (show m_sgl X _ _ _ _ _ = some (26, [some (.ref 304), some (.int v1), some (.int v2)], [.int (-2 : Int32), .ref 304], (SH, q3.2.1, q3.2.2)) from rfl) ?_
      obtain ⟨q7, hc7, h⟩ := Option.bind_eq_some_iff.mp h
      refine m_R_cV (v := (some (.int q7.1))) (h1 := (SH, q7.2)) (rest := []) (lo' := [some (.ref 304), some (.int (-2 : Int32))]) (ml := 2) (k0 := 304) (by decide) (Or.inl rfl) (m_opb_of (ins := .invokevirtual 61) (len := 3) (tag := 5) (a := 202) (b := 1) (c := 0) (q := 1593) (by decide +kernel)) (by decide +kernel) rfl (show m_isO 202 304 (SH, _) = true from m_isO_of (by decide +kernel)) (Nat.le_of_ble_eq_true rfl) rfl rfl (ok_m_refuse X (d + 1) F _ _ _ _ hc7) ?_
      obtain ⟨rfl, rfl⟩ := m_some h
      exact m_R_iret (by decide) (m_opb_of (ins := .ireturn) (len := 1) (tag := 1) (a := 0) (b := 0) (c := 0) (q := 0) (by decide +kernel)) (Or.inl rfl)
def f_x_isSum_17 (F : Nat)   (s0 : Int32) (m : mM) : Option (Int32 × mM) := (if s0 = 0 ∨ s0 = 1 then some (s0, m) else none)
theorem ok_x_isSum_17 (X : mX) (d F : Nat) : ∀ (s0 : Int32) (w0 : Option Value) (m : mM) (r : Int32) (m' : mM), f_x_isSum_17 F s0 m = some (r, m') → m_R X (d + 0) 34 17 [w0] [.int s0] (SH, m) (some (.int r), (SH, m')) := by
  intro s0 w0 m r m' h
  unfold f_x_isSum_17 at h
  obtain ⟨c0, h⟩ := m_ite_p h
  obtain ⟨rfl, rfl⟩ := m_some h
  exact m_R_iret (by decide) (m_opb_of (ins := .ireturn) (len := 1) (tag := 1) (a := 1) (b := 0) (c := 0) (q := 0) (by decide +kernel)) (Or.inr c0)
def f_x_isSum_16 (F : Nat)    (m : mM) : Option (Int32 × mM) := f_x_isSum_17 F (0 : Int32) m
theorem ok_x_isSum_16 (X : mX) (d F : Nat) : ∀  (w0 : Option Value) (m : mM) (r : Int32) (m' : mM), f_x_isSum_16 F  m = some (r, m') → m_R X (d + 0) 34 16 [w0] [] (SH, m) (some (.int r), (SH, m')) := by
  intro w0 m r m' h
  unfold f_x_isSum_16 at h
  refine m_R_sg (by decide) [(.iconst 0, 1, 0, 0, 0, 0, 0)] (by decide +kernel) (show m_sgl X _ _ _ _ _ = some (17, [w0], [.int (0 : Int32)], (SH, m.1, m.2)) from rfl) ?_
  exact ok_x_isSum_17 X d F _ _ _ _ _ h
def f_x_isSum (F : Nat)   (v0 : Int32) (m : mM) : Option (Int32 × mM) := (if v0 < (1 : Int32) then f_x_isSum_16 F m else (if (9999 : Int32) < v0 then f_x_isSum_16 F m else f_x_isSum_17 F (1 : Int32) m))
theorem ok_x_isSum (X : mX) (d F : Nat) : ∀ (v0 : Int32)  (m : mM) (r : Int32) (m' : mM), f_x_isSum F v0 m = some (r, m') → m_R X (d + 0) 34 0 [some (.int v0)] [] (SH, m) (some (.int r), (SH, m')) := by
  intro v0 m r m' h
  unfold f_x_isSum at h
  refine m_R_sg (by decide) [(.iload_n 0, 1, 0, 0, 0, 0, 0), (.iconst 1, 1, 0, 1, 0, 0, 0)] (by decide +kernel) (show m_sgl X _ _ _ _ _ = some (2, [some (.int v0)], [.int (1 : Int32), .int v0], (SH, m.1, m.2)) from rfl) ?_
  rcases m_ite h with ⟨c157, h⟩ | ⟨c157, h⟩
  · refine m_R_1 (by decide) (m_opb_of (ins := .if_icmp .lt 14) (len := 3) (tag := 0) (a := 16) (b := 0) (c := 0) (q := 0) (by decide +kernel)) (if_pos c157) ?_
    exact ok_x_isSum_16 X d F _ _ _ _ h
  · refine m_R_1 (by decide) (m_opb_of (ins := .if_icmp .lt 14) (len := 3) (tag := 0) (a := 16) (b := 0) (c := 0) (q := 0) (by decide +kernel)) (if_neg c157) ?_
    refine m_R_sg (by decide) [(.iload_n 0, 1, 0, 0, 0, 0, 0), (.sipush 9999, 3, 0, 9999, 0, 0, 0)] (by decide +kernel) (show m_sgl X _ _ _ _ _ = some (9, [some (.int v0)], [.int (9999 : Int32), .int v0], (SH, m.1, m.2)) from rfl) ?_
    rcases m_ite h with ⟨c158, h⟩ | ⟨c158, h⟩
    · refine m_R_1 (by decide) (m_opb_of (ins := .if_icmp .gt 7) (len := 3) (tag := 0) (a := 16) (b := 0) (c := 0) (q := 0) (by decide +kernel)) (if_pos c158) ?_
      exact ok_x_isSum_16 X d F _ _ _ _ h
    · refine m_R_1 (by decide) (m_opb_of (ins := .if_icmp .gt 7) (len := 3) (tag := 0) (a := 16) (b := 0) (c := 0) (q := 0) (by decide +kernel)) (if_neg c158) ?_
      refine m_R_sg (by decide) [(.iconst 1, 1, 0, 1, 0, 0, 0), (.goto 4, 3, 0, 17, 0, 0, 0)] (by decide +kernel) (show m_sgl X _ _ _ _ _ = some (17, [some (.int v0)], [.int (1 : Int32)], (SH, m.1, m.2)) from rfl) ?_
      exact ok_x_isSum_17 X d F _ _ _ _ _ h
def f_Math_max_10 (F : Nat)   (s0 : Int32) (m : mM) : Option (Int32 × mM) := some (s0, m)
theorem ok_Math_max_10 (X : mX) (d F : Nat) : ∀ (s0 : Int32) (w0 : Option Value) (w1 : Option Value) (m : mM) (r : Int32) (m' : mM), f_Math_max_10 F s0 m = some (r, m') → m_R X (d + 0) 38 10 [w0, w1] [.int s0] (SH, m) (some (.int r), (SH, m')) := by
  intro s0 w0 w1 m r m' h
  unfold f_Math_max_10 at h
  obtain ⟨rfl, rfl⟩ := m_some h
  exact m_R_iret (by decide) (m_opb_of (ins := .ireturn) (len := 1) (tag := 1) (a := 0) (b := 0) (c := 0) (q := 0) (by decide +kernel)) (Or.inl rfl)
def f_Math_max (F : Nat)   (v0 : Int32) (v1 : Int32) (m : mM) : Option (Int32 × mM) := (if v0 < v1 then f_Math_max_10 F v1 m else f_Math_max_10 F v0 m)
theorem ok_Math_max (X : mX) (d F : Nat) : ∀ (v0 : Int32) (v1 : Int32)  (m : mM) (r : Int32) (m' : mM), f_Math_max F v0 v1 m = some (r, m') → m_R X (d + 0) 38 0 [some (.int v0), some (.int v1)] [] (SH, m) (some (.int r), (SH, m')) := by
  intro v0 v1 m r m' h
  unfold f_Math_max at h
  refine m_R_sg (by decide) [(.iload_n 0, 1, 0, 0, 0, 0, 0), (.iload_n 1, 1, 0, 1, 0, 0, 0)] (by decide +kernel) (show m_sgl X _ _ _ _ _ = some (2, [some (.int v0), some (.int v1)], [.int v1, .int v0], (SH, m.1, m.2)) from rfl) ?_
  rcases m_ite h with ⟨c159, h⟩ | ⟨c159, h⟩
  · refine m_R_1 (by decide) (m_opb_of (ins := .if_icmp .lt 7) (len := 3) (tag := 0) (a := 9) (b := 0) (c := 0) (q := 0) (by decide +kernel)) (if_pos c159) ?_
    refine m_R_sg (by decide) [(.iload_n 1, 1, 0, 1, 0, 0, 0)] (by decide +kernel) (show m_sgl X _ _ _ _ _ = some (10, [some (.int v0), some (.int v1)], [.int v1], (SH, m.1, m.2)) from rfl) ?_
    exact ok_Math_max_10 X d F _ _ _ _ _ _ h
  · refine m_R_1 (by decide) (m_opb_of (ins := .if_icmp .lt 7) (len := 3) (tag := 0) (a := 9) (b := 0) (c := 0) (q := 0) (by decide +kernel)) (if_neg c159) ?_
    refine m_R_sg (by decide) [(.iload_n 0, 1, 0, 0, 0, 0, 0), (.goto 4, 3, 0, 10, 0, 0, 0)] (by decide +kernel) (show m_sgl X _ _ _ _ _ = some (10, [some (.int v0), some (.int v1)], [.int v0], (SH, m.1, m.2)) from rfl) ?_
    exact ok_Math_max_10 X d F _ _ _ _ _ _ h
def f_Notes_canIssue_40 (F : Nat)   (s0 : Int32) (m : mM) : Option (Int32 × mM) := (if s0 = 0 ∨ s0 = 1 then some (s0, m) else none)
theorem ok_Notes_canIssue_40 (X : mX) (d F : Nat) : ∀ (s0 : Int32) (w0 : Option Value) (w1 : Option Value) (w2 : Option Value) (m : mM) (r : Int32) (m' : mM), f_Notes_canIssue_40 F s0 m = some (r, m') → m_R X (d + 1) 37 40 [w0, w1, w2] [.int s0] (SH, m) (some (.int r), (SH, m')) := by
  intro s0 w0 w1 w2 m r m' h
  unfold f_Notes_canIssue_40 at h
  obtain ⟨c0, h⟩ := m_ite_p h
  obtain ⟨rfl, rfl⟩ := m_some h
  exact m_R_iret (by decide) (m_opb_of (ins := .ireturn) (len := 1) (tag := 1) (a := 1) (b := 0) (c := 0) (q := 0) (by decide +kernel)) (Or.inr c0)
def f_Notes_canIssue_39 (F : Nat)    (m : mM) : Option (Int32 × mM) := f_Notes_canIssue_40 F (0 : Int32) m
theorem ok_Notes_canIssue_39 (X : mX) (d F : Nat) : ∀  (w0 : Option Value) (w1 : Option Value) (w2 : Option Value) (m : mM) (r : Int32) (m' : mM), f_Notes_canIssue_39 F  m = some (r, m') → m_R X (d + 1) 37 39 [w0, w1, w2] [] (SH, m) (some (.int r), (SH, m')) := by
  intro w0 w1 w2 m r m' h
  unfold f_Notes_canIssue_39 at h
  refine m_R_sg (by decide) [(.iconst 0, 1, 0, 0, 0, 0, 0)] (by decide +kernel) (show m_sgl X _ _ _ _ _ = some (40, [w0, w1, w2], [.int (0 : Int32)], (SH, m.1, m.2)) from rfl) ?_
  exact ok_Notes_canIssue_40 X d F _ _ _ _ _ _ _ h
def f_Notes_canIssue (F : Nat)   (v1 : Int32) (m : mM) : Option (Int32 × mM) := ((f_Math_max F (0 : Int32) (v1 - (m.1 55 10)) m).bind fun q1 => (if ((300 : Int32) - (q1.2.1 55 8)) < q1.1 then f_Notes_canIssue_39 F q1.2 else (if ((400 : Int32) - (q1.2.1 55 7)) < q1.1 then f_Notes_canIssue_39 F q1.2 else f_Notes_canIssue_40 F (1 : Int32) q1.2)))
theorem ok_Notes_canIssue (X : mX) (d F : Nat) : ∀ (v1 : Int32)  (m : mM) (r : Int32) (m' : mM), f_Notes_canIssue F v1 m = some (r, m') → m_R X (d + 1) 37 0 [some (.ref 55), some (.int v1), none] [] (SH, m) (some (.int r), (SH, m')) := by
  intro v1 m r m' h
  unfold f_Notes_canIssue at h
  refine m_R_sg (by decide) [(.iconst 0, 1, 0, 0, 0, 0, 0), (.iload_n 1, 1, 0, 1, 0, 0, 0), (.aload_n 0, 1, 0, 0, 0, 0, 0), (.getfield 48, 3, 0, 3, 10, 0, 470), (.isub, 1, 0, 0, 0, 0, 0)] (by decide +kernel) (show m_sgl X _ _ _ _ _ = some (7, [some (.ref 55), some (.int v1), none], [.int (v1 - (m.1 55 10)), .int (0 : Int32)], (SH, m.1, m.2)) from rfl) ?_
  obtain ⟨q1, hc1, h⟩ := Option.bind_eq_some_iff.mp h
  refine m_R_cS (v := (some (.int q1.1))) (h1 := (SH, q1.2)) (rest := []) (lo' := [some (.int (0 : Int32)), some (.int (v1 - (m.1 55 10)))]) (ml := 2) (by decide) (m_opb_of (ins := .invokestatic 57) (len := 3) (tag := 4) (a := 38) (b := 2) (c := 0) (q := 768) (by decide +kernel)) (by decide +kernel) (Nat.le_of_ble_eq_true rfl) rfl (Nat.le_of_ble_eq_true rfl) rfl rfl (ok_Math_max X (d + 0) F _ _ _ _ _ hc1) ?_
  refine m_R_sg (by decide) [(.istore_n 2, 1, 0, 2, 0, 0, 0), (.iload_n 2, 1, 0, 2, 0, 0, 0), (.sipush 300, 3, 0, 300, 0, 0, 0), (.aload_n 0, 1, 0, 0, 0, 0, 0), (.getfield 42, 3, 0, 3, 8, 0, 466), (.isub, 1, 0, 0, 0, 0, 0)] (by decide +kernel) (show m_sgl X _ _ _ _ _ = some (20, [some (.ref 55), some (.int v1), some (.int q1.1)], [.int ((300 : Int32) - (q1.2.1 55 8)), .int q1.1], (SH, q1.2.1, q1.2.2)) from rfl) ?_
  rcases m_ite h with ⟨c160, h⟩ | ⟨c160, h⟩
  · refine m_R_1 (by decide) (m_opb_of (ins := .if_icmp .gt 19) (len := 3) (tag := 0) (a := 39) (b := 0) (c := 0) (q := 0) (by decide +kernel)) (if_pos c160) ?_
    exact ok_Notes_canIssue_39 X d F _ _ _ _ _ _ h
  · refine m_R_1 (by decide) (m_opb_of (ins := .if_icmp .gt 19) (len := 3) (tag := 0) (a := 39) (b := 0) (c := 0) (q := 0) (by decide +kernel)) (if_neg c160) ?_
    refine m_R_sg (by decide) [(.iload_n 2, 1, 0, 2, 0, 0, 0), (.sipush 400, 3, 0, 400, 0, 0, 0), (.aload_n 0, 1, 0, 0, 0, 0, 0), (.getfield 38, 3, 0, 3, 7, 0, 463), (.isub, 1, 0, 0, 0, 0, 0)] (by decide +kernel) (show m_sgl X _ _ _ _ _ = some (32, [some (.ref 55), some (.int v1), some (.int q1.1)], [.int ((400 : Int32) - (q1.2.1 55 7)), .int q1.1], (SH, q1.2.1, q1.2.2)) from rfl) ?_
    rcases m_ite h with ⟨c161, h⟩ | ⟨c161, h⟩
    · refine m_R_1 (by decide) (m_opb_of (ins := .if_icmp .gt 7) (len := 3) (tag := 0) (a := 39) (b := 0) (c := 0) (q := 0) (by decide +kernel)) (if_pos c161) ?_
      exact ok_Notes_canIssue_39 X d F _ _ _ _ _ _ h
    · refine m_R_1 (by decide) (m_opb_of (ins := .if_icmp .gt 7) (len := 3) (tag := 0) (a := 39) (b := 0) (c := 0) (q := 0) (by decide +kernel)) (if_neg c161) ?_
      refine m_R_sg (by decide) [(.iconst 1, 1, 0, 1, 0, 0, 0), (.goto 4, 3, 0, 40, 0, 0, 0)] (by decide +kernel) (show m_sgl X _ _ _ _ _ = some (40, [some (.ref 55), some (.int v1), some (.int q1.1)], [.int (1 : Int32)], (SH, q1.2.1, q1.2.2)) from rfl) ?_
      exact ok_Notes_canIssue_40 X d F _ _ _ _ _ _ _ h
def f_Papers_isPaper_25 (F : Nat)   (s0 : Int32) (m : mM) : Option (Int32 × mM) := (if s0 = 0 ∨ s0 = 1 then some (s0, m) else none)
theorem ok_Papers_isPaper_25 (X : mX) (d F : Nat) : ∀ (s0 : Int32) (w0 : Option Value) (w1 : Option Value) (m : mM) (r : Int32) (m' : mM), f_Papers_isPaper_25 F s0 m = some (r, m') → m_R X (d + 0) 41 25 [w0, w1] [.int s0] (SH, m) (some (.int r), (SH, m')) := by
  intro s0 w0 w1 m r m' h
  unfold f_Papers_isPaper_25 at h
  obtain ⟨c0, h⟩ := m_ite_p h
  obtain ⟨rfl, rfl⟩ := m_some h
  exact m_R_iret (by decide) (m_opb_of (ins := .ireturn) (len := 1) (tag := 1) (a := 1) (b := 0) (c := 0) (q := 0) (by decide +kernel)) (Or.inr c0)
def f_Papers_isPaper_24 (F : Nat)    (m : mM) : Option (Int32 × mM) := f_Papers_isPaper_25 F (0 : Int32) m
theorem ok_Papers_isPaper_24 (X : mX) (d F : Nat) : ∀  (w0 : Option Value) (w1 : Option Value) (m : mM) (r : Int32) (m' : mM), f_Papers_isPaper_24 F  m = some (r, m') → m_R X (d + 0) 41 24 [w0, w1] [] (SH, m) (some (.int r), (SH, m')) := by
  intro w0 w1 m r m' h
  unfold f_Papers_isPaper_24 at h
  refine m_R_sg (by decide) [(.iconst 0, 1, 0, 0, 0, 0, 0)] (by decide +kernel) (show m_sgl X _ _ _ _ _ = some (25, [w0, w1], [.int (0 : Int32)], (SH, m.1, m.2)) from rfl) ?_
  exact ok_Papers_isPaper_25 X d F _ _ _ _ _ _ h
def f_Papers_isPaper (F : Nat)   (v1 : Int32) (m : mM) : Option (Int32 × mM) := (if v1 < 0 then f_Papers_isPaper_24 F m else (if (60 : Int32) ≤ v1 then f_Papers_isPaper_24 F m else (if v1 < 0 ∨ 60 ≤ v1.toNatClampNeg then none else (if (m.1 32 v1.toNatClampNeg) = (-1 : Int32) then f_Papers_isPaper_24 F m else f_Papers_isPaper_25 F (1 : Int32) m))))
theorem ok_Papers_isPaper (X : mX) (d F : Nat) : ∀ (v1 : Int32)  (m : mM) (r : Int32) (m' : mM), f_Papers_isPaper F v1 m = some (r, m') → m_R X (d + 0) 41 0 [some (.ref 31), some (.int v1)] [] (SH, m) (some (.int r), (SH, m')) := by
  intro v1 m r m' h
  unfold f_Papers_isPaper at h
  refine m_R_sg (by decide) [(.iload_n 1, 1, 0, 1, 0, 0, 0)] (by decide +kernel) (show m_sgl X _ _ _ _ _ = some (1, [some (.ref 31), some (.int v1)], [.int v1], (SH, m.1, m.2)) from rfl) ?_
  rcases m_ite h with ⟨c162, h⟩ | ⟨c162, h⟩
  · refine m_R_1 (by decide) (m_opb_of (ins := .ifCond .lt 23) (len := 3) (tag := 0) (a := 24) (b := 0) (c := 0) (q := 0) (by decide +kernel)) (if_pos c162) ?_
    exact ok_Papers_isPaper_24 X d F _ _ _ _ _ h
  · refine m_R_1 (by decide) (m_opb_of (ins := .ifCond .lt 23) (len := 3) (tag := 0) (a := 24) (b := 0) (c := 0) (q := 0) (by decide +kernel)) (if_neg c162) ?_
    refine m_R_sg (by decide) [(.iload_n 1, 1, 0, 1, 0, 0, 0), (.bipush 60, 2, 0, 60, 0, 0, 0)] (by decide +kernel) (show m_sgl X _ _ _ _ _ = some (7, [some (.ref 31), some (.int v1)], [.int (60 : Int32), .int v1], (SH, m.1, m.2)) from rfl) ?_
    rcases m_ite h with ⟨c163, h⟩ | ⟨c163, h⟩
    · refine m_R_1 (by decide) (m_opb_of (ins := .if_icmp .ge 17) (len := 3) (tag := 0) (a := 24) (b := 0) (c := 0) (q := 0) (by decide +kernel)) (if_pos c163) ?_
      exact ok_Papers_isPaper_24 X d F _ _ _ _ _ h
    · refine m_R_1 (by decide) (m_opb_of (ins := .if_icmp .ge 17) (len := 3) (tag := 0) (a := 24) (b := 0) (c := 0) (q := 0) (by decide +kernel)) (if_neg c163) ?_
      refine m_R_sg (by decide) [(.aload_n 0, 1, 0, 0, 0, 0, 0), (.getfield 9, 3, 0, 4, 0, 3, 317), (.iload_n 1, 1, 0, 1, 0, 0, 0)] (by decide +kernel) (show m_sgl X _ _ _ _ _ = some (15, [some (.ref 31), some (.int v1)], [.int v1, .ref 32], (SH, m.1, m.2)) from rfl) ?_
      obtain ⟨c164, h⟩ := m_ite_n h
      refine m_R_1 (by decide) (m_opb_of (ins := .iaload) (len := 1) (tag := 0) (a := 0) (b := 0) (c := 0) (q := 0) (by decide +kernel)) (m_s_iald sh_32 (by decide) c164) ?_
      refine m_R_sg (by decide) [(.iconst (-1), 1, 0, 1, 1, 0, 0)] (by decide +kernel) (show m_sgl X _ _ _ _ _ = some (17, [some (.ref 31), some (.int v1)], [.int (-1 : Int32), .int (m.1 32 v1.toNatClampNeg)], (SH, m.1, m.2)) from rfl) ?_
      rcases m_ite h with ⟨c165, h⟩ | ⟨c165, h⟩
      · refine m_R_1 (by decide) (m_opb_of (ins := .if_icmp .eq 7) (len := 3) (tag := 0) (a := 24) (b := 0) (c := 0) (q := 0) (by decide +kernel)) (if_pos c165) ?_
        exact ok_Papers_isPaper_24 X d F _ _ _ _ _ h
      · refine m_R_1 (by decide) (m_opb_of (ins := .if_icmp .eq 7) (len := 3) (tag := 0) (a := 24) (b := 0) (c := 0) (q := 0) (by decide +kernel)) (if_neg c165) ?_
        refine m_R_sg (by decide) [(.iconst 1, 1, 0, 1, 0, 0, 0), (.goto 4, 3, 0, 25, 0, 0, 0)] (by decide +kernel) (show m_sgl X _ _ _ _ _ = some (25, [some (.ref 31), some (.int v1)], [.int (1 : Int32)], (SH, m.1, m.2)) from rfl) ?_
        exact ok_Papers_isPaper_25 X d F _ _ _ _ _ _ h
def f_World_reserve_39 (F : Nat)    (m : mM) : Option (Int32 × mM) := some ((999 : Int32), m)
theorem ok_World_reserve_39 (X : mX) (d F : Nat) : ∀  (w0 : Option Value) (w1 : Option Value) (m : mM) (r : Int32) (m' : mM), f_World_reserve_39 F  m = some (r, m') → m_R X (d + 0) 42 39 [w0, w1] [] (SH, m) (some (.int r), (SH, m')) := by
  intro w0 w1 m r m' h
  unfold f_World_reserve_39 at h
  refine m_R_sg (by decide) [(.sipush 999, 3, 0, 999, 0, 0, 0)] (by decide +kernel) (show m_sgl X _ _ _ _ _ = some (42, [w0, w1], [.int (999 : Int32)], (SH, m.1, m.2)) from rfl) ?_
  obtain ⟨rfl, rfl⟩ := m_some h
  exact m_R_iret (by decide) (m_opb_of (ins := .ireturn) (len := 1) (tag := 1) (a := 0) (b := 0) (c := 0) (q := 0) (by decide +kernel)) (Or.inl rfl)
def f_World_reserve (F : Nat)    (m : mM) : Option (Int32 × mM) := (if ((10 : Int32) * (m.1 55 9)) ≤ 0 then f_World_reserve_39 F m else (if ((10 : Int32) * (m.1 55 9)).toInt64 = 0 then none else (if (lg_cmp (((100 : Int64) * (m.1 22 (0 : Int32).toNatClampNeg).toInt64) / ((10 : Int32) * (m.1 55 9)).toInt64) (999 : Int64)) ≤ 0 then some ((((100 : Int64) * (m.1 22 (0 : Int32).toNatClampNeg).toInt64) / ((10 : Int32) * (m.1 55 9)).toInt64).toInt32, m) else f_World_reserve_39 F m)))
theorem ok_World_reserve (X : mX) (d F : Nat) : ∀   (m : mM) (r : Int32) (m' : mM), f_World_reserve F  m = some (r, m') → m_R X (d + 0) 42 0 [some (.ref 16), none] [] (SH, m) (some (.int r), (SH, m')) := by
  intro m r m' h
  unfold f_World_reserve at h
  refine m_R_sg (by decide) [(.bipush 10, 2, 0, 10, 0, 0, 0), (.aload_n 0, 1, 0, 0, 0, 0, 0), (.getfield 72, 3, 0, 10, 8, 3, 518), (.getfield 120, 3, 0, 3, 9, 0, 468), (.imul, 1, 0, 0, 0, 0, 0), (.istore_n 1, 1, 0, 1, 0, 0, 0), (.iload_n 1, 1, 0, 1, 0, 0, 0)] (by decide +kernel) (show m_sgl X _ _ _ _ _ = some (12, [some (.ref 16), some (.int ((10 : Int32) * (m.1 55 9)))], [.int ((10 : Int32) * (m.1 55 9))], (SH, m.1, m.2)) from rfl) ?_
  rcases m_ite h with ⟨c166, h⟩ | ⟨c166, h⟩
  · refine m_R_1 (by decide) (m_opb_of (ins := .ifCond .le 27) (len := 3) (tag := 0) (a := 39) (b := 0) (c := 0) (q := 0) (by decide +kernel)) (if_pos c166) ?_
    exact ok_World_reserve_39 X d F _ _ _ _ _ h
  · refine m_R_1 (by decide) (m_opb_of (ins := .ifCond .le 27) (len := 3) (tag := 0) (a := 39) (b := 0) (c := 0) (q := 0) (by decide +kernel)) (if_neg c166) ?_
    refine m_R_sg (by decide) [(.ldc2_w 123, 3, 0, 100, 0, 0, 787), (.aload_n 0, 1, 0, 0, 0, 0, 0), (.getfield 21, 3, 0, 10, 1, 3, 505), (.getfield 107, 3, 0, 1, 2, 3, 255), (.iconst 0, 1, 0, 0, 0, 0, 0)] (by decide +kernel) (show m_sgl X _ _ _ _ _ = some (26, [some (.ref 16), some (.int ((10 : Int32) * (m.1 55 9)))], [.int (0 : Int32), .ref 22, .long (100 : Int64)], (SH, m.1, m.2)) from rfl) ?_
    refine m_R_1 (by decide) (m_opb_of (ins := .iaload) (len := 1) (tag := 0) (a := 0) (b := 0) (c := 0) (q := 0) (by decide +kernel)) (m_s_iald sh_22 (by decide) (show ¬ ((0 : Int32) < 0 ∨ 16 ≤ (0 : Int32).toNatClampNeg) by decide)) ?_
    refine m_R_sg (by decide) [(.i2l, 1, 0, 0, 0, 0, 0), (.lmul, 1, 0, 0, 0, 0, 0), (.iload_n 1, 1, 0, 1, 0, 0, 0), (.i2l, 1, 0, 0, 0, 0, 0)] (by decide +kernel) (show m_sgl X _ _ _ _ _ = some (31, [some (.ref 16), some (.int ((10 : Int32) * (m.1 55 9)))], [.long ((10 : Int32) * (m.1 55 9)).toInt64, .long ((100 : Int64) * (m.1 22 (0 : Int32).toNatClampNeg).toInt64)], (SH, m.1, m.2)) from rfl) ?_
    obtain ⟨c167, h⟩ := m_ite_n h
    refine m_R_1 (by decide) (m_opb_of (ins := .ldiv) (len := 1) (tag := 0) (a := 0) (b := 0) (c := 0) (q := 0) (by decide +kernel)) (m_s_ldiv c167) ?_
    refine m_R_sg (by decide) [(.ldc2_w 125, 3, 0, 999, 0, 0, 788), (.lcmp, 1, 0, 0, 0, 0, 0)] (by decide +kernel) (show m_sgl X _ _ _ _ _ = some (36, [some (.ref 16), some (.int ((10 : Int32) * (m.1 55 9)))], [.int (lg_cmp (((100 : Int64) * (m.1 22 (0 : Int32).toNatClampNeg).toInt64) / ((10 : Int32) * (m.1 55 9)).toInt64) (999 : Int64))], (SH, m.1, m.2)) from rfl) ?_
    rcases m_ite h with ⟨c168, h⟩ | ⟨c168, h⟩
    · refine m_R_1 (by decide) (m_opb_of (ins := .ifCond .le 7) (len := 3) (tag := 0) (a := 43) (b := 0) (c := 0) (q := 0) (by decide +kernel)) (if_pos c168) ?_
      refine m_R_sg (by decide) [(.ldc2_w 123, 3, 0, 100, 0, 0, 787), (.aload_n 0, 1, 0, 0, 0, 0, 0), (.getfield 21, 3, 0, 10, 1, 3, 505), (.getfield 107, 3, 0, 1, 2, 3, 255), (.iconst 0, 1, 0, 0, 0, 0, 0)] (by decide +kernel) (show m_sgl X _ _ _ _ _ = some (54, [some (.ref 16), some (.int ((10 : Int32) * (m.1 55 9)))], [.int (0 : Int32), .ref 22, .long (100 : Int64)], (SH, m.1, m.2)) from rfl) ?_
      refine m_R_1 (by decide) (m_opb_of (ins := .iaload) (len := 1) (tag := 0) (a := 0) (b := 0) (c := 0) (q := 0) (by decide +kernel)) (m_s_iald sh_22 (by decide) (show ¬ ((0 : Int32) < 0 ∨ 16 ≤ (0 : Int32).toNatClampNeg) by decide)) ?_
      refine m_R_sg (by decide) [(.i2l, 1, 0, 0, 0, 0, 0), (.lmul, 1, 0, 0, 0, 0, 0), (.iload_n 1, 1, 0, 1, 0, 0, 0), (.i2l, 1, 0, 0, 0, 0, 0)] (by decide +kernel) (show m_sgl X _ _ _ _ _ = some (59, [some (.ref 16), some (.int ((10 : Int32) * (m.1 55 9)))], [.long ((10 : Int32) * (m.1 55 9)).toInt64, .long ((100 : Int64) * (m.1 22 (0 : Int32).toNatClampNeg).toInt64)], (SH, m.1, m.2)) from rfl) ?_
      refine m_R_1 (by decide) (m_opb_of (ins := .ldiv) (len := 1) (tag := 0) (a := 0) (b := 0) (c := 0) (q := 0) (by decide +kernel)) (m_s_ldiv c167) ?_
      refine m_R_sg (by decide) [(.l2i, 1, 0, 0, 0, 0, 0)] (by decide +kernel) (show m_sgl X _ _ _ _ _ = some (61, [some (.ref 16), some (.int ((10 : Int32) * (m.1 55 9)))], [.int (((100 : Int64) * (m.1 22 (0 : Int32).toNatClampNeg).toInt64) / ((10 : Int32) * (m.1 55 9)).toInt64).toInt32], (SH, m.1, m.2)) from rfl) ?_
      obtain ⟨rfl, rfl⟩ := m_some h
      exact m_R_iret (by decide) (m_opb_of (ins := .ireturn) (len := 1) (tag := 1) (a := 0) (b := 0) (c := 0) (q := 0) (by decide +kernel)) (Or.inl rfl)
    · refine m_R_1 (by decide) (m_opb_of (ins := .ifCond .le 7) (len := 3) (tag := 0) (a := 43) (b := 0) (c := 0) (q := 0) (by decide +kernel)) (if_neg c168) ?_
      exact ok_World_reserve_39 X d F _ _ _ _ _ h
def f_World_gatherFacts_191 (F : Nat)   (s1 : Int32) (s2 : Int32) (m : mM) : Option (Unit × mM) := (if s1 < 0 ∨ 10 ≤ s1.toNatClampNeg then none else some ((), ((m_up m.1 54 s1.toNatClampNeg s2), m.2)))
theorem ok_World_gatherFacts_191 (X : mX) (d F : Nat) : ∀ (s1 : Int32) (s2 : Int32) (w0 : Option Value) (w1 : Option Value) (w2 : Option Value) (m : mM) (r : Unit) (m' : mM), f_World_gatherFacts_191 F s1 s2 m = some (r, m') → m_R X (d + 1) 40 191 [w0, w1, w2] [.int s2, .int s1, .ref 54] (SH, m) (none, (SH, m')) := by
  intro s1 s2 w0 w1 w2 m r m' h
  unfold f_World_gatherFacts_191 at h
  obtain ⟨c169, h⟩ := m_ite_n h
  refine m_R_1 (by decide) (m_opb_of (ins := .iastore) (len := 1) (tag := 0) (a := 0) (b := 0) (c := 0) (q := 0) (by decide +kernel)) (m_s_iast sh_54 c169) ?_
  obtain ⟨rfl, rfl⟩ := m_some h
  exact m_R_vret (by decide) (m_opb_of (ins := .return_) (len := 1) (tag := 3) (a := 0) (b := 0) (c := 0) (q := 0) (by decide +kernel))
def f_World_gatherFacts_159 (F : Nat)   (v1 : Int32) (v2 : Int32) (s1 : Int32) (s2 : Int32) (m : mM) : Option (Unit × mM) := (if s1 < 0 ∨ 10 ≤ s1.toNatClampNeg then none else (if v2 = 0 then f_World_gatherFacts_191 F (9 : Int32) (0 : Int32) ((m_up m.1 54 s1.toNatClampNeg s2), m.2) else (if v1 < 0 ∨ 60 ≤ v1.toNatClampNeg then none else (if ((m_up m.1 54 s1.toNatClampNeg s2) 34 v1.toNatClampNeg) < 0 ∨ 16 ≤ ((m_up m.1 54 s1.toNatClampNeg s2) 34 v1.toNatClampNeg).toNatClampNeg then none else f_World_gatherFacts_191 F (9 : Int32) ((m_up m.1 54 s1.toNatClampNeg s2) 21 ((m_up m.1 54 s1.toNatClampNeg s2) 34 v1.toNatClampNeg).toNatClampNeg) ((m_up m.1 54 s1.toNatClampNeg s2), m.2)))))
theorem ok_World_gatherFacts_159 (X : mX) (d F : Nat) : ∀ (v1 : Int32) (v2 : Int32) (s1 : Int32) (s2 : Int32)  (m : mM) (r : Unit) (m' : mM), f_World_gatherFacts_159 F v1 v2 s1 s2 m = some (r, m') → m_R X (d + 1) 40 159 [some (.ref 16), some (.int v1), some (.int v2)] [.int s2, .int s1, .ref 54] (SH, m) (none, (SH, m')) := by
  intro v1 v2 s1 s2 m r m' h
  unfold f_World_gatherFacts_159 at h
  obtain ⟨c170, h⟩ := m_ite_n h
  refine m_R_1 (by decide) (m_opb_of (ins := .iastore) (len := 1) (tag := 0) (a := 0) (b := 0) (c := 0) (q := 0) (by decide +kernel)) (m_s_iast sh_54 c170) ?_
  refine m_R_sg (by decide) [(.aload_n 0, 1, 0, 0, 0, 0, 0), (.getfield 48, 3, 0, 10, 5, 3, 515), (.bipush 9, 2, 0, 9, 0, 0, 0), (.iload_n 2, 1, 0, 2, 0, 0, 0)] (by decide +kernel) (show m_sgl X _ _ _ _ _ = some (167, [some (.ref 16), some (.int v1), some (.int v2)], [.int v2, .int (9 : Int32), .ref 54], (SH, (m_up m.1 54 s1.toNatClampNeg s2), m.2)) from rfl) ?_
  rcases m_ite h with ⟨c171, h⟩ | ⟨c171, h⟩
  · refine m_R_1 (by decide) (m_opb_of (ins := .ifCond .eq 23) (len := 3) (tag := 0) (a := 190) (b := 0) (c := 0) (q := 0) (by decide +kernel)) (if_pos c171) ?_
    refine m_R_sg (by decide) [(.iconst 0, 1, 0, 0, 0, 0, 0)] (by decide +kernel) (show m_sgl X _ _ _ _ _ = some (191, [some (.ref 16), some (.int v1), some (.int v2)], [.int (0 : Int32), .int (9 : Int32), .ref 54], (SH, (m_up m.1 54 s1.toNatClampNeg s2), m.2)) from rfl) ?_
    exact ok_World_gatherFacts_191 X d F _ _ _ _ _ _ _ _ h
  · refine m_R_1 (by decide) (m_opb_of (ins := .ifCond .eq 23) (len := 3) (tag := 0) (a := 190) (b := 0) (c := 0) (q := 0) (by decide +kernel)) (if_neg c171) ?_
    refine m_R_sg (by decide) [(.aload_n 0, 1, 0, 0, 0, 0, 0), (.getfield 21, 3, 0, 10, 1, 3, 505), (.getfield 113, 3, 0, 1, 1, 3, 252), (.aload_n 0, 1, 0, 0, 0, 0, 0), (.getfield 28, 3, 0, 10, 2, 3, 508), (.getfield 144, 3, 0, 4, 2, 3, 327), (.iload_n 1, 1, 0, 1, 0, 0, 0)] (by decide +kernel) (show m_sgl X _ _ _ _ _ = some (185, [some (.ref 16), some (.int v1), some (.int v2)], [.int v1, .ref 34, .ref 21, .int (9 : Int32), .ref 54], (SH, (m_up m.1 54 s1.toNatClampNeg s2), m.2)) from rfl) ?_
    obtain ⟨c172, h⟩ := m_ite_n h
    refine m_R_1 (by decide) (m_opb_of (ins := .iaload) (len := 1) (tag := 0) (a := 0) (b := 0) (c := 0) (q := 0) (by decide +kernel)) (m_s_iald sh_34 (by decide) c172) ?_
    obtain ⟨c173, h⟩ := m_ite_n h
    refine m_R_1 (by decide) (m_opb_of (ins := .iaload) (len := 1) (tag := 0) (a := 0) (b := 0) (c := 0) (q := 0) (by decide +kernel)) (m_s_iald sh_21 (by decide) c173) ?_
    refine m_R_sg (by decide) [(.goto 4, 3, 0, 191, 0, 0, 0)] (by decide +kernel) (show m_sgl X _ _ _ _ _ = some (191, [some (.ref 16), some (.int v1), some (.int v2)], [.int ((m_up m.1 54 s1.toNatClampNeg s2) 21 ((m_up m.1 54 s1.toNatClampNeg s2) 34 v1.toNatClampNeg).toNatClampNeg), .int (9 : Int32), .ref 54], (SH, (m_up m.1 54 s1.toNatClampNeg s2), m.2)) from rfl) ?_
    exact ok_World_gatherFacts_191 X d F _ _ _ _ _ _ _ _ h
def f_World_gatherFacts_135 (F : Nat)   (v1 : Int32) (v2 : Int32) (s1 : Int32) (s2 : Int32) (m : mM) : Option (Unit × mM) := (if s1 < 0 ∨ 10 ≤ s1.toNatClampNeg then none else (if v2 = 0 then f_World_gatherFacts_159 F v1 v2 (8 : Int32) (0 : Int32) ((m_up m.1 54 s1.toNatClampNeg s2), m.2) else (if v1 < 0 ∨ 60 ≤ v1.toNatClampNeg then none else f_World_gatherFacts_159 F v1 v2 (8 : Int32) ((m_up m.1 54 s1.toNatClampNeg s2) 39 v1.toNatClampNeg) ((m_up m.1 54 s1.toNatClampNeg s2), m.2))))
theorem ok_World_gatherFacts_135 (X : mX) (d F : Nat) : ∀ (v1 : Int32) (v2 : Int32) (s1 : Int32) (s2 : Int32)  (m : mM) (r : Unit) (m' : mM), f_World_gatherFacts_135 F v1 v2 s1 s2 m = some (r, m') → m_R X (d + 1) 40 135 [some (.ref 16), some (.int v1), some (.int v2)] [.int s2, .int s1, .ref 54] (SH, m) (none, (SH, m')) := by
  intro v1 v2 s1 s2 m r m' h
  unfold f_World_gatherFacts_135 at h
  obtain ⟨c174, h⟩ := m_ite_n h
  refine m_R_1 (by decide) (m_opb_of (ins := .iastore) (len := 1) (tag := 0) (a := 0) (b := 0) (c := 0) (q := 0) (by decide +kernel)) (m_s_iast sh_54 c174) ?_
  refine m_R_sg (by decide) [(.aload_n 0, 1, 0, 0, 0, 0, 0), (.getfield 48, 3, 0, 10, 5, 3, 515), (.bipush 8, 2, 0, 8, 0, 0, 0), (.iload_n 2, 1, 0, 2, 0, 0, 0)] (by decide +kernel) (show m_sgl X _ _ _ _ _ = some (143, [some (.ref 16), some (.int v1), some (.int v2)], [.int v2, .int (8 : Int32), .ref 54], (SH, (m_up m.1 54 s1.toNatClampNeg s2), m.2)) from rfl) ?_
  rcases m_ite h with ⟨c175, h⟩ | ⟨c175, h⟩
  · refine m_R_1 (by decide) (m_opb_of (ins := .ifCond .eq 15) (len := 3) (tag := 0) (a := 158) (b := 0) (c := 0) (q := 0) (by decide +kernel)) (if_pos c175) ?_
    refine m_R_sg (by decide) [(.iconst 0, 1, 0, 0, 0, 0, 0)] (by decide +kernel) (show m_sgl X _ _ _ _ _ = some (159, [some (.ref 16), some (.int v1), some (.int v2)], [.int (0 : Int32), .int (8 : Int32), .ref 54], (SH, (m_up m.1 54 s1.toNatClampNeg s2), m.2)) from rfl) ?_
    exact ok_World_gatherFacts_159 X d F _ _ _ _ _ _ _ h
  · refine m_R_1 (by decide) (m_opb_of (ins := .ifCond .eq 15) (len := 3) (tag := 0) (a := 158) (b := 0) (c := 0) (q := 0) (by decide +kernel)) (if_neg c175) ?_
    refine m_R_sg (by decide) [(.aload_n 0, 1, 0, 0, 0, 0, 0), (.getfield 28, 3, 0, 10, 2, 3, 508), (.getfield 141, 3, 0, 4, 7, 3, 343), (.iload_n 1, 1, 0, 1, 0, 0, 0)] (by decide +kernel) (show m_sgl X _ _ _ _ _ = some (154, [some (.ref 16), some (.int v1), some (.int v2)], [.int v1, .ref 39, .int (8 : Int32), .ref 54], (SH, (m_up m.1 54 s1.toNatClampNeg s2), m.2)) from rfl) ?_
    obtain ⟨c176, h⟩ := m_ite_n h
    refine m_R_1 (by decide) (m_opb_of (ins := .iaload) (len := 1) (tag := 0) (a := 0) (b := 0) (c := 0) (q := 0) (by decide +kernel)) (m_s_iald sh_39 (by decide) c176) ?_
    refine m_R_sg (by decide) [(.goto 4, 3, 0, 159, 0, 0, 0)] (by decide +kernel) (show m_sgl X _ _ _ _ _ = some (159, [some (.ref 16), some (.int v1), some (.int v2)], [.int ((m_up m.1 54 s1.toNatClampNeg s2) 39 v1.toNatClampNeg), .int (8 : Int32), .ref 54], (SH, (m_up m.1 54 s1.toNatClampNeg s2), m.2)) from rfl) ?_
    exact ok_World_gatherFacts_159 X d F _ _ _ _ _ _ _ h
def f_World_gatherFacts_106 (F : Nat)   (v1 : Int32) (v2 : Int32) (s1 : Int32) (s2 : Int32) (m : mM) : Option (Unit × mM) := (if s1 < 0 ∨ 10 ≤ s1.toNatClampNeg then none else (if v2 = 0 then f_World_gatherFacts_135 F v1 v2 (7 : Int32) (0 : Int32) ((m_up m.1 54 s1.toNatClampNeg s2), m.2) else (if v1 < 0 ∨ 60 ≤ v1.toNatClampNeg then none else f_World_gatherFacts_135 F v1 v2 (7 : Int32) (((m_up m.1 54 s1.toNatClampNeg s2) 36 v1.toNatClampNeg) - ((m_up m.1 54 s1.toNatClampNeg s2) 16 9)) ((m_up m.1 54 s1.toNatClampNeg s2), m.2))))
theorem ok_World_gatherFacts_106 (X : mX) (d F : Nat) : ∀ (v1 : Int32) (v2 : Int32) (s1 : Int32) (s2 : Int32)  (m : mM) (r : Unit) (m' : mM), f_World_gatherFacts_106 F v1 v2 s1 s2 m = some (r, m') → m_R X (d + 1) 40 106 [some (.ref 16), some (.int v1), some (.int v2)] [.int s2, .int s1, .ref 54] (SH, m) (none, (SH, m')) := by
  intro v1 v2 s1 s2 m r m' h
  unfold f_World_gatherFacts_106 at h
  obtain ⟨c177, h⟩ := m_ite_n h
  refine m_R_1 (by decide) (m_opb_of (ins := .iastore) (len := 1) (tag := 0) (a := 0) (b := 0) (c := 0) (q := 0) (by decide +kernel)) (m_s_iast sh_54 c177) ?_
  refine m_R_sg (by decide) [(.aload_n 0, 1, 0, 0, 0, 0, 0), (.getfield 48, 3, 0, 10, 5, 3, 515), (.bipush 7, 2, 0, 7, 0, 0, 0), (.iload_n 2, 1, 0, 2, 0, 0, 0)] (by decide +kernel) (show m_sgl X _ _ _ _ _ = some (114, [some (.ref 16), some (.int v1), some (.int v2)], [.int v2, .int (7 : Int32), .ref 54], (SH, (m_up m.1 54 s1.toNatClampNeg s2), m.2)) from rfl) ?_
  rcases m_ite h with ⟨c178, h⟩ | ⟨c178, h⟩
  · refine m_R_1 (by decide) (m_opb_of (ins := .ifCond .eq 20) (len := 3) (tag := 0) (a := 134) (b := 0) (c := 0) (q := 0) (by decide +kernel)) (if_pos c178) ?_
    refine m_R_sg (by decide) [(.iconst 0, 1, 0, 0, 0, 0, 0)] (by decide +kernel) (show m_sgl X _ _ _ _ _ = some (135, [some (.ref 16), some (.int v1), some (.int v2)], [.int (0 : Int32), .int (7 : Int32), .ref 54], (SH, (m_up m.1 54 s1.toNatClampNeg s2), m.2)) from rfl) ?_
    exact ok_World_gatherFacts_135 X d F _ _ _ _ _ _ _ h
  · refine m_R_1 (by decide) (m_opb_of (ins := .ifCond .eq 20) (len := 3) (tag := 0) (a := 134) (b := 0) (c := 0) (q := 0) (by decide +kernel)) (if_neg c178) ?_
    refine m_R_sg (by decide) [(.aload_n 0, 1, 0, 0, 0, 0, 0), (.getfield 28, 3, 0, 10, 2, 3, 508), (.getfield 138, 3, 0, 4, 4, 3, 334), (.iload_n 1, 1, 0, 1, 0, 0, 0)] (by decide +kernel) (show m_sgl X _ _ _ _ _ = some (125, [some (.ref 16), some (.int v1), some (.int v2)], [.int v1, .ref 36, .int (7 : Int32), .ref 54], (SH, (m_up m.1 54 s1.toNatClampNeg s2), m.2)) from rfl) ?_
    obtain ⟨c179, h⟩ := m_ite_n h
    refine m_R_1 (by decide) (m_opb_of (ins := .iaload) (len := 1) (tag := 0) (a := 0) (b := 0) (c := 0) (q := 0) (by decide +kernel)) (m_s_iald sh_36 (by decide) c179) ?_
    refine m_R_sg (by decide) [(.aload_n 0, 1, 0, 0, 0, 0, 0), (.getfield 95, 3, 0, 10, 9, 0, 520), (.isub, 1, 0, 0, 0, 0, 0), (.goto 4, 3, 0, 135, 0, 0, 0)] (by decide +kernel) (show m_sgl X _ _ _ _ _ = some (135, [some (.ref 16), some (.int v1), some (.int v2)], [.int (((m_up m.1 54 s1.toNatClampNeg s2) 36 v1.toNatClampNeg) - ((m_up m.1 54 s1.toNatClampNeg s2) 16 9)), .int (7 : Int32), .ref 54], (SH, (m_up m.1 54 s1.toNatClampNeg s2), m.2)) from rfl) ?_
    exact ok_World_gatherFacts_135 X d F _ _ _ _ _ _ _ h
def f_World_gatherFacts_73 (F : Nat)   (v1 : Int32) (v2 : Int32) (m : mM) : Option (Unit × mM) := (if v2 = 0 then f_World_gatherFacts_106 F v1 v2 (6 : Int32) (0 : Int32) ((m_up m.1 54 (5 : Int32).toNatClampNeg (m.1 16 10)), m.2) else (if v1 < 0 ∨ 60 ≤ v1.toNatClampNeg then none else f_World_gatherFacts_106 F v1 v2 (6 : Int32) ((m_up m.1 54 (5 : Int32).toNatClampNeg (m.1 16 10)) 33 v1.toNatClampNeg) ((m_up m.1 54 (5 : Int32).toNatClampNeg (m.1 16 10)), m.2)))
theorem ok_World_gatherFacts_73 (X : mX) (d F : Nat) : ∀ (v1 : Int32) (v2 : Int32)  (m : mM) (r : Unit) (m' : mM), f_World_gatherFacts_73 F v1 v2 m = some (r, m') → m_R X (d + 1) 40 73 [some (.ref 16), some (.int v1), some (.int v2)] [] (SH, m) (none, (SH, m')) := by
  intro v1 v2 m r m' h
  unfold f_World_gatherFacts_73 at h
  refine m_R_sg (by decide) [(.aload_n 0, 1, 0, 0, 0, 0, 0), (.getfield 48, 3, 0, 10, 5, 3, 515), (.iconst 5, 1, 0, 5, 0, 0, 0), (.aload_n 0, 1, 0, 0, 0, 0, 0), (.getfield 52, 3, 0, 10, 10, 0, 522)] (by decide +kernel) (show m_sgl X _ _ _ _ _ = some (82, [some (.ref 16), some (.int v1), some (.int v2)], [.int (m.1 16 10), .int (5 : Int32), .ref 54], (SH, m.1, m.2)) from rfl) ?_
  refine m_R_1 (by decide) (m_opb_of (ins := .iastore) (len := 1) (tag := 0) (a := 0) (b := 0) (c := 0) (q := 0) (by decide +kernel)) (m_s_iast sh_54 (show ¬ ((5 : Int32) < 0 ∨ 10 ≤ (5 : Int32).toNatClampNeg) by decide)) ?_
  refine m_R_sg (by decide) [(.aload_n 0, 1, 0, 0, 0, 0, 0), (.getfield 48, 3, 0, 10, 5, 3, 515), (.bipush 6, 2, 0, 6, 0, 0, 0), (.iload_n 2, 1, 0, 2, 0, 0, 0)] (by decide +kernel) (show m_sgl X _ _ _ _ _ = some (90, [some (.ref 16), some (.int v1), some (.int v2)], [.int v2, .int (6 : Int32), .ref 54], (SH, (m_up m.1 54 (5 : Int32).toNatClampNeg (m.1 16 10)), m.2)) from rfl) ?_
  rcases m_ite h with ⟨c180, h⟩ | ⟨c180, h⟩
  · refine m_R_1 (by decide) (m_opb_of (ins := .ifCond .eq 15) (len := 3) (tag := 0) (a := 105) (b := 0) (c := 0) (q := 0) (by decide +kernel)) (if_pos c180) ?_
    refine m_R_sg (by decide) [(.iconst 0, 1, 0, 0, 0, 0, 0)] (by decide +kernel) (show m_sgl X _ _ _ _ _ = some (106, [some (.ref 16), some (.int v1), some (.int v2)], [.int (0 : Int32), .int (6 : Int32), .ref 54], (SH, (m_up m.1 54 (5 : Int32).toNatClampNeg (m.1 16 10)), m.2)) from rfl) ?_
    exact ok_World_gatherFacts_106 X d F _ _ _ _ _ _ _ h
  · refine m_R_1 (by decide) (m_opb_of (ins := .ifCond .eq 15) (len := 3) (tag := 0) (a := 105) (b := 0) (c := 0) (q := 0) (by decide +kernel)) (if_neg c180) ?_
    refine m_R_sg (by decide) [(.aload_n 0, 1, 0, 0, 0, 0, 0), (.getfield 28, 3, 0, 10, 2, 3, 508), (.getfield 135, 3, 0, 4, 1, 3, 323), (.iload_n 1, 1, 0, 1, 0, 0, 0)] (by decide +kernel) (show m_sgl X _ _ _ _ _ = some (101, [some (.ref 16), some (.int v1), some (.int v2)], [.int v1, .ref 33, .int (6 : Int32), .ref 54], (SH, (m_up m.1 54 (5 : Int32).toNatClampNeg (m.1 16 10)), m.2)) from rfl) ?_
    obtain ⟨c181, h⟩ := m_ite_n h
    refine m_R_1 (by decide) (m_opb_of (ins := .iaload) (len := 1) (tag := 0) (a := 0) (b := 0) (c := 0) (q := 0) (by decide +kernel)) (m_s_iald sh_33 (by decide) c181) ?_
    refine m_R_sg (by decide) [(.goto 4, 3, 0, 106, 0, 0, 0)] (by decide +kernel) (show m_sgl X _ _ _ _ _ = some (106, [some (.ref 16), some (.int v1), some (.int v2)], [.int ((m_up m.1 54 (5 : Int32).toNatClampNeg (m.1 16 10)) 33 v1.toNatClampNeg), .int (6 : Int32), .ref 54], (SH, (m_up m.1 54 (5 : Int32).toNatClampNeg (m.1 16 10)), m.2)) from rfl) ?_
    exact ok_World_gatherFacts_106 X d F _ _ _ _ _ _ _ h
def f_World_gatherFacts_40 (F : Nat)   (v1 : Int32) (v2 : Int32) (m : mM) : Option (Unit × mM) := ((f_World_reserve F m).bind fun q2 => f_World_gatherFacts_73 F v1 v2 ((m_up (m_up (m_up q2.2.1 54 (2 : Int32).toNatClampNeg q2.1) 54 (3 : Int32).toNatClampNeg (((m_up q2.2.1 54 (2 : Int32).toNatClampNeg q2.1) 16 9) / (7 : Int32))) 54 (4 : Int32).toNatClampNeg ((m_up (m_up q2.2.1 54 (2 : Int32).toNatClampNeg q2.1) 54 (3 : Int32).toNatClampNeg (((m_up q2.2.1 54 (2 : Int32).toNatClampNeg q2.1) 16 9) / (7 : Int32))) 16 9)), q2.2.2))
theorem ok_World_gatherFacts_40 (X : mX) (d F : Nat) : ∀ (v1 : Int32) (v2 : Int32)  (m : mM) (r : Unit) (m' : mM), f_World_gatherFacts_40 F v1 v2 m = some (r, m') → m_R X (d + 1) 40 40 [some (.ref 16), some (.int v1), some (.int v2)] [] (SH, m) (none, (SH, m')) := by
  intro v1 v2 m r m' h
  unfold f_World_gatherFacts_40 at h
  refine m_R_sg (by decide) [(.aload_n 0, 1, 0, 0, 0, 0, 0), (.getfield 48, 3, 0, 10, 5, 3, 515), (.iconst 2, 1, 0, 2, 0, 0, 0), (.aload_n 0, 1, 0, 0, 0, 0, 0)] (by decide +kernel) (show m_sgl X _ _ _ _ _ = some (46, [some (.ref 16), some (.int v1), some (.int v2)], [.ref 16, .int (2 : Int32), .ref 54], (SH, m.1, m.2)) from rfl) ?_
  obtain ⟨q2, hc2, h⟩ := Option.bind_eq_some_iff.mp h
  refine m_R_cV (v := (some (.int q2.1))) (h1 := (SH, q2.2)) (rest := [.int (2 : Int32), .ref 54]) (lo' := [some (.ref 16), none]) (ml := 2) (k0 := 16) (by decide) (Or.inl rfl) (m_opb_of (ins := .invokevirtual 131) (len := 3) (tag := 5) (a := 42) (b := 0) (c := 0) (q := 783) (by decide +kernel)) (by decide +kernel) rfl (show m_isO 42 16 (SH, _) = true from m_isO_of (by decide +kernel)) (Nat.le_of_ble_eq_true rfl) rfl rfl (ok_World_reserve X (d + 0) F _ _ _ hc2) ?_
  refine m_R_1 (by decide) (m_opb_of (ins := .iastore) (len := 1) (tag := 0) (a := 0) (b := 0) (c := 0) (q := 0) (by decide +kernel)) (m_s_iast sh_54 (show ¬ ((2 : Int32) < 0 ∨ 10 ≤ (2 : Int32).toNatClampNeg) by decide)) ?_
  refine m_R_sg (by decide) [(.aload_n 0, 1, 0, 0, 0, 0, 0), (.getfield 48, 3, 0, 10, 5, 3, 515), (.iconst 3, 1, 0, 3, 0, 0, 0), (.aload_n 0, 1, 0, 0, 0, 0, 0), (.getfield 95, 3, 0, 10, 9, 0, 520), (.bipush 7, 2, 0, 7, 0, 0, 0)] (by decide +kernel) (show m_sgl X _ _ _ _ _ = some (61, [some (.ref 16), some (.int v1), some (.int v2)], [.int (7 : Int32), .int ((m_up q2.2.1 54 (2 : Int32).toNatClampNeg q2.1) 16 9), .int (3 : Int32), .ref 54], (SH, (m_up q2.2.1 54 (2 : Int32).toNatClampNeg q2.1), q2.2.2)) from rfl) ?_
  refine m_R_1 (by decide) (m_opb_of (ins := .idiv) (len := 1) (tag := 0) (a := 0) (b := 0) (c := 0) (q := 0) (by decide +kernel)) (m_s_idiv (by decide)) ?_
  refine m_R_1 (by decide) (m_opb_of (ins := .iastore) (len := 1) (tag := 0) (a := 0) (b := 0) (c := 0) (q := 0) (by decide +kernel)) (m_s_iast sh_54 (show ¬ ((3 : Int32) < 0 ∨ 10 ≤ (3 : Int32).toNatClampNeg) by decide)) ?_
  refine m_R_sg (by decide) [(.aload_n 0, 1, 0, 0, 0, 0, 0), (.getfield 48, 3, 0, 10, 5, 3, 515), (.iconst 4, 1, 0, 4, 0, 0, 0), (.aload_n 0, 1, 0, 0, 0, 0, 0), (.getfield 95, 3, 0, 10, 9, 0, 520)] (by decide +kernel) (show m_sgl X _ _ _ _ _ = some (72, [some (.ref 16), some (.int v1), some (.int v2)], [.int ((m_up (m_up q2.2.1 54 (2 : Int32).toNatClampNeg q2.1) 54 (3 : Int32).toNatClampNeg (((m_up q2.2.1 54 (2 : Int32).toNatClampNeg q2.1) 16 9) / (7 : Int32))) 16 9), .int (4 : Int32), .ref 54], (SH, (m_up (m_up q2.2.1 54 (2 : Int32).toNatClampNeg q2.1) 54 (3 : Int32).toNatClampNeg (((m_up q2.2.1 54 (2 : Int32).toNatClampNeg q2.1) 16 9) / (7 : Int32))), q2.2.2)) from rfl) ?_
  refine m_R_1 (by decide) (m_opb_of (ins := .iastore) (len := 1) (tag := 0) (a := 0) (b := 0) (c := 0) (q := 0) (by decide +kernel)) (m_s_iast sh_54 (show ¬ ((4 : Int32) < 0 ∨ 10 ≤ (4 : Int32).toNatClampNeg) by decide)) ?_
  exact ok_World_gatherFacts_73 X d F _ _ _ _ _ h
def f_World_gatherFacts (F : Nat)   (v1 : Int32) (m : mM) : Option (Unit × mM) := ((f_Papers_isPaper F v1 m).bind fun q1 => f_World_gatherFacts_40 F v1 q1.1 ((m_up (m_up q1.2.1 54 (0 : Int32).toNatClampNeg (q1.2.1 22 (0 : Int32).toNatClampNeg)) 54 (1 : Int32).toNatClampNeg ((10 : Int32) * ((m_up q1.2.1 54 (0 : Int32).toNatClampNeg (q1.2.1 22 (0 : Int32).toNatClampNeg)) 55 9))), q1.2.2))
theorem ok_World_gatherFacts (X : mX) (d F : Nat) : ∀ (v1 : Int32)  (m : mM) (r : Unit) (m' : mM), f_World_gatherFacts F v1 m = some (r, m') → m_R X (d + 1) 40 0 [some (.ref 16), some (.int v1), none] [] (SH, m) (none, (SH, m')) := by
  intro v1 m r m' h
  unfold f_World_gatherFacts at h
  refine m_R_sg (by decide) [(.aload_n 0, 1, 0, 0, 0, 0, 0), (.getfield 28, 3, 0, 10, 2, 3, 508), (.iload_n 1, 1, 0, 1, 0, 0, 0)] (by decide +kernel) (show m_sgl X _ _ _ _ _ = some (5, [some (.ref 16), some (.int v1), none], [.int v1, .ref 31], (SH, m.1, m.2)) from rfl) ?_
  obtain ⟨q1, hc1, h⟩ := Option.bind_eq_some_iff.mp h
  refine m_R_cV (v := (some (.int q1.1))) (h1 := (SH, q1.2)) (rest := []) (lo' := [some (.ref 31), some (.int v1)]) (ml := 2) (k0 := 31) (by decide) (Or.inl rfl) (m_opb_of (ins := .invokevirtual 127) (len := 3) (tag := 5) (a := 41) (b := 1) (c := 0) (q := 779) (by decide +kernel)) (by decide +kernel) rfl (show m_isO 41 31 (SH, _) = true from m_isO_of (by decide +kernel)) (Nat.le_of_ble_eq_true rfl) rfl rfl (ok_Papers_isPaper X (d + 0) F _ _ _ _ hc1) ?_
  refine m_R_sg (by decide) [(.istore_n 2, 1, 0, 2, 0, 0, 0), (.aload_n 0, 1, 0, 0, 0, 0, 0), (.getfield 48, 3, 0, 10, 5, 3, 515), (.iconst 0, 1, 0, 0, 0, 0, 0), (.aload_n 0, 1, 0, 0, 0, 0, 0), (.getfield 21, 3, 0, 10, 1, 3, 505), (.getfield 107, 3, 0, 1, 2, 3, 255), (.iconst 0, 1, 0, 0, 0, 0, 0)] (by decide +kernel) (show m_sgl X _ _ _ _ _ = some (22, [some (.ref 16), some (.int v1), some (.int q1.1)], [.int (0 : Int32), .ref 22, .int (0 : Int32), .ref 54], (SH, q1.2.1, q1.2.2)) from rfl) ?_
  refine m_R_1 (by decide) (m_opb_of (ins := .iaload) (len := 1) (tag := 0) (a := 0) (b := 0) (c := 0) (q := 0) (by decide +kernel)) (m_s_iald sh_22 (by decide) (show ¬ ((0 : Int32) < 0 ∨ 16 ≤ (0 : Int32).toNatClampNeg) by decide)) ?_
  refine m_R_1 (by decide) (m_opb_of (ins := .iastore) (len := 1) (tag := 0) (a := 0) (b := 0) (c := 0) (q := 0) (by decide +kernel)) (m_s_iast sh_54 (show ¬ ((0 : Int32) < 0 ∨ 10 ≤ (0 : Int32).toNatClampNeg) by decide)) ?_
  refine m_R_sg (by decide) [(.aload_n 0, 1, 0, 0, 0, 0, 0), (.getfield 48, 3, 0, 10, 5, 3, 515), (.iconst 1, 1, 0, 1, 0, 0, 0), (.bipush 10, 2, 0, 10, 0, 0, 0), (.aload_n 0, 1, 0, 0, 0, 0, 0), (.getfield 72, 3, 0, 10, 8, 3, 518), (.getfield 120, 3, 0, 3, 9, 0, 468), (.imul, 1, 0, 0, 0, 0, 0)] (by decide +kernel) (show m_sgl X _ _ _ _ _ = some (39, [some (.ref 16), some (.int v1), some (.int q1.1)], [.int ((10 : Int32) * ((m_up q1.2.1 54 (0 : Int32).toNatClampNeg (q1.2.1 22 (0 : Int32).toNatClampNeg)) 55 9)), .int (1 : Int32), .ref 54], (SH, (m_up q1.2.1 54 (0 : Int32).toNatClampNeg (q1.2.1 22 (0 : Int32).toNatClampNeg)), q1.2.2)) from rfl) ?_
  refine m_R_1 (by decide) (m_opb_of (ins := .iastore) (len := 1) (tag := 0) (a := 0) (b := 0) (c := 0) (q := 0) (by decide +kernel)) (m_s_iast sh_54 (show ¬ ((1 : Int32) < 0 ∨ 10 ≤ (1 : Int32).toNatClampNeg) by decide)) ?_
  exact ok_World_gatherFacts_40 X d F _ _ _ _ _ h
def f_Texts_isInForce_35 (F : Nat)   (s0 : Int32) (m : mM) : Option (Int32 × mM) := (if s0 = 0 ∨ s0 = 1 then some (s0, m) else none)
theorem ok_Texts_isInForce_35 (X : mX) (d F : Nat) : ∀ (s0 : Int32) (w0 : Option Value) (w1 : Option Value) (w2 : Option Value) (w3 : Option Value) (m : mM) (r : Int32) (m' : mM), f_Texts_isInForce_35 F s0 m = some (r, m') → m_R X (d + 0) 45 35 [w0, w1, w2, w3] [.int s0] (SH, m) (some (.int r), (SH, m')) := by
  intro s0 w0 w1 w2 w3 m r m' h
  unfold f_Texts_isInForce_35 at h
  obtain ⟨c0, h⟩ := m_ite_p h
  obtain ⟨rfl, rfl⟩ := m_some h
  exact m_R_iret (by decide) (m_opb_of (ins := .ireturn) (len := 1) (tag := 1) (a := 1) (b := 0) (c := 0) (q := 0) (by decide +kernel)) (Or.inr c0)
def f_Texts_isInForce_34 (F : Nat)    (m : mM) : Option (Int32 × mM) := f_Texts_isInForce_35 F (0 : Int32) m
theorem ok_Texts_isInForce_34 (X : mX) (d F : Nat) : ∀  (w0 : Option Value) (w1 : Option Value) (w2 : Option Value) (w3 : Option Value) (m : mM) (r : Int32) (m' : mM), f_Texts_isInForce_34 F  m = some (r, m') → m_R X (d + 0) 45 34 [w0, w1, w2, w3] [] (SH, m) (some (.int r), (SH, m')) := by
  intro w0 w1 w2 w3 m r m' h
  unfold f_Texts_isInForce_34 at h
  refine m_R_sg (by decide) [(.iconst 0, 1, 0, 0, 0, 0, 0)] (by decide +kernel) (show m_sgl X _ _ _ _ _ = some (35, [w0, w1, w2, w3], [.int (0 : Int32)], (SH, m.1, m.2)) from rfl) ?_
  exact ok_Texts_isInForce_35 X d F _ _ _ _ _ _ _ _ h
def f_Texts_isInForce (F : Nat)   (v1 : Int32) (v2 : Int32) (v3 : Int32) (m : mM) : Option (Int32 × mM) := (if v1 < 0 ∨ 12 ≤ v1.toNatClampNeg then none else (if (m.1 9 v1.toNatClampNeg) = v2 then (if v3 < (m.1 10 v1.toNatClampNeg) then f_Texts_isInForce_34 F m else (if (m.1 11 v1.toNatClampNeg) ≤ v3 then f_Texts_isInForce_34 F m else f_Texts_isInForce_35 F (1 : Int32) m)) else f_Texts_isInForce_34 F m))
theorem ok_Texts_isInForce (X : mX) (d F : Nat) : ∀ (v1 : Int32) (v2 : Int32) (v3 : Int32)  (m : mM) (r : Int32) (m' : mM), f_Texts_isInForce F v1 v2 v3 m = some (r, m') → m_R X (d + 0) 45 0 [some (.ref 8), some (.int v1), some (.int v2), some (.int v3)] [] (SH, m) (some (.int r), (SH, m')) := by
  intro v1 v2 v3 m r m' h
  unfold f_Texts_isInForce at h
  refine m_R_sg (by decide) [(.aload_n 0, 1, 0, 0, 0, 0, 0), (.getfield 9, 3, 0, 8, 0, 3, 197), (.iload_n 1, 1, 0, 1, 0, 0, 0)] (by decide +kernel) (show m_sgl X _ _ _ _ _ = some (5, [some (.ref 8), some (.int v1), some (.int v2), some (.int v3)], [.int v1, .ref 9], (SH, m.1, m.2)) from rfl) ?_
  obtain ⟨c182, h⟩ := m_ite_n h
  refine m_R_1 (by decide) (m_opb_of (ins := .iaload) (len := 1) (tag := 0) (a := 0) (b := 0) (c := 0) (q := 0) (by decide +kernel)) (m_s_iald sh_9 (by decide) c182) ?_
  refine m_R_sg (by decide) [(.iload_n 2, 1, 0, 2, 0, 0, 0)] (by decide +kernel) (show m_sgl X _ _ _ _ _ = some (7, [some (.ref 8), some (.int v1), some (.int v2), some (.int v3)], [.int v2, .int (m.1 9 v1.toNatClampNeg)], (SH, m.1, m.2)) from rfl) ?_
  rcases m_ite h with ⟨c183, h⟩ | ⟨c183, h⟩
  · refine m_R_1 (by decide) (m_opb_of (ins := .if_icmp .ne 27) (len := 3) (tag := 0) (a := 34) (b := 0) (c := 0) (q := 0) (by decide +kernel)) (if_pos c183) ?_
    refine m_R_sg (by decide) [(.aload_n 0, 1, 0, 0, 0, 0, 0), (.getfield 15, 3, 0, 8, 1, 3, 198), (.iload_n 1, 1, 0, 1, 0, 0, 0)] (by decide +kernel) (show m_sgl X _ _ _ _ _ = some (15, [some (.ref 8), some (.int v1), some (.int v2), some (.int v3)], [.int v1, .ref 10], (SH, m.1, m.2)) from rfl) ?_
    refine m_R_1 (by decide) (m_opb_of (ins := .iaload) (len := 1) (tag := 0) (a := 0) (b := 0) (c := 0) (q := 0) (by decide +kernel)) (m_s_iald sh_10 (by decide) c182) ?_
    refine m_R_sg (by decide) [(.iload_n 3, 1, 0, 3, 0, 0, 0)] (by decide +kernel) (show m_sgl X _ _ _ _ _ = some (17, [some (.ref 8), some (.int v1), some (.int v2), some (.int v3)], [.int v3, .int (m.1 10 v1.toNatClampNeg)], (SH, m.1, m.2)) from rfl) ?_
    rcases m_ite h with ⟨c184, h⟩ | ⟨c184, h⟩
    · refine m_R_1 (by decide) (m_opb_of (ins := .if_icmp .gt 17) (len := 3) (tag := 0) (a := 34) (b := 0) (c := 0) (q := 0) (by decide +kernel)) (if_pos c184) ?_
      exact ok_Texts_isInForce_34 X d F _ _ _ _ _ _ _ h
    · refine m_R_1 (by decide) (m_opb_of (ins := .if_icmp .gt 17) (len := 3) (tag := 0) (a := 34) (b := 0) (c := 0) (q := 0) (by decide +kernel)) (if_neg c184) ?_
      refine m_R_sg (by decide) [(.iload_n 3, 1, 0, 3, 0, 0, 0), (.aload_n 0, 1, 0, 0, 0, 0, 0), (.getfield 18, 3, 0, 8, 2, 3, 199), (.iload_n 1, 1, 0, 1, 0, 0, 0)] (by decide +kernel) (show m_sgl X _ _ _ _ _ = some (26, [some (.ref 8), some (.int v1), some (.int v2), some (.int v3)], [.int v1, .ref 11, .int v3], (SH, m.1, m.2)) from rfl) ?_
      refine m_R_1 (by decide) (m_opb_of (ins := .iaload) (len := 1) (tag := 0) (a := 0) (b := 0) (c := 0) (q := 0) (by decide +kernel)) (m_s_iald sh_11 (by decide) c182) ?_
      rcases m_ite h with ⟨c185, h⟩ | ⟨c185, h⟩
      · refine m_R_1 (by decide) (m_opb_of (ins := .if_icmp .ge 7) (len := 3) (tag := 0) (a := 34) (b := 0) (c := 0) (q := 0) (by decide +kernel)) (if_pos c185) ?_
        exact ok_Texts_isInForce_34 X d F _ _ _ _ _ _ _ h
      · refine m_R_1 (by decide) (m_opb_of (ins := .if_icmp .ge 7) (len := 3) (tag := 0) (a := 34) (b := 0) (c := 0) (q := 0) (by decide +kernel)) (if_neg c185) ?_
        refine m_R_sg (by decide) [(.iconst 1, 1, 0, 1, 0, 0, 0), (.goto 4, 3, 0, 35, 0, 0, 0)] (by decide +kernel) (show m_sgl X _ _ _ _ _ = some (35, [some (.ref 8), some (.int v1), some (.int v2), some (.int v3)], [.int (1 : Int32)], (SH, m.1, m.2)) from rfl) ?_
        exact ok_Texts_isInForce_35 X d F _ _ _ _ _ _ _ _ h
  · refine m_R_1 (by decide) (m_opb_of (ins := .if_icmp .ne 27) (len := 3) (tag := 0) (a := 34) (b := 0) (c := 0) (q := 0) (by decide +kernel)) (if_neg c183) ?_
    exact ok_Texts_isInForce_34 X d F _ _ _ _ _ _ _ h
def f_Texts_hasIf_20 (F : Nat)   (s0 : Int32) (m : mM) : Option (Int32 × mM) := (if s0 = 0 ∨ s0 = 1 then some (s0, m) else none)
theorem ok_Texts_hasIf_20 (X : mX) (d F : Nat) : ∀ (s0 : Int32) (w0 : Option Value) (w1 : Option Value) (m : mM) (r : Int32) (m' : mM), f_Texts_hasIf_20 F s0 m = some (r, m') → m_R X (d + 0) 46 20 [w0, w1] [.int s0] (SH, m) (some (.int r), (SH, m')) := by
  intro s0 w0 w1 m r m' h
  unfold f_Texts_hasIf_20 at h
  obtain ⟨c0, h⟩ := m_ite_p h
  obtain ⟨rfl, rfl⟩ := m_some h
  exact m_R_iret (by decide) (m_opb_of (ins := .ireturn) (len := 1) (tag := 1) (a := 1) (b := 0) (c := 0) (q := 0) (by decide +kernel)) (Or.inr c0)
def f_Texts_hasIf (F : Nat)   (v1 : Int32) (m : mM) : Option (Int32 × mM) := (if v1 < 0 ∨ 12 ≤ v1.toNatClampNeg then none else (if (m.1 13 v1.toNatClampNeg) ≤ (m.1 12 v1.toNatClampNeg) then f_Texts_hasIf_20 F (0 : Int32) m else f_Texts_hasIf_20 F (1 : Int32) m))
theorem ok_Texts_hasIf (X : mX) (d F : Nat) : ∀ (v1 : Int32)  (m : mM) (r : Int32) (m' : mM), f_Texts_hasIf F v1 m = some (r, m') → m_R X (d + 0) 46 0 [some (.ref 8), some (.int v1)] [] (SH, m) (some (.int r), (SH, m')) := by
  intro v1 m r m' h
  unfold f_Texts_hasIf at h
  refine m_R_sg (by decide) [(.aload_n 0, 1, 0, 0, 0, 0, 0), (.getfield 24, 3, 0, 8, 4, 3, 201), (.iload_n 1, 1, 0, 1, 0, 0, 0)] (by decide +kernel) (show m_sgl X _ _ _ _ _ = some (5, [some (.ref 8), some (.int v1)], [.int v1, .ref 13], (SH, m.1, m.2)) from rfl) ?_
  obtain ⟨c186, h⟩ := m_ite_n h
  refine m_R_1 (by decide) (m_opb_of (ins := .iaload) (len := 1) (tag := 0) (a := 0) (b := 0) (c := 0) (q := 0) (by decide +kernel)) (m_s_iald sh_13 (by decide) c186) ?_
  refine m_R_sg (by decide) [(.aload_n 0, 1, 0, 0, 0, 0, 0), (.getfield 21, 3, 0, 8, 3, 3, 200), (.iload_n 1, 1, 0, 1, 0, 0, 0)] (by decide +kernel) (show m_sgl X _ _ _ _ _ = some (11, [some (.ref 8), some (.int v1)], [.int v1, .ref 12, .int (m.1 13 v1.toNatClampNeg)], (SH, m.1, m.2)) from rfl) ?_
  refine m_R_1 (by decide) (m_opb_of (ins := .iaload) (len := 1) (tag := 0) (a := 0) (b := 0) (c := 0) (q := 0) (by decide +kernel)) (m_s_iald sh_12 (by decide) c186) ?_
  rcases m_ite h with ⟨c187, h⟩ | ⟨c187, h⟩
  · refine m_R_1 (by decide) (m_opb_of (ins := .if_icmp .le 7) (len := 3) (tag := 0) (a := 19) (b := 0) (c := 0) (q := 0) (by decide +kernel)) (if_pos c187) ?_
    refine m_R_sg (by decide) [(.iconst 0, 1, 0, 0, 0, 0, 0)] (by decide +kernel) (show m_sgl X _ _ _ _ _ = some (20, [some (.ref 8), some (.int v1)], [.int (0 : Int32)], (SH, m.1, m.2)) from rfl) ?_
    exact ok_Texts_hasIf_20 X d F _ _ _ _ _ _ h
  · refine m_R_1 (by decide) (m_opb_of (ins := .if_icmp .le 7) (len := 3) (tag := 0) (a := 19) (b := 0) (c := 0) (q := 0) (by decide +kernel)) (if_neg c187) ?_
    refine m_R_sg (by decide) [(.iconst 1, 1, 0, 1, 0, 0, 0), (.goto 4, 3, 0, 20, 0, 0, 0)] (by decide +kernel) (show m_sgl X _ _ _ _ _ = some (20, [some (.ref 8), some (.int v1)], [.int (1 : Int32)], (SH, m.1, m.2)) from rfl) ?_
    exact ok_Texts_hasIf_20 X d F _ _ _ _ _ _ h
def f_Texts_work_8_54_394 (F : Nat)  (k54 : Int32 → Int32 → Int32 → mM → Option (Int32 × mM)) (v5 : Int32) (v6 : Int32) (v7 : Int32) (m : mM) : Option (Int32 × mM) := k54 v5 v6 (v7 + (1 : Int32)) m
theorem ok_Texts_work_8_54_394 (X : mX) (d F : Nat) (k54 : Int32 → Int32 → Int32 → mM → Option (Int32 × mM)) (hk54 : ∀ (v5 : Int32) (v6 : Int32) (v7 : Int32) (w1 : Option Value) (w2 : Option Value) (w4 : Option Value) (w8 : Option Value) (w9 : Option Value) (w10 : Option Value) (m : mM) (r : Int32) (m' : mM), k54 v5 v6 v7 m = some (r, m') → m_R X (d + 0) 47 54 [some (.ref 8), w1, w2, some (.ref 54), w4, some (.int v5), some (.int v6), some (.int v7), w8, w9, w10] [] (SH, m) (some (.int r), (SH, m'))) : ∀ (v5 : Int32) (v6 : Int32) (v7 : Int32) (w1 : Option Value) (w2 : Option Value) (w4 : Option Value) (w8 : Option Value) (w9 : Option Value) (w10 : Option Value) (m : mM) (r : Int32) (m' : mM), f_Texts_work_8_54_394 F k54 v5 v6 v7 m = some (r, m') → m_R X (d + 0) 47 394 [some (.ref 8), w1, w2, some (.ref 54), w4, some (.int v5), some (.int v6), some (.int v7), w8, w9, w10] [] (SH, m) (some (.int r), (SH, m')) := by
  intro v5 v6 v7 w1 w2 w4 w8 w9 w10 m r m' h
  unfold f_Texts_work_8_54_394 at h
  refine m_R_sg (by decide) [(.iinc 7 1, 3, 0, 7, 1, 0, 0), (.goto (-343), 3, 0, 54, 0, 0, 0)] (by decide +kernel) (show m_sgl X _ _ _ _ _ = some (54, [some (.ref 8), w1, w2, some (.ref 54), w4, some (.int v5), some (.int v6), some (.int (v7 + (1 : Int32))), w8, w9, w10], [], (SH, m.1, m.2)) from rfl) ?_
  exact hk54 _ _ _ _ _ _ _ _ _ _ _ _ h
def f_Texts_work_8_54_99 (F : Nat)  (k54 : Int32 → Int32 → Int32 → mM → Option (Int32 × mM)) (v5 : Int32) (v6 : Int32) (v7 : Int32) (s1 : Int32) (s2 : Int32) (m : mM) : Option (Int32 × mM) := (if s1 < 0 ∨ 121 ≤ s1.toNatClampNeg then none else f_Texts_work_8_54_394 F k54 v5 (v6 + (1 : Int32)) v7 ((m_up m.1 15 s1.toNatClampNeg s2), m.2))
theorem ok_Texts_work_8_54_99 (X : mX) (d F : Nat) (k54 : Int32 → Int32 → Int32 → mM → Option (Int32 × mM)) (hk54 : ∀ (v5 : Int32) (v6 : Int32) (v7 : Int32) (w1 : Option Value) (w2 : Option Value) (w4 : Option Value) (w8 : Option Value) (w9 : Option Value) (w10 : Option Value) (m : mM) (r : Int32) (m' : mM), k54 v5 v6 v7 m = some (r, m') → m_R X (d + 0) 47 54 [some (.ref 8), w1, w2, some (.ref 54), w4, some (.int v5), some (.int v6), some (.int v7), w8, w9, w10] [] (SH, m) (some (.int r), (SH, m'))) : ∀ (v5 : Int32) (v6 : Int32) (v7 : Int32) (s1 : Int32) (s2 : Int32) (w1 : Option Value) (w2 : Option Value) (w4 : Option Value) (w8 : Option Value) (w9 : Option Value) (w10 : Option Value) (m : mM) (r : Int32) (m' : mM), f_Texts_work_8_54_99 F k54 v5 v6 v7 s1 s2 m = some (r, m') → m_R X (d + 0) 47 99 [some (.ref 8), w1, w2, some (.ref 54), w4, some (.int v5), some (.int v6), some (.int v7), w8, w9, w10] [.int s2, .int s1, .ref 15] (SH, m) (some (.int r), (SH, m')) := by
  intro v5 v6 v7 s1 s2 w1 w2 w4 w8 w9 w10 m r m' h
  unfold f_Texts_work_8_54_99 at h
  obtain ⟨c188, h⟩ := m_ite_n h
  refine m_R_1 (by decide) (m_opb_of (ins := .iastore) (len := 1) (tag := 0) (a := 0) (b := 0) (c := 0) (q := 0) (by decide +kernel)) (m_s_iast sh_15 c188) ?_
  refine m_R_sg (by decide) [(.iinc 6 1, 3, 0, 6, 1, 0, 0), (.goto 291, 3, 0, 394, 0, 0, 0)] (by decide +kernel) (show m_sgl X _ _ _ _ _ = some (394, [some (.ref 8), w1, w2, some (.ref 54), w4, some (.int v5), some (.int (v6 + (1 : Int32))), some (.int v7), w8, w9, w10], [], (SH, (m_up m.1 15 s1.toNatClampNeg s2), m.2)) from rfl) ?_
  exact ok_Texts_work_8_54_394 X d F _ hk54 _ _ _ _ _ _ _ _ _ _ _ _ h
def f_Texts_work_8_54_383 (F : Nat)  (k54 : Int32 → Int32 → Int32 → mM → Option (Int32 × mM)) (v5 : Int32) (v6 : Int32) (v7 : Int32) (v9 : Int32) (m : mM) : Option (Int32 × mM) := (if (v6 - (1 : Int32)) < 0 ∨ 121 ≤ (v6 - (1 : Int32)).toNatClampNeg then none else f_Texts_work_8_54_394 F k54 v5 v6 v7 ((m_up m.1 15 (v6 - (1 : Int32)).toNatClampNeg v9), m.2))
theorem ok_Texts_work_8_54_383 (X : mX) (d F : Nat) (k54 : Int32 → Int32 → Int32 → mM → Option (Int32 × mM)) (hk54 : ∀ (v5 : Int32) (v6 : Int32) (v7 : Int32) (w1 : Option Value) (w2 : Option Value) (w4 : Option Value) (w8 : Option Value) (w9 : Option Value) (w10 : Option Value) (m : mM) (r : Int32) (m' : mM), k54 v5 v6 v7 m = some (r, m') → m_R X (d + 0) 47 54 [some (.ref 8), w1, w2, some (.ref 54), w4, some (.int v5), some (.int v6), some (.int v7), w8, w9, w10] [] (SH, m) (some (.int r), (SH, m'))) : ∀ (v5 : Int32) (v6 : Int32) (v7 : Int32) (v9 : Int32) (w1 : Option Value) (w2 : Option Value) (w4 : Option Value) (w8 : Option Value) (w10 : Option Value) (m : mM) (r : Int32) (m' : mM), f_Texts_work_8_54_383 F k54 v5 v6 v7 v9 m = some (r, m') → m_R X (d + 0) 47 383 [some (.ref 8), w1, w2, some (.ref 54), w4, some (.int v5), some (.int v6), some (.int v7), w8, some (.int v9), w10] [] (SH, m) (some (.int r), (SH, m')) := by
  intro v5 v6 v7 v9 w1 w2 w4 w8 w10 m r m' h
  unfold f_Texts_work_8_54_383 at h
  refine m_R_sg (by decide) [(.aload_n 0, 1, 0, 0, 0, 0, 0), (.getfield 30, 3, 0, 8, 6, 3, 203), (.iload 6, 2, 0, 6, 0, 0, 0), (.iconst 1, 1, 0, 1, 0, 0, 0), (.isub, 1, 0, 0, 0, 0, 0), (.iload 9, 2, 0, 9, 0, 0, 0)] (by decide +kernel) (show m_sgl X _ _ _ _ _ = some (393, [some (.ref 8), w1, w2, some (.ref 54), w4, some (.int v5), some (.int v6), some (.int v7), w8, some (.int v9), w10], [.int v9, .int (v6 - (1 : Int32)), .ref 15], (SH, m.1, m.2)) from rfl) ?_
  obtain ⟨c189, h⟩ := m_ite_n h
  refine m_R_1 (by decide) (m_opb_of (ins := .iastore) (len := 1) (tag := 0) (a := 0) (b := 0) (c := 0) (q := 0) (by decide +kernel)) (m_s_iast sh_15 c189) ?_
  exact ok_Texts_work_8_54_394 X d F _ hk54 _ _ _ _ _ _ _ _ _ _ _ _ h
def f_Texts_work_8_54_214 (F : Nat)  (k54 : Int32 → Int32 → Int32 → mM → Option (Int32 × mM)) (v5 : Int32) (v6 : Int32) (v7 : Int32) (s0 : Int32) (m : mM) : Option (Int32 × mM) := f_Texts_work_8_54_383 F k54 v5 v6 v7 s0 m
theorem ok_Texts_work_8_54_214 (X : mX) (d F : Nat) (k54 : Int32 → Int32 → Int32 → mM → Option (Int32 × mM)) (hk54 : ∀ (v5 : Int32) (v6 : Int32) (v7 : Int32) (w1 : Option Value) (w2 : Option Value) (w4 : Option Value) (w8 : Option Value) (w9 : Option Value) (w10 : Option Value) (m : mM) (r : Int32) (m' : mM), k54 v5 v6 v7 m = some (r, m') → m_R X (d + 0) 47 54 [some (.ref 8), w1, w2, some (.ref 54), w4, some (.int v5), some (.int v6), some (.int v7), w8, w9, w10] [] (SH, m) (some (.int r), (SH, m'))) : ∀ (v5 : Int32) (v6 : Int32) (v7 : Int32) (s0 : Int32) (w1 : Option Value) (w2 : Option Value) (w4 : Option Value) (w8 : Option Value) (w9 : Option Value) (w10 : Option Value) (m : mM) (r : Int32) (m' : mM), f_Texts_work_8_54_214 F k54 v5 v6 v7 s0 m = some (r, m') → m_R X (d + 0) 47 214 [some (.ref 8), w1, w2, some (.ref 54), w4, some (.int v5), some (.int v6), some (.int v7), w8, w9, w10] [.int s0] (SH, m) (some (.int r), (SH, m')) := by
  intro v5 v6 v7 s0 w1 w2 w4 w8 w9 w10 m r m' h
  unfold f_Texts_work_8_54_214 at h
  refine m_R_sg (by decide) [(.istore 9, 2, 0, 9, 0, 0, 0), (.goto 167, 3, 0, 383, 0, 0, 0)] (by decide +kernel) (show m_sgl X _ _ _ _ _ = some (383, [some (.ref 8), w1, w2, some (.ref 54), w4, some (.int v5), some (.int v6), some (.int v7), (m_cl w8), some (.int s0), w10], [], (SH, m.1, m.2)) from rfl) ?_
  exact ok_Texts_work_8_54_383 X d F _ hk54 _ _ _ _ _ _ _ _ _ _ _ _ h
def f_Texts_work_8_54_242 (F : Nat)  (k54 : Int32 → Int32 → Int32 → mM → Option (Int32 × mM)) (v5 : Int32) (v6 : Int32) (v7 : Int32) (s0 : Int32) (m : mM) : Option (Int32 × mM) := f_Texts_work_8_54_383 F k54 v5 v6 v7 s0 m
theorem ok_Texts_work_8_54_242 (X : mX) (d F : Nat) (k54 : Int32 → Int32 → Int32 → mM → Option (Int32 × mM)) (hk54 : ∀ (v5 : Int32) (v6 : Int32) (v7 : Int32) (w1 : Option Value) (w2 : Option Value) (w4 : Option Value) (w8 : Option Value) (w9 : Option Value) (w10 : Option Value) (m : mM) (r : Int32) (m' : mM), k54 v5 v6 v7 m = some (r, m') → m_R X (d + 0) 47 54 [some (.ref 8), w1, w2, some (.ref 54), w4, some (.int v5), some (.int v6), some (.int v7), w8, w9, w10] [] (SH, m) (some (.int r), (SH, m'))) : ∀ (v5 : Int32) (v6 : Int32) (v7 : Int32) (s0 : Int32) (w1 : Option Value) (w2 : Option Value) (w4 : Option Value) (w8 : Option Value) (w9 : Option Value) (w10 : Option Value) (m : mM) (r : Int32) (m' : mM), f_Texts_work_8_54_242 F k54 v5 v6 v7 s0 m = some (r, m') → m_R X (d + 0) 47 242 [some (.ref 8), w1, w2, some (.ref 54), w4, some (.int v5), some (.int v6), some (.int v7), w8, w9, w10] [.int s0] (SH, m) (some (.int r), (SH, m')) := by
  intro v5 v6 v7 s0 w1 w2 w4 w8 w9 w10 m r m' h
  unfold f_Texts_work_8_54_242 at h
  refine m_R_sg (by decide) [(.istore 9, 2, 0, 9, 0, 0, 0), (.goto 139, 3, 0, 383, 0, 0, 0)] (by decide +kernel) (show m_sgl X _ _ _ _ _ = some (383, [some (.ref 8), w1, w2, some (.ref 54), w4, some (.int v5), some (.int v6), some (.int v7), (m_cl w8), some (.int s0), w10], [], (SH, m.1, m.2)) from rfl) ?_
  exact ok_Texts_work_8_54_383 X d F _ hk54 _ _ _ _ _ _ _ _ _ _ _ _ h
def f_Texts_work_8_54_237 (F : Nat)  (k54 : Int32 → Int32 → Int32 → mM → Option (Int32 × mM)) (v5 : Int32) (v6 : Int32) (v7 : Int32) (m : mM) : Option (Int32 × mM) := f_Texts_work_8_54_242 F k54 v5 v6 v7 (1 : Int32) m
theorem ok_Texts_work_8_54_237 (X : mX) (d F : Nat) (k54 : Int32 → Int32 → Int32 → mM → Option (Int32 × mM)) (hk54 : ∀ (v5 : Int32) (v6 : Int32) (v7 : Int32) (w1 : Option Value) (w2 : Option Value) (w4 : Option Value) (w8 : Option Value) (w9 : Option Value) (w10 : Option Value) (m : mM) (r : Int32) (m' : mM), k54 v5 v6 v7 m = some (r, m') → m_R X (d + 0) 47 54 [some (.ref 8), w1, w2, some (.ref 54), w4, some (.int v5), some (.int v6), some (.int v7), w8, w9, w10] [] (SH, m) (some (.int r), (SH, m'))) : ∀ (v5 : Int32) (v6 : Int32) (v7 : Int32) (w1 : Option Value) (w2 : Option Value) (w4 : Option Value) (w8 : Option Value) (w9 : Option Value) (w10 : Option Value) (m : mM) (r : Int32) (m' : mM), f_Texts_work_8_54_237 F k54 v5 v6 v7 m = some (r, m') → m_R X (d + 0) 47 237 [some (.ref 8), w1, w2, some (.ref 54), w4, some (.int v5), some (.int v6), some (.int v7), w8, w9, w10] [] (SH, m) (some (.int r), (SH, m')) := by
  intro v5 v6 v7 w1 w2 w4 w8 w9 w10 m r m' h
  unfold f_Texts_work_8_54_237 at h
  refine m_R_sg (by decide) [(.iconst 1, 1, 0, 1, 0, 0, 0), (.goto 4, 3, 0, 242, 0, 0, 0)] (by decide +kernel) (show m_sgl X _ _ _ _ _ = some (242, [some (.ref 8), w1, w2, some (.ref 54), w4, some (.int v5), some (.int v6), some (.int v7), w8, w9, w10], [.int (1 : Int32)], (SH, m.1, m.2)) from rfl) ?_
  exact ok_Texts_work_8_54_242 X d F _ hk54 _ _ _ _ _ _ _ _ _ _ _ _ _ h
def f_Texts_work_8_54_262 (F : Nat)  (k54 : Int32 → Int32 → Int32 → mM → Option (Int32 × mM)) (v5 : Int32) (v6 : Int32) (v7 : Int32) (s0 : Int32) (m : mM) : Option (Int32 × mM) := f_Texts_work_8_54_383 F k54 v5 v6 v7 s0 m
theorem ok_Texts_work_8_54_262 (X : mX) (d F : Nat) (k54 : Int32 → Int32 → Int32 → mM → Option (Int32 × mM)) (hk54 : ∀ (v5 : Int32) (v6 : Int32) (v7 : Int32) (w1 : Option Value) (w2 : Option Value) (w4 : Option Value) (w8 : Option Value) (w9 : Option Value) (w10 : Option Value) (m : mM) (r : Int32) (m' : mM), k54 v5 v6 v7 m = some (r, m') → m_R X (d + 0) 47 54 [some (.ref 8), w1, w2, some (.ref 54), w4, some (.int v5), some (.int v6), some (.int v7), w8, w9, w10] [] (SH, m) (some (.int r), (SH, m'))) : ∀ (v5 : Int32) (v6 : Int32) (v7 : Int32) (s0 : Int32) (w1 : Option Value) (w2 : Option Value) (w4 : Option Value) (w8 : Option Value) (w9 : Option Value) (w10 : Option Value) (m : mM) (r : Int32) (m' : mM), f_Texts_work_8_54_262 F k54 v5 v6 v7 s0 m = some (r, m') → m_R X (d + 0) 47 262 [some (.ref 8), w1, w2, some (.ref 54), w4, some (.int v5), some (.int v6), some (.int v7), w8, w9, w10] [.int s0] (SH, m) (some (.int r), (SH, m')) := by
  intro v5 v6 v7 s0 w1 w2 w4 w8 w9 w10 m r m' h
  unfold f_Texts_work_8_54_262 at h
  refine m_R_sg (by decide) [(.istore 9, 2, 0, 9, 0, 0, 0), (.goto 119, 3, 0, 383, 0, 0, 0)] (by decide +kernel) (show m_sgl X _ _ _ _ _ = some (383, [some (.ref 8), w1, w2, some (.ref 54), w4, some (.int v5), some (.int v6), some (.int v7), (m_cl w8), some (.int s0), w10], [], (SH, m.1, m.2)) from rfl) ?_
  exact ok_Texts_work_8_54_383 X d F _ hk54 _ _ _ _ _ _ _ _ _ _ _ _ h
def f_Texts_work_8_54_261 (F : Nat)  (k54 : Int32 → Int32 → Int32 → mM → Option (Int32 × mM)) (v5 : Int32) (v6 : Int32) (v7 : Int32) (m : mM) : Option (Int32 × mM) := f_Texts_work_8_54_262 F k54 v5 v6 v7 (0 : Int32) m
theorem ok_Texts_work_8_54_261 (X : mX) (d F : Nat) (k54 : Int32 → Int32 → Int32 → mM → Option (Int32 × mM)) (hk54 : ∀ (v5 : Int32) (v6 : Int32) (v7 : Int32) (w1 : Option Value) (w2 : Option Value) (w4 : Option Value) (w8 : Option Value) (w9 : Option Value) (w10 : Option Value) (m : mM) (r : Int32) (m' : mM), k54 v5 v6 v7 m = some (r, m') → m_R X (d + 0) 47 54 [some (.ref 8), w1, w2, some (.ref 54), w4, some (.int v5), some (.int v6), some (.int v7), w8, w9, w10] [] (SH, m) (some (.int r), (SH, m'))) : ∀ (v5 : Int32) (v6 : Int32) (v7 : Int32) (w1 : Option Value) (w2 : Option Value) (w4 : Option Value) (w8 : Option Value) (w9 : Option Value) (w10 : Option Value) (m : mM) (r : Int32) (m' : mM), f_Texts_work_8_54_261 F k54 v5 v6 v7 m = some (r, m') → m_R X (d + 0) 47 261 [some (.ref 8), w1, w2, some (.ref 54), w4, some (.int v5), some (.int v6), some (.int v7), w8, w9, w10] [] (SH, m) (some (.int r), (SH, m')) := by
  intro v5 v6 v7 w1 w2 w4 w8 w9 w10 m r m' h
  unfold f_Texts_work_8_54_261 at h
  refine m_R_sg (by decide) [(.iconst 0, 1, 0, 0, 0, 0, 0)] (by decide +kernel) (show m_sgl X _ _ _ _ _ = some (262, [some (.ref 8), w1, w2, some (.ref 54), w4, some (.int v5), some (.int v6), some (.int v7), w8, w9, w10], [.int (0 : Int32)], (SH, m.1, m.2)) from rfl) ?_
  exact ok_Texts_work_8_54_262 X d F _ hk54 _ _ _ _ _ _ _ _ _ _ _ _ _ h
def f_Texts_work_8_54_279 (F : Nat)  (k54 : Int32 → Int32 → Int32 → mM → Option (Int32 × mM)) (v5 : Int32) (v6 : Int32) (v7 : Int32) (s0 : Int32) (m : mM) : Option (Int32 × mM) := f_Texts_work_8_54_383 F k54 v5 v6 v7 s0 m
theorem ok_Texts_work_8_54_279 (X : mX) (d F : Nat) (k54 : Int32 → Int32 → Int32 → mM → Option (Int32 × mM)) (hk54 : ∀ (v5 : Int32) (v6 : Int32) (v7 : Int32) (w1 : Option Value) (w2 : Option Value) (w4 : Option Value) (w8 : Option Value) (w9 : Option Value) (w10 : Option Value) (m : mM) (r : Int32) (m' : mM), k54 v5 v6 v7 m = some (r, m') → m_R X (d + 0) 47 54 [some (.ref 8), w1, w2, some (.ref 54), w4, some (.int v5), some (.int v6), some (.int v7), w8, w9, w10] [] (SH, m) (some (.int r), (SH, m'))) : ∀ (v5 : Int32) (v6 : Int32) (v7 : Int32) (s0 : Int32) (w1 : Option Value) (w2 : Option Value) (w4 : Option Value) (w8 : Option Value) (w9 : Option Value) (w10 : Option Value) (m : mM) (r : Int32) (m' : mM), f_Texts_work_8_54_279 F k54 v5 v6 v7 s0 m = some (r, m') → m_R X (d + 0) 47 279 [some (.ref 8), w1, w2, some (.ref 54), w4, some (.int v5), some (.int v6), some (.int v7), w8, w9, w10] [.int s0] (SH, m) (some (.int r), (SH, m')) := by
  intro v5 v6 v7 s0 w1 w2 w4 w8 w9 w10 m r m' h
  unfold f_Texts_work_8_54_279 at h
  refine m_R_sg (by decide) [(.istore 9, 2, 0, 9, 0, 0, 0), (.goto 102, 3, 0, 383, 0, 0, 0)] (by decide +kernel) (show m_sgl X _ _ _ _ _ = some (383, [some (.ref 8), w1, w2, some (.ref 54), w4, some (.int v5), some (.int v6), some (.int v7), (m_cl w8), some (.int s0), w10], [], (SH, m.1, m.2)) from rfl) ?_
  exact ok_Texts_work_8_54_383 X d F _ hk54 _ _ _ _ _ _ _ _ _ _ _ _ h
def f_Texts_work_8_54_296 (F : Nat)  (k54 : Int32 → Int32 → Int32 → mM → Option (Int32 × mM)) (v5 : Int32) (v6 : Int32) (v7 : Int32) (s0 : Int32) (m : mM) : Option (Int32 × mM) := f_Texts_work_8_54_383 F k54 v5 v6 v7 s0 m
theorem ok_Texts_work_8_54_296 (X : mX) (d F : Nat) (k54 : Int32 → Int32 → Int32 → mM → Option (Int32 × mM)) (hk54 : ∀ (v5 : Int32) (v6 : Int32) (v7 : Int32) (w1 : Option Value) (w2 : Option Value) (w4 : Option Value) (w8 : Option Value) (w9 : Option Value) (w10 : Option Value) (m : mM) (r : Int32) (m' : mM), k54 v5 v6 v7 m = some (r, m') → m_R X (d + 0) 47 54 [some (.ref 8), w1, w2, some (.ref 54), w4, some (.int v5), some (.int v6), some (.int v7), w8, w9, w10] [] (SH, m) (some (.int r), (SH, m'))) : ∀ (v5 : Int32) (v6 : Int32) (v7 : Int32) (s0 : Int32) (w1 : Option Value) (w2 : Option Value) (w4 : Option Value) (w8 : Option Value) (w9 : Option Value) (w10 : Option Value) (m : mM) (r : Int32) (m' : mM), f_Texts_work_8_54_296 F k54 v5 v6 v7 s0 m = some (r, m') → m_R X (d + 0) 47 296 [some (.ref 8), w1, w2, some (.ref 54), w4, some (.int v5), some (.int v6), some (.int v7), w8, w9, w10] [.int s0] (SH, m) (some (.int r), (SH, m')) := by
  intro v5 v6 v7 s0 w1 w2 w4 w8 w9 w10 m r m' h
  unfold f_Texts_work_8_54_296 at h
  refine m_R_sg (by decide) [(.istore 9, 2, 0, 9, 0, 0, 0), (.goto 85, 3, 0, 383, 0, 0, 0)] (by decide +kernel) (show m_sgl X _ _ _ _ _ = some (383, [some (.ref 8), w1, w2, some (.ref 54), w4, some (.int v5), some (.int v6), some (.int v7), (m_cl w8), some (.int s0), w10], [], (SH, m.1, m.2)) from rfl) ?_
  exact ok_Texts_work_8_54_383 X d F _ hk54 _ _ _ _ _ _ _ _ _ _ _ _ h
def f_Texts_work_8_54_313 (F : Nat)  (k54 : Int32 → Int32 → Int32 → mM → Option (Int32 × mM)) (v5 : Int32) (v6 : Int32) (v7 : Int32) (s0 : Int32) (m : mM) : Option (Int32 × mM) := f_Texts_work_8_54_383 F k54 v5 v6 v7 s0 m
theorem ok_Texts_work_8_54_313 (X : mX) (d F : Nat) (k54 : Int32 → Int32 → Int32 → mM → Option (Int32 × mM)) (hk54 : ∀ (v5 : Int32) (v6 : Int32) (v7 : Int32) (w1 : Option Value) (w2 : Option Value) (w4 : Option Value) (w8 : Option Value) (w9 : Option Value) (w10 : Option Value) (m : mM) (r : Int32) (m' : mM), k54 v5 v6 v7 m = some (r, m') → m_R X (d + 0) 47 54 [some (.ref 8), w1, w2, some (.ref 54), w4, some (.int v5), some (.int v6), some (.int v7), w8, w9, w10] [] (SH, m) (some (.int r), (SH, m'))) : ∀ (v5 : Int32) (v6 : Int32) (v7 : Int32) (s0 : Int32) (w1 : Option Value) (w2 : Option Value) (w4 : Option Value) (w8 : Option Value) (w9 : Option Value) (w10 : Option Value) (m : mM) (r : Int32) (m' : mM), f_Texts_work_8_54_313 F k54 v5 v6 v7 s0 m = some (r, m') → m_R X (d + 0) 47 313 [some (.ref 8), w1, w2, some (.ref 54), w4, some (.int v5), some (.int v6), some (.int v7), w8, w9, w10] [.int s0] (SH, m) (some (.int r), (SH, m')) := by
  intro v5 v6 v7 s0 w1 w2 w4 w8 w9 w10 m r m' h
  unfold f_Texts_work_8_54_313 at h
  refine m_R_sg (by decide) [(.istore 9, 2, 0, 9, 0, 0, 0), (.goto 68, 3, 0, 383, 0, 0, 0)] (by decide +kernel) (show m_sgl X _ _ _ _ _ = some (383, [some (.ref 8), w1, w2, some (.ref 54), w4, some (.int v5), some (.int v6), some (.int v7), (m_cl w8), some (.int s0), w10], [], (SH, m.1, m.2)) from rfl) ?_
  exact ok_Texts_work_8_54_383 X d F _ hk54 _ _ _ _ _ _ _ _ _ _ _ _ h
def f_Texts_work_8_54_362 (F : Nat)  (k54 : Int32 → Int32 → Int32 → mM → Option (Int32 × mM)) (v5 : Int32) (v6 : Int32) (v7 : Int32) (s0 : Int32) (m : mM) : Option (Int32 × mM) := f_Texts_work_8_54_383 F k54 v5 v6 v7 s0 m
theorem ok_Texts_work_8_54_362 (X : mX) (d F : Nat) (k54 : Int32 → Int32 → Int32 → mM → Option (Int32 × mM)) (hk54 : ∀ (v5 : Int32) (v6 : Int32) (v7 : Int32) (w1 : Option Value) (w2 : Option Value) (w4 : Option Value) (w8 : Option Value) (w9 : Option Value) (w10 : Option Value) (m : mM) (r : Int32) (m' : mM), k54 v5 v6 v7 m = some (r, m') → m_R X (d + 0) 47 54 [some (.ref 8), w1, w2, some (.ref 54), w4, some (.int v5), some (.int v6), some (.int v7), w8, w9, w10] [] (SH, m) (some (.int r), (SH, m'))) : ∀ (v5 : Int32) (v6 : Int32) (v7 : Int32) (s0 : Int32) (w1 : Option Value) (w2 : Option Value) (w4 : Option Value) (w8 : Option Value) (w9 : Option Value) (w10 : Option Value) (m : mM) (r : Int32) (m' : mM), f_Texts_work_8_54_362 F k54 v5 v6 v7 s0 m = some (r, m') → m_R X (d + 0) 47 362 [some (.ref 8), w1, w2, some (.ref 54), w4, some (.int v5), some (.int v6), some (.int v7), w8, w9, w10] [.int s0] (SH, m) (some (.int r), (SH, m')) := by
  intro v5 v6 v7 s0 w1 w2 w4 w8 w9 w10 m r m' h
  unfold f_Texts_work_8_54_362 at h
  refine m_R_sg (by decide) [(.istore 9, 2, 0, 9, 0, 0, 0), (.goto 19, 3, 0, 383, 0, 0, 0)] (by decide +kernel) (show m_sgl X _ _ _ _ _ = some (383, [some (.ref 8), w1, w2, some (.ref 54), w4, some (.int v5), some (.int v6), some (.int v7), (m_cl w8), some (.int s0), w10], [], (SH, m.1, m.2)) from rfl) ?_
  exact ok_Texts_work_8_54_383 X d F _ hk54 _ _ _ _ _ _ _ _ _ _ _ _ h
def f_Texts_work_8_54_381 (F : Nat)  (k54 : Int32 → Int32 → Int32 → mM → Option (Int32 × mM)) (v5 : Int32) (v6 : Int32) (v7 : Int32) (s0 : Int32) (m : mM) : Option (Int32 × mM) := f_Texts_work_8_54_383 F k54 v5 v6 v7 s0 m
theorem ok_Texts_work_8_54_381 (X : mX) (d F : Nat) (k54 : Int32 → Int32 → Int32 → mM → Option (Int32 × mM)) (hk54 : ∀ (v5 : Int32) (v6 : Int32) (v7 : Int32) (w1 : Option Value) (w2 : Option Value) (w4 : Option Value) (w8 : Option Value) (w9 : Option Value) (w10 : Option Value) (m : mM) (r : Int32) (m' : mM), k54 v5 v6 v7 m = some (r, m') → m_R X (d + 0) 47 54 [some (.ref 8), w1, w2, some (.ref 54), w4, some (.int v5), some (.int v6), some (.int v7), w8, w9, w10] [] (SH, m) (some (.int r), (SH, m'))) : ∀ (v5 : Int32) (v6 : Int32) (v7 : Int32) (s0 : Int32) (w1 : Option Value) (w2 : Option Value) (w4 : Option Value) (w8 : Option Value) (w9 : Option Value) (w10 : Option Value) (m : mM) (r : Int32) (m' : mM), f_Texts_work_8_54_381 F k54 v5 v6 v7 s0 m = some (r, m') → m_R X (d + 0) 47 381 [some (.ref 8), w1, w2, some (.ref 54), w4, some (.int v5), some (.int v6), some (.int v7), w8, w9, w10] [.int s0] (SH, m) (some (.int r), (SH, m')) := by
  intro v5 v6 v7 s0 w1 w2 w4 w8 w9 w10 m r m' h
  unfold f_Texts_work_8_54_381 at h
  refine m_R_sg (by decide) [(.istore 9, 2, 0, 9, 0, 0, 0)] (by decide +kernel) (show m_sgl X _ _ _ _ _ = some (383, [some (.ref 8), w1, w2, some (.ref 54), w4, some (.int v5), some (.int v6), some (.int v7), (m_cl w8), some (.int s0), w10], [], (SH, m.1, m.2)) from rfl) ?_
  exact ok_Texts_work_8_54_383 X d F _ hk54 _ _ _ _ _ _ _ _ _ _ _ _ h
def f_Texts_work_8_54_116 (F : Nat)  (k54 : Int32 → Int32 → Int32 → mM → Option (Int32 × mM)) (v5 : Int32) (v6 : Int32) (v7 : Int32) (v8 : Int32) (m : mM) : Option (Int32 × mM) := (if (1 : Int32) ≤ v6 then (if (v6 - (1 : Int32)) < 0 ∨ 121 ≤ (v6 - (1 : Int32)).toNatClampNeg then none else (if v6 < 0 ∨ 121 ≤ v6.toNatClampNeg then none else (if v8 = (-21 : Int32) then (if (m.1 15 v6.toNatClampNeg) = 0 then f_Texts_work_8_54_362 F k54 v5 v6 v7 (0 : Int32) m else f_Texts_work_8_54_362 F k54 v5 v6 v7 ((m.1 15 (v6 - (1 : Int32)).toNatClampNeg) / (m.1 15 v6.toNatClampNeg)) m) else (if v8 = (-20 : Int32) then f_Texts_work_8_54_383 F k54 v5 v6 v7 ((m.1 15 (v6 - (1 : Int32)).toNatClampNeg) * (m.1 15 v6.toNatClampNeg)) m else (if v8 = (-19 : Int32) then f_Texts_work_8_54_383 F k54 v5 v6 v7 ((m.1 15 (v6 - (1 : Int32)).toNatClampNeg) - (m.1 15 v6.toNatClampNeg)) m else (if v8 = (-18 : Int32) then f_Texts_work_8_54_383 F k54 v5 v6 v7 ((m.1 15 (v6 - (1 : Int32)).toNatClampNeg) + (m.1 15 v6.toNatClampNeg)) m else (if v8 = (-17 : Int32) then (if (m.1 15 (v6 - (1 : Int32)).toNatClampNeg) ≤ (m.1 15 v6.toNatClampNeg) then f_Texts_work_8_54_313 F k54 v5 v6 v7 (0 : Int32) m else f_Texts_work_8_54_313 F k54 v5 v6 v7 (1 : Int32) m) else (if v8 = (-16 : Int32) then (if (m.1 15 v6.toNatClampNeg) ≤ (m.1 15 (v6 - (1 : Int32)).toNatClampNeg) then f_Texts_work_8_54_296 F k54 v5 v6 v7 (0 : Int32) m else f_Texts_work_8_54_296 F k54 v5 v6 v7 (1 : Int32) m) else (if v8 = (-15 : Int32) then (if (m.1 15 (v6 - (1 : Int32)).toNatClampNeg) = (m.1 15 v6.toNatClampNeg) then f_Texts_work_8_54_279 F k54 v5 v6 v7 (1 : Int32) m else f_Texts_work_8_54_279 F k54 v5 v6 v7 (0 : Int32) m) else (if v8 = (-14 : Int32) then (if (m.1 15 (v6 - (1 : Int32)).toNatClampNeg) = 0 then f_Texts_work_8_54_261 F k54 v5 v6 v7 m else (if (m.1 15 v6.toNatClampNeg) = 0 then f_Texts_work_8_54_261 F k54 v5 v6 v7 m else f_Texts_work_8_54_262 F k54 v5 v6 v7 (1 : Int32) m)) else (if v8 = (-13 : Int32) then (if (m.1 15 (v6 - (1 : Int32)).toNatClampNeg) = 0 then (if (m.1 15 v6.toNatClampNeg) = 0 then f_Texts_work_8_54_242 F k54 v5 v6 v7 (0 : Int32) m else f_Texts_work_8_54_237 F k54 v5 v6 v7 m) else f_Texts_work_8_54_237 F k54 v5 v6 v7 m) else (if v8 = (-12 : Int32) then f_Texts_work_8_54_383 F k54 v5 v6 v7 (-(m.1 15 (v6 - (1 : Int32)).toNatClampNeg)) m else (if v8 = (-11 : Int32) then (if (m.1 15 (v6 - (1 : Int32)).toNatClampNeg) = 0 then f_Texts_work_8_54_214 F k54 v5 v6 v7 (1 : Int32) m else f_Texts_work_8_54_214 F k54 v5 v6 v7 (0 : Int32) m) else (if (m.1 15 v6.toNatClampNeg) = 0 then f_Texts_work_8_54_381 F k54 v5 v6 v7 (0 : Int32) m else f_Texts_work_8_54_381 F k54 v5 v6 v7 ((m.1 15 (v6 - (1 : Int32)).toNatClampNeg) - (m.1 15 (v6 - (1 : Int32)).toNatClampNeg) / (m.1 15 v6.toNatClampNeg) * (m.1 15 v6.toNatClampNeg)) m)))))))))))))) else some ((0 : Int32), m))
theorem ok_Texts_work_8_54_116 (X : mX) (d F : Nat) (k54 : Int32 → Int32 → Int32 → mM → Option (Int32 × mM)) (hk54 : ∀ (v5 : Int32) (v6 : Int32) (v7 : Int32) (w1 : Option Value) (w2 : Option Value) (w4 : Option Value) (w8 : Option Value) (w9 : Option Value) (w10 : Option Value) (m : mM) (r : Int32) (m' : mM), k54 v5 v6 v7 m = some (r, m') → m_R X (d + 0) 47 54 [some (.ref 8), w1, w2, some (.ref 54), w4, some (.int v5), some (.int v6), some (.int v7), w8, w9, w10] [] (SH, m) (some (.int r), (SH, m'))) : ∀ (v5 : Int32) (v6 : Int32) (v7 : Int32) (v8 : Int32) (w1 : Option Value) (w2 : Option Value) (w4 : Option Value) (w9 : Option Value) (w10 : Option Value) (m : mM) (r : Int32) (m' : mM), f_Texts_work_8_54_116 F k54 v5 v6 v7 v8 m = some (r, m') → m_R X (d + 0) 47 116 [some (.ref 8), w1, w2, some (.ref 54), w4, some (.int v5), some (.int v6), some (.int v7), some (.int v8), w9, w10] [] (SH, m) (some (.int r), (SH, m')) := by
  intro v5 v6 v7 v8 w1 w2 w4 w9 w10 m r m' h
  unfold f_Texts_work_8_54_116 at h
  refine m_R_sg (by decide) [(.iload 6, 2, 0, 6, 0, 0, 0), (.iconst 1, 1, 0, 1, 0, 0, 0)] (by decide +kernel) (show m_sgl X _ _ _ _ _ = some (119, [some (.ref 8), w1, w2, some (.ref 54), w4, some (.int v5), some (.int v6), some (.int v7), some (.int v8), w9, w10], [.int (1 : Int32), .int v6], (SH, m.1, m.2)) from rfl) ?_
  rcases m_ite h with ⟨c190, h⟩ | ⟨c190, h⟩
  · refine m_R_1 (by decide) (m_opb_of (ins := .if_icmp .ge 5) (len := 3) (tag := 0) (a := 124) (b := 0) (c := 0) (q := 0) (by decide +kernel)) (if_pos c190) ?_
    refine m_R_sg (by decide) [(.aload_n 0, 1, 0, 0, 0, 0, 0), (.getfield 30, 3, 0, 8, 6, 3, 203), (.iload 6, 2, 0, 6, 0, 0, 0), (.iconst 1, 1, 0, 1, 0, 0, 0), (.isub, 1, 0, 0, 0, 0, 0)] (by decide +kernel) (show m_sgl X _ _ _ _ _ = some (132, [some (.ref 8), w1, w2, some (.ref 54), w4, some (.int v5), some (.int v6), some (.int v7), some (.int v8), w9, w10], [.int (v6 - (1 : Int32)), .ref 15], (SH, m.1, m.2)) from rfl) ?_
    obtain ⟨c191, h⟩ := m_ite_n h
    refine m_R_1 (by decide) (m_opb_of (ins := .iaload) (len := 1) (tag := 0) (a := 0) (b := 0) (c := 0) (q := 0) (by decide +kernel)) (m_s_iald sh_15 (by decide) c191) ?_
    refine m_R_sg (by decide) [(.istore 9, 2, 0, 9, 0, 0, 0), (.aload_n 0, 1, 0, 0, 0, 0, 0), (.getfield 30, 3, 0, 8, 6, 3, 203), (.iload 6, 2, 0, 6, 0, 0, 0)] (by decide +kernel) (show m_sgl X _ _ _ _ _ = some (141, [some (.ref 8), w1, w2, some (.ref 54), w4, some (.int v5), some (.int v6), some (.int v7), some (.int v8), some (.int (m.1 15 (v6 - (1 : Int32)).toNatClampNeg)), w10], [.int v6, .ref 15], (SH, m.1, m.2)) from rfl) ?_
    obtain ⟨c192, h⟩ := m_ite_n h
    refine m_R_1 (by decide) (m_opb_of (ins := .iaload) (len := 1) (tag := 0) (a := 0) (b := 0) (c := 0) (q := 0) (by decide +kernel)) (m_s_iald sh_15 (by decide) c192) ?_
    refine m_R_sg (by decide) [(.istore 10, 2, 0, 10, 0, 0, 0), (.iload 8, 2, 0, 8, 0, 0, 0)] (by decide +kernel) (show m_sgl X _ _ _ _ _ = some (146, [some (.ref 8), w1, w2, some (.ref 54), w4, some (.int v5), some (.int v6), some (.int v7), some (.int v8), some (.int (m.1 15 (v6 - (1 : Int32)).toNatClampNeg)), some (.int (m.1 15 v6.toNatClampNeg))], [.int v8], (SH, m.1, m.2)) from rfl) ?_
    rcases m_ite h with ⟨c0, h⟩ | ⟨d0, h⟩
    · refine m_R_1 (by decide) (m_opb_of (ins := .tableswitch 221 (-21) (-11) #[202, 192, 182, 172, 155, 138, 121, 101, 81, 73, 58]) (len := 58) (tag := 0) (a := 0) (b := 0) (c := 0) (q := 0) (by decide +kernel)) (m_s_sw (by rw [c0]; decide) (by rw [c0]; rfl) (by decide) (t := 348) rfl) ?_
      refine m_R_sg (by decide) [(.iload 10, 2, 0, 10, 0, 0, 0)] (by decide +kernel) (show m_sgl X _ _ _ _ _ = some (350, [some (.ref 8), w1, w2, some (.ref 54), w4, some (.int v5), some (.int v6), some (.int v7), some (.int v8), some (.int (m.1 15 (v6 - (1 : Int32)).toNatClampNeg)), some (.int (m.1 15 v6.toNatClampNeg))], [.int (m.1 15 v6.toNatClampNeg)], (SH, m.1, m.2)) from rfl) ?_
      rcases m_ite h with ⟨c193, h⟩ | ⟨c193, h⟩
      · refine m_R_1 (by decide) (m_opb_of (ins := .ifCond .ne 7) (len := 3) (tag := 0) (a := 357) (b := 0) (c := 0) (q := 0) (by decide +kernel)) (if_pos c193) ?_
        refine m_R_sg (by decide) [(.iconst 0, 1, 0, 0, 0, 0, 0), (.goto 8, 3, 0, 362, 0, 0, 0)] (by decide +kernel) (show m_sgl X _ _ _ _ _ = some (362, [some (.ref 8), w1, w2, some (.ref 54), w4, some (.int v5), some (.int v6), some (.int v7), some (.int v8), some (.int (m.1 15 (v6 - (1 : Int32)).toNatClampNeg)), some (.int (m.1 15 v6.toNatClampNeg))], [.int (0 : Int32)], (SH, m.1, m.2)) from rfl) ?_
        exact ok_Texts_work_8_54_362 X d F _ hk54 _ _ _ _ _ _ _ _ _ _ _ _ _ h
      · refine m_R_1 (by decide) (m_opb_of (ins := .ifCond .ne 7) (len := 3) (tag := 0) (a := 357) (b := 0) (c := 0) (q := 0) (by decide +kernel)) (if_neg c193) ?_
        refine m_R_sg (by decide) [(.iload 9, 2, 0, 9, 0, 0, 0), (.iload 10, 2, 0, 10, 0, 0, 0)] (by decide +kernel) (show m_sgl X _ _ _ _ _ = some (361, [some (.ref 8), w1, w2, some (.ref 54), w4, some (.int v5), some (.int v6), some (.int v7), some (.int v8), some (.int (m.1 15 (v6 - (1 : Int32)).toNatClampNeg)), some (.int (m.1 15 v6.toNatClampNeg))], [.int (m.1 15 v6.toNatClampNeg), .int (m.1 15 (v6 - (1 : Int32)).toNatClampNeg)], (SH, m.1, m.2)) from rfl) ?_
        refine m_R_1 (by decide) (m_opb_of (ins := .idiv) (len := 1) (tag := 0) (a := 0) (b := 0) (c := 0) (q := 0) (by decide +kernel)) (m_s_idiv c193) ?_
        exact ok_Texts_work_8_54_362 X d F _ hk54 _ _ _ _ _ _ _ _ _ _ _ _ _ h
    rcases m_ite h with ⟨c0, h⟩ | ⟨d1, h⟩
    · refine m_R_1 (by decide) (m_opb_of (ins := .tableswitch 221 (-21) (-11) #[202, 192, 182, 172, 155, 138, 121, 101, 81, 73, 58]) (len := 58) (tag := 0) (a := 0) (b := 0) (c := 0) (q := 0) (by decide +kernel)) (m_s_sw (by rw [c0]; decide) (by rw [c0]; rfl) (by decide) (t := 338) rfl) ?_
      refine m_R_sg (by decide) [(.iload 9, 2, 0, 9, 0, 0, 0), (.iload 10, 2, 0, 10, 0, 0, 0), (.imul, 1, 0, 0, 0, 0, 0), (.istore 9, 2, 0, 9, 0, 0, 0), (.goto 38, 3, 0, 383, 0, 0, 0)] (by decide +kernel) (show m_sgl X _ _ _ _ _ = some (383, [some (.ref 8), w1, w2, some (.ref 54), w4, some (.int v5), some (.int v6), some (.int v7), some (.int v8), some (.int ((m.1 15 (v6 - (1 : Int32)).toNatClampNeg) * (m.1 15 v6.toNatClampNeg))), some (.int (m.1 15 v6.toNatClampNeg))], [], (SH, m.1, m.2)) from rfl) ?_
      exact ok_Texts_work_8_54_383 X d F _ hk54 _ _ _ _ _ _ _ _ _ _ _ _ h
    rcases m_ite h with ⟨c0, h⟩ | ⟨d2, h⟩
    · refine m_R_1 (by decide) (m_opb_of (ins := .tableswitch 221 (-21) (-11) #[202, 192, 182, 172, 155, 138, 121, 101, 81, 73, 58]) (len := 58) (tag := 0) (a := 0) (b := 0) (c := 0) (q := 0) (by decide +kernel)) (m_s_sw (by rw [c0]; decide) (by rw [c0]; rfl) (by decide) (t := 328) rfl) ?_
      refine m_R_sg (by decide) [(.iload 9, 2, 0, 9, 0, 0, 0), (.iload 10, 2, 0, 10, 0, 0, 0), (.isub, 1, 0, 0, 0, 0, 0), (.istore 9, 2, 0, 9, 0, 0, 0), (.goto 48, 3, 0, 383, 0, 0, 0)] (by decide +kernel) (show m_sgl X _ _ _ _ _ = some (383, [some (.ref 8), w1, w2, some (.ref 54), w4, some (.int v5), some (.int v6), some (.int v7), some (.int v8), some (.int ((m.1 15 (v6 - (1 : Int32)).toNatClampNeg) - (m.1 15 v6.toNatClampNeg))), some (.int (m.1 15 v6.toNatClampNeg))], [], (SH, m.1, m.2)) from rfl) ?_
      exact ok_Texts_work_8_54_383 X d F _ hk54 _ _ _ _ _ _ _ _ _ _ _ _ h
    rcases m_ite h with ⟨c0, h⟩ | ⟨d3, h⟩
    · refine m_R_1 (by decide) (m_opb_of (ins := .tableswitch 221 (-21) (-11) #[202, 192, 182, 172, 155, 138, 121, 101, 81, 73, 58]) (len := 58) (tag := 0) (a := 0) (b := 0) (c := 0) (q := 0) (by decide +kernel)) (m_s_sw (by rw [c0]; decide) (by rw [c0]; rfl) (by decide) (t := 318) rfl) ?_
      refine m_R_sg (by decide) [(.iload 9, 2, 0, 9, 0, 0, 0), (.iload 10, 2, 0, 10, 0, 0, 0), (.iadd, 1, 0, 0, 0, 0, 0), (.istore 9, 2, 0, 9, 0, 0, 0), (.goto 58, 3, 0, 383, 0, 0, 0)] (by decide +kernel) (show m_sgl X _ _ _ _ _ = some (383, [some (.ref 8), w1, w2, some (.ref 54), w4, some (.int v5), some (.int v6), some (.int v7), some (.int v8), some (.int ((m.1 15 (v6 - (1 : Int32)).toNatClampNeg) + (m.1 15 v6.toNatClampNeg))), some (.int (m.1 15 v6.toNatClampNeg))], [], (SH, m.1, m.2)) from rfl) ?_
      exact ok_Texts_work_8_54_383 X d F _ hk54 _ _ _ _ _ _ _ _ _ _ _ _ h
    rcases m_ite h with ⟨c0, h⟩ | ⟨d4, h⟩
    · refine m_R_1 (by decide) (m_opb_of (ins := .tableswitch 221 (-21) (-11) #[202, 192, 182, 172, 155, 138, 121, 101, 81, 73, 58]) (len := 58) (tag := 0) (a := 0) (b := 0) (c := 0) (q := 0) (by decide +kernel)) (m_s_sw (by rw [c0]; decide) (by rw [c0]; rfl) (by decide) (t := 301) rfl) ?_
      refine m_R_sg (by decide) [(.iload 9, 2, 0, 9, 0, 0, 0), (.iload 10, 2, 0, 10, 0, 0, 0)] (by decide +kernel) (show m_sgl X _ _ _ _ _ = some (305, [some (.ref 8), w1, w2, some (.ref 54), w4, some (.int v5), some (.int v6), some (.int v7), some (.int v8), some (.int (m.1 15 (v6 - (1 : Int32)).toNatClampNeg)), some (.int (m.1 15 v6.toNatClampNeg))], [.int (m.1 15 v6.toNatClampNeg), .int (m.1 15 (v6 - (1 : Int32)).toNatClampNeg)], (SH, m.1, m.2)) from rfl) ?_
      rcases m_ite h with ⟨c194, h⟩ | ⟨c194, h⟩
      · refine m_R_1 (by decide) (m_opb_of (ins := .if_icmp .le 7) (len := 3) (tag := 0) (a := 312) (b := 0) (c := 0) (q := 0) (by decide +kernel)) (if_pos c194) ?_
        refine m_R_sg (by decide) [(.iconst 0, 1, 0, 0, 0, 0, 0)] (by decide +kernel) (show m_sgl X _ _ _ _ _ = some (313, [some (.ref 8), w1, w2, some (.ref 54), w4, some (.int v5), some (.int v6), some (.int v7), some (.int v8), some (.int (m.1 15 (v6 - (1 : Int32)).toNatClampNeg)), some (.int (m.1 15 v6.toNatClampNeg))], [.int (0 : Int32)], (SH, m.1, m.2)) from rfl) ?_
        exact ok_Texts_work_8_54_313 X d F _ hk54 _ _ _ _ _ _ _ _ _ _ _ _ _ h
      · refine m_R_1 (by decide) (m_opb_of (ins := .if_icmp .le 7) (len := 3) (tag := 0) (a := 312) (b := 0) (c := 0) (q := 0) (by decide +kernel)) (if_neg c194) ?_
        refine m_R_sg (by decide) [(.iconst 1, 1, 0, 1, 0, 0, 0), (.goto 4, 3, 0, 313, 0, 0, 0)] (by decide +kernel) (show m_sgl X _ _ _ _ _ = some (313, [some (.ref 8), w1, w2, some (.ref 54), w4, some (.int v5), some (.int v6), some (.int v7), some (.int v8), some (.int (m.1 15 (v6 - (1 : Int32)).toNatClampNeg)), some (.int (m.1 15 v6.toNatClampNeg))], [.int (1 : Int32)], (SH, m.1, m.2)) from rfl) ?_
        exact ok_Texts_work_8_54_313 X d F _ hk54 _ _ _ _ _ _ _ _ _ _ _ _ _ h
    rcases m_ite h with ⟨c0, h⟩ | ⟨d5, h⟩
    · refine m_R_1 (by decide) (m_opb_of (ins := .tableswitch 221 (-21) (-11) #[202, 192, 182, 172, 155, 138, 121, 101, 81, 73, 58]) (len := 58) (tag := 0) (a := 0) (b := 0) (c := 0) (q := 0) (by decide +kernel)) (m_s_sw (by rw [c0]; decide) (by rw [c0]; rfl) (by decide) (t := 284) rfl) ?_
      refine m_R_sg (by decide) [(.iload 9, 2, 0, 9, 0, 0, 0), (.iload 10, 2, 0, 10, 0, 0, 0)] (by decide +kernel) (show m_sgl X _ _ _ _ _ = some (288, [some (.ref 8), w1, w2, some (.ref 54), w4, some (.int v5), some (.int v6), some (.int v7), some (.int v8), some (.int (m.1 15 (v6 - (1 : Int32)).toNatClampNeg)), some (.int (m.1 15 v6.toNatClampNeg))], [.int (m.1 15 v6.toNatClampNeg), .int (m.1 15 (v6 - (1 : Int32)).toNatClampNeg)], (SH, m.1, m.2)) from rfl) ?_
      rcases m_ite h with ⟨c195, h⟩ | ⟨c195, h⟩
      · refine m_R_1 (by decide) (m_opb_of (ins := .if_icmp .ge 7) (len := 3) (tag := 0) (a := 295) (b := 0) (c := 0) (q := 0) (by decide +kernel)) (if_pos c195) ?_
        refine m_R_sg (by decide) [(.iconst 0, 1, 0, 0, 0, 0, 0)] (by decide +kernel) (show m_sgl X _ _ _ _ _ = some (296, [some (.ref 8), w1, w2, some (.ref 54), w4, some (.int v5), some (.int v6), some (.int v7), some (.int v8), some (.int (m.1 15 (v6 - (1 : Int32)).toNatClampNeg)), some (.int (m.1 15 v6.toNatClampNeg))], [.int (0 : Int32)], (SH, m.1, m.2)) from rfl) ?_
        exact ok_Texts_work_8_54_296 X d F _ hk54 _ _ _ _ _ _ _ _ _ _ _ _ _ h
      · refine m_R_1 (by decide) (m_opb_of (ins := .if_icmp .ge 7) (len := 3) (tag := 0) (a := 295) (b := 0) (c := 0) (q := 0) (by decide +kernel)) (if_neg c195) ?_
        refine m_R_sg (by decide) [(.iconst 1, 1, 0, 1, 0, 0, 0), (.goto 4, 3, 0, 296, 0, 0, 0)] (by decide +kernel) (show m_sgl X _ _ _ _ _ = some (296, [some (.ref 8), w1, w2, some (.ref 54), w4, some (.int v5), some (.int v6), some (.int v7), some (.int v8), some (.int (m.1 15 (v6 - (1 : Int32)).toNatClampNeg)), some (.int (m.1 15 v6.toNatClampNeg))], [.int (1 : Int32)], (SH, m.1, m.2)) from rfl) ?_
        exact ok_Texts_work_8_54_296 X d F _ hk54 _ _ _ _ _ _ _ _ _ _ _ _ _ h
    rcases m_ite h with ⟨c0, h⟩ | ⟨d6, h⟩
    · refine m_R_1 (by decide) (m_opb_of (ins := .tableswitch 221 (-21) (-11) #[202, 192, 182, 172, 155, 138, 121, 101, 81, 73, 58]) (len := 58) (tag := 0) (a := 0) (b := 0) (c := 0) (q := 0) (by decide +kernel)) (m_s_sw (by rw [c0]; decide) (by rw [c0]; rfl) (by decide) (t := 267) rfl) ?_
      refine m_R_sg (by decide) [(.iload 9, 2, 0, 9, 0, 0, 0), (.iload 10, 2, 0, 10, 0, 0, 0)] (by decide +kernel) (show m_sgl X _ _ _ _ _ = some (271, [some (.ref 8), w1, w2, some (.ref 54), w4, some (.int v5), some (.int v6), some (.int v7), some (.int v8), some (.int (m.1 15 (v6 - (1 : Int32)).toNatClampNeg)), some (.int (m.1 15 v6.toNatClampNeg))], [.int (m.1 15 v6.toNatClampNeg), .int (m.1 15 (v6 - (1 : Int32)).toNatClampNeg)], (SH, m.1, m.2)) from rfl) ?_
      rcases m_ite h with ⟨c196, h⟩ | ⟨c196, h⟩
      · refine m_R_1 (by decide) (m_opb_of (ins := .if_icmp .ne 7) (len := 3) (tag := 0) (a := 278) (b := 0) (c := 0) (q := 0) (by decide +kernel)) (if_pos c196) ?_
        refine m_R_sg (by decide) [(.iconst 1, 1, 0, 1, 0, 0, 0), (.goto 4, 3, 0, 279, 0, 0, 0)] (by decide +kernel) (show m_sgl X _ _ _ _ _ = some (279, [some (.ref 8), w1, w2, some (.ref 54), w4, some (.int v5), some (.int v6), some (.int v7), some (.int v8), some (.int (m.1 15 (v6 - (1 : Int32)).toNatClampNeg)), some (.int (m.1 15 v6.toNatClampNeg))], [.int (1 : Int32)], (SH, m.1, m.2)) from rfl) ?_
        exact ok_Texts_work_8_54_279 X d F _ hk54 _ _ _ _ _ _ _ _ _ _ _ _ _ h
      · refine m_R_1 (by decide) (m_opb_of (ins := .if_icmp .ne 7) (len := 3) (tag := 0) (a := 278) (b := 0) (c := 0) (q := 0) (by decide +kernel)) (if_neg c196) ?_
        refine m_R_sg (by decide) [(.iconst 0, 1, 0, 0, 0, 0, 0)] (by decide +kernel) (show m_sgl X _ _ _ _ _ = some (279, [some (.ref 8), w1, w2, some (.ref 54), w4, some (.int v5), some (.int v6), some (.int v7), some (.int v8), some (.int (m.1 15 (v6 - (1 : Int32)).toNatClampNeg)), some (.int (m.1 15 v6.toNatClampNeg))], [.int (0 : Int32)], (SH, m.1, m.2)) from rfl) ?_
        exact ok_Texts_work_8_54_279 X d F _ hk54 _ _ _ _ _ _ _ _ _ _ _ _ _ h
    rcases m_ite h with ⟨c0, h⟩ | ⟨d7, h⟩
    · refine m_R_1 (by decide) (m_opb_of (ins := .tableswitch 221 (-21) (-11) #[202, 192, 182, 172, 155, 138, 121, 101, 81, 73, 58]) (len := 58) (tag := 0) (a := 0) (b := 0) (c := 0) (q := 0) (by decide +kernel)) (m_s_sw (by rw [c0]; decide) (by rw [c0]; rfl) (by decide) (t := 247) rfl) ?_
      refine m_R_sg (by decide) [(.iload 9, 2, 0, 9, 0, 0, 0)] (by decide +kernel) (show m_sgl X _ _ _ _ _ = some (249, [some (.ref 8), w1, w2, some (.ref 54), w4, some (.int v5), some (.int v6), some (.int v7), some (.int v8), some (.int (m.1 15 (v6 - (1 : Int32)).toNatClampNeg)), some (.int (m.1 15 v6.toNatClampNeg))], [.int (m.1 15 (v6 - (1 : Int32)).toNatClampNeg)], (SH, m.1, m.2)) from rfl) ?_
      rcases m_ite h with ⟨c197, h⟩ | ⟨c197, h⟩
      · refine m_R_1 (by decide) (m_opb_of (ins := .ifCond .eq 12) (len := 3) (tag := 0) (a := 261) (b := 0) (c := 0) (q := 0) (by decide +kernel)) (if_pos c197) ?_
        exact ok_Texts_work_8_54_261 X d F _ hk54 _ _ _ _ _ _ _ _ _ _ _ _ h
      · refine m_R_1 (by decide) (m_opb_of (ins := .ifCond .eq 12) (len := 3) (tag := 0) (a := 261) (b := 0) (c := 0) (q := 0) (by decide +kernel)) (if_neg c197) ?_
        refine m_R_sg (by decide) [(.iload 10, 2, 0, 10, 0, 0, 0)] (by decide +kernel) (show m_sgl X _ _ _ _ _ = some (254, [some (.ref 8), w1, w2, some (.ref 54), w4, some (.int v5), some (.int v6), some (.int v7), some (.int v8), some (.int (m.1 15 (v6 - (1 : Int32)).toNatClampNeg)), some (.int (m.1 15 v6.toNatClampNeg))], [.int (m.1 15 v6.toNatClampNeg)], (SH, m.1, m.2)) from rfl) ?_
        rcases m_ite h with ⟨c198, h⟩ | ⟨c198, h⟩
        · refine m_R_1 (by decide) (m_opb_of (ins := .ifCond .eq 7) (len := 3) (tag := 0) (a := 261) (b := 0) (c := 0) (q := 0) (by decide +kernel)) (if_pos c198) ?_
          exact ok_Texts_work_8_54_261 X d F _ hk54 _ _ _ _ _ _ _ _ _ _ _ _ h
        · refine m_R_1 (by decide) (m_opb_of (ins := .ifCond .eq 7) (len := 3) (tag := 0) (a := 261) (b := 0) (c := 0) (q := 0) (by decide +kernel)) (if_neg c198) ?_
          refine m_R_sg (by decide) [(.iconst 1, 1, 0, 1, 0, 0, 0), (.goto 4, 3, 0, 262, 0, 0, 0)] (by decide +kernel) (show m_sgl X _ _ _ _ _ = some (262, [some (.ref 8), w1, w2, some (.ref 54), w4, some (.int v5), some (.int v6), some (.int v7), some (.int v8), some (.int (m.1 15 (v6 - (1 : Int32)).toNatClampNeg)), some (.int (m.1 15 v6.toNatClampNeg))], [.int (1 : Int32)], (SH, m.1, m.2)) from rfl) ?_
          exact ok_Texts_work_8_54_262 X d F _ hk54 _ _ _ _ _ _ _ _ _ _ _ _ _ h
    rcases m_ite h with ⟨c0, h⟩ | ⟨d8, h⟩
    · refine m_R_1 (by decide) (m_opb_of (ins := .tableswitch 221 (-21) (-11) #[202, 192, 182, 172, 155, 138, 121, 101, 81, 73, 58]) (len := 58) (tag := 0) (a := 0) (b := 0) (c := 0) (q := 0) (by decide +kernel)) (m_s_sw (by rw [c0]; decide) (by rw [c0]; rfl) (by decide) (t := 227) rfl) ?_
      refine m_R_sg (by decide) [(.iload 9, 2, 0, 9, 0, 0, 0)] (by decide +kernel) (show m_sgl X _ _ _ _ _ = some (229, [some (.ref 8), w1, w2, some (.ref 54), w4, some (.int v5), some (.int v6), some (.int v7), some (.int v8), some (.int (m.1 15 (v6 - (1 : Int32)).toNatClampNeg)), some (.int (m.1 15 v6.toNatClampNeg))], [.int (m.1 15 (v6 - (1 : Int32)).toNatClampNeg)], (SH, m.1, m.2)) from rfl) ?_
      rcases m_ite h with ⟨c199, h⟩ | ⟨c199, h⟩
      · refine m_R_1 (by decide) (m_opb_of (ins := .ifCond .ne 8) (len := 3) (tag := 0) (a := 237) (b := 0) (c := 0) (q := 0) (by decide +kernel)) (if_pos c199) ?_
        refine m_R_sg (by decide) [(.iload 10, 2, 0, 10, 0, 0, 0)] (by decide +kernel) (show m_sgl X _ _ _ _ _ = some (234, [some (.ref 8), w1, w2, some (.ref 54), w4, some (.int v5), some (.int v6), some (.int v7), some (.int v8), some (.int (m.1 15 (v6 - (1 : Int32)).toNatClampNeg)), some (.int (m.1 15 v6.toNatClampNeg))], [.int (m.1 15 v6.toNatClampNeg)], (SH, m.1, m.2)) from rfl) ?_
        rcases m_ite h with ⟨c200, h⟩ | ⟨c200, h⟩
        · refine m_R_1 (by decide) (m_opb_of (ins := .ifCond .eq 7) (len := 3) (tag := 0) (a := 241) (b := 0) (c := 0) (q := 0) (by decide +kernel)) (if_pos c200) ?_
          refine m_R_sg (by decide) [(.iconst 0, 1, 0, 0, 0, 0, 0)] (by decide +kernel) (show m_sgl X _ _ _ _ _ = some (242, [some (.ref 8), w1, w2, some (.ref 54), w4, some (.int v5), some (.int v6), some (.int v7), some (.int v8), some (.int (m.1 15 (v6 - (1 : Int32)).toNatClampNeg)), some (.int (m.1 15 v6.toNatClampNeg))], [.int (0 : Int32)], (SH, m.1, m.2)) from rfl) ?_
          exact ok_Texts_work_8_54_242 X d F _ hk54 _ _ _ _ _ _ _ _ _ _ _ _ _ h
        · refine m_R_1 (by decide) (m_opb_of (ins := .ifCond .eq 7) (len := 3) (tag := 0) (a := 241) (b := 0) (c := 0) (q := 0) (by decide +kernel)) (if_neg c200) ?_
          exact ok_Texts_work_8_54_237 X d F _ hk54 _ _ _ _ _ _ _ _ _ _ _ _ h
      · refine m_R_1 (by decide) (m_opb_of (ins := .ifCond .ne 8) (len := 3) (tag := 0) (a := 237) (b := 0) (c := 0) (q := 0) (by decide +kernel)) (if_neg c199) ?_
        exact ok_Texts_work_8_54_237 X d F _ hk54 _ _ _ _ _ _ _ _ _ _ _ _ h
    rcases m_ite h with ⟨c0, h⟩ | ⟨d9, h⟩
    · refine m_R_1 (by decide) (m_opb_of (ins := .tableswitch 221 (-21) (-11) #[202, 192, 182, 172, 155, 138, 121, 101, 81, 73, 58]) (len := 58) (tag := 0) (a := 0) (b := 0) (c := 0) (q := 0) (by decide +kernel)) (m_s_sw (by rw [c0]; decide) (by rw [c0]; rfl) (by decide) (t := 219) rfl) ?_
      refine m_R_sg (by decide) [(.iload 9, 2, 0, 9, 0, 0, 0), (.ineg, 1, 0, 0, 0, 0, 0), (.istore 9, 2, 0, 9, 0, 0, 0), (.goto 159, 3, 0, 383, 0, 0, 0)] (by decide +kernel) (show m_sgl X _ _ _ _ _ = some (383, [some (.ref 8), w1, w2, some (.ref 54), w4, some (.int v5), some (.int v6), some (.int v7), some (.int v8), some (.int (-(m.1 15 (v6 - (1 : Int32)).toNatClampNeg))), some (.int (m.1 15 v6.toNatClampNeg))], [], (SH, m.1, m.2)) from rfl) ?_
      exact ok_Texts_work_8_54_383 X d F _ hk54 _ _ _ _ _ _ _ _ _ _ _ _ h
    rcases m_ite h with ⟨c0, h⟩ | ⟨d10, h⟩
    · refine m_R_1 (by decide) (m_opb_of (ins := .tableswitch 221 (-21) (-11) #[202, 192, 182, 172, 155, 138, 121, 101, 81, 73, 58]) (len := 58) (tag := 0) (a := 0) (b := 0) (c := 0) (q := 0) (by decide +kernel)) (m_s_sw (by rw [c0]; decide) (by rw [c0]; rfl) (by decide) (t := 204) rfl) ?_
      refine m_R_sg (by decide) [(.iload 9, 2, 0, 9, 0, 0, 0)] (by decide +kernel) (show m_sgl X _ _ _ _ _ = some (206, [some (.ref 8), w1, w2, some (.ref 54), w4, some (.int v5), some (.int v6), some (.int v7), some (.int v8), some (.int (m.1 15 (v6 - (1 : Int32)).toNatClampNeg)), some (.int (m.1 15 v6.toNatClampNeg))], [.int (m.1 15 (v6 - (1 : Int32)).toNatClampNeg)], (SH, m.1, m.2)) from rfl) ?_
      rcases m_ite h with ⟨c201, h⟩ | ⟨c201, h⟩
      · refine m_R_1 (by decide) (m_opb_of (ins := .ifCond .ne 7) (len := 3) (tag := 0) (a := 213) (b := 0) (c := 0) (q := 0) (by decide +kernel)) (if_pos c201) ?_
        refine m_R_sg (by decide) [(.iconst 1, 1, 0, 1, 0, 0, 0), (.goto 4, 3, 0, 214, 0, 0, 0)] (by decide +kernel) (show m_sgl X _ _ _ _ _ = some (214, [some (.ref 8), w1, w2, some (.ref 54), w4, some (.int v5), some (.int v6), some (.int v7), some (.int v8), some (.int (m.1 15 (v6 - (1 : Int32)).toNatClampNeg)), some (.int (m.1 15 v6.toNatClampNeg))], [.int (1 : Int32)], (SH, m.1, m.2)) from rfl) ?_
        exact ok_Texts_work_8_54_214 X d F _ hk54 _ _ _ _ _ _ _ _ _ _ _ _ _ h
      · refine m_R_1 (by decide) (m_opb_of (ins := .ifCond .ne 7) (len := 3) (tag := 0) (a := 213) (b := 0) (c := 0) (q := 0) (by decide +kernel)) (if_neg c201) ?_
        refine m_R_sg (by decide) [(.iconst 0, 1, 0, 0, 0, 0, 0)] (by decide +kernel) (show m_sgl X _ _ _ _ _ = some (214, [some (.ref 8), w1, w2, some (.ref 54), w4, some (.int v5), some (.int v6), some (.int v7), some (.int v8), some (.int (m.1 15 (v6 - (1 : Int32)).toNatClampNeg)), some (.int (m.1 15 v6.toNatClampNeg))], [.int (0 : Int32)], (SH, m.1, m.2)) from rfl) ?_
        exact ok_Texts_work_8_54_214 X d F _ hk54 _ _ _ _ _ _ _ _ _ _ _ _ _ h
    refine m_R_1 (by decide) (m_opb_of (ins := .tableswitch 221 (-21) (-11) #[202, 192, 182, 172, 155, 138, 121, 101, 81, 73, 58]) (len := 58) (tag := 0) (a := 0) (b := 0) (c := 0) (q := 0) (by decide +kernel)) (m_s_swd (m_swx 11 (fun j hj => match j, hj with | 0, _ => fun e => d0 (e.trans (by decide)) | 1, _ => fun e => d1 (e.trans (by decide)) | 2, _ => fun e => d2 (e.trans (by decide)) | 3, _ => fun e => d3 (e.trans (by decide)) | 4, _ => fun e => d4 (e.trans (by decide)) | 5, _ => fun e => d5 (e.trans (by decide)) | 6, _ => fun e => d6 (e.trans (by decide)) | 7, _ => fun e => d7 (e.trans (by decide)) | 8, _ => fun e => d8 (e.trans (by decide)) | 9, _ => fun e => d9 (e.trans (by decide)) | 10, _ => fun e => d10 (e.trans (by decide)) | j + 11, hj => absurd hj (by omega))) (by decide) (t := 367) rfl) ?_
    refine m_R_sg (by decide) [(.iload 10, 2, 0, 10, 0, 0, 0)] (by decide +kernel) (show m_sgl X _ _ _ _ _ = some (369, [some (.ref 8), w1, w2, some (.ref 54), w4, some (.int v5), some (.int v6), some (.int v7), some (.int v8), some (.int (m.1 15 (v6 - (1 : Int32)).toNatClampNeg)), some (.int (m.1 15 v6.toNatClampNeg))], [.int (m.1 15 v6.toNatClampNeg)], (SH, m.1, m.2)) from rfl) ?_
    rcases m_ite h with ⟨c202, h⟩ | ⟨c202, h⟩
    · refine m_R_1 (by decide) (m_opb_of (ins := .ifCond .ne 7) (len := 3) (tag := 0) (a := 376) (b := 0) (c := 0) (q := 0) (by decide +kernel)) (if_pos c202) ?_
      refine m_R_sg (by decide) [(.iconst 0, 1, 0, 0, 0, 0, 0), (.goto 8, 3, 0, 381, 0, 0, 0)] (by decide +kernel) (show m_sgl X _ _ _ _ _ = some (381, [some (.ref 8), w1, w2, some (.ref 54), w4, some (.int v5), some (.int v6), some (.int v7), some (.int v8), some (.int (m.1 15 (v6 - (1 : Int32)).toNatClampNeg)), some (.int (m.1 15 v6.toNatClampNeg))], [.int (0 : Int32)], (SH, m.1, m.2)) from rfl) ?_
      exact ok_Texts_work_8_54_381 X d F _ hk54 _ _ _ _ _ _ _ _ _ _ _ _ _ h
    · refine m_R_1 (by decide) (m_opb_of (ins := .ifCond .ne 7) (len := 3) (tag := 0) (a := 376) (b := 0) (c := 0) (q := 0) (by decide +kernel)) (if_neg c202) ?_
      refine m_R_sg (by decide) [(.iload 9, 2, 0, 9, 0, 0, 0), (.iload 10, 2, 0, 10, 0, 0, 0)] (by decide +kernel) (show m_sgl X _ _ _ _ _ = some (380, [some (.ref 8), w1, w2, some (.ref 54), w4, some (.int v5), some (.int v6), some (.int v7), some (.int v8), some (.int (m.1 15 (v6 - (1 : Int32)).toNatClampNeg)), some (.int (m.1 15 v6.toNatClampNeg))], [.int (m.1 15 v6.toNatClampNeg), .int (m.1 15 (v6 - (1 : Int32)).toNatClampNeg)], (SH, m.1, m.2)) from rfl) ?_
      refine m_R_1 (by decide) (m_opb_of (ins := .irem) (len := 1) (tag := 0) (a := 0) (b := 0) (c := 0) (q := 0) (by decide +kernel)) (m_s_irem c202) ?_
      exact ok_Texts_work_8_54_381 X d F _ hk54 _ _ _ _ _ _ _ _ _ _ _ _ _ h
  · refine m_R_1 (by decide) (m_opb_of (ins := .if_icmp .ge 5) (len := 3) (tag := 0) (a := 124) (b := 0) (c := 0) (q := 0) (by decide +kernel)) (if_neg c190) ?_
    refine m_R_sg (by decide) [(.iconst 0, 1, 0, 0, 0, 0, 0)] (by decide +kernel) (show m_sgl X _ _ _ _ _ = some (123, [some (.ref 8), w1, w2, some (.ref 54), w4, some (.int v5), some (.int v6), some (.int v7), some (.int v8), w9, w10], [.int (0 : Int32)], (SH, m.1, m.2)) from rfl) ?_
    obtain ⟨rfl, rfl⟩ := m_some h
    exact m_R_iret (by decide) (m_opb_of (ins := .ireturn) (len := 1) (tag := 1) (a := 0) (b := 0) (c := 0) (q := 0) (by decide +kernel)) (Or.inl rfl)
def f_Texts_work_8_54_54 (F : Nat)   : Nat → Int32 → Int32 → Int32 → mM → Option (Int32 × mM)
  | 0, _, _, _, _ => none
  | n + 1, v5, v6, v7, m => (if v5 ≤ v7 then some ((m.1 15 (0 : Int32).toNatClampNeg), m) else (if v7 < 0 ∨ 1440 ≤ v7.toNatClampNeg then none else (if (m.1 14 v7.toNatClampNeg) ≤ (-11 : Int32) then (if (-13 : Int32) < (m.1 14 v7.toNatClampNeg) then f_Texts_work_8_54_116 F (f_Texts_work_8_54_54 F n) v5 v6 v7 (m.1 14 v7.toNatClampNeg) m else f_Texts_work_8_54_116 F (f_Texts_work_8_54_54 F n) v5 (v6 + (-1 : Int32)) v7 (m.1 14 v7.toNatClampNeg) m) else (if (m.1 14 v7.toNatClampNeg) < 0 then (if ((-1 : Int32) - (m.1 14 v7.toNatClampNeg)) < 0 ∨ 10 ≤ ((-1 : Int32) - (m.1 14 v7.toNatClampNeg)).toNatClampNeg then none else f_Texts_work_8_54_99 F (f_Texts_work_8_54_54 F n) v5 v6 v7 v6 (m.1 54 ((-1 : Int32) - (m.1 14 v7.toNatClampNeg)).toNatClampNeg) m) else f_Texts_work_8_54_99 F (f_Texts_work_8_54_54 F n) v5 v6 v7 v6 (m.1 14 v7.toNatClampNeg) m))))
theorem ok_Texts_work_8_54_54 (X : mX) (d F : Nat) : ∀ (n : Nat) (v5 : Int32) (v6 : Int32) (v7 : Int32) (w1 : Option Value) (w2 : Option Value) (w4 : Option Value) (w8 : Option Value) (w9 : Option Value) (w10 : Option Value) (m : mM) (r : Int32) (m' : mM), f_Texts_work_8_54_54 F n v5 v6 v7 m = some (r, m') → m_R X (d + 0) 47 54 [some (.ref 8), w1, w2, some (.ref 54), w4, some (.int v5), some (.int v6), some (.int v7), w8, w9, w10] [] (SH, m) (some (.int r), (SH, m')) := by
  intro n
  induction n with
  | zero => intro v5 v6 v7 w1 w2 w4 w8 w9 w10 m r m' h; cases h
  | succ n ih =>
    intro v5 v6 v7 w1 w2 w4 w8 w9 w10 m r m' h
    simp only [f_Texts_work_8_54_54] at h
    refine m_R_sg (by decide) [(.iload 7, 2, 0, 7, 0, 0, 0), (.iload 5, 2, 0, 5, 0, 0, 0)] (by decide +kernel) (show m_sgl X _ _ _ _ _ = some (58, [some (.ref 8), w1, w2, some (.ref 54), w4, some (.int v5), some (.int v6), some (.int v7), w8, w9, w10], [.int v5, .int v7], (SH, m.1, m.2)) from rfl) ?_
    rcases m_ite h with ⟨c203, h⟩ | ⟨c203, h⟩
    · refine m_R_1 (by decide) (m_opb_of (ins := .if_icmp .ge 342) (len := 3) (tag := 0) (a := 400) (b := 0) (c := 0) (q := 0) (by decide +kernel)) (if_pos c203) ?_
      refine m_R_sg (by decide) [(.aload_n 0, 1, 0, 0, 0, 0, 0), (.getfield 30, 3, 0, 8, 6, 3, 203), (.iconst 0, 1, 0, 0, 0, 0, 0)] (by decide +kernel) (show m_sgl X _ _ _ _ _ = some (405, [some (.ref 8), w1, w2, some (.ref 54), w4, some (.int v5), some (.int v6), some (.int v7), w8, w9, w10], [.int (0 : Int32), .ref 15], (SH, m.1, m.2)) from rfl) ?_
      refine m_R_1 (by decide) (m_opb_of (ins := .iaload) (len := 1) (tag := 0) (a := 0) (b := 0) (c := 0) (q := 0) (by decide +kernel)) (m_s_iald sh_15 (by decide) (show ¬ ((0 : Int32) < 0 ∨ 121 ≤ (0 : Int32).toNatClampNeg) by decide)) ?_
      obtain ⟨rfl, rfl⟩ := m_some h
      exact m_R_iret (by decide) (m_opb_of (ins := .ireturn) (len := 1) (tag := 1) (a := 0) (b := 0) (c := 0) (q := 0) (by decide +kernel)) (Or.inl rfl)
    · refine m_R_1 (by decide) (m_opb_of (ins := .if_icmp .ge 342) (len := 3) (tag := 0) (a := 400) (b := 0) (c := 0) (q := 0) (by decide +kernel)) (if_neg c203) ?_
      refine m_R_sg (by decide) [(.aload_n 0, 1, 0, 0, 0, 0, 0), (.getfield 27, 3, 0, 8, 5, 3, 202), (.iload 7, 2, 0, 7, 0, 0, 0)] (by decide +kernel) (show m_sgl X _ _ _ _ _ = some (67, [some (.ref 8), w1, w2, some (.ref 54), w4, some (.int v5), some (.int v6), some (.int v7), w8, w9, w10], [.int v7, .ref 14], (SH, m.1, m.2)) from rfl) ?_
      obtain ⟨c204, h⟩ := m_ite_n h
      refine m_R_1 (by decide) (m_opb_of (ins := .iaload) (len := 1) (tag := 0) (a := 0) (b := 0) (c := 0) (q := 0) (by decide +kernel)) (m_s_iald sh_14 (by decide) c204) ?_
      refine m_R_sg (by decide) [(.istore 8, 2, 0, 8, 0, 0, 0), (.iload 8, 2, 0, 8, 0, 0, 0), (.bipush (-11), 2, 0, 11, 1, 0, 0)] (by decide +kernel) (show m_sgl X _ _ _ _ _ = some (74, [some (.ref 8), w1, w2, some (.ref 54), w4, some (.int v5), some (.int v6), some (.int v7), some (.int (m.1 14 v7.toNatClampNeg)), w9, w10], [.int (-11 : Int32), .int (m.1 14 v7.toNatClampNeg)], (SH, m.1, m.2)) from rfl) ?_
      rcases m_ite h with ⟨c205, h⟩ | ⟨c205, h⟩
      · refine m_R_1 (by decide) (m_opb_of (ins := .if_icmp .le 32) (len := 3) (tag := 0) (a := 106) (b := 0) (c := 0) (q := 0) (by decide +kernel)) (if_pos c205) ?_
        refine m_R_sg (by decide) [(.iload 8, 2, 0, 8, 0, 0, 0), (.bipush (-13), 2, 0, 13, 1, 0, 0)] (by decide +kernel) (show m_sgl X _ _ _ _ _ = some (110, [some (.ref 8), w1, w2, some (.ref 54), w4, some (.int v5), some (.int v6), some (.int v7), some (.int (m.1 14 v7.toNatClampNeg)), w9, w10], [.int (-13 : Int32), .int (m.1 14 v7.toNatClampNeg)], (SH, m.1, m.2)) from rfl) ?_
        rcases m_ite h with ⟨c206, h⟩ | ⟨c206, h⟩
        · refine m_R_1 (by decide) (m_opb_of (ins := .if_icmp .gt 6) (len := 3) (tag := 0) (a := 116) (b := 0) (c := 0) (q := 0) (by decide +kernel)) (if_pos c206) ?_
          exact ok_Texts_work_8_54_116 X d F _ (fun a0 a1 a2 a3 a4 a5 a6 a7 a8 m r m' h => ih a0 a1 a2 a3 a4 a5 a6 a7 a8 m r m' h) _ _ _ _ _ _ _ _ _ _ _ _ h
        · refine m_R_1 (by decide) (m_opb_of (ins := .if_icmp .gt 6) (len := 3) (tag := 0) (a := 116) (b := 0) (c := 0) (q := 0) (by decide +kernel)) (if_neg c206) ?_
          refine m_R_sg (by decide) [(.iinc 6 (-1), 3, 0, 6, 1, 1, 0)] (by decide +kernel) (show m_sgl X _ _ _ _ _ = some (116, [some (.ref 8), w1, w2, some (.ref 54), w4, some (.int v5), some (.int (v6 + (-1 : Int32))), some (.int v7), some (.int (m.1 14 v7.toNatClampNeg)), w9, w10], [], (SH, m.1, m.2)) from rfl) ?_
          exact ok_Texts_work_8_54_116 X d F _ (fun a0 a1 a2 a3 a4 a5 a6 a7 a8 m r m' h => ih a0 a1 a2 a3 a4 a5 a6 a7 a8 m r m' h) _ _ _ _ _ _ _ _ _ _ _ _ h
      · refine m_R_1 (by decide) (m_opb_of (ins := .if_icmp .le 32) (len := 3) (tag := 0) (a := 106) (b := 0) (c := 0) (q := 0) (by decide +kernel)) (if_neg c205) ?_
        refine m_R_sg (by decide) [(.aload_n 0, 1, 0, 0, 0, 0, 0), (.getfield 30, 3, 0, 8, 6, 3, 203), (.iload 6, 2, 0, 6, 0, 0, 0), (.iload 8, 2, 0, 8, 0, 0, 0)] (by decide +kernel) (show m_sgl X _ _ _ _ _ = some (85, [some (.ref 8), w1, w2, some (.ref 54), w4, some (.int v5), some (.int v6), some (.int v7), some (.int (m.1 14 v7.toNatClampNeg)), w9, w10], [.int (m.1 14 v7.toNatClampNeg), .int v6, .ref 15], (SH, m.1, m.2)) from rfl) ?_
        rcases m_ite h with ⟨c207, h⟩ | ⟨c207, h⟩
        · refine m_R_1 (by decide) (m_opb_of (ins := .ifCond .lt 8) (len := 3) (tag := 0) (a := 93) (b := 0) (c := 0) (q := 0) (by decide +kernel)) (if_pos c207) ?_
          refine m_R_sg (by decide) [(.aload_n 3, 1, 0, 3, 0, 0, 0), (.iconst (-1), 1, 0, 1, 1, 0, 0), (.iload 8, 2, 0, 8, 0, 0, 0), (.isub, 1, 0, 0, 0, 0, 0)] (by decide +kernel) (show m_sgl X _ _ _ _ _ = some (98, [some (.ref 8), w1, w2, some (.ref 54), w4, some (.int v5), some (.int v6), some (.int v7), some (.int (m.1 14 v7.toNatClampNeg)), w9, w10], [.int ((-1 : Int32) - (m.1 14 v7.toNatClampNeg)), .ref 54, .int v6, .ref 15], (SH, m.1, m.2)) from rfl) ?_
          obtain ⟨c208, h⟩ := m_ite_n h
          refine m_R_1 (by decide) (m_opb_of (ins := .iaload) (len := 1) (tag := 0) (a := 0) (b := 0) (c := 0) (q := 0) (by decide +kernel)) (m_s_iald sh_54 (by decide) c208) ?_
          exact ok_Texts_work_8_54_99 X d F _ (fun a0 a1 a2 a3 a4 a5 a6 a7 a8 m r m' h => ih a0 a1 a2 a3 a4 a5 a6 a7 a8 m r m' h) _ _ _ _ _ _ _ _ _ _ _ _ _ _ h
        · refine m_R_1 (by decide) (m_opb_of (ins := .ifCond .lt 8) (len := 3) (tag := 0) (a := 93) (b := 0) (c := 0) (q := 0) (by decide +kernel)) (if_neg c207) ?_
          refine m_R_sg (by decide) [(.iload 8, 2, 0, 8, 0, 0, 0), (.goto 9, 3, 0, 99, 0, 0, 0)] (by decide +kernel) (show m_sgl X _ _ _ _ _ = some (99, [some (.ref 8), w1, w2, some (.ref 54), w4, some (.int v5), some (.int v6), some (.int v7), some (.int (m.1 14 v7.toNatClampNeg)), w9, w10], [.int (m.1 14 v7.toNatClampNeg), .int v6, .ref 15], (SH, m.1, m.2)) from rfl) ?_
          exact ok_Texts_work_8_54_99 X d F _ (fun a0 a1 a2 a3 a4 a5 a6 a7 a8 m r m' h => ih a0 a1 a2 a3 a4 a5 a6 a7 a8 m r m' h) _ _ _ _ _ _ _ _ _ _ _ _ _ _ h
def f_Texts_work_8_54_44 (F : Nat)   (v4 : Int32) (s0 : Int32) (s1 : Int32) (m : mM) : Option (Int32 × mM) := f_Texts_work_8_54_54 F F (s0 + s1) (0 : Int32) v4 m
theorem ok_Texts_work_8_54_44 (X : mX) (d F : Nat) : ∀ (v4 : Int32) (s0 : Int32) (s1 : Int32) (w1 : Option Value) (w2 : Option Value) (w5 : Option Value) (w6 : Option Value) (w7 : Option Value) (w8 : Option Value) (w9 : Option Value) (w10 : Option Value) (m : mM) (r : Int32) (m' : mM), f_Texts_work_8_54_44 F v4 s0 s1 m = some (r, m') → m_R X (d + 0) 47 44 [some (.ref 8), w1, w2, some (.ref 54), some (.int v4), w5, w6, w7, w8, w9, w10] [.int s1, .int s0] (SH, m) (some (.int r), (SH, m')) := by
  intro v4 s0 s1 w1 w2 w5 w6 w7 w8 w9 w10 m r m' h
  unfold f_Texts_work_8_54_44 at h
  refine m_R_sg (by decide) [(.iadd, 1, 0, 0, 0, 0, 0), (.istore 5, 2, 0, 5, 0, 0, 0), (.iconst 0, 1, 0, 0, 0, 0, 0), (.istore 6, 2, 0, 6, 0, 0, 0), (.iload 4, 2, 0, 4, 0, 0, 0), (.istore 7, 2, 0, 7, 0, 0, 0)] (by decide +kernel) (show m_sgl X _ _ _ _ _ = some (54, [some (.ref 8), w1, w2, some (.ref 54), some (.int v4), some (.int (s0 + s1)), some (.int (0 : Int32)), some (.int v4), w8, w9, w10], [], (SH, m.1, m.2)) from rfl) ?_
  exact ok_Texts_work_8_54_54 X d F F _ _ _ _ _ _ _ _ _ _ _ _ h
def f_Texts_work_8_54_18 (F : Nat)   (v1 : Int32) (v2 : Int32) (s0 : Int32) (s1 : Int32) (m : mM) : Option (Int32 × mM) := (if v2 = 0 then (if v1 < 0 ∨ 12 ≤ v1.toNatClampNeg then none else f_Texts_work_8_54_44 F (s0 + s1) (v1 * (120 : Int32)) (m.1 12 v1.toNatClampNeg) m) else (if v1 < 0 ∨ 12 ≤ v1.toNatClampNeg then none else f_Texts_work_8_54_44 F (s0 + s1) (v1 * (120 : Int32)) (m.1 13 v1.toNatClampNeg) m))
theorem ok_Texts_work_8_54_18 (X : mX) (d F : Nat) : ∀ (v1 : Int32) (v2 : Int32) (s0 : Int32) (s1 : Int32) (w4 : Option Value) (w5 : Option Value) (w6 : Option Value) (w7 : Option Value) (w8 : Option Value) (w9 : Option Value) (w10 : Option Value) (m : mM) (r : Int32) (m' : mM), f_Texts_work_8_54_18 F v1 v2 s0 s1 m = some (r, m') → m_R X (d + 0) 47 18 [some (.ref 8), some (.int v1), some (.int v2), some (.ref 54), w4, w5, w6, w7, w8, w9, w10] [.int s1, .int s0] (SH, m) (some (.int r), (SH, m')) := by
  intro v1 v2 s0 s1 w4 w5 w6 w7 w8 w9 w10 m r m' h
  unfold f_Texts_work_8_54_18 at h
  refine m_R_sg (by decide) [(.iadd, 1, 0, 0, 0, 0, 0), (.istore 4, 2, 0, 4, 0, 0, 0), (.iload_n 1, 1, 0, 1, 0, 0, 0), (.bipush 120, 2, 0, 120, 0, 0, 0), (.imul, 1, 0, 0, 0, 0, 0), (.iload_n 2, 1, 0, 2, 0, 0, 0)] (by decide +kernel) (show m_sgl X _ _ _ _ _ = some (26, [some (.ref 8), some (.int v1), some (.int v2), some (.ref 54), some (.int (s0 + s1)), w5, w6, w7, w8, w9, w10], [.int v2, .int (v1 * (120 : Int32))], (SH, m.1, m.2)) from rfl) ?_
  rcases m_ite h with ⟨c209, h⟩ | ⟨c209, h⟩
  · refine m_R_1 (by decide) (m_opb_of (ins := .ifCond .eq 12) (len := 3) (tag := 0) (a := 38) (b := 0) (c := 0) (q := 0) (by decide +kernel)) (if_pos c209) ?_
    refine m_R_sg (by decide) [(.aload_n 0, 1, 0, 0, 0, 0, 0), (.getfield 21, 3, 0, 8, 3, 3, 200), (.iload_n 1, 1, 0, 1, 0, 0, 0)] (by decide +kernel) (show m_sgl X _ _ _ _ _ = some (43, [some (.ref 8), some (.int v1), some (.int v2), some (.ref 54), some (.int (s0 + s1)), w5, w6, w7, w8, w9, w10], [.int v1, .ref 12, .int (v1 * (120 : Int32))], (SH, m.1, m.2)) from rfl) ?_
    obtain ⟨c210, h⟩ := m_ite_n h
    refine m_R_1 (by decide) (m_opb_of (ins := .iaload) (len := 1) (tag := 0) (a := 0) (b := 0) (c := 0) (q := 0) (by decide +kernel)) (m_s_iald sh_12 (by decide) c210) ?_
    exact ok_Texts_work_8_54_44 X d F _ _ _ _ _ _ _ _ _ _ _ _ _ _ h
  · refine m_R_1 (by decide) (m_opb_of (ins := .ifCond .eq 12) (len := 3) (tag := 0) (a := 38) (b := 0) (c := 0) (q := 0) (by decide +kernel)) (if_neg c209) ?_
    refine m_R_sg (by decide) [(.aload_n 0, 1, 0, 0, 0, 0, 0), (.getfield 24, 3, 0, 8, 4, 3, 201), (.iload_n 1, 1, 0, 1, 0, 0, 0)] (by decide +kernel) (show m_sgl X _ _ _ _ _ = some (34, [some (.ref 8), some (.int v1), some (.int v2), some (.ref 54), some (.int (s0 + s1)), w5, w6, w7, w8, w9, w10], [.int v1, .ref 13, .int (v1 * (120 : Int32))], (SH, m.1, m.2)) from rfl) ?_
    obtain ⟨c211, h⟩ := m_ite_n h
    refine m_R_1 (by decide) (m_opb_of (ins := .iaload) (len := 1) (tag := 0) (a := 0) (b := 0) (c := 0) (q := 0) (by decide +kernel)) (m_s_iald sh_13 (by decide) c211) ?_
    refine m_R_sg (by decide) [(.goto 9, 3, 0, 44, 0, 0, 0)] (by decide +kernel) (show m_sgl X _ _ _ _ _ = some (44, [some (.ref 8), some (.int v1), some (.int v2), some (.ref 54), some (.int (s0 + s1)), w5, w6, w7, w8, w9, w10], [.int (m.1 13 v1.toNatClampNeg), .int (v1 * (120 : Int32))], (SH, m.1, m.2)) from rfl) ?_
    exact ok_Texts_work_8_54_44 X d F _ _ _ _ _ _ _ _ _ _ _ _ _ _ h
def f_Texts_work_8_54 (F : Nat)   (v1 : Int32) (v2 : Int32) (m : mM) : Option (Int32 × mM) := (if v2 = 0 then f_Texts_work_8_54_18 F v1 v2 (v1 * (120 : Int32)) (0 : Int32) m else (if v1 < 0 ∨ 12 ≤ v1.toNatClampNeg then none else f_Texts_work_8_54_18 F v1 v2 (v1 * (120 : Int32)) (m.1 12 v1.toNatClampNeg) m))
theorem ok_Texts_work_8_54 (X : mX) (d F : Nat) : ∀ (v1 : Int32) (v2 : Int32)  (m : mM) (r : Int32) (m' : mM), f_Texts_work_8_54 F v1 v2 m = some (r, m') → m_R X (d + 0) 47 0 [some (.ref 8), some (.int v1), some (.int v2), some (.ref 54), none, none, none, none, none, none, none] [] (SH, m) (some (.int r), (SH, m')) := by
  intro v1 v2 m r m' h
  unfold f_Texts_work_8_54 at h
  refine m_R_sg (by decide) [(.iload_n 1, 1, 0, 1, 0, 0, 0), (.bipush 120, 2, 0, 120, 0, 0, 0), (.imul, 1, 0, 0, 0, 0, 0), (.iload_n 2, 1, 0, 2, 0, 0, 0)] (by decide +kernel) (show m_sgl X _ _ _ _ _ = some (5, [some (.ref 8), some (.int v1), some (.int v2), some (.ref 54), none, none, none, none, none, none, none], [.int v2, .int (v1 * (120 : Int32))], (SH, m.1, m.2)) from rfl) ?_
  rcases m_ite h with ⟨c212, h⟩ | ⟨c212, h⟩
  · refine m_R_1 (by decide) (m_opb_of (ins := .ifCond .eq 12) (len := 3) (tag := 0) (a := 17) (b := 0) (c := 0) (q := 0) (by decide +kernel)) (if_pos c212) ?_
    refine m_R_sg (by decide) [(.iconst 0, 1, 0, 0, 0, 0, 0)] (by decide +kernel) (show m_sgl X _ _ _ _ _ = some (18, [some (.ref 8), some (.int v1), some (.int v2), some (.ref 54), none, none, none, none, none, none, none], [.int (0 : Int32), .int (v1 * (120 : Int32))], (SH, m.1, m.2)) from rfl) ?_
    exact ok_Texts_work_8_54_18 X d F _ _ _ _ _ _ _ _ _ _ _ _ _ _ h
  · refine m_R_1 (by decide) (m_opb_of (ins := .ifCond .eq 12) (len := 3) (tag := 0) (a := 17) (b := 0) (c := 0) (q := 0) (by decide +kernel)) (if_neg c212) ?_
    refine m_R_sg (by decide) [(.aload_n 0, 1, 0, 0, 0, 0, 0), (.getfield 21, 3, 0, 8, 3, 3, 200), (.iload_n 1, 1, 0, 1, 0, 0, 0)] (by decide +kernel) (show m_sgl X _ _ _ _ _ = some (13, [some (.ref 8), some (.int v1), some (.int v2), some (.ref 54), none, none, none, none, none, none, none], [.int v1, .ref 12, .int (v1 * (120 : Int32))], (SH, m.1, m.2)) from rfl) ?_
    obtain ⟨c213, h⟩ := m_ite_n h
    refine m_R_1 (by decide) (m_opb_of (ins := .iaload) (len := 1) (tag := 0) (a := 0) (b := 0) (c := 0) (q := 0) (by decide +kernel)) (m_s_iald sh_12 (by decide) c213) ?_
    refine m_R_sg (by decide) [(.goto 4, 3, 0, 18, 0, 0, 0)] (by decide +kernel) (show m_sgl X _ _ _ _ _ = some (18, [some (.ref 8), some (.int v1), some (.int v2), some (.ref 54), none, none, none, none, none, none, none], [.int (m.1 12 v1.toNatClampNeg), .int (v1 * (120 : Int32))], (SH, m.1, m.2)) from rfl) ?_
    exact ok_Texts_work_8_54_18 X d F _ _ _ _ _ _ _ _ _ _ _ _ _ _ h
def f_World_textInForce_54 (F : Nat)   (v2 : Int32) (m : mM) : Option (Int32 × mM) := some (v2, m)
theorem ok_World_textInForce_54 (X : mX) (d F : Nat) : ∀ (v2 : Int32) (w0 : Option Value) (w1 : Option Value) (m : mM) (r : Int32) (m' : mM), f_World_textInForce_54 F v2 m = some (r, m') → m_R X (d + 1) 44 54 [w0, w1, some (.int v2)] [] (SH, m) (some (.int r), (SH, m')) := by
  intro v2 w0 w1 m r m' h
  unfold f_World_textInForce_54 at h
  refine m_R_sg (by decide) [(.iload_n 2, 1, 0, 2, 0, 0, 0)] (by decide +kernel) (show m_sgl X _ _ _ _ _ = some (55, [w0, w1, some (.int v2)], [.int v2], (SH, m.1, m.2)) from rfl) ?_
  obtain ⟨rfl, rfl⟩ := m_some h
  exact m_R_iret (by decide) (m_opb_of (ins := .ireturn) (len := 1) (tag := 1) (a := 0) (b := 0) (c := 0) (q := 0) (by decide +kernel)) (Or.inl rfl)
def f_World_textInForce_56 (F : Nat)  (k7 : Int32 → Int32 → mM → Option (Int32 × mM)) (v1 : Int32) (v2 : Int32) (m : mM) : Option (Int32 × mM) := k7 v1 (v2 + (-1 : Int32)) m
theorem ok_World_textInForce_56 (X : mX) (d F : Nat) (k7 : Int32 → Int32 → mM → Option (Int32 × mM)) (hk7 : ∀ (v1 : Int32) (v2 : Int32) (m : mM) (r : Int32) (m' : mM), k7 v1 v2 m = some (r, m') → m_R X (d + 1) 44 7 [some (.ref 16), some (.int v1), some (.int v2)] [] (SH, m) (some (.int r), (SH, m'))) : ∀ (v1 : Int32) (v2 : Int32)  (m : mM) (r : Int32) (m' : mM), f_World_textInForce_56 F k7 v1 v2 m = some (r, m') → m_R X (d + 1) 44 56 [some (.ref 16), some (.int v1), some (.int v2)] [] (SH, m) (some (.int r), (SH, m')) := by
  intro v1 v2 m r m' h
  unfold f_World_textInForce_56 at h
  refine m_R_sg (by decide) [(.iinc 2 (-1), 3, 0, 2, 1, 1, 0), (.goto (-52), 3, 0, 7, 0, 0, 0)] (by decide +kernel) (show m_sgl X _ _ _ _ _ = some (7, [some (.ref 16), some (.int v1), some (.int (v2 + (-1 : Int32)))], [], (SH, m.1, m.2)) from rfl) ?_
  exact hk7 _ _ _ _ _ h
def f_World_textInForce_7 (F : Nat)   : Nat → Int32 → Int32 → mM → Option (Int32 × mM)
  | 0, _, _, _ => none
  | n + 1, v1, v2, m => (if v2 < 0 then some ((-1 : Int32), m) else ((f_Texts_isInForce F v2 v1 (m.1 16 9) m).bind fun q1 => (if q1.1 = 0 then f_World_textInForce_56 F (f_World_textInForce_7 F n) v1 v2 q1.2 else ((f_Texts_hasIf F v2 q1.2).bind fun q2 => (if q2.1 = 0 then f_World_textInForce_54 F v2 q2.2 else ((f_Texts_work_8_54 F v2 (1 : Int32) q2.2).bind fun q3 => (if q3.1 = 0 then f_World_textInForce_56 F (f_World_textInForce_7 F n) v1 v2 q3.2 else f_World_textInForce_54 F v2 q3.2)))))))
theorem ok_World_textInForce_7 (X : mX) (d F : Nat) : ∀ (n : Nat) (v1 : Int32) (v2 : Int32)  (m : mM) (r : Int32) (m' : mM), f_World_textInForce_7 F n v1 v2 m = some (r, m') → m_R X (d + 1) 44 7 [some (.ref 16), some (.int v1), some (.int v2)] [] (SH, m) (some (.int r), (SH, m')) := by
  intro n
  induction n with
  | zero => intro v1 v2 m r m' h; cases h
  | succ n ih =>
    intro v1 v2 m r m' h
    simp only [f_World_textInForce_7] at h
    refine m_R_sg (by decide) [(.iload_n 2, 1, 0, 2, 0, 0, 0)] (by decide +kernel) (show m_sgl X _ _ _ _ _ = some (8, [some (.ref 16), some (.int v1), some (.int v2)], [.int v2], (SH, m.1, m.2)) from rfl) ?_
    rcases m_ite h with ⟨c214, h⟩ | ⟨c214, h⟩
    · refine m_R_1 (by decide) (m_opb_of (ins := .ifCond .lt 54) (len := 3) (tag := 0) (a := 62) (b := 0) (c := 0) (q := 0) (by decide +kernel)) (if_pos c214) ?_
      refine m_R_sg (by decide) [(.iconst (-1), 1, 0, 1, 1, 0, 0)] (by decide +kernel) (show m_sgl X _ _ _ _ _ = some (63, [some (.ref 16), some (.int v1), some (.int v2)], [.int (-1 : Int32)], (SH, m.1, m.2)) from rfl) ?_
      obtain ⟨rfl, rfl⟩ := m_some h
      exact m_R_iret (by decide) (m_opb_of (ins := .ireturn) (len := 1) (tag := 1) (a := 0) (b := 0) (c := 0) (q := 0) (by decide +kernel)) (Or.inl rfl)
    · refine m_R_1 (by decide) (m_opb_of (ins := .ifCond .lt 54) (len := 3) (tag := 0) (a := 62) (b := 0) (c := 0) (q := 0) (by decide +kernel)) (if_neg c214) ?_
      refine m_R_sg (by decide) [(.aload_n 0, 1, 0, 0, 0, 0, 0), (.getfield 63, 3, 0, 10, 7, 3, 517), (.iload_n 2, 1, 0, 2, 0, 0, 0), (.iload_n 1, 1, 0, 1, 0, 0, 0), (.aload_n 0, 1, 0, 0, 0, 0, 0), (.getfield 95, 3, 0, 10, 9, 0, 520)] (by decide +kernel) (show m_sgl X _ _ _ _ _ = some (21, [some (.ref 16), some (.int v1), some (.int v2)], [.int (m.1 16 9), .int v1, .int v2, .ref 8], (SH, m.1, m.2)) from rfl) ?_
      obtain ⟨q1, hc1, h⟩ := Option.bind_eq_some_iff.mp h
      refine m_R_cV (v := (some (.int q1.1))) (h1 := (SH, q1.2)) (rest := []) (lo' := [some (.ref 8), some (.int v2), some (.int v1), some (.int (m.1 16 9))]) (ml := 4) (k0 := 8) (by decide) (Or.inl rfl) (m_opb_of (ins := .invokevirtual 147) (len := 3) (tag := 5) (a := 45) (b := 3) (c := 0) (q := 793) (by decide +kernel)) (by decide +kernel) rfl (show m_isO 45 8 (SH, _) = true from m_isO_of (by decide +kernel)) (Nat.le_of_ble_eq_true rfl) rfl rfl (ok_Texts_isInForce X (d + 0) F _ _ _ _ _ _ hc1) ?_
      rcases m_ite h with ⟨c215, h⟩ | ⟨c215, h⟩
      · refine m_R_1 (by decide) (m_opb_of (ins := .ifCond .eq 32) (len := 3) (tag := 0) (a := 56) (b := 0) (c := 0) (q := 0) (by decide +kernel)) (if_pos c215) ?_
        exact ok_World_textInForce_56 X d F _ (fun a0 a1 m r m' h => ih a0 a1 m r m' h) _ _ _ _ _ h
      · refine m_R_1 (by decide) (m_opb_of (ins := .ifCond .eq 32) (len := 3) (tag := 0) (a := 56) (b := 0) (c := 0) (q := 0) (by decide +kernel)) (if_neg c215) ?_
        refine m_R_sg (by decide) [(.aload_n 0, 1, 0, 0, 0, 0, 0), (.getfield 63, 3, 0, 10, 7, 3, 517), (.iload_n 2, 1, 0, 2, 0, 0, 0)] (by decide +kernel) (show m_sgl X _ _ _ _ _ = some (32, [some (.ref 16), some (.int v1), some (.int v2)], [.int v2, .ref 8], (SH, q1.2.1, q1.2.2)) from rfl) ?_
        obtain ⟨q2, hc2, h⟩ := Option.bind_eq_some_iff.mp h
        refine m_R_cV (v := (some (.int q2.1))) (h1 := (SH, q2.2)) (rest := []) (lo' := [some (.ref 8), some (.int v2)]) (ml := 2) (k0 := 8) (by decide) (Or.inl rfl) (m_opb_of (ins := .invokevirtual 151) (len := 3) (tag := 5) (a := 46) (b := 1) (c := 0) (q := 797) (by decide +kernel)) (by decide +kernel) rfl (show m_isO 46 8 (SH, _) = true from m_isO_of (by decide +kernel)) (Nat.le_of_ble_eq_true rfl) rfl rfl (ok_Texts_hasIf X (d + 0) F _ _ _ _ hc2) ?_
        rcases m_ite h with ⟨c216, h⟩ | ⟨c216, h⟩
        · refine m_R_1 (by decide) (m_opb_of (ins := .ifCond .eq 19) (len := 3) (tag := 0) (a := 54) (b := 0) (c := 0) (q := 0) (by decide +kernel)) (if_pos c216) ?_
          exact ok_World_textInForce_54 X d F _ _ _ _ _ _ h
        · refine m_R_1 (by decide) (m_opb_of (ins := .ifCond .eq 19) (len := 3) (tag := 0) (a := 54) (b := 0) (c := 0) (q := 0) (by decide +kernel)) (if_neg c216) ?_
          refine m_R_sg (by decide) [(.aload_n 0, 1, 0, 0, 0, 0, 0), (.getfield 63, 3, 0, 10, 7, 3, 517), (.iload_n 2, 1, 0, 2, 0, 0, 0), (.iconst 1, 1, 0, 1, 0, 0, 0), (.aload_n 0, 1, 0, 0, 0, 0, 0), (.getfield 48, 3, 0, 10, 5, 3, 515)] (by decide +kernel) (show m_sgl X _ _ _ _ _ = some (48, [some (.ref 16), some (.int v1), some (.int v2)], [.ref 54, .int (1 : Int32), .int v2, .ref 8], (SH, q2.2.1, q2.2.2)) from rfl) ?_
          obtain ⟨q3, hc3, h⟩ := Option.bind_eq_some_iff.mp h
          refine m_R_cV (v := (some (.int q3.1))) (h1 := (SH, q3.2)) (rest := []) (lo' := [some (.ref 8), some (.int v2), some (.int (1 : Int32)), some (.ref 54), none, none, none, none, none, none, none]) (ml := 11) (k0 := 8) (by decide) (Or.inl rfl) (m_opb_of (ins := .invokevirtual 154) (len := 3) (tag := 5) (a := 47) (b := 3) (c := 0) (q := 801) (by decide +kernel)) (by decide +kernel) rfl (show m_isO 47 8 (SH, _) = true from m_isO_of (by decide +kernel)) (Nat.le_of_ble_eq_true rfl) rfl rfl (ok_Texts_work_8_54 X (d + 0) F _ _ _ _ _ hc3) ?_
          rcases m_ite h with ⟨c217, h⟩ | ⟨c217, h⟩
          · refine m_R_1 (by decide) (m_opb_of (ins := .ifCond .eq 5) (len := 3) (tag := 0) (a := 56) (b := 0) (c := 0) (q := 0) (by decide +kernel)) (if_pos c217) ?_
            exact ok_World_textInForce_56 X d F _ (fun a0 a1 m r m' h => ih a0 a1 m r m' h) _ _ _ _ _ h
          · refine m_R_1 (by decide) (m_opb_of (ins := .ifCond .eq 5) (len := 3) (tag := 0) (a := 56) (b := 0) (c := 0) (q := 0) (by decide +kernel)) (if_neg c217) ?_
            exact ok_World_textInForce_54 X d F _ _ _ _ _ _ h
def f_World_textInForce (F : Nat)   (v1 : Int32) (m : mM) : Option (Int32 × mM) := f_World_textInForce_7 F F v1 ((m.1 16 14) - (1 : Int32)) m
theorem ok_World_textInForce (X : mX) (d F : Nat) : ∀ (v1 : Int32)  (m : mM) (r : Int32) (m' : mM), f_World_textInForce F v1 m = some (r, m') → m_R X (d + 1) 44 0 [some (.ref 16), some (.int v1), none] [] (SH, m) (some (.int r), (SH, m')) := by
  intro v1 m r m' h
  unfold f_World_textInForce at h
  refine m_R_sg (by decide) [(.aload_n 0, 1, 0, 0, 0, 0, 0), (.getfield 104, 3, 0, 10, 14, 0, 530), (.iconst 1, 1, 0, 1, 0, 0, 0), (.isub, 1, 0, 0, 0, 0, 0), (.istore_n 2, 1, 0, 2, 0, 0, 0)] (by decide +kernel) (show m_sgl X _ _ _ _ _ = some (7, [some (.ref 16), some (.int v1), some (.int ((m.1 16 14) - (1 : Int32)))], [], (SH, m.1, m.2)) from rfl) ?_
  exact ok_World_textInForce_7 X d F F _ _ _ _ _ h
def f_World_lawSays (F : Nat)   (v1 : Int32) (v2 : Int32) (m : mM) : Option (Int32 × mM) := ((f_World_gatherFacts F v2 m).bind fun q1 => ((f_World_textInForce F v1 q1.2).bind fun q2 => (if q2.1 = (-1 : Int32) then (if v1 = (0 : Int32) then some ((q2.2.1 22 (0 : Int32).toNatClampNeg), q2.2) else (if v1 = (1 : Int32) then some ((q2.2.1 16 10), q2.2) else (if v1 = (2 : Int32) then some ((1 : Int32), q2.2) else (if v1 = (3 : Int32) then some ((0 : Int32), q2.2) else (if v1 = (4 : Int32) then some ((0 : Int32), q2.2) else (if v1 = (5 : Int32) then some ((63 : Int32), q2.2) else some ((0 : Int32), q2.2))))))) else ((f_Texts_work_8_54 F q2.1 (0 : Int32) q2.2).bind fun q3 => some (q3.1, q3.2)))))
theorem ok_World_lawSays (X : mX) (d F : Nat) : ∀ (v1 : Int32) (v2 : Int32)  (m : mM) (r : Int32) (m' : mM), f_World_lawSays F v1 v2 m = some (r, m') → m_R X (d + 2) 39 0 [some (.ref 16), some (.int v1), some (.int v2), none] [] (SH, m) (some (.int r), (SH, m')) := by
  intro v1 v2 m r m' h
  unfold f_World_lawSays at h
  refine m_R_sg (by decide) [(.aload_n 0, 1, 0, 0, 0, 0, 0), (.iload_n 2, 1, 0, 2, 0, 0, 0)] (by decide +kernel) (show m_sgl X _ _ _ _ _ = some (2, [some (.ref 16), some (.int v1), some (.int v2), none], [.int v2, .ref 16], (SH, m.1, m.2)) from rfl) ?_
  obtain ⟨q1, hc1, h⟩ := Option.bind_eq_some_iff.mp h
  refine m_R_cV (v := none) (h1 := (SH, q1.2)) (rest := []) (lo' := [some (.ref 16), some (.int v2), none]) (ml := 3) (k0 := 16) (by decide) (Or.inl rfl) (m_opb_of (ins := .invokevirtual 158) (len := 3) (tag := 5) (a := 40) (b := 1) (c := 0) (q := 775) (by decide +kernel)) (by decide +kernel) rfl (show m_isO 40 16 (SH, _) = true from m_isO_of (by decide +kernel)) (Nat.le_of_ble_eq_true rfl) rfl rfl (ok_World_gatherFacts X (d + 0) F _ _ _ _ hc1) ?_
  refine m_R_sg (by decide) [(.aload_n 0, 1, 0, 0, 0, 0, 0), (.iload_n 1, 1, 0, 1, 0, 0, 0)] (by decide +kernel) (show m_sgl X _ _ _ _ _ = some (7, [some (.ref 16), some (.int v1), some (.int v2), none], [.int v1, .ref 16], (SH, q1.2.1, q1.2.2)) from rfl) ?_
  obtain ⟨q2, hc2, h⟩ := Option.bind_eq_some_iff.mp h
  refine m_R_cV (v := (some (.int q2.1))) (h1 := (SH, q2.2)) (rest := []) (lo' := [some (.ref 16), some (.int v1), none]) (ml := 3) (k0 := 16) (by decide) (Or.inl rfl) (m_opb_of (ins := .invokevirtual 162) (len := 3) (tag := 5) (a := 44) (b := 1) (c := 0) (q := 789) (by decide +kernel)) (by decide +kernel) rfl (show m_isO 44 16 (SH, _) = true from m_isO_of (by decide +kernel)) (Nat.le_of_ble_eq_true rfl) rfl rfl (ok_World_textInForce X (d + 0) F _ _ _ _ hc2) ?_
  refine m_R_sg (by decide) [(.istore_n 3, 1, 0, 3, 0, 0, 0), (.iload_n 3, 1, 0, 3, 0, 0, 0), (.iconst (-1), 1, 0, 1, 1, 0, 0)] (by decide +kernel) (show m_sgl X _ _ _ _ _ = some (13, [some (.ref 16), some (.int v1), some (.int v2), some (.int q2.1)], [.int (-1 : Int32), .int q2.1], (SH, q2.2.1, q2.2.2)) from rfl) ?_
  rcases m_ite h with ⟨c218, h⟩ | ⟨c218, h⟩
  · refine m_R_1 (by decide) (m_opb_of (ins := .if_icmp .eq 17) (len := 3) (tag := 0) (a := 30) (b := 0) (c := 0) (q := 0) (by decide +kernel)) (if_pos c218) ?_
    refine m_R_sg (by decide) [(.iload_n 1, 1, 0, 1, 0, 0, 0)] (by decide +kernel) (show m_sgl X _ _ _ _ _ = some (31, [some (.ref 16), some (.int v1), some (.int v2), some (.int q2.1)], [.int v1], (SH, q2.2.1, q2.2.2)) from rfl) ?_
    rcases m_ite h with ⟨c0, h⟩ | ⟨d0, h⟩
    · refine m_R_1 (by decide) (m_opb_of (ins := .tableswitch 57 0 5 #[37, 47, 52, 57, 57, 54]) (len := 37) (tag := 0) (a := 0) (b := 0) (c := 0) (q := 0) (by decide +kernel)) (m_s_sw (by rw [c0]; decide) (by rw [c0]; rfl) (by decide) (t := 68) rfl) ?_
      refine m_R_sg (by decide) [(.aload_n 0, 1, 0, 0, 0, 0, 0), (.getfield 21, 3, 0, 10, 1, 3, 505), (.getfield 107, 3, 0, 1, 2, 3, 255), (.iconst 0, 1, 0, 0, 0, 0, 0)] (by decide +kernel) (show m_sgl X _ _ _ _ _ = some (76, [some (.ref 16), some (.int v1), some (.int v2), some (.int q2.1)], [.int (0 : Int32), .ref 22], (SH, q2.2.1, q2.2.2)) from rfl) ?_
      refine m_R_1 (by decide) (m_opb_of (ins := .iaload) (len := 1) (tag := 0) (a := 0) (b := 0) (c := 0) (q := 0) (by decide +kernel)) (m_s_iald sh_22 (by decide) (show ¬ ((0 : Int32) < 0 ∨ 16 ≤ (0 : Int32).toNatClampNeg) by decide)) ?_
      obtain ⟨rfl, rfl⟩ := m_some h
      exact m_R_iret (by decide) (m_opb_of (ins := .ireturn) (len := 1) (tag := 1) (a := 0) (b := 0) (c := 0) (q := 0) (by decide +kernel)) (Or.inl rfl)
    rcases m_ite h with ⟨c0, h⟩ | ⟨d1, h⟩
    · refine m_R_1 (by decide) (m_opb_of (ins := .tableswitch 57 0 5 #[37, 47, 52, 57, 57, 54]) (len := 37) (tag := 0) (a := 0) (b := 0) (c := 0) (q := 0) (by decide +kernel)) (m_s_sw (by rw [c0]; decide) (by rw [c0]; rfl) (by decide) (t := 78) rfl) ?_
      refine m_R_sg (by decide) [(.aload_n 0, 1, 0, 0, 0, 0, 0), (.getfield 52, 3, 0, 10, 10, 0, 522)] (by decide +kernel) (show m_sgl X _ _ _ _ _ = some (82, [some (.ref 16), some (.int v1), some (.int v2), some (.int q2.1)], [.int (q2.2.1 16 10)], (SH, q2.2.1, q2.2.2)) from rfl) ?_
      obtain ⟨rfl, rfl⟩ := m_some h
      exact m_R_iret (by decide) (m_opb_of (ins := .ireturn) (len := 1) (tag := 1) (a := 0) (b := 0) (c := 0) (q := 0) (by decide +kernel)) (Or.inl rfl)
    rcases m_ite h with ⟨c0, h⟩ | ⟨d2, h⟩
    · refine m_R_1 (by decide) (m_opb_of (ins := .tableswitch 57 0 5 #[37, 47, 52, 57, 57, 54]) (len := 37) (tag := 0) (a := 0) (b := 0) (c := 0) (q := 0) (by decide +kernel)) (m_s_sw (by rw [c0]; decide) (by rw [c0]; rfl) (by decide) (t := 83) rfl) ?_
      refine m_R_sg (by decide) [(.iconst 1, 1, 0, 1, 0, 0, 0)] (by decide +kernel) (show m_sgl X _ _ _ _ _ = some (84, [some (.ref 16), some (.int v1), some (.int v2), some (.int q2.1)], [.int (1 : Int32)], (SH, q2.2.1, q2.2.2)) from rfl) ?_
      obtain ⟨rfl, rfl⟩ := m_some h
      exact m_R_iret (by decide) (m_opb_of (ins := .ireturn) (len := 1) (tag := 1) (a := 0) (b := 0) (c := 0) (q := 0) (by decide +kernel)) (Or.inl rfl)
    rcases m_ite h with ⟨c0, h⟩ | ⟨d3, h⟩
    · refine m_R_1 (by decide) (m_opb_of (ins := .tableswitch 57 0 5 #[37, 47, 52, 57, 57, 54]) (len := 37) (tag := 0) (a := 0) (b := 0) (c := 0) (q := 0) (by decide +kernel)) (m_s_sw (by rw [c0]; decide) (by rw [c0]; rfl) (by decide) (t := 88) rfl) ?_
      refine m_R_sg (by decide) [(.iconst 0, 1, 0, 0, 0, 0, 0)] (by decide +kernel) (show m_sgl X _ _ _ _ _ = some (89, [some (.ref 16), some (.int v1), some (.int v2), some (.int q2.1)], [.int (0 : Int32)], (SH, q2.2.1, q2.2.2)) from rfl) ?_
      obtain ⟨rfl, rfl⟩ := m_some h
      exact m_R_iret (by decide) (m_opb_of (ins := .ireturn) (len := 1) (tag := 1) (a := 0) (b := 0) (c := 0) (q := 0) (by decide +kernel)) (Or.inl rfl)
    rcases m_ite h with ⟨c0, h⟩ | ⟨d4, h⟩
    · refine m_R_1 (by decide) (m_opb_of (ins := .tableswitch 57 0 5 #[37, 47, 52, 57, 57, 54]) (len := 37) (tag := 0) (a := 0) (b := 0) (c := 0) (q := 0) (by decide +kernel)) (m_s_sw (by rw [c0]; decide) (by rw [c0]; rfl) (by decide) (t := 88) rfl) ?_
      refine m_R_sg (by decide) [(.iconst 0, 1, 0, 0, 0, 0, 0)] (by decide +kernel) (show m_sgl X _ _ _ _ _ = some (89, [some (.ref 16), some (.int v1), some (.int v2), some (.int q2.1)], [.int (0 : Int32)], (SH, q2.2.1, q2.2.2)) from rfl) ?_
      obtain ⟨rfl, rfl⟩ := m_some h
      exact m_R_iret (by decide) (m_opb_of (ins := .ireturn) (len := 1) (tag := 1) (a := 0) (b := 0) (c := 0) (q := 0) (by decide +kernel)) (Or.inl rfl)
    rcases m_ite h with ⟨c0, h⟩ | ⟨d5, h⟩
    · refine m_R_1 (by decide) (m_opb_of (ins := .tableswitch 57 0 5 #[37, 47, 52, 57, 57, 54]) (len := 37) (tag := 0) (a := 0) (b := 0) (c := 0) (q := 0) (by decide +kernel)) (m_s_sw (by rw [c0]; decide) (by rw [c0]; rfl) (by decide) (t := 85) rfl) ?_
      refine m_R_sg (by decide) [(.bipush 63, 2, 0, 63, 0, 0, 0)] (by decide +kernel) (show m_sgl X _ _ _ _ _ = some (87, [some (.ref 16), some (.int v1), some (.int v2), some (.int q2.1)], [.int (63 : Int32)], (SH, q2.2.1, q2.2.2)) from rfl) ?_
      obtain ⟨rfl, rfl⟩ := m_some h
      exact m_R_iret (by decide) (m_opb_of (ins := .ireturn) (len := 1) (tag := 1) (a := 0) (b := 0) (c := 0) (q := 0) (by decide +kernel)) (Or.inl rfl)
    refine m_R_1 (by decide) (m_opb_of (ins := .tableswitch 57 0 5 #[37, 47, 52, 57, 57, 54]) (len := 37) (tag := 0) (a := 0) (b := 0) (c := 0) (q := 0) (by decide +kernel)) (m_s_swd (m_swx 6 (fun j hj => match j, hj with | 0, _ => fun e => d0 (e.trans (by decide)) | 1, _ => fun e => d1 (e.trans (by decide)) | 2, _ => fun e => d2 (e.trans (by decide)) | 3, _ => fun e => d3 (e.trans (by decide)) | 4, _ => fun e => d4 (e.trans (by decide)) | 5, _ => fun e => d5 (e.trans (by decide)) | j + 6, hj => absurd hj (by omega))) (by decide) (t := 88) rfl) ?_
    refine m_R_sg (by decide) [(.iconst 0, 1, 0, 0, 0, 0, 0)] (by decide +kernel) (show m_sgl X _ _ _ _ _ = some (89, [some (.ref 16), some (.int v1), some (.int v2), some (.int q2.1)], [.int (0 : Int32)], (SH, q2.2.1, q2.2.2)) from rfl) ?_
    obtain ⟨rfl, rfl⟩ := m_some h
    exact m_R_iret (by decide) (m_opb_of (ins := .ireturn) (len := 1) (tag := 1) (a := 0) (b := 0) (c := 0) (q := 0) (by decide +kernel)) (Or.inl rfl)
  · refine m_R_1 (by decide) (m_opb_of (ins := .if_icmp .eq 17) (len := 3) (tag := 0) (a := 30) (b := 0) (c := 0) (q := 0) (by decide +kernel)) (if_neg c218) ?_
    refine m_R_sg (by decide) [(.aload_n 0, 1, 0, 0, 0, 0, 0), (.getfield 63, 3, 0, 10, 7, 3, 517), (.iload_n 3, 1, 0, 3, 0, 0, 0), (.iconst 0, 1, 0, 0, 0, 0, 0), (.aload_n 0, 1, 0, 0, 0, 0, 0), (.getfield 48, 3, 0, 10, 5, 3, 515)] (by decide +kernel) (show m_sgl X _ _ _ _ _ = some (26, [some (.ref 16), some (.int v1), some (.int v2), some (.int q2.1)], [.ref 54, .int (0 : Int32), .int q2.1, .ref 8], (SH, q2.2.1, q2.2.2)) from rfl) ?_
    obtain ⟨q3, hc3, h⟩ := Option.bind_eq_some_iff.mp h
    refine m_R_cV (v := (some (.int q3.1))) (h1 := (SH, q3.2)) (rest := []) (lo' := [some (.ref 8), some (.int q2.1), some (.int (0 : Int32)), some (.ref 54), none, none, none, none, none, none, none]) (ml := 11) (k0 := 8) (by decide) (Or.inl rfl) (m_opb_of (ins := .invokevirtual 154) (len := 3) (tag := 5) (a := 47) (b := 3) (c := 0) (q := 801) (by decide +kernel)) (by decide +kernel) rfl (show m_isO 47 8 (SH, _) = true from m_isO_of (by decide +kernel)) (Nat.le_of_ble_eq_true rfl) rfl rfl (ok_Texts_work_8_54 X (d + 1) F _ _ _ _ _ hc3) ?_
    obtain ⟨rfl, rfl⟩ := m_some h
    exact m_R_iret (by decide) (m_opb_of (ins := .ireturn) (len := 1) (tag := 1) (a := 0) (b := 0) (c := 0) (q := 0) (by decide +kernel)) (Or.inl rfl)
def f_World_bankCan_78 (F : Nat)   (s0 : Int32) (m : mM) : Option (Int32 × mM) := (if s0 = 0 ∨ s0 = 1 then some (s0, m) else none)
theorem ok_World_bankCan_78 (X : mX) (d F : Nat) : ∀ (s0 : Int32) (w0 : Option Value) (w1 : Option Value) (w2 : Option Value) (m : mM) (r : Int32) (m' : mM), f_World_bankCan_78 F s0 m = some (r, m') → m_R X (d + 3) 36 78 [w0, w1, w2] [.int s0] (SH, m) (some (.int r), (SH, m')) := by
  intro s0 w0 w1 w2 m r m' h
  unfold f_World_bankCan_78 at h
  obtain ⟨c0, h⟩ := m_ite_p h
  obtain ⟨rfl, rfl⟩ := m_some h
  exact m_R_iret (by decide) (m_opb_of (ins := .ireturn) (len := 1) (tag := 1) (a := 1) (b := 0) (c := 0) (q := 0) (by decide +kernel)) (Or.inr c0)
def f_World_bankCan_73 (F : Nat)    (m : mM) : Option (Int32 × mM) := f_World_bankCan_78 F (1 : Int32) m
theorem ok_World_bankCan_73 (X : mX) (d F : Nat) : ∀  (w0 : Option Value) (w1 : Option Value) (w2 : Option Value) (m : mM) (r : Int32) (m' : mM), f_World_bankCan_73 F  m = some (r, m') → m_R X (d + 3) 36 73 [w0, w1, w2] [] (SH, m) (some (.int r), (SH, m')) := by
  intro w0 w1 w2 m r m' h
  unfold f_World_bankCan_73 at h
  refine m_R_sg (by decide) [(.iconst 1, 1, 0, 1, 0, 0, 0), (.goto 4, 3, 0, 78, 0, 0, 0)] (by decide +kernel) (show m_sgl X _ _ _ _ _ = some (78, [w0, w1, w2], [.int (1 : Int32)], (SH, m.1, m.2)) from rfl) ?_
  exact ok_World_bankCan_78 X d F _ _ _ _ _ _ _ h
def f_World_bankCan_77 (F : Nat)    (m : mM) : Option (Int32 × mM) := f_World_bankCan_78 F (0 : Int32) m
theorem ok_World_bankCan_77 (X : mX) (d F : Nat) : ∀  (w0 : Option Value) (w1 : Option Value) (w2 : Option Value) (m : mM) (r : Int32) (m' : mM), f_World_bankCan_77 F  m = some (r, m') → m_R X (d + 3) 36 77 [w0, w1, w2] [] (SH, m) (some (.int r), (SH, m')) := by
  intro w0 w1 w2 m r m' h
  unfold f_World_bankCan_77 at h
  refine m_R_sg (by decide) [(.iconst 0, 1, 0, 0, 0, 0, 0)] (by decide +kernel) (show m_sgl X _ _ _ _ _ = some (78, [w0, w1, w2], [.int (0 : Int32)], (SH, m.1, m.2)) from rfl) ?_
  exact ok_World_bankCan_78 X d F _ _ _ _ _ _ _ h
def f_World_bankCan (F : Nat)   (v1 : Int32) (m : mM) : Option (Int32 × mM) := (if (v1 - ((10 : Int32) * (v1 / (10 : Int32)))) ≤ (m.1 22 (0 : Int32).toNatClampNeg) then (if (v1 / (10 : Int32)) = 0 then some ((1 : Int32), m) else ((f_Notes_canIssue F (v1 / (10 : Int32)) m).bind fun q1 => (if q1.1 = 0 then f_World_bankCan_77 F q1.2 else ((f_World_lawSays F (6 : Int32) (-1 : Int32) q1.2).bind fun q2 => (if q2.1 = 0 then ((f_World_lawSays F (0 : Int32) (-1 : Int32) q2.2).bind fun q3 => (if q3.1 < ((10 : Int32) * ((q2.2.1 55 9) + (v1 / (10 : Int32)))) then f_World_bankCan_77 F q3.2 else f_World_bankCan_73 F q3.2)) else f_World_bankCan_73 F q2.2))))) else some ((0 : Int32), m))
theorem ok_World_bankCan (X : mX) (d F : Nat) : ∀ (v1 : Int32)  (m : mM) (r : Int32) (m' : mM), f_World_bankCan F v1 m = some (r, m') → m_R X (d + 3) 36 0 [some (.ref 16), some (.int v1), none] [] (SH, m) (some (.int r), (SH, m')) := by
  intro v1 m r m' h
  unfold f_World_bankCan at h
  refine m_R_sg (by decide) [(.iload_n 1, 1, 0, 1, 0, 0, 0), (.bipush 10, 2, 0, 10, 0, 0, 0)] (by decide +kernel) (show m_sgl X _ _ _ _ _ = some (3, [some (.ref 16), some (.int v1), none], [.int (10 : Int32), .int v1], (SH, m.1, m.2)) from rfl) ?_
  refine m_R_1 (by decide) (m_opb_of (ins := .idiv) (len := 1) (tag := 0) (a := 0) (b := 0) (c := 0) (q := 0) (by decide +kernel)) (m_s_idiv (by decide)) ?_
  refine m_R_sg (by decide) [(.istore_n 2, 1, 0, 2, 0, 0, 0), (.aload_n 0, 1, 0, 0, 0, 0, 0), (.getfield 21, 3, 0, 10, 1, 3, 505), (.getfield 107, 3, 0, 1, 2, 3, 255), (.iconst 0, 1, 0, 0, 0, 0, 0)] (by decide +kernel) (show m_sgl X _ _ _ _ _ = some (13, [some (.ref 16), some (.int v1), some (.int (v1 / (10 : Int32)))], [.int (0 : Int32), .ref 22], (SH, m.1, m.2)) from rfl) ?_
  refine m_R_1 (by decide) (m_opb_of (ins := .iaload) (len := 1) (tag := 0) (a := 0) (b := 0) (c := 0) (q := 0) (by decide +kernel)) (m_s_iald sh_22 (by decide) (show ¬ ((0 : Int32) < 0 ∨ 16 ≤ (0 : Int32).toNatClampNeg) by decide)) ?_
  refine m_R_sg (by decide) [(.iload_n 1, 1, 0, 1, 0, 0, 0), (.bipush 10, 2, 0, 10, 0, 0, 0), (.iload_n 2, 1, 0, 2, 0, 0, 0), (.imul, 1, 0, 0, 0, 0, 0), (.isub, 1, 0, 0, 0, 0, 0)] (by decide +kernel) (show m_sgl X _ _ _ _ _ = some (20, [some (.ref 16), some (.int v1), some (.int (v1 / (10 : Int32)))], [.int (v1 - ((10 : Int32) * (v1 / (10 : Int32)))), .int (m.1 22 (0 : Int32).toNatClampNeg)], (SH, m.1, m.2)) from rfl) ?_
  rcases m_ite h with ⟨c219, h⟩ | ⟨c219, h⟩
  · refine m_R_1 (by decide) (m_opb_of (ins := .if_icmp .ge 5) (len := 3) (tag := 0) (a := 25) (b := 0) (c := 0) (q := 0) (by decide +kernel)) (if_pos c219) ?_
    refine m_R_sg (by decide) [(.iload_n 2, 1, 0, 2, 0, 0, 0)] (by decide +kernel) (show m_sgl X _ _ _ _ _ = some (26, [some (.ref 16), some (.int v1), some (.int (v1 / (10 : Int32)))], [.int (v1 / (10 : Int32))], (SH, m.1, m.2)) from rfl) ?_
    rcases m_ite h with ⟨c220, h⟩ | ⟨c220, h⟩
    · refine m_R_1 (by decide) (m_opb_of (ins := .ifCond .ne 5) (len := 3) (tag := 0) (a := 31) (b := 0) (c := 0) (q := 0) (by decide +kernel)) (if_pos c220) ?_
      refine m_R_sg (by decide) [(.iconst 1, 1, 0, 1, 0, 0, 0)] (by decide +kernel) (show m_sgl X _ _ _ _ _ = some (30, [some (.ref 16), some (.int v1), some (.int (v1 / (10 : Int32)))], [.int (1 : Int32)], (SH, m.1, m.2)) from rfl) ?_
      obtain ⟨rfl, rfl⟩ := m_some h
      exact m_R_iret (by decide) (m_opb_of (ins := .ireturn) (len := 1) (tag := 1) (a := 1) (b := 0) (c := 0) (q := 0) (by decide +kernel)) (Or.inr (Or.inr rfl))
    · refine m_R_1 (by decide) (m_opb_of (ins := .ifCond .ne 5) (len := 3) (tag := 0) (a := 31) (b := 0) (c := 0) (q := 0) (by decide +kernel)) (if_neg c220) ?_
      refine m_R_sg (by decide) [(.aload_n 0, 1, 0, 0, 0, 0, 0), (.getfield 72, 3, 0, 10, 8, 3, 518), (.iload_n 2, 1, 0, 2, 0, 0, 0)] (by decide +kernel) (show m_sgl X _ _ _ _ _ = some (36, [some (.ref 16), some (.int v1), some (.int (v1 / (10 : Int32)))], [.int (v1 / (10 : Int32)), .ref 55], (SH, m.1, m.2)) from rfl) ?_
      obtain ⟨q1, hc1, h⟩ := Option.bind_eq_some_iff.mp h
      refine m_R_cV (v := (some (.int q1.1))) (h1 := (SH, q1.2)) (rest := []) (lo' := [some (.ref 55), some (.int (v1 / (10 : Int32))), none]) (ml := 3) (k0 := 55) (by decide) (Or.inl rfl) (m_opb_of (ins := .invokevirtual 180) (len := 3) (tag := 5) (a := 37) (b := 1) (c := 0) (q := 764) (by decide +kernel)) (by decide +kernel) rfl (show m_isO 37 55 (SH, _) = true from m_isO_of (by decide +kernel)) (Nat.le_of_ble_eq_true rfl) rfl rfl (ok_Notes_canIssue X (d + 1) F _ _ _ _ hc1) ?_
      rcases m_ite h with ⟨c221, h⟩ | ⟨c221, h⟩
      · refine m_R_1 (by decide) (m_opb_of (ins := .ifCond .eq 38) (len := 3) (tag := 0) (a := 77) (b := 0) (c := 0) (q := 0) (by decide +kernel)) (if_pos c221) ?_
        exact ok_World_bankCan_77 X d F _ _ _ _ _ _ h
      · refine m_R_1 (by decide) (m_opb_of (ins := .ifCond .eq 38) (len := 3) (tag := 0) (a := 77) (b := 0) (c := 0) (q := 0) (by decide +kernel)) (if_neg c221) ?_
        refine m_R_sg (by decide) [(.aload_n 0, 1, 0, 0, 0, 0, 0), (.bipush 6, 2, 0, 6, 0, 0, 0), (.iconst (-1), 1, 0, 1, 1, 0, 0)] (by decide +kernel) (show m_sgl X _ _ _ _ _ = some (46, [some (.ref 16), some (.int v1), some (.int (v1 / (10 : Int32)))], [.int (-1 : Int32), .int (6 : Int32), .ref 16], (SH, q1.2.1, q1.2.2)) from rfl) ?_
        obtain ⟨q2, hc2, h⟩ := Option.bind_eq_some_iff.mp h
        refine m_R_cV (v := (some (.int q2.1))) (h1 := (SH, q2.2)) (rest := []) (lo' := [some (.ref 16), some (.int (6 : Int32)), some (.int (-1 : Int32)), none]) (ml := 4) (k0 := 16) (by decide) (Or.inl rfl) (m_opb_of (ins := .invokevirtual 183) (len := 3) (tag := 5) (a := 39) (b := 2) (c := 0) (q := 771) (by decide +kernel)) (by decide +kernel) rfl (show m_isO 39 16 (SH, _) = true from m_isO_of (by decide +kernel)) (Nat.le_of_ble_eq_true rfl) rfl rfl (ok_World_lawSays X (d + 0) F _ _ _ _ _ hc2) ?_
        rcases m_ite h with ⟨c222, h⟩ | ⟨c222, h⟩
        · refine m_R_1 (by decide) (m_opb_of (ins := .ifCond .ne 24) (len := 3) (tag := 0) (a := 73) (b := 0) (c := 0) (q := 0) (by decide +kernel)) (if_pos c222) ?_
          refine m_R_sg (by decide) [(.bipush 10, 2, 0, 10, 0, 0, 0), (.aload_n 0, 1, 0, 0, 0, 0, 0), (.getfield 72, 3, 0, 10, 8, 3, 518), (.getfield 120, 3, 0, 3, 9, 0, 468), (.iload_n 2, 1, 0, 2, 0, 0, 0), (.iadd, 1, 0, 0, 0, 0, 0), (.imul, 1, 0, 0, 0, 0, 0), (.aload_n 0, 1, 0, 0, 0, 0, 0), (.iconst 0, 1, 0, 0, 0, 0, 0), (.iconst (-1), 1, 0, 1, 1, 0, 0)] (by decide +kernel) (show m_sgl X _ _ _ _ _ = some (67, [some (.ref 16), some (.int v1), some (.int (v1 / (10 : Int32)))], [.int (-1 : Int32), .int (0 : Int32), .ref 16, .int ((10 : Int32) * ((q2.2.1 55 9) + (v1 / (10 : Int32))))], (SH, q2.2.1, q2.2.2)) from rfl) ?_
          obtain ⟨q3, hc3, h⟩ := Option.bind_eq_some_iff.mp h
          refine m_R_cV (v := (some (.int q3.1))) (h1 := (SH, q3.2)) (rest := [.int ((10 : Int32) * ((q2.2.1 55 9) + (v1 / (10 : Int32))))]) (lo' := [some (.ref 16), some (.int (0 : Int32)), some (.int (-1 : Int32)), none]) (ml := 4) (k0 := 16) (by decide) (Or.inl rfl) (m_opb_of (ins := .invokevirtual 183) (len := 3) (tag := 5) (a := 39) (b := 2) (c := 0) (q := 771) (by decide +kernel)) (by decide +kernel) rfl (show m_isO 39 16 (SH, _) = true from m_isO_of (by decide +kernel)) (Nat.le_of_ble_eq_true rfl) rfl rfl (ok_World_lawSays X (d + 0) F _ _ _ _ _ hc3) ?_
          rcases m_ite h with ⟨c223, h⟩ | ⟨c223, h⟩
          · refine m_R_1 (by decide) (m_opb_of (ins := .if_icmp .gt 7) (len := 3) (tag := 0) (a := 77) (b := 0) (c := 0) (q := 0) (by decide +kernel)) (if_pos c223) ?_
            exact ok_World_bankCan_77 X d F _ _ _ _ _ _ h
          · refine m_R_1 (by decide) (m_opb_of (ins := .if_icmp .gt 7) (len := 3) (tag := 0) (a := 77) (b := 0) (c := 0) (q := 0) (by decide +kernel)) (if_neg c223) ?_
            exact ok_World_bankCan_73 X d F _ _ _ _ _ _ h
        · refine m_R_1 (by decide) (m_opb_of (ins := .ifCond .ne 24) (len := 3) (tag := 0) (a := 73) (b := 0) (c := 0) (q := 0) (by decide +kernel)) (if_neg c222) ?_
          exact ok_World_bankCan_73 X d F _ _ _ _ _ _ h
  · refine m_R_1 (by decide) (m_opb_of (ins := .if_icmp .ge 5) (len := 3) (tag := 0) (a := 25) (b := 0) (c := 0) (q := 0) (by decide +kernel)) (if_neg c219) ?_
    refine m_R_sg (by decide) [(.iconst 0, 1, 0, 0, 0, 0, 0)] (by decide +kernel) (show m_sgl X _ _ _ _ _ = some (24, [some (.ref 16), some (.int v1), some (.int (v1 / (10 : Int32)))], [.int (0 : Int32)], (SH, m.1, m.2)) from rfl) ?_
    obtain ⟨rfl, rfl⟩ := m_some h
    exact m_R_iret (by decide) (m_opb_of (ins := .ireturn) (len := 1) (tag := 1) (a := 1) (b := 0) (c := 0) (q := 0) (by decide +kernel)) (Or.inr (Or.inl rfl))
def f_Notes_goodOf_85 (F : Nat)  (k7 : Int32 → Int32 → Int32 → Int32 → mM → Option (Int32 × mM)) (v1 : Int32) (v2 : Int32) (v3 : Int32) (v4 : Int32) (m : mM) : Option (Int32 × mM) := k7 v1 v2 v3 (v4 + (1 : Int32)) m
theorem ok_Notes_goodOf_85 (X : mX) (d F : Nat) (k7 : Int32 → Int32 → Int32 → Int32 → mM → Option (Int32 × mM)) (hk7 : ∀ (v1 : Int32) (v2 : Int32) (v3 : Int32) (v4 : Int32) (w5 : Option Value) (w6 : Option Value) (m : mM) (r : Int32) (m' : mM), k7 v1 v2 v3 v4 m = some (r, m') → m_R X (d + 0) 49 7 [some (.ref 55), some (.int v1), some (.int v2), some (.int v3), some (.int v4), w5, w6] [] (SH, m) (some (.int r), (SH, m'))) : ∀ (v1 : Int32) (v2 : Int32) (v3 : Int32) (v4 : Int32) (w5 : Option Value) (w6 : Option Value) (m : mM) (r : Int32) (m' : mM), f_Notes_goodOf_85 F k7 v1 v2 v3 v4 m = some (r, m') → m_R X (d + 0) 49 85 [some (.ref 55), some (.int v1), some (.int v2), some (.int v3), some (.int v4), w5, w6] [] (SH, m) (some (.int r), (SH, m')) := by
  intro v1 v2 v3 v4 w5 w6 m r m' h
  unfold f_Notes_goodOf_85 at h
  refine m_R_sg (by decide) [(.iinc 4 1, 3, 0, 4, 1, 0, 0), (.goto (-81), 3, 0, 7, 0, 0, 0)] (by decide +kernel) (show m_sgl X _ _ _ _ _ = some (7, [some (.ref 55), some (.int v1), some (.int v2), some (.int v3), some (.int (v4 + (1 : Int32))), w5, w6], [], (SH, m.1, m.2)) from rfl) ?_
  exact hk7 _ _ _ _ _ _ _ _ _ h
def f_Notes_goodOf_80 (F : Nat)  (k7 : Int32 → Int32 → Int32 → Int32 → mM → Option (Int32 × mM)) (v1 : Int32) (v4 : Int32) (v6 : Int32) (s0 : Int32) (s1 : Int32) (m : mM) : Option (Int32 × mM) := f_Notes_goodOf_85 F k7 v1 (s0 + s1) v6 v4 m
theorem ok_Notes_goodOf_80 (X : mX) (d F : Nat) (k7 : Int32 → Int32 → Int32 → Int32 → mM → Option (Int32 × mM)) (hk7 : ∀ (v1 : Int32) (v2 : Int32) (v3 : Int32) (v4 : Int32) (w5 : Option Value) (w6 : Option Value) (m : mM) (r : Int32) (m' : mM), k7 v1 v2 v3 v4 m = some (r, m') → m_R X (d + 0) 49 7 [some (.ref 55), some (.int v1), some (.int v2), some (.int v3), some (.int v4), w5, w6] [] (SH, m) (some (.int r), (SH, m'))) : ∀ (v1 : Int32) (v4 : Int32) (v6 : Int32) (s0 : Int32) (s1 : Int32) (w2 : Option Value) (w3 : Option Value) (w5 : Option Value) (m : mM) (r : Int32) (m' : mM), f_Notes_goodOf_80 F k7 v1 v4 v6 s0 s1 m = some (r, m') → m_R X (d + 0) 49 80 [some (.ref 55), some (.int v1), w2, w3, some (.int v4), w5, some (.int v6)] [.int s1, .int s0] (SH, m) (some (.int r), (SH, m')) := by
  intro v1 v4 v6 s0 s1 w2 w3 w5 m r m' h
  unfold f_Notes_goodOf_80 at h
  refine m_R_sg (by decide) [(.iadd, 1, 0, 0, 0, 0, 0), (.istore_n 2, 1, 0, 2, 0, 0, 0), (.iload 6, 2, 0, 6, 0, 0, 0), (.istore_n 3, 1, 0, 3, 0, 0, 0)] (by decide +kernel) (show m_sgl X _ _ _ _ _ = some (85, [some (.ref 55), some (.int v1), some (.int (s0 + s1)), some (.int v6), some (.int v4), w5, some (.int v6)], [], (SH, m.1, m.2)) from rfl) ?_
  exact ok_Notes_goodOf_85 X d F _ hk7 _ _ _ _ _ _ _ _ _ h
def f_Notes_goodOf_79 (F : Nat)  (k7 : Int32 → Int32 → Int32 → Int32 → mM → Option (Int32 × mM)) (v1 : Int32) (v4 : Int32) (v6 : Int32) (s0 : Int32) (m : mM) : Option (Int32 × mM) := f_Notes_goodOf_80 F k7 v1 v4 v6 s0 (0 : Int32) m
theorem ok_Notes_goodOf_79 (X : mX) (d F : Nat) (k7 : Int32 → Int32 → Int32 → Int32 → mM → Option (Int32 × mM)) (hk7 : ∀ (v1 : Int32) (v2 : Int32) (v3 : Int32) (v4 : Int32) (w5 : Option Value) (w6 : Option Value) (m : mM) (r : Int32) (m' : mM), k7 v1 v2 v3 v4 m = some (r, m') → m_R X (d + 0) 49 7 [some (.ref 55), some (.int v1), some (.int v2), some (.int v3), some (.int v4), w5, w6] [] (SH, m) (some (.int r), (SH, m'))) : ∀ (v1 : Int32) (v4 : Int32) (v6 : Int32) (s0 : Int32) (w2 : Option Value) (w3 : Option Value) (w5 : Option Value) (m : mM) (r : Int32) (m' : mM), f_Notes_goodOf_79 F k7 v1 v4 v6 s0 m = some (r, m') → m_R X (d + 0) 49 79 [some (.ref 55), some (.int v1), w2, w3, some (.int v4), w5, some (.int v6)] [.int s0] (SH, m) (some (.int r), (SH, m')) := by
  intro v1 v4 v6 s0 w2 w3 w5 m r m' h
  unfold f_Notes_goodOf_79 at h
  refine m_R_sg (by decide) [(.iconst 0, 1, 0, 0, 0, 0, 0)] (by decide +kernel) (show m_sgl X _ _ _ _ _ = some (80, [some (.ref 55), some (.int v1), w2, w3, some (.int v4), w5, some (.int v6)], [.int (0 : Int32), .int s0], (SH, m.1, m.2)) from rfl) ?_
  exact ok_Notes_goodOf_80 X d F _ hk7 _ _ _ _ _ _ _ _ _ _ _ h
def f_Notes_goodOf_91 (F : Nat)   (v2 : Int32) (m : mM) : Option (Int32 × mM) := some (v2, m)
theorem ok_Notes_goodOf_91 (X : mX) (d F : Nat) : ∀ (v2 : Int32) (w0 : Option Value) (w1 : Option Value) (w3 : Option Value) (w4 : Option Value) (w5 : Option Value) (w6 : Option Value) (m : mM) (r : Int32) (m' : mM), f_Notes_goodOf_91 F v2 m = some (r, m') → m_R X (d + 0) 49 91 [w0, w1, some (.int v2), w3, w4, w5, w6] [] (SH, m) (some (.int r), (SH, m')) := by
  intro v2 w0 w1 w3 w4 w5 w6 m r m' h
  unfold f_Notes_goodOf_91 at h
  refine m_R_sg (by decide) [(.iload_n 2, 1, 0, 2, 0, 0, 0)] (by decide +kernel) (show m_sgl X _ _ _ _ _ = some (92, [w0, w1, some (.int v2), w3, w4, w5, w6], [.int v2], (SH, m.1, m.2)) from rfl) ?_
  obtain ⟨rfl, rfl⟩ := m_some h
  exact m_R_iret (by decide) (m_opb_of (ins := .ireturn) (len := 1) (tag := 1) (a := 0) (b := 0) (c := 0) (q := 0) (by decide +kernel)) (Or.inl rfl)
def f_Notes_goodOf_7 (F : Nat)   : Nat → Int32 → Int32 → Int32 → Int32 → mM → Option (Int32 × mM)
  | 0, _, _, _, _, _ => none
  | n + 1, v1, v2, v3, v4, m => (if (m.1 55 7) ≤ v4 then f_Notes_goodOf_91 F v2 m else (if v1 < 0 ∨ 16 ≤ v1.toNatClampNeg then none else (if (m.1 61 v1.toNatClampNeg) ≤ 0 then f_Notes_goodOf_91 F v2 m else (if v4 < 0 ∨ 400 ≤ v4.toNatClampNeg then none else (if (m.1 60 v4.toNatClampNeg) < 0 ∨ 400 ≤ (m.1 60 v4.toNatClampNeg).toNatClampNeg then none else (if (m.1 58 (m.1 60 v4.toNatClampNeg).toNatClampNeg) = v1 then (if (m.1 2 (m.1 60 v4.toNatClampNeg).toNatClampNeg) < 0 ∨ 300 ≤ (m.1 2 (m.1 60 v4.toNatClampNeg).toNatClampNeg).toNatClampNeg then none else (if (m.1 56 (m.1 2 (m.1 60 v4.toNatClampNeg).toNatClampNeg).toNatClampNeg) = (1 : Int32) then (if (m.1 2 (m.1 60 v4.toNatClampNeg).toNatClampNeg) = v3 then f_Notes_goodOf_79 F (f_Notes_goodOf_7 F n) v1 v4 (m.1 2 (m.1 60 v4.toNatClampNeg).toNatClampNeg) v2 m else f_Notes_goodOf_80 F (f_Notes_goodOf_7 F n) v1 v4 (m.1 2 (m.1 60 v4.toNatClampNeg).toNatClampNeg) v2 (1 : Int32) m) else f_Notes_goodOf_79 F (f_Notes_goodOf_7 F n) v1 v4 (m.1 2 (m.1 60 v4.toNatClampNeg).toNatClampNeg) v2 m)) else f_Notes_goodOf_85 F (f_Notes_goodOf_7 F n) v1 v2 v3 v4 m))))))
theorem ok_Notes_goodOf_7 (X : mX) (d F : Nat) : ∀ (n : Nat) (v1 : Int32) (v2 : Int32) (v3 : Int32) (v4 : Int32) (w5 : Option Value) (w6 : Option Value) (m : mM) (r : Int32) (m' : mM), f_Notes_goodOf_7 F n v1 v2 v3 v4 m = some (r, m') → m_R X (d + 0) 49 7 [some (.ref 55), some (.int v1), some (.int v2), some (.int v3), some (.int v4), w5, w6] [] (SH, m) (some (.int r), (SH, m')) := by
  intro n
  induction n with
  | zero => intro v1 v2 v3 v4 w5 w6 m r m' h; cases h
  | succ n ih =>
    intro v1 v2 v3 v4 w5 w6 m r m' h
    simp only [f_Notes_goodOf_7] at h
    refine m_R_sg (by decide) [(.iload 4, 2, 0, 4, 0, 0, 0), (.aload_n 0, 1, 0, 0, 0, 0, 0), (.getfield 38, 3, 0, 3, 7, 0, 463)] (by decide +kernel) (show m_sgl X _ _ _ _ _ = some (13, [some (.ref 55), some (.int v1), some (.int v2), some (.int v3), some (.int v4), w5, w6], [.int (m.1 55 7), .int v4], (SH, m.1, m.2)) from rfl) ?_
    rcases m_ite h with ⟨c224, h⟩ | ⟨c224, h⟩
    · refine m_R_1 (by decide) (m_opb_of (ins := .if_icmp .ge 78) (len := 3) (tag := 0) (a := 91) (b := 0) (c := 0) (q := 0) (by decide +kernel)) (if_pos c224) ?_
      exact ok_Notes_goodOf_91 X d F _ _ _ _ _ _ _ _ _ _ h
    · refine m_R_1 (by decide) (m_opb_of (ins := .if_icmp .ge 78) (len := 3) (tag := 0) (a := 91) (b := 0) (c := 0) (q := 0) (by decide +kernel)) (if_neg c224) ?_
      refine m_R_sg (by decide) [(.aload_n 0, 1, 0, 0, 0, 0, 0), (.getfield 27, 3, 0, 3, 6, 3, 460), (.iload_n 1, 1, 0, 1, 0, 0, 0)] (by decide +kernel) (show m_sgl X _ _ _ _ _ = some (21, [some (.ref 55), some (.int v1), some (.int v2), some (.int v3), some (.int v4), w5, w6], [.int v1, .ref 61], (SH, m.1, m.2)) from rfl) ?_
      obtain ⟨c225, h⟩ := m_ite_n h
      refine m_R_1 (by decide) (m_opb_of (ins := .iaload) (len := 1) (tag := 0) (a := 0) (b := 0) (c := 0) (q := 0) (by decide +kernel)) (m_s_iald sh_61 (by decide) c225) ?_
      rcases m_ite h with ⟨c226, h⟩ | ⟨c226, h⟩
      · refine m_R_1 (by decide) (m_opb_of (ins := .ifCond .le 69) (len := 3) (tag := 0) (a := 91) (b := 0) (c := 0) (q := 0) (by decide +kernel)) (if_pos c226) ?_
        exact ok_Notes_goodOf_91 X d F _ _ _ _ _ _ _ _ _ _ h
      · refine m_R_1 (by decide) (m_opb_of (ins := .ifCond .le 69) (len := 3) (tag := 0) (a := 91) (b := 0) (c := 0) (q := 0) (by decide +kernel)) (if_neg c226) ?_
        refine m_R_sg (by decide) [(.aload_n 0, 1, 0, 0, 0, 0, 0), (.getfield 24, 3, 0, 3, 5, 3, 458), (.iload 4, 2, 0, 4, 0, 0, 0)] (by decide +kernel) (show m_sgl X _ _ _ _ _ = some (31, [some (.ref 55), some (.int v1), some (.int v2), some (.int v3), some (.int v4), w5, w6], [.int v4, .ref 60], (SH, m.1, m.2)) from rfl) ?_
        obtain ⟨c227, h⟩ := m_ite_n h
        refine m_R_1 (by decide) (m_opb_of (ins := .iaload) (len := 1) (tag := 0) (a := 0) (b := 0) (c := 0) (q := 0) (by decide +kernel)) (m_s_iald sh_60 (by decide) c227) ?_
        refine m_R_sg (by decide) [(.istore 5, 2, 0, 5, 0, 0, 0), (.aload_n 0, 1, 0, 0, 0, 0, 0), (.getfield 18, 3, 0, 3, 3, 3, 453), (.iload 5, 2, 0, 5, 0, 0, 0)] (by decide +kernel) (show m_sgl X _ _ _ _ _ = some (40, [some (.ref 55), some (.int v1), some (.int v2), some (.int v3), some (.int v4), some (.int (m.1 60 v4.toNatClampNeg)), w6], [.int (m.1 60 v4.toNatClampNeg), .ref 58], (SH, m.1, m.2)) from rfl) ?_
        obtain ⟨c228, h⟩ := m_ite_n h
        refine m_R_1 (by decide) (m_opb_of (ins := .iaload) (len := 1) (tag := 0) (a := 0) (b := 0) (c := 0) (q := 0) (by decide +kernel)) (m_s_iald sh_58 (by decide) c228) ?_
        refine m_R_sg (by decide) [(.iload_n 1, 1, 0, 1, 0, 0, 0)] (by decide +kernel) (show m_sgl X _ _ _ _ _ = some (42, [some (.ref 55), some (.int v1), some (.int v2), some (.int v3), some (.int v4), some (.int (m.1 60 v4.toNatClampNeg)), w6], [.int v1, .int (m.1 58 (m.1 60 v4.toNatClampNeg).toNatClampNeg)], (SH, m.1, m.2)) from rfl) ?_
        rcases m_ite h with ⟨c229, h⟩ | ⟨c229, h⟩
        · refine m_R_1 (by decide) (m_opb_of (ins := .if_icmp .ne 43) (len := 3) (tag := 0) (a := 85) (b := 0) (c := 0) (q := 0) (by decide +kernel)) (if_pos c229) ?_
          refine m_R_sg (by decide) [(.aload_n 0, 1, 0, 0, 0, 0, 0), (.getfield 30, 3, 0, 3, 0, 3, 449), (.getfield 70, 3, 0, 6, 0, 3, 161), (.iload 5, 2, 0, 5, 0, 0, 0)] (by decide +kernel) (show m_sgl X _ _ _ _ _ = some (54, [some (.ref 55), some (.int v1), some (.int v2), some (.int v3), some (.int v4), some (.int (m.1 60 v4.toNatClampNeg)), w6], [.int (m.1 60 v4.toNatClampNeg), .ref 2], (SH, m.1, m.2)) from rfl) ?_
          refine m_R_1 (by decide) (m_opb_of (ins := .iaload) (len := 1) (tag := 0) (a := 0) (b := 0) (c := 0) (q := 0) (by decide +kernel)) (m_s_iald sh_2 (by decide) c228) ?_
          refine m_R_sg (by decide) [(.istore 6, 2, 0, 6, 0, 0, 0), (.iload_n 2, 1, 0, 2, 0, 0, 0), (.aload_n 0, 1, 0, 0, 0, 0, 0), (.getfield 9, 3, 0, 3, 1, 3, 450), (.iload 6, 2, 0, 6, 0, 0, 0)] (by decide +kernel) (show m_sgl X _ _ _ _ _ = some (64, [some (.ref 55), some (.int v1), some (.int v2), some (.int v3), some (.int v4), some (.int (m.1 60 v4.toNatClampNeg)), some (.int (m.1 2 (m.1 60 v4.toNatClampNeg).toNatClampNeg))], [.int (m.1 2 (m.1 60 v4.toNatClampNeg).toNatClampNeg), .ref 56, .int v2], (SH, m.1, m.2)) from rfl) ?_
          obtain ⟨c230, h⟩ := m_ite_n h
          refine m_R_1 (by decide) (m_opb_of (ins := .iaload) (len := 1) (tag := 0) (a := 0) (b := 0) (c := 0) (q := 0) (by decide +kernel)) (m_s_iald sh_56 (by decide) c230) ?_
          refine m_R_sg (by decide) [(.iconst 1, 1, 0, 1, 0, 0, 0)] (by decide +kernel) (show m_sgl X _ _ _ _ _ = some (66, [some (.ref 55), some (.int v1), some (.int v2), some (.int v3), some (.int v4), some (.int (m.1 60 v4.toNatClampNeg)), some (.int (m.1 2 (m.1 60 v4.toNatClampNeg).toNatClampNeg))], [.int (1 : Int32), .int (m.1 56 (m.1 2 (m.1 60 v4.toNatClampNeg).toNatClampNeg).toNatClampNeg), .int v2], (SH, m.1, m.2)) from rfl) ?_
          rcases m_ite h with ⟨c231, h⟩ | ⟨c231, h⟩
          · refine m_R_1 (by decide) (m_opb_of (ins := .if_icmp .ne 13) (len := 3) (tag := 0) (a := 79) (b := 0) (c := 0) (q := 0) (by decide +kernel)) (if_pos c231) ?_
            refine m_R_sg (by decide) [(.iload 6, 2, 0, 6, 0, 0, 0), (.iload_n 3, 1, 0, 3, 0, 0, 0)] (by decide +kernel) (show m_sgl X _ _ _ _ _ = some (72, [some (.ref 55), some (.int v1), some (.int v2), some (.int v3), some (.int v4), some (.int (m.1 60 v4.toNatClampNeg)), some (.int (m.1 2 (m.1 60 v4.toNatClampNeg).toNatClampNeg))], [.int v3, .int (m.1 2 (m.1 60 v4.toNatClampNeg).toNatClampNeg), .int v2], (SH, m.1, m.2)) from rfl) ?_
            rcases m_ite h with ⟨c232, h⟩ | ⟨c232, h⟩
            · refine m_R_1 (by decide) (m_opb_of (ins := .if_icmp .eq 7) (len := 3) (tag := 0) (a := 79) (b := 0) (c := 0) (q := 0) (by decide +kernel)) (if_pos c232) ?_
              exact ok_Notes_goodOf_79 X d F _ (fun a0 a1 a2 a3 a4 a5 m r m' h => ih a0 a1 a2 a3 a4 a5 m r m' h) _ _ _ _ _ _ _ _ _ _ h
            · refine m_R_1 (by decide) (m_opb_of (ins := .if_icmp .eq 7) (len := 3) (tag := 0) (a := 79) (b := 0) (c := 0) (q := 0) (by decide +kernel)) (if_neg c232) ?_
              refine m_R_sg (by decide) [(.iconst 1, 1, 0, 1, 0, 0, 0), (.goto 4, 3, 0, 80, 0, 0, 0)] (by decide +kernel) (show m_sgl X _ _ _ _ _ = some (80, [some (.ref 55), some (.int v1), some (.int v2), some (.int v3), some (.int v4), some (.int (m.1 60 v4.toNatClampNeg)), some (.int (m.1 2 (m.1 60 v4.toNatClampNeg).toNatClampNeg))], [.int (1 : Int32), .int v2], (SH, m.1, m.2)) from rfl) ?_
              exact ok_Notes_goodOf_80 X d F _ (fun a0 a1 a2 a3 a4 a5 m r m' h => ih a0 a1 a2 a3 a4 a5 m r m' h) _ _ _ _ _ _ _ _ _ _ _ h
          · refine m_R_1 (by decide) (m_opb_of (ins := .if_icmp .ne 13) (len := 3) (tag := 0) (a := 79) (b := 0) (c := 0) (q := 0) (by decide +kernel)) (if_neg c231) ?_
            exact ok_Notes_goodOf_79 X d F _ (fun a0 a1 a2 a3 a4 a5 m r m' h => ih a0 a1 a2 a3 a4 a5 m r m' h) _ _ _ _ _ _ _ _ _ _ h
        · refine m_R_1 (by decide) (m_opb_of (ins := .if_icmp .ne 43) (len := 3) (tag := 0) (a := 85) (b := 0) (c := 0) (q := 0) (by decide +kernel)) (if_neg c229) ?_
          exact ok_Notes_goodOf_85 X d F _ (fun a0 a1 a2 a3 a4 a5 m r m' h => ih a0 a1 a2 a3 a4 a5 m r m' h) _ _ _ _ _ _ _ _ _ h
def f_Notes_goodOf (F : Nat)   (v1 : Int32) (m : mM) : Option (Int32 × mM) := f_Notes_goodOf_7 F F v1 (0 : Int32) (-1 : Int32) (0 : Int32) m
theorem ok_Notes_goodOf (X : mX) (d F : Nat) : ∀ (v1 : Int32)  (m : mM) (r : Int32) (m' : mM), f_Notes_goodOf F v1 m = some (r, m') → m_R X (d + 0) 49 0 [some (.ref 55), some (.int v1), none, none, none, none, none] [] (SH, m) (some (.int r), (SH, m')) := by
  intro v1 m r m' h
  unfold f_Notes_goodOf at h
  refine m_R_sg (by decide) [(.iconst 0, 1, 0, 0, 0, 0, 0), (.istore_n 2, 1, 0, 2, 0, 0, 0), (.iconst (-1), 1, 0, 1, 1, 0, 0), (.istore_n 3, 1, 0, 3, 0, 0, 0), (.iconst 0, 1, 0, 0, 0, 0, 0), (.istore 4, 2, 0, 4, 0, 0, 0)] (by decide +kernel) (show m_sgl X _ _ _ _ _ = some (7, [some (.ref 55), some (.int v1), some (.int (0 : Int32)), some (.int (-1 : Int32)), some (.int (0 : Int32)), none, none], [], (SH, m.1, m.2)) from rfl) ?_
  exact ok_Notes_goodOf_7 X d F F _ _ _ _ _ _ _ _ _ h
def f_Math_min_II_10 (F : Nat)   (s0 : Int32) (m : mM) : Option (Int32 × mM) := some (s0, m)
theorem ok_Math_min_II_10 (X : mX) (d F : Nat) : ∀ (s0 : Int32) (w0 : Option Value) (w1 : Option Value) (m : mM) (r : Int32) (m' : mM), f_Math_min_II_10 F s0 m = some (r, m') → m_R X (d + 0) 50 10 [w0, w1] [.int s0] (SH, m) (some (.int r), (SH, m')) := by
  intro s0 w0 w1 m r m' h
  unfold f_Math_min_II_10 at h
  obtain ⟨rfl, rfl⟩ := m_some h
  exact m_R_iret (by decide) (m_opb_of (ins := .ireturn) (len := 1) (tag := 1) (a := 0) (b := 0) (c := 0) (q := 0) (by decide +kernel)) (Or.inl rfl)
def f_Math_min_II (F : Nat)   (v0 : Int32) (v1 : Int32) (m : mM) : Option (Int32 × mM) := (if v1 < v0 then f_Math_min_II_10 F v1 m else f_Math_min_II_10 F v0 m)
theorem ok_Math_min_II (X : mX) (d F : Nat) : ∀ (v0 : Int32) (v1 : Int32)  (m : mM) (r : Int32) (m' : mM), f_Math_min_II F v0 v1 m = some (r, m') → m_R X (d + 0) 50 0 [some (.int v0), some (.int v1)] [] (SH, m) (some (.int r), (SH, m')) := by
  intro v0 v1 m r m' h
  unfold f_Math_min_II at h
  refine m_R_sg (by decide) [(.iload_n 0, 1, 0, 0, 0, 0, 0), (.iload_n 1, 1, 0, 1, 0, 0, 0)] (by decide +kernel) (show m_sgl X _ _ _ _ _ = some (2, [some (.int v0), some (.int v1)], [.int v1, .int v0], (SH, m.1, m.2)) from rfl) ?_
  rcases m_ite h with ⟨c233, h⟩ | ⟨c233, h⟩
  · refine m_R_1 (by decide) (m_opb_of (ins := .if_icmp .gt 7) (len := 3) (tag := 0) (a := 9) (b := 0) (c := 0) (q := 0) (by decide +kernel)) (if_pos c233) ?_
    refine m_R_sg (by decide) [(.iload_n 1, 1, 0, 1, 0, 0, 0)] (by decide +kernel) (show m_sgl X _ _ _ _ _ = some (10, [some (.int v0), some (.int v1)], [.int v1], (SH, m.1, m.2)) from rfl) ?_
    exact ok_Math_min_II_10 X d F _ _ _ _ _ _ h
  · refine m_R_1 (by decide) (m_opb_of (ins := .if_icmp .gt 7) (len := 3) (tag := 0) (a := 9) (b := 0) (c := 0) (q := 0) (by decide +kernel)) (if_neg c233) ?_
    refine m_R_sg (by decide) [(.iload_n 0, 1, 0, 0, 0, 0, 0), (.goto 4, 3, 0, 10, 0, 0, 0)] (by decide +kernel) (show m_sgl X _ _ _ _ _ = some (10, [some (.int v0), some (.int v1)], [.int v0], (SH, m.1, m.2)) from rfl) ?_
    exact ok_Math_min_II_10 X d F _ _ _ _ _ _ h
def f_World_houseCan_64 (F : Nat)   (s0 : Int32) (m : mM) : Option (Int32 × mM) := (if s0 = 0 ∨ s0 = 1 then some (s0, m) else none)
theorem ok_World_houseCan_64 (X : mX) (d F : Nat) : ∀ (s0 : Int32) (w0 : Option Value) (w1 : Option Value) (w2 : Option Value) (w3 : Option Value) (w4 : Option Value) (m : mM) (r : Int32) (m' : mM), f_World_houseCan_64 F s0 m = some (r, m') → m_R X (d + 1) 48 64 [w0, w1, w2, w3, w4] [.int s0] (SH, m) (some (.int r), (SH, m')) := by
  intro s0 w0 w1 w2 w3 w4 m r m' h
  unfold f_World_houseCan_64 at h
  obtain ⟨c0, h⟩ := m_ite_p h
  obtain ⟨rfl, rfl⟩ := m_some h
  exact m_R_iret (by decide) (m_opb_of (ins := .ireturn) (len := 1) (tag := 1) (a := 1) (b := 0) (c := 0) (q := 0) (by decide +kernel)) (Or.inr c0)
def f_World_houseCan_31 (F : Nat)   (v1 : Int32) (v3 : Int32) (s0 : Int32) (m : mM) : Option (Int32 × mM) := (if v1 < 0 ∨ 16 ≤ v1.toNatClampNeg then none else ((f_Math_min_II F s0 (v3 / (10 : Int32)) m).bind fun q2 => (if (m.1 22 v1.toNatClampNeg) < (v3 - ((10 : Int32) * q2.1)) then f_World_houseCan_64 F (0 : Int32) q2.2 else f_World_houseCan_64 F (1 : Int32) q2.2)))
theorem ok_World_houseCan_31 (X : mX) (d F : Nat) : ∀ (v1 : Int32) (v3 : Int32) (s0 : Int32) (w2 : Option Value) (w4 : Option Value) (m : mM) (r : Int32) (m' : mM), f_World_houseCan_31 F v1 v3 s0 m = some (r, m') → m_R X (d + 1) 48 31 [some (.ref 16), some (.int v1), w2, some (.int v3), w4] [.int s0] (SH, m) (some (.int r), (SH, m')) := by
  intro v1 v3 s0 w2 w4 m r m' h
  unfold f_World_houseCan_31 at h
  refine m_R_sg (by decide) [(.istore 4, 2, 0, 4, 0, 0, 0), (.aload_n 0, 1, 0, 0, 0, 0, 0), (.getfield 21, 3, 0, 10, 1, 3, 505), (.getfield 107, 3, 0, 1, 2, 3, 255), (.iload_n 1, 1, 0, 1, 0, 0, 0)] (by decide +kernel) (show m_sgl X _ _ _ _ _ = some (41, [some (.ref 16), some (.int v1), w2, some (.int v3), some (.int s0)], [.int v1, .ref 22], (SH, m.1, m.2)) from rfl) ?_
  obtain ⟨c234, h⟩ := m_ite_n h
  refine m_R_1 (by decide) (m_opb_of (ins := .iaload) (len := 1) (tag := 0) (a := 0) (b := 0) (c := 0) (q := 0) (by decide +kernel)) (m_s_iald sh_22 (by decide) c234) ?_
  refine m_R_sg (by decide) [(.iload_n 3, 1, 0, 3, 0, 0, 0), (.bipush 10, 2, 0, 10, 0, 0, 0), (.iload 4, 2, 0, 4, 0, 0, 0), (.iload_n 3, 1, 0, 3, 0, 0, 0), (.bipush 10, 2, 0, 10, 0, 0, 0)] (by decide +kernel) (show m_sgl X _ _ _ _ _ = some (50, [some (.ref 16), some (.int v1), w2, some (.int v3), some (.int s0)], [.int (10 : Int32), .int v3, .int s0, .int (10 : Int32), .int v3, .int (m.1 22 v1.toNatClampNeg)], (SH, m.1, m.2)) from rfl) ?_
  refine m_R_1 (by decide) (m_opb_of (ins := .idiv) (len := 1) (tag := 0) (a := 0) (b := 0) (c := 0) (q := 0) (by decide +kernel)) (m_s_idiv (by decide)) ?_
  obtain ⟨q2, hc2, h⟩ := Option.bind_eq_some_iff.mp h
  refine m_R_cS (v := (some (.int q2.1))) (h1 := (SH, q2.2)) (rest := [.int (10 : Int32), .int v3, .int (m.1 22 v1.toNatClampNeg)]) (lo' := [some (.int s0), some (.int (v3 / (10 : Int32)))]) (ml := 2) (by decide) (m_opb_of (ins := .invokestatic 175) (len := 3) (tag := 4) (a := 50) (b := 2) (c := 0) (q := 813) (by decide +kernel)) (by decide +kernel) (Nat.le_of_ble_eq_true rfl) rfl (Nat.le_of_ble_eq_true rfl) rfl rfl (ok_Math_min_II X (d + 0) F _ _ _ _ _ hc2) ?_
  refine m_R_sg (by decide) [(.imul, 1, 0, 0, 0, 0, 0), (.isub, 1, 0, 0, 0, 0, 0)] (by decide +kernel) (show m_sgl X _ _ _ _ _ = some (56, [some (.ref 16), some (.int v1), w2, some (.int v3), some (.int s0)], [.int (v3 - ((10 : Int32) * q2.1)), .int (m.1 22 v1.toNatClampNeg)], (SH, q2.2.1, q2.2.2)) from rfl) ?_
  rcases m_ite h with ⟨c235, h⟩ | ⟨c235, h⟩
  · refine m_R_1 (by decide) (m_opb_of (ins := .if_icmp .lt 7) (len := 3) (tag := 0) (a := 63) (b := 0) (c := 0) (q := 0) (by decide +kernel)) (if_pos c235) ?_
    refine m_R_sg (by decide) [(.iconst 0, 1, 0, 0, 0, 0, 0)] (by decide +kernel) (show m_sgl X _ _ _ _ _ = some (64, [some (.ref 16), some (.int v1), w2, some (.int v3), some (.int s0)], [.int (0 : Int32)], (SH, q2.2.1, q2.2.2)) from rfl) ?_
    exact ok_World_houseCan_64 X d F _ _ _ _ _ _ _ _ _ h
  · refine m_R_1 (by decide) (m_opb_of (ins := .if_icmp .lt 7) (len := 3) (tag := 0) (a := 63) (b := 0) (c := 0) (q := 0) (by decide +kernel)) (if_neg c235) ?_
    refine m_R_sg (by decide) [(.iconst 1, 1, 0, 1, 0, 0, 0), (.goto 4, 3, 0, 64, 0, 0, 0)] (by decide +kernel) (show m_sgl X _ _ _ _ _ = some (64, [some (.ref 16), some (.int v1), w2, some (.int v3), some (.int s0)], [.int (1 : Int32)], (SH, q2.2.1, q2.2.2)) from rfl) ?_
    exact ok_World_houseCan_64 X d F _ _ _ _ _ _ _ _ _ h
def f_World_houseCan (F : Nat)   (v1 : Int32) (v2 : Int32) (v3 : Int32) (m : mM) : Option (Int32 × mM) := (if v1 = v2 then some ((1 : Int32), m) else (if v2 = 0 then ((f_Notes_goodOf F v1 m).bind fun q1 => f_World_houseCan_31 F v1 v3 q1.1 q1.2) else (if v1 < 0 ∨ 16 ≤ v1.toNatClampNeg then none else f_World_houseCan_31 F v1 v3 (m.1 61 v1.toNatClampNeg) m)))
theorem ok_World_houseCan (X : mX) (d F : Nat) : ∀ (v1 : Int32) (v2 : Int32) (v3 : Int32)  (m : mM) (r : Int32) (m' : mM), f_World_houseCan F v1 v2 v3 m = some (r, m') → m_R X (d + 1) 48 0 [some (.ref 16), some (.int v1), some (.int v2), some (.int v3), none] [] (SH, m) (some (.int r), (SH, m')) := by
  intro v1 v2 v3 m r m' h
  unfold f_World_houseCan at h
  refine m_R_sg (by decide) [(.iload_n 1, 1, 0, 1, 0, 0, 0), (.iload_n 2, 1, 0, 2, 0, 0, 0)] (by decide +kernel) (show m_sgl X _ _ _ _ _ = some (2, [some (.ref 16), some (.int v1), some (.int v2), some (.int v3), none], [.int v2, .int v1], (SH, m.1, m.2)) from rfl) ?_
  rcases m_ite h with ⟨c236, h⟩ | ⟨c236, h⟩
  · refine m_R_1 (by decide) (m_opb_of (ins := .if_icmp .ne 5) (len := 3) (tag := 0) (a := 7) (b := 0) (c := 0) (q := 0) (by decide +kernel)) (if_pos c236) ?_
    refine m_R_sg (by decide) [(.iconst 1, 1, 0, 1, 0, 0, 0)] (by decide +kernel) (show m_sgl X _ _ _ _ _ = some (6, [some (.ref 16), some (.int v1), some (.int v2), some (.int v3), none], [.int (1 : Int32)], (SH, m.1, m.2)) from rfl) ?_
    obtain ⟨rfl, rfl⟩ := m_some h
    exact m_R_iret (by decide) (m_opb_of (ins := .ireturn) (len := 1) (tag := 1) (a := 1) (b := 0) (c := 0) (q := 0) (by decide +kernel)) (Or.inr (Or.inr rfl))
  · refine m_R_1 (by decide) (m_opb_of (ins := .if_icmp .ne 5) (len := 3) (tag := 0) (a := 7) (b := 0) (c := 0) (q := 0) (by decide +kernel)) (if_neg c236) ?_
    refine m_R_sg (by decide) [(.iload_n 2, 1, 0, 2, 0, 0, 0)] (by decide +kernel) (show m_sgl X _ _ _ _ _ = some (8, [some (.ref 16), some (.int v1), some (.int v2), some (.int v3), none], [.int v2], (SH, m.1, m.2)) from rfl) ?_
    rcases m_ite h with ⟨c237, h⟩ | ⟨c237, h⟩
    · refine m_R_1 (by decide) (m_opb_of (ins := .ifCond .ne 14) (len := 3) (tag := 0) (a := 22) (b := 0) (c := 0) (q := 0) (by decide +kernel)) (if_pos c237) ?_
      refine m_R_sg (by decide) [(.aload_n 0, 1, 0, 0, 0, 0, 0), (.getfield 72, 3, 0, 10, 8, 3, 518), (.iload_n 1, 1, 0, 1, 0, 0, 0)] (by decide +kernel) (show m_sgl X _ _ _ _ _ = some (16, [some (.ref 16), some (.int v1), some (.int v2), some (.int v3), none], [.int v1, .ref 55], (SH, m.1, m.2)) from rfl) ?_
      obtain ⟨q1, hc1, h⟩ := Option.bind_eq_some_iff.mp h
      refine m_R_cV (v := (some (.int q1.1))) (h1 := (SH, q1.2)) (rest := []) (lo' := [some (.ref 55), some (.int v1), none, none, none, none, none]) (ml := 7) (k0 := 55) (by decide) (Or.inl rfl) (m_opb_of (ins := .invokevirtual 172) (len := 3) (tag := 5) (a := 49) (b := 1) (c := 0) (q := 809) (by decide +kernel)) (by decide +kernel) rfl (show m_isO 49 55 (SH, _) = true from m_isO_of (by decide +kernel)) (Nat.le_of_ble_eq_true rfl) rfl rfl (ok_Notes_goodOf X (d + 0) F _ _ _ _ hc1) ?_
      refine m_R_sg (by decide) [(.goto 12, 3, 0, 31, 0, 0, 0)] (by decide +kernel) (show m_sgl X _ _ _ _ _ = some (31, [some (.ref 16), some (.int v1), some (.int v2), some (.int v3), none], [.int q1.1], (SH, q1.2.1, q1.2.2)) from rfl) ?_
      exact ok_World_houseCan_31 X d F _ _ _ _ _ _ _ _ h
    · refine m_R_1 (by decide) (m_opb_of (ins := .ifCond .ne 14) (len := 3) (tag := 0) (a := 22) (b := 0) (c := 0) (q := 0) (by decide +kernel)) (if_neg c237) ?_
      refine m_R_sg (by decide) [(.aload_n 0, 1, 0, 0, 0, 0, 0), (.getfield 72, 3, 0, 10, 8, 3, 518), (.getfield 110, 3, 0, 3, 6, 3, 461), (.iload_n 1, 1, 0, 1, 0, 0, 0)] (by decide +kernel) (show m_sgl X _ _ _ _ _ = some (30, [some (.ref 16), some (.int v1), some (.int v2), some (.int v3), none], [.int v1, .ref 61], (SH, m.1, m.2)) from rfl) ?_
      obtain ⟨c238, h⟩ := m_ite_n h
      refine m_R_1 (by decide) (m_opb_of (ins := .iaload) (len := 1) (tag := 0) (a := 0) (b := 0) (c := 0) (q := 0) (by decide +kernel)) (m_s_iald sh_61 (by decide) c238) ?_
      exact ok_World_houseCan_31 X d F _ _ _ _ _ _ _ _ h
def f_World_canGive_19 (F : Nat)   (s0 : Int32) (m : mM) : Option (Int32 × mM) := (if s0 = 0 ∨ s0 = 1 then some (s0, m) else none)
theorem ok_World_canGive_19 (X : mX) (d F : Nat) : ∀ (s0 : Int32) (w0 : Option Value) (w1 : Option Value) (w2 : Option Value) (w3 : Option Value) (m : mM) (r : Int32) (m' : mM), f_World_canGive_19 F s0 m = some (r, m') → m_R X (d + 4) 35 19 [w0, w1, w2, w3] [.int s0] (SH, m) (some (.int r), (SH, m')) := by
  intro s0 w0 w1 w2 w3 m r m' h
  unfold f_World_canGive_19 at h
  obtain ⟨c0, h⟩ := m_ite_p h
  obtain ⟨rfl, rfl⟩ := m_some h
  exact m_R_iret (by decide) (m_opb_of (ins := .ireturn) (len := 1) (tag := 1) (a := 1) (b := 0) (c := 0) (q := 0) (by decide +kernel)) (Or.inr c0)
def f_World_canGive (F : Nat)   (v1 : Int32) (v2 : Int32) (v3 : Int32) (m : mM) : Option (Int32 × mM) := (if v1 = 0 then ((f_World_bankCan F v3 m).bind fun q1 => f_World_canGive_19 F q1.1 q1.2) else ((f_World_houseCan F v1 v2 v3 m).bind fun q2 => f_World_canGive_19 F q2.1 q2.2))
theorem ok_World_canGive (X : mX) (d F : Nat) : ∀ (v1 : Int32) (v2 : Int32) (v3 : Int32)  (m : mM) (r : Int32) (m' : mM), f_World_canGive F v1 v2 v3 m = some (r, m') → m_R X (d + 4) 35 0 [some (.ref 16), some (.int v1), some (.int v2), some (.int v3)] [] (SH, m) (some (.int r), (SH, m')) := by
  intro v1 v2 v3 m r m' h
  unfold f_World_canGive at h
  refine m_R_sg (by decide) [(.iload_n 1, 1, 0, 1, 0, 0, 0)] (by decide +kernel) (show m_sgl X _ _ _ _ _ = some (1, [some (.ref 16), some (.int v1), some (.int v2), some (.int v3)], [.int v1], (SH, m.1, m.2)) from rfl) ?_
  rcases m_ite h with ⟨c239, h⟩ | ⟨c239, h⟩
  · refine m_R_1 (by decide) (m_opb_of (ins := .ifCond .ne 11) (len := 3) (tag := 0) (a := 12) (b := 0) (c := 0) (q := 0) (by decide +kernel)) (if_pos c239) ?_
    refine m_R_sg (by decide) [(.aload_n 0, 1, 0, 0, 0, 0, 0), (.iload_n 3, 1, 0, 3, 0, 0, 0)] (by decide +kernel) (show m_sgl X _ _ _ _ _ = some (6, [some (.ref 16), some (.int v1), some (.int v2), some (.int v3)], [.int v3, .ref 16], (SH, m.1, m.2)) from rfl) ?_
    obtain ⟨q1, hc1, h⟩ := Option.bind_eq_some_iff.mp h
    refine m_R_cV (v := (some (.int q1.1))) (h1 := (SH, q1.2)) (rest := []) (lo' := [some (.ref 16), some (.int v3), none]) (ml := 3) (k0 := 16) (by decide) (Or.inl rfl) (m_opb_of (ins := .invokevirtual 166) (len := 3) (tag := 5) (a := 36) (b := 1) (c := 0) (q := 760) (by decide +kernel)) (by decide +kernel) rfl (show m_isO 36 16 (SH, _) = true from m_isO_of (by decide +kernel)) (Nat.le_of_ble_eq_true rfl) rfl rfl (ok_World_bankCan X (d + 0) F _ _ _ _ hc1) ?_
    refine m_R_sg (by decide) [(.goto 10, 3, 0, 19, 0, 0, 0)] (by decide +kernel) (show m_sgl X _ _ _ _ _ = some (19, [some (.ref 16), some (.int v1), some (.int v2), some (.int v3)], [.int q1.1], (SH, q1.2.1, q1.2.2)) from rfl) ?_
    exact ok_World_canGive_19 X d F _ _ _ _ _ _ _ _ h
  · refine m_R_1 (by decide) (m_opb_of (ins := .ifCond .ne 11) (len := 3) (tag := 0) (a := 12) (b := 0) (c := 0) (q := 0) (by decide +kernel)) (if_neg c239) ?_
    refine m_R_sg (by decide) [(.aload_n 0, 1, 0, 0, 0, 0, 0), (.iload_n 1, 1, 0, 1, 0, 0, 0), (.iload_n 2, 1, 0, 2, 0, 0, 0), (.iload_n 3, 1, 0, 3, 0, 0, 0)] (by decide +kernel) (show m_sgl X _ _ _ _ _ = some (16, [some (.ref 16), some (.int v1), some (.int v2), some (.int v3)], [.int v3, .int v2, .int v1, .ref 16], (SH, m.1, m.2)) from rfl) ?_
    obtain ⟨q2, hc2, h⟩ := Option.bind_eq_some_iff.mp h
    refine m_R_cV (v := (some (.int q2.1))) (h1 := (SH, q2.2)) (rest := []) (lo' := [some (.ref 16), some (.int v1), some (.int v2), some (.int v3), none]) (ml := 5) (k0 := 16) (by decide) (Or.inl rfl) (m_opb_of (ins := .invokevirtual 169) (len := 3) (tag := 5) (a := 48) (b := 3) (c := 0) (q := 805) (by decide +kernel)) (by decide +kernel) rfl (show m_isO 48 16 (SH, _) = true from m_isO_of (by decide +kernel)) (Nat.le_of_ble_eq_true rfl) rfl rfl (ok_World_houseCan X (d + 2) F _ _ _ _ _ _ hc2) ?_
    exact ok_World_canGive_19 X d F _ _ _ _ _ _ _ _ h
def f_Notes_moveTo_83 (F : Nat)    (m : mM) : Option (Unit × mM) := some ((), m)
theorem ok_Notes_moveTo_83 (X : mX) (d F : Nat) : ∀  (w0 : Option Value) (w1 : Option Value) (w2 : Option Value) (w3 : Option Value) (m : mM) (r : Unit) (m' : mM), f_Notes_moveTo_83 F  m = some (r, m') → m_R X (d + 0) 53 83 [w0, w1, w2, w3] [] (SH, m) (none, (SH, m')) := by
  intro w0 w1 w2 w3 m r m' h
  unfold f_Notes_moveTo_83 at h
  obtain ⟨rfl, rfl⟩ := m_some h
  exact m_R_vret (by decide) (m_opb_of (ins := .return_) (len := 1) (tag := 3) (a := 0) (b := 0) (c := 0) (q := 0) (by decide +kernel))
def f_Notes_moveTo_42 (F : Nat)   (v1 : Int32) (v2 : Int32) (m : mM) : Option (Unit × mM) := (if v1 < 0 ∨ 400 ≤ v1.toNatClampNeg then none else (if (8 : Int32) ≤ (m.1 59 v1.toNatClampNeg) then f_Notes_moveTo_83 F m else (if ((v1 * (8 : Int32)) + (m.1 59 v1.toNatClampNeg)) < 0 ∨ 3200 ≤ ((v1 * (8 : Int32)) + (m.1 59 v1.toNatClampNeg)).toNatClampNeg then none else f_Notes_moveTo_83 F ((m_up (m_up m.1 3 ((v1 * (8 : Int32)) + (m.1 59 v1.toNatClampNeg)).toNatClampNeg v2) 59 v1.toNatClampNeg (((m_up m.1 3 ((v1 * (8 : Int32)) + (m.1 59 v1.toNatClampNeg)).toNatClampNeg v2) 59 v1.toNatClampNeg) + (1 : Int32))), m.2))))
theorem ok_Notes_moveTo_42 (X : mX) (d F : Nat) : ∀ (v1 : Int32) (v2 : Int32) (w3 : Option Value) (m : mM) (r : Unit) (m' : mM), f_Notes_moveTo_42 F v1 v2 m = some (r, m') → m_R X (d + 0) 53 42 [some (.ref 55), some (.int v1), some (.int v2), w3] [] (SH, m) (none, (SH, m')) := by
  intro v1 v2 w3 m r m' h
  unfold f_Notes_moveTo_42 at h
  refine m_R_sg (by decide) [(.aload_n 0, 1, 0, 0, 0, 0, 0), (.getfield 21, 3, 0, 3, 4, 3, 456), (.iload_n 1, 1, 0, 1, 0, 0, 0)] (by decide +kernel) (show m_sgl X _ _ _ _ _ = some (47, [some (.ref 55), some (.int v1), some (.int v2), w3], [.int v1, .ref 59], (SH, m.1, m.2)) from rfl) ?_
  obtain ⟨c240, h⟩ := m_ite_n h
  refine m_R_1 (by decide) (m_opb_of (ins := .iaload) (len := 1) (tag := 0) (a := 0) (b := 0) (c := 0) (q := 0) (by decide +kernel)) (m_s_iald sh_59 (by decide) c240) ?_
  refine m_R_sg (by decide) [(.bipush 8, 2, 0, 8, 0, 0, 0)] (by decide +kernel) (show m_sgl X _ _ _ _ _ = some (50, [some (.ref 55), some (.int v1), some (.int v2), w3], [.int (8 : Int32), .int (m.1 59 v1.toNatClampNeg)], (SH, m.1, m.2)) from rfl) ?_
  rcases m_ite h with ⟨c241, h⟩ | ⟨c241, h⟩
  · refine m_R_1 (by decide) (m_opb_of (ins := .if_icmp .ge 33) (len := 3) (tag := 0) (a := 83) (b := 0) (c := 0) (q := 0) (by decide +kernel)) (if_pos c241) ?_
    exact ok_Notes_moveTo_83 X d F _ _ _ _ _ _ _ h
  · refine m_R_1 (by decide) (m_opb_of (ins := .if_icmp .ge 33) (len := 3) (tag := 0) (a := 83) (b := 0) (c := 0) (q := 0) (by decide +kernel)) (if_neg c241) ?_
    refine m_R_sg (by decide) [(.aload_n 0, 1, 0, 0, 0, 0, 0), (.getfield 30, 3, 0, 3, 0, 3, 449), (.getfield 75, 3, 0, 6, 1, 3, 163), (.iload_n 1, 1, 0, 1, 0, 0, 0), (.bipush 8, 2, 0, 8, 0, 0, 0), (.imul, 1, 0, 0, 0, 0, 0), (.aload_n 0, 1, 0, 0, 0, 0, 0), (.getfield 21, 3, 0, 3, 4, 3, 456), (.iload_n 1, 1, 0, 1, 0, 0, 0)] (by decide +kernel) (show m_sgl X _ _ _ _ _ = some (69, [some (.ref 55), some (.int v1), some (.int v2), w3], [.int v1, .ref 59, .int (v1 * (8 : Int32)), .ref 3], (SH, m.1, m.2)) from rfl) ?_
    refine m_R_1 (by decide) (m_opb_of (ins := .iaload) (len := 1) (tag := 0) (a := 0) (b := 0) (c := 0) (q := 0) (by decide +kernel)) (m_s_iald sh_59 (by decide) c240) ?_
    refine m_R_sg (by decide) [(.iadd, 1, 0, 0, 0, 0, 0), (.iload_n 2, 1, 0, 2, 0, 0, 0)] (by decide +kernel) (show m_sgl X _ _ _ _ _ = some (72, [some (.ref 55), some (.int v1), some (.int v2), w3], [.int v2, .int ((v1 * (8 : Int32)) + (m.1 59 v1.toNatClampNeg)), .ref 3], (SH, m.1, m.2)) from rfl) ?_
    obtain ⟨c242, h⟩ := m_ite_n h
    refine m_R_1 (by decide) (m_opb_of (ins := .iastore) (len := 1) (tag := 0) (a := 0) (b := 0) (c := 0) (q := 0) (by decide +kernel)) (m_s_iast sh_3 c242) ?_
    refine m_R_sg (by decide) [(.aload_n 0, 1, 0, 0, 0, 0, 0), (.getfield 21, 3, 0, 3, 4, 3, 456), (.iload_n 1, 1, 0, 1, 0, 0, 0), (.dup2, 1, 0, 0, 0, 0, 0)] (by decide +kernel) (show m_sgl X _ _ _ _ _ = some (79, [some (.ref 55), some (.int v1), some (.int v2), w3], [.int v1, .ref 59, .int v1, .ref 59], (SH, (m_up m.1 3 ((v1 * (8 : Int32)) + (m.1 59 v1.toNatClampNeg)).toNatClampNeg v2), m.2)) from rfl) ?_
    refine m_R_1 (by decide) (m_opb_of (ins := .iaload) (len := 1) (tag := 0) (a := 0) (b := 0) (c := 0) (q := 0) (by decide +kernel)) (m_s_iald sh_59 (by decide) c240) ?_
    refine m_R_sg (by decide) [(.iconst 1, 1, 0, 1, 0, 0, 0), (.iadd, 1, 0, 0, 0, 0, 0)] (by decide +kernel) (show m_sgl X _ _ _ _ _ = some (82, [some (.ref 55), some (.int v1), some (.int v2), w3], [.int (((m_up m.1 3 ((v1 * (8 : Int32)) + (m.1 59 v1.toNatClampNeg)).toNatClampNeg v2) 59 v1.toNatClampNeg) + (1 : Int32)), .int v1, .ref 59], (SH, (m_up m.1 3 ((v1 * (8 : Int32)) + (m.1 59 v1.toNatClampNeg)).toNatClampNeg v2), m.2)) from rfl) ?_
    refine m_R_1 (by decide) (m_opb_of (ins := .iastore) (len := 1) (tag := 0) (a := 0) (b := 0) (c := 0) (q := 0) (by decide +kernel)) (m_s_iast sh_59 c240) ?_
    exact ok_Notes_moveTo_83 X d F _ _ _ _ _ _ _ h
def f_Notes_moveTo_21 (F : Nat)   (v1 : Int32) (v2 : Int32) (m : mM) : Option (Unit × mM) := (if v1 < 0 ∨ 400 ≤ v1.toNatClampNeg then none else (if v2 ≤ 0 then f_Notes_moveTo_42 F v1 v2 ((m_up m.1 58 v1.toNatClampNeg v2), m.2) else (if v2 < 0 ∨ 16 ≤ v2.toNatClampNeg then none else f_Notes_moveTo_42 F v1 v2 ((m_up (m_up m.1 58 v1.toNatClampNeg v2) 61 v2.toNatClampNeg (((m_up m.1 58 v1.toNatClampNeg v2) 61 v2.toNatClampNeg) + (1 : Int32))), m.2))))
theorem ok_Notes_moveTo_21 (X : mX) (d F : Nat) : ∀ (v1 : Int32) (v2 : Int32) (w3 : Option Value) (m : mM) (r : Unit) (m' : mM), f_Notes_moveTo_21 F v1 v2 m = some (r, m') → m_R X (d + 0) 53 21 [some (.ref 55), some (.int v1), some (.int v2), w3] [] (SH, m) (none, (SH, m')) := by
  intro v1 v2 w3 m r m' h
  unfold f_Notes_moveTo_21 at h
  refine m_R_sg (by decide) [(.aload_n 0, 1, 0, 0, 0, 0, 0), (.getfield 18, 3, 0, 3, 3, 3, 453), (.iload_n 1, 1, 0, 1, 0, 0, 0), (.iload_n 2, 1, 0, 2, 0, 0, 0)] (by decide +kernel) (show m_sgl X _ _ _ _ _ = some (27, [some (.ref 55), some (.int v1), some (.int v2), w3], [.int v2, .int v1, .ref 58], (SH, m.1, m.2)) from rfl) ?_
  obtain ⟨c243, h⟩ := m_ite_n h
  refine m_R_1 (by decide) (m_opb_of (ins := .iastore) (len := 1) (tag := 0) (a := 0) (b := 0) (c := 0) (q := 0) (by decide +kernel)) (m_s_iast sh_58 c243) ?_
  refine m_R_sg (by decide) [(.iload_n 2, 1, 0, 2, 0, 0, 0)] (by decide +kernel) (show m_sgl X _ _ _ _ _ = some (29, [some (.ref 55), some (.int v1), some (.int v2), w3], [.int v2], (SH, (m_up m.1 58 v1.toNatClampNeg v2), m.2)) from rfl) ?_
  rcases m_ite h with ⟨c244, h⟩ | ⟨c244, h⟩
  · refine m_R_1 (by decide) (m_opb_of (ins := .ifCond .le 13) (len := 3) (tag := 0) (a := 42) (b := 0) (c := 0) (q := 0) (by decide +kernel)) (if_pos c244) ?_
    exact ok_Notes_moveTo_42 X d F _ _ _ _ _ _ h
  · refine m_R_1 (by decide) (m_opb_of (ins := .ifCond .le 13) (len := 3) (tag := 0) (a := 42) (b := 0) (c := 0) (q := 0) (by decide +kernel)) (if_neg c244) ?_
    refine m_R_sg (by decide) [(.aload_n 0, 1, 0, 0, 0, 0, 0), (.getfield 27, 3, 0, 3, 6, 3, 460), (.iload_n 2, 1, 0, 2, 0, 0, 0), (.dup2, 1, 0, 0, 0, 0, 0)] (by decide +kernel) (show m_sgl X _ _ _ _ _ = some (38, [some (.ref 55), some (.int v1), some (.int v2), w3], [.int v2, .ref 61, .int v2, .ref 61], (SH, (m_up m.1 58 v1.toNatClampNeg v2), m.2)) from rfl) ?_
    obtain ⟨c245, h⟩ := m_ite_n h
    refine m_R_1 (by decide) (m_opb_of (ins := .iaload) (len := 1) (tag := 0) (a := 0) (b := 0) (c := 0) (q := 0) (by decide +kernel)) (m_s_iald sh_61 (by decide) c245) ?_
    refine m_R_sg (by decide) [(.iconst 1, 1, 0, 1, 0, 0, 0), (.iadd, 1, 0, 0, 0, 0, 0)] (by decide +kernel) (show m_sgl X _ _ _ _ _ = some (41, [some (.ref 55), some (.int v1), some (.int v2), w3], [.int (((m_up m.1 58 v1.toNatClampNeg v2) 61 v2.toNatClampNeg) + (1 : Int32)), .int v2, .ref 61], (SH, (m_up m.1 58 v1.toNatClampNeg v2), m.2)) from rfl) ?_
    refine m_R_1 (by decide) (m_opb_of (ins := .iastore) (len := 1) (tag := 0) (a := 0) (b := 0) (c := 0) (q := 0) (by decide +kernel)) (m_s_iast sh_61 c245) ?_
    exact ok_Notes_moveTo_42 X d F _ _ _ _ _ _ h
def f_Notes_moveTo (F : Nat)   (v1 : Int32) (v2 : Int32) (m : mM) : Option (Unit × mM) := (if v1 < 0 ∨ 400 ≤ v1.toNatClampNeg then none else (if (m.1 58 v1.toNatClampNeg) ≤ 0 then f_Notes_moveTo_21 F v1 v2 m else (if (m.1 58 v1.toNatClampNeg) < 0 ∨ 16 ≤ (m.1 58 v1.toNatClampNeg).toNatClampNeg then none else f_Notes_moveTo_21 F v1 v2 ((m_up m.1 61 (m.1 58 v1.toNatClampNeg).toNatClampNeg ((m.1 61 (m.1 58 v1.toNatClampNeg).toNatClampNeg) - (1 : Int32))), m.2))))
theorem ok_Notes_moveTo (X : mX) (d F : Nat) : ∀ (v1 : Int32) (v2 : Int32)  (m : mM) (r : Unit) (m' : mM), f_Notes_moveTo F v1 v2 m = some (r, m') → m_R X (d + 0) 53 0 [some (.ref 55), some (.int v1), some (.int v2), none] [] (SH, m) (none, (SH, m')) := by
  intro v1 v2 m r m' h
  unfold f_Notes_moveTo at h
  refine m_R_sg (by decide) [(.aload_n 0, 1, 0, 0, 0, 0, 0), (.getfield 18, 3, 0, 3, 3, 3, 453), (.iload_n 1, 1, 0, 1, 0, 0, 0)] (by decide +kernel) (show m_sgl X _ _ _ _ _ = some (5, [some (.ref 55), some (.int v1), some (.int v2), none], [.int v1, .ref 58], (SH, m.1, m.2)) from rfl) ?_
  obtain ⟨c246, h⟩ := m_ite_n h
  refine m_R_1 (by decide) (m_opb_of (ins := .iaload) (len := 1) (tag := 0) (a := 0) (b := 0) (c := 0) (q := 0) (by decide +kernel)) (m_s_iald sh_58 (by decide) c246) ?_
  refine m_R_sg (by decide) [(.istore_n 3, 1, 0, 3, 0, 0, 0), (.iload_n 3, 1, 0, 3, 0, 0, 0)] (by decide +kernel) (show m_sgl X _ _ _ _ _ = some (8, [some (.ref 55), some (.int v1), some (.int v2), some (.int (m.1 58 v1.toNatClampNeg))], [.int (m.1 58 v1.toNatClampNeg)], (SH, m.1, m.2)) from rfl) ?_
  rcases m_ite h with ⟨c247, h⟩ | ⟨c247, h⟩
  · refine m_R_1 (by decide) (m_opb_of (ins := .ifCond .le 13) (len := 3) (tag := 0) (a := 21) (b := 0) (c := 0) (q := 0) (by decide +kernel)) (if_pos c247) ?_
    exact ok_Notes_moveTo_21 X d F _ _ _ _ _ _ h
  · refine m_R_1 (by decide) (m_opb_of (ins := .ifCond .le 13) (len := 3) (tag := 0) (a := 21) (b := 0) (c := 0) (q := 0) (by decide +kernel)) (if_neg c247) ?_
    refine m_R_sg (by decide) [(.aload_n 0, 1, 0, 0, 0, 0, 0), (.getfield 27, 3, 0, 3, 6, 3, 460), (.iload_n 3, 1, 0, 3, 0, 0, 0), (.dup2, 1, 0, 0, 0, 0, 0)] (by decide +kernel) (show m_sgl X _ _ _ _ _ = some (17, [some (.ref 55), some (.int v1), some (.int v2), some (.int (m.1 58 v1.toNatClampNeg))], [.int (m.1 58 v1.toNatClampNeg), .ref 61, .int (m.1 58 v1.toNatClampNeg), .ref 61], (SH, m.1, m.2)) from rfl) ?_
    obtain ⟨c248, h⟩ := m_ite_n h
    refine m_R_1 (by decide) (m_opb_of (ins := .iaload) (len := 1) (tag := 0) (a := 0) (b := 0) (c := 0) (q := 0) (by decide +kernel)) (m_s_iald sh_61 (by decide) c248) ?_
    refine m_R_sg (by decide) [(.iconst 1, 1, 0, 1, 0, 0, 0), (.isub, 1, 0, 0, 0, 0, 0)] (by decide +kernel) (show m_sgl X _ _ _ _ _ = some (20, [some (.ref 55), some (.int v1), some (.int v2), some (.int (m.1 58 v1.toNatClampNeg))], [.int ((m.1 61 (m.1 58 v1.toNatClampNeg).toNatClampNeg) - (1 : Int32)), .int (m.1 58 v1.toNatClampNeg), .ref 61], (SH, m.1, m.2)) from rfl) ?_
    refine m_R_1 (by decide) (m_opb_of (ins := .iastore) (len := 1) (tag := 0) (a := 0) (b := 0) (c := 0) (q := 0) (by decide +kernel)) (m_s_iast sh_61 c248) ?_
    exact ok_Notes_moveTo_21 X d F _ _ _ _ _ _ h
def f_Notes_addCopy_80 (F : Nat)   (v3 : Int32) (m : mM) : Option (Int32 × mM) := some (v3, m)
theorem ok_Notes_addCopy_80 (X : mX) (d F : Nat) : ∀ (v3 : Int32) (w0 : Option Value) (w1 : Option Value) (w2 : Option Value) (w4 : Option Value) (m : mM) (r : Int32) (m' : mM), f_Notes_addCopy_80 F v3 m = some (r, m') → m_R X (d + 0) 54 80 [w0, w1, w2, some (.int v3), w4] [] (SH, m) (some (.int r), (SH, m')) := by
  intro v3 w0 w1 w2 w4 m r m' h
  unfold f_Notes_addCopy_80 at h
  refine m_R_sg (by decide) [(.iload_n 3, 1, 0, 3, 0, 0, 0)] (by decide +kernel) (show m_sgl X _ _ _ _ _ = some (81, [w0, w1, w2, some (.int v3), w4], [.int v3], (SH, m.1, m.2)) from rfl) ?_
  obtain ⟨rfl, rfl⟩ := m_some h
  exact m_R_iret (by decide) (m_opb_of (ins := .ireturn) (len := 1) (tag := 1) (a := 0) (b := 0) (c := 0) (q := 0) (by decide +kernel)) (Or.inl rfl)
def f_Notes_addCopy_11 (F : Nat)   : Nat → Int32 → Int32 → Int32 → Int32 → mM → Option (Int32 × mM)
  | 0, _, _, _, _, _ => none
  | n + 1, v1, v2, v3, v4, m => (if v4 ≤ v2 then (if v2 < 0 ∨ 400 ≤ v2.toNatClampNeg then none else (if v3 < 0 ∨ 400 ≤ v3.toNatClampNeg then none else f_Notes_addCopy_80 F v3 ((m_up (m_up (m_up (m_up (m_up m.1 60 v2.toNatClampNeg v3) 2 v3.toNatClampNeg v1) 58 v3.toNatClampNeg (-1 : Int32)) 59 v3.toNatClampNeg (0 : Int32)) 55 7 (((m_up (m_up (m_up (m_up m.1 60 v2.toNatClampNeg v3) 2 v3.toNatClampNeg v1) 58 v3.toNatClampNeg (-1 : Int32)) 59 v3.toNatClampNeg (0 : Int32)) 55 7) + (1 : Int32))), m.2))) else (if (v4 - (1 : Int32)) < 0 ∨ 400 ≤ (v4 - (1 : Int32)).toNatClampNeg then none else (if v4 < 0 ∨ 400 ≤ v4.toNatClampNeg then none else f_Notes_addCopy_11 F n v1 v2 v3 (v4 + (-1 : Int32)) ((m_up m.1 60 v4.toNatClampNeg (m.1 60 (v4 - (1 : Int32)).toNatClampNeg)), m.2))))
theorem ok_Notes_addCopy_11 (X : mX) (d F : Nat) : ∀ (n : Nat) (v1 : Int32) (v2 : Int32) (v3 : Int32) (v4 : Int32)  (m : mM) (r : Int32) (m' : mM), f_Notes_addCopy_11 F n v1 v2 v3 v4 m = some (r, m') → m_R X (d + 0) 54 11 [some (.ref 55), some (.int v1), some (.int v2), some (.int v3), some (.int v4)] [] (SH, m) (some (.int r), (SH, m')) := by
  intro n
  induction n with
  | zero => intro v1 v2 v3 v4 m r m' h; cases h
  | succ n ih =>
    intro v1 v2 v3 v4 m r m' h
    simp only [f_Notes_addCopy_11] at h
    refine m_R_sg (by decide) [(.iload 4, 2, 0, 4, 0, 0, 0), (.iload_n 2, 1, 0, 2, 0, 0, 0)] (by decide +kernel) (show m_sgl X _ _ _ _ _ = some (14, [some (.ref 55), some (.int v1), some (.int v2), some (.int v3), some (.int v4)], [.int v2, .int v4], (SH, m.1, m.2)) from rfl) ?_
    rcases m_ite h with ⟨c249, h⟩ | ⟨c249, h⟩
    · refine m_R_1 (by decide) (m_opb_of (ins := .if_icmp .le 25) (len := 3) (tag := 0) (a := 39) (b := 0) (c := 0) (q := 0) (by decide +kernel)) (if_pos c249) ?_
      refine m_R_sg (by decide) [(.aload_n 0, 1, 0, 0, 0, 0, 0), (.getfield 24, 3, 0, 3, 5, 3, 458), (.iload_n 2, 1, 0, 2, 0, 0, 0), (.iload_n 3, 1, 0, 3, 0, 0, 0)] (by decide +kernel) (show m_sgl X _ _ _ _ _ = some (45, [some (.ref 55), some (.int v1), some (.int v2), some (.int v3), some (.int v4)], [.int v3, .int v2, .ref 60], (SH, m.1, m.2)) from rfl) ?_
      obtain ⟨c250, h⟩ := m_ite_n h
      refine m_R_1 (by decide) (m_opb_of (ins := .iastore) (len := 1) (tag := 0) (a := 0) (b := 0) (c := 0) (q := 0) (by decide +kernel)) (m_s_iast sh_60 c250) ?_
      refine m_R_sg (by decide) [(.aload_n 0, 1, 0, 0, 0, 0, 0), (.getfield 30, 3, 0, 3, 0, 3, 449), (.getfield 70, 3, 0, 6, 0, 3, 161), (.iload_n 3, 1, 0, 3, 0, 0, 0), (.iload_n 1, 1, 0, 1, 0, 0, 0)] (by decide +kernel) (show m_sgl X _ _ _ _ _ = some (55, [some (.ref 55), some (.int v1), some (.int v2), some (.int v3), some (.int v4)], [.int v1, .int v3, .ref 2], (SH, (m_up m.1 60 v2.toNatClampNeg v3), m.2)) from rfl) ?_
      obtain ⟨c251, h⟩ := m_ite_n h
      refine m_R_1 (by decide) (m_opb_of (ins := .iastore) (len := 1) (tag := 0) (a := 0) (b := 0) (c := 0) (q := 0) (by decide +kernel)) (m_s_iast sh_2 c251) ?_
      refine m_R_sg (by decide) [(.aload_n 0, 1, 0, 0, 0, 0, 0), (.getfield 18, 3, 0, 3, 3, 3, 453), (.iload_n 3, 1, 0, 3, 0, 0, 0), (.iconst (-1), 1, 0, 1, 1, 0, 0)] (by decide +kernel) (show m_sgl X _ _ _ _ _ = some (62, [some (.ref 55), some (.int v1), some (.int v2), some (.int v3), some (.int v4)], [.int (-1 : Int32), .int v3, .ref 58], (SH, (m_up (m_up m.1 60 v2.toNatClampNeg v3) 2 v3.toNatClampNeg v1), m.2)) from rfl) ?_
      refine m_R_1 (by decide) (m_opb_of (ins := .iastore) (len := 1) (tag := 0) (a := 0) (b := 0) (c := 0) (q := 0) (by decide +kernel)) (m_s_iast sh_58 c251) ?_
      refine m_R_sg (by decide) [(.aload_n 0, 1, 0, 0, 0, 0, 0), (.getfield 21, 3, 0, 3, 4, 3, 456), (.iload_n 3, 1, 0, 3, 0, 0, 0), (.iconst 0, 1, 0, 0, 0, 0, 0)] (by decide +kernel) (show m_sgl X _ _ _ _ _ = some (69, [some (.ref 55), some (.int v1), some (.int v2), some (.int v3), some (.int v4)], [.int (0 : Int32), .int v3, .ref 59], (SH, (m_up (m_up (m_up m.1 60 v2.toNatClampNeg v3) 2 v3.toNatClampNeg v1) 58 v3.toNatClampNeg (-1 : Int32)), m.2)) from rfl) ?_
      refine m_R_1 (by decide) (m_opb_of (ins := .iastore) (len := 1) (tag := 0) (a := 0) (b := 0) (c := 0) (q := 0) (by decide +kernel)) (m_s_iast sh_59 c251) ?_
      refine m_R_sg (by decide) [(.aload_n 0, 1, 0, 0, 0, 0, 0), (.dup, 1, 0, 0, 0, 0, 0), (.getfield 38, 3, 0, 3, 7, 0, 463), (.iconst 1, 1, 0, 1, 0, 0, 0), (.iadd, 1, 0, 0, 0, 0, 0), (.putfield 38, 3, 0, 3, 7, 0, 463)] (by decide +kernel) (show m_sgl X _ _ _ _ _ = some (80, [some (.ref 55), some (.int v1), some (.int v2), some (.int v3), some (.int v4)], [], (SH, (m_up (m_up (m_up (m_up (m_up m.1 60 v2.toNatClampNeg v3) 2 v3.toNatClampNeg v1) 58 v3.toNatClampNeg (-1 : Int32)) 59 v3.toNatClampNeg (0 : Int32)) 55 7 (((m_up (m_up (m_up (m_up m.1 60 v2.toNatClampNeg v3) 2 v3.toNatClampNeg v1) 58 v3.toNatClampNeg (-1 : Int32)) 59 v3.toNatClampNeg (0 : Int32)) 55 7) + (1 : Int32))), m.2)) from rfl) ?_
      exact ok_Notes_addCopy_80 X d F _ _ _ _ _ _ _ _ h
    · refine m_R_1 (by decide) (m_opb_of (ins := .if_icmp .le 25) (len := 3) (tag := 0) (a := 39) (b := 0) (c := 0) (q := 0) (by decide +kernel)) (if_neg c249) ?_
      refine m_R_sg (by decide) [(.aload_n 0, 1, 0, 0, 0, 0, 0), (.getfield 24, 3, 0, 3, 5, 3, 458), (.iload 4, 2, 0, 4, 0, 0, 0), (.aload_n 0, 1, 0, 0, 0, 0, 0), (.getfield 24, 3, 0, 3, 5, 3, 458), (.iload 4, 2, 0, 4, 0, 0, 0), (.iconst 1, 1, 0, 1, 0, 0, 0), (.isub, 1, 0, 0, 0, 0, 0)] (by decide +kernel) (show m_sgl X _ _ _ _ _ = some (31, [some (.ref 55), some (.int v1), some (.int v2), some (.int v3), some (.int v4)], [.int (v4 - (1 : Int32)), .ref 60, .int v4, .ref 60], (SH, m.1, m.2)) from rfl) ?_
      obtain ⟨c252, h⟩ := m_ite_n h
      refine m_R_1 (by decide) (m_opb_of (ins := .iaload) (len := 1) (tag := 0) (a := 0) (b := 0) (c := 0) (q := 0) (by decide +kernel)) (m_s_iald sh_60 (by decide) c252) ?_
      obtain ⟨c253, h⟩ := m_ite_n h
      refine m_R_1 (by decide) (m_opb_of (ins := .iastore) (len := 1) (tag := 0) (a := 0) (b := 0) (c := 0) (q := 0) (by decide +kernel)) (m_s_iast sh_60 c253) ?_
      refine m_R_sg (by decide) [(.iinc 4 (-1), 3, 0, 4, 1, 1, 0), (.goto (-25), 3, 0, 11, 0, 0, 0)] (by decide +kernel) (show m_sgl X _ _ _ _ _ = some (11, [some (.ref 55), some (.int v1), some (.int v2), some (.int v3), some (.int (v4 + (-1 : Int32)))], [], (SH, (m_up m.1 60 v4.toNatClampNeg (m.1 60 (v4 - (1 : Int32)).toNatClampNeg)), m.2)) from rfl) ?_
      exact ih _ _ _ _ _ _ _ h
def f_Notes_addCopy (F : Nat)   (v1 : Int32) (v2 : Int32) (m : mM) : Option (Int32 × mM) := f_Notes_addCopy_11 F F v1 v2 (m.1 55 7) (m.1 55 7) m
theorem ok_Notes_addCopy (X : mX) (d F : Nat) : ∀ (v1 : Int32) (v2 : Int32)  (m : mM) (r : Int32) (m' : mM), f_Notes_addCopy F v1 v2 m = some (r, m') → m_R X (d + 0) 54 0 [some (.ref 55), some (.int v1), some (.int v2), none, none] [] (SH, m) (some (.int r), (SH, m')) := by
  intro v1 v2 m r m' h
  unfold f_Notes_addCopy at h
  refine m_R_sg (by decide) [(.aload_n 0, 1, 0, 0, 0, 0, 0), (.getfield 38, 3, 0, 3, 7, 0, 463), (.istore_n 3, 1, 0, 3, 0, 0, 0), (.aload_n 0, 1, 0, 0, 0, 0, 0), (.getfield 38, 3, 0, 3, 7, 0, 463), (.istore 4, 2, 0, 4, 0, 0, 0)] (by decide +kernel) (show m_sgl X _ _ _ _ _ = some (11, [some (.ref 55), some (.int v1), some (.int v2), some (.int (m.1 55 7)), some (.int (m.1 55 7))], [], (SH, m.1, m.2)) from rfl) ?_
  exact ok_Notes_addCopy_11 X d F F _ _ _ _ _ _ _ h
def f_Notes_issue_76 (F : Nat)  (k11 : Int32 → Int32 → Int32 → Int32 → mM → Option (Unit × mM)) (v1 : Int32) (v3 : Int32) (v4 : Int32) (v5 : Int32) (m : mM) : Option (Unit × mM) := k11 v1 v3 v4 (v5 + (1 : Int32)) m
theorem ok_Notes_issue_76 (X : mX) (d F : Nat) (k11 : Int32 → Int32 → Int32 → Int32 → mM → Option (Unit × mM)) (hk11 : ∀ (v1 : Int32) (v3 : Int32) (v4 : Int32) (v5 : Int32) (w2 : Option Value) (m : mM) (r : Unit) (m' : mM), k11 v1 v3 v4 v5 m = some (r, m') → m_R X (d + 1) 52 11 [some (.ref 55), some (.int v1), w2, some (.int v3), some (.int v4), some (.int v5)] [] (SH, m) (none, (SH, m'))) : ∀ (v1 : Int32) (v3 : Int32) (v4 : Int32) (v5 : Int32) (w2 : Option Value) (m : mM) (r : Unit) (m' : mM), f_Notes_issue_76 F k11 v1 v3 v4 v5 m = some (r, m') → m_R X (d + 1) 52 76 [some (.ref 55), some (.int v1), w2, some (.int v3), some (.int v4), some (.int v5)] [] (SH, m) (none, (SH, m')) := by
  intro v1 v3 v4 v5 w2 m r m' h
  unfold f_Notes_issue_76 at h
  refine m_R_sg (by decide) [(.iinc 5 1, 3, 0, 5, 1, 0, 0), (.goto (-68), 3, 0, 11, 0, 0, 0)] (by decide +kernel) (show m_sgl X _ _ _ _ _ = some (11, [some (.ref 55), some (.int v1), w2, some (.int v3), some (.int v4), some (.int (v5 + (1 : Int32)))], [], (SH, m.1, m.2)) from rfl) ?_
  exact hk11 _ _ _ _ _ _ _ _ h
def f_Notes_issue_61 (F : Nat)  (k11 : Int32 → Int32 → Int32 → Int32 → mM → Option (Unit × mM)) (v1 : Int32) (v3 : Int32) (v4 : Int32) (v5 : Int32) (m : mM) : Option (Unit × mM) := (if v5 < 0 ∨ 300 ≤ v5.toNatClampNeg then none else ((f_Notes_moveTo F (m.1 57 v5.toNatClampNeg) v1 m).bind fun q1 => f_Notes_issue_76 F k11 v1 (v3 + (-1 : Int32)) v4 v5 q1.2))
theorem ok_Notes_issue_61 (X : mX) (d F : Nat) (k11 : Int32 → Int32 → Int32 → Int32 → mM → Option (Unit × mM)) (hk11 : ∀ (v1 : Int32) (v3 : Int32) (v4 : Int32) (v5 : Int32) (w2 : Option Value) (m : mM) (r : Unit) (m' : mM), k11 v1 v3 v4 v5 m = some (r, m') → m_R X (d + 1) 52 11 [some (.ref 55), some (.int v1), w2, some (.int v3), some (.int v4), some (.int v5)] [] (SH, m) (none, (SH, m'))) : ∀ (v1 : Int32) (v3 : Int32) (v4 : Int32) (v5 : Int32) (w2 : Option Value) (m : mM) (r : Unit) (m' : mM), f_Notes_issue_61 F k11 v1 v3 v4 v5 m = some (r, m') → m_R X (d + 1) 52 61 [some (.ref 55), some (.int v1), w2, some (.int v3), some (.int v4), some (.int v5)] [] (SH, m) (none, (SH, m')) := by
  intro v1 v3 v4 v5 w2 m r m' h
  unfold f_Notes_issue_61 at h
  refine m_R_sg (by decide) [(.aload_n 0, 1, 0, 0, 0, 0, 0), (.aload_n 0, 1, 0, 0, 0, 0, 0), (.getfield 15, 3, 0, 3, 2, 3, 452), (.iload 5, 2, 0, 5, 0, 0, 0)] (by decide +kernel) (show m_sgl X _ _ _ _ _ = some (68, [some (.ref 55), some (.int v1), w2, some (.int v3), some (.int v4), some (.int v5)], [.int v5, .ref 57, .ref 55], (SH, m.1, m.2)) from rfl) ?_
  obtain ⟨c254, h⟩ := m_ite_n h
  refine m_R_1 (by decide) (m_opb_of (ins := .iaload) (len := 1) (tag := 0) (a := 0) (b := 0) (c := 0) (q := 0) (by decide +kernel)) (m_s_iald sh_57 (by decide) c254) ?_
  refine m_R_sg (by decide) [(.iload_n 1, 1, 0, 1, 0, 0, 0)] (by decide +kernel) (show m_sgl X _ _ _ _ _ = some (70, [some (.ref 55), some (.int v1), w2, some (.int v3), some (.int v4), some (.int v5)], [.int v1, .int (m.1 57 v5.toNatClampNeg), .ref 55], (SH, m.1, m.2)) from rfl) ?_
  obtain ⟨q1, hc1, h⟩ := Option.bind_eq_some_iff.mp h
  refine m_R_cV (v := none) (h1 := (SH, q1.2)) (rest := []) (lo' := [some (.ref 55), some (.int (m.1 57 v5.toNatClampNeg)), some (.int v1), none]) (ml := 4) (k0 := 55) (by decide) (Or.inl rfl) (m_opb_of (ins := .invokevirtual 63) (len := 3) (tag := 5) (a := 53) (b := 2) (c := 0) (q := 824) (by decide +kernel)) (by decide +kernel) rfl (show m_isO 53 55 (SH, _) = true from m_isO_of (by decide +kernel)) (Nat.le_of_ble_eq_true rfl) rfl rfl (ok_Notes_moveTo X (d + 0) F _ _ _ _ _ hc1) ?_
  refine m_R_sg (by decide) [(.iinc 3 (-1), 3, 0, 3, 1, 1, 0)] (by decide +kernel) (show m_sgl X _ _ _ _ _ = some (76, [some (.ref 55), some (.int v1), w2, some (.int (v3 + (-1 : Int32))), some (.int v4), some (.int v5)], [], (SH, q1.2.1, q1.2.2)) from rfl) ?_
  exact ok_Notes_issue_76 X d F _ hk11 _ _ _ _ _ _ _ _ h
def f_Notes_issue_150 (F : Nat)  (k82 : Int32 → Int32 → mM → Option (Unit × mM)) (v1 : Int32) (v3 : Int32) (v5 : Int32) (m : mM) : Option (Unit × mM) := ((f_Notes_moveTo F v5 (0 : Int32) m).bind fun q3 => ((f_Notes_moveTo F v5 v1 q3.2).bind fun q4 => k82 v1 (v3 + (-1 : Int32)) q4.2))
theorem ok_Notes_issue_150 (X : mX) (d F : Nat) (k82 : Int32 → Int32 → mM → Option (Unit × mM)) (hk82 : ∀ (v1 : Int32) (v3 : Int32) (w2 : Option Value) (w4 : Option Value) (w5 : Option Value) (m : mM) (r : Unit) (m' : mM), k82 v1 v3 m = some (r, m') → m_R X (d + 1) 52 82 [some (.ref 55), some (.int v1), w2, some (.int v3), w4, w5] [] (SH, m) (none, (SH, m'))) : ∀ (v1 : Int32) (v3 : Int32) (v5 : Int32) (w2 : Option Value) (w4 : Option Value) (m : mM) (r : Unit) (m' : mM), f_Notes_issue_150 F k82 v1 v3 v5 m = some (r, m') → m_R X (d + 1) 52 150 [some (.ref 55), some (.int v1), w2, some (.int v3), w4, some (.int v5)] [] (SH, m) (none, (SH, m')) := by
  intro v1 v3 v5 w2 w4 m r m' h
  unfold f_Notes_issue_150 at h
  refine m_R_sg (by decide) [(.aload_n 0, 1, 0, 0, 0, 0, 0), (.iload 5, 2, 0, 5, 0, 0, 0), (.iconst 0, 1, 0, 0, 0, 0, 0)] (by decide +kernel) (show m_sgl X _ _ _ _ _ = some (154, [some (.ref 55), some (.int v1), w2, some (.int v3), w4, some (.int v5)], [.int (0 : Int32), .int v5, .ref 55], (SH, m.1, m.2)) from rfl) ?_
  obtain ⟨q3, hc3, h⟩ := Option.bind_eq_some_iff.mp h
  refine m_R_cV (v := none) (h1 := (SH, q3.2)) (rest := []) (lo' := [some (.ref 55), some (.int v5), some (.int (0 : Int32)), none]) (ml := 4) (k0 := 55) (by decide) (Or.inl rfl) (m_opb_of (ins := .invokevirtual 63) (len := 3) (tag := 5) (a := 53) (b := 2) (c := 0) (q := 824) (by decide +kernel)) (by decide +kernel) rfl (show m_isO 53 55 (SH, _) = true from m_isO_of (by decide +kernel)) (Nat.le_of_ble_eq_true rfl) rfl rfl (ok_Notes_moveTo X (d + 0) F _ _ _ _ _ hc3) ?_
  refine m_R_sg (by decide) [(.aload_n 0, 1, 0, 0, 0, 0, 0), (.iload 5, 2, 0, 5, 0, 0, 0), (.iload_n 1, 1, 0, 1, 0, 0, 0)] (by decide +kernel) (show m_sgl X _ _ _ _ _ = some (161, [some (.ref 55), some (.int v1), w2, some (.int v3), w4, some (.int v5)], [.int v1, .int v5, .ref 55], (SH, q3.2.1, q3.2.2)) from rfl) ?_
  obtain ⟨q4, hc4, h⟩ := Option.bind_eq_some_iff.mp h
  refine m_R_cV (v := none) (h1 := (SH, q4.2)) (rest := []) (lo' := [some (.ref 55), some (.int v5), some (.int v1), none]) (ml := 4) (k0 := 55) (by decide) (Or.inl rfl) (m_opb_of (ins := .invokevirtual 63) (len := 3) (tag := 5) (a := 53) (b := 2) (c := 0) (q := 824) (by decide +kernel)) (by decide +kernel) rfl (show m_isO 53 55 (SH, _) = true from m_isO_of (by decide +kernel)) (Nat.le_of_ble_eq_true rfl) rfl rfl (ok_Notes_moveTo X (d + 0) F _ _ _ _ _ hc4) ?_
  refine m_R_sg (by decide) [(.iinc 3 (-1), 3, 0, 3, 1, 1, 0), (.goto (-85), 3, 0, 82, 0, 0, 0)] (by decide +kernel) (show m_sgl X _ _ _ _ _ = some (82, [some (.ref 55), some (.int v1), w2, some (.int (v3 + (-1 : Int32))), w4, some (.int v5)], [], (SH, q4.2.1, q4.2.2)) from rfl) ?_
  exact hk82 _ _ _ _ _ _ _ _ h
def f_Notes_issue_170 (F : Nat)    (m : mM) : Option (Unit × mM) := some ((), m)
theorem ok_Notes_issue_170 (X : mX) (d F : Nat) : ∀  (w0 : Option Value) (w1 : Option Value) (w2 : Option Value) (w3 : Option Value) (w4 : Option Value) (w5 : Option Value) (m : mM) (r : Unit) (m' : mM), f_Notes_issue_170 F  m = some (r, m') → m_R X (d + 1) 52 170 [w0, w1, w2, w3, w4, w5] [] (SH, m) (none, (SH, m')) := by
  intro w0 w1 w2 w3 w4 w5 m r m' h
  unfold f_Notes_issue_170 at h
  obtain ⟨rfl, rfl⟩ := m_some h
  exact m_R_vret (by decide) (m_opb_of (ins := .return_) (len := 1) (tag := 3) (a := 0) (b := 0) (c := 0) (q := 0) (by decide +kernel))
def f_Notes_issue_82 (F : Nat)   : Nat → Int32 → Int32 → mM → Option (Unit × mM)
  | 0, _, _, _ => none
  | n + 1, v1, v3, m => (if v3 ≤ 0 then f_Notes_issue_170 F m else (if (300 : Int32) ≤ (m.1 55 8) then f_Notes_issue_170 F m else (if (400 : Int32) ≤ (m.1 55 7) then f_Notes_issue_170 F m else ((f_Notes_addCopy F (m.1 55 8) (m.1 55 7) m).bind fun q2 => (if (q2.2.1 55 8) < 0 ∨ 300 ≤ (q2.2.1 55 8).toNatClampNeg then none else f_Notes_issue_150 F (f_Notes_issue_82 F n) v1 v3 q2.1 ((m_up (m_up (m_up q2.2.1 56 (q2.2.1 55 8).toNatClampNeg (1 : Int32)) 55 8 (((m_up q2.2.1 56 (q2.2.1 55 8).toNatClampNeg (1 : Int32)) 55 8) + (1 : Int32))) 55 9 (((m_up (m_up q2.2.1 56 (q2.2.1 55 8).toNatClampNeg (1 : Int32)) 55 8 (((m_up q2.2.1 56 (q2.2.1 55 8).toNatClampNeg (1 : Int32)) 55 8) + (1 : Int32))) 55 9) + (1 : Int32))), q2.2.2))))))
theorem ok_Notes_issue_82 (X : mX) (d F : Nat) : ∀ (n : Nat) (v1 : Int32) (v3 : Int32) (w2 : Option Value) (w4 : Option Value) (w5 : Option Value) (m : mM) (r : Unit) (m' : mM), f_Notes_issue_82 F n v1 v3 m = some (r, m') → m_R X (d + 1) 52 82 [some (.ref 55), some (.int v1), w2, some (.int v3), w4, w5] [] (SH, m) (none, (SH, m')) := by
  intro n
  induction n with
  | zero => intro v1 v3 w2 w4 w5 m r m' h; cases h
  | succ n ih =>
    intro v1 v3 w2 w4 w5 m r m' h
    simp only [f_Notes_issue_82] at h
    refine m_R_sg (by decide) [(.iload_n 3, 1, 0, 3, 0, 0, 0)] (by decide +kernel) (show m_sgl X _ _ _ _ _ = some (83, [some (.ref 55), some (.int v1), w2, some (.int v3), w4, w5], [.int v3], (SH, m.1, m.2)) from rfl) ?_
    rcases m_ite h with ⟨c255, h⟩ | ⟨c255, h⟩
    · refine m_R_1 (by decide) (m_opb_of (ins := .ifCond .le 87) (len := 3) (tag := 0) (a := 170) (b := 0) (c := 0) (q := 0) (by decide +kernel)) (if_pos c255) ?_
      exact ok_Notes_issue_170 X d F _ _ _ _ _ _ _ _ _ h
    · refine m_R_1 (by decide) (m_opb_of (ins := .ifCond .le 87) (len := 3) (tag := 0) (a := 170) (b := 0) (c := 0) (q := 0) (by decide +kernel)) (if_neg c255) ?_
      refine m_R_sg (by decide) [(.aload_n 0, 1, 0, 0, 0, 0, 0), (.getfield 42, 3, 0, 3, 8, 0, 466), (.sipush 300, 3, 0, 300, 0, 0, 0)] (by decide +kernel) (show m_sgl X _ _ _ _ _ = some (93, [some (.ref 55), some (.int v1), w2, some (.int v3), w4, w5], [.int (300 : Int32), .int (m.1 55 8)], (SH, m.1, m.2)) from rfl) ?_
      rcases m_ite h with ⟨c256, h⟩ | ⟨c256, h⟩
      · refine m_R_1 (by decide) (m_opb_of (ins := .if_icmp .ge 77) (len := 3) (tag := 0) (a := 170) (b := 0) (c := 0) (q := 0) (by decide +kernel)) (if_pos c256) ?_
        exact ok_Notes_issue_170 X d F _ _ _ _ _ _ _ _ _ h
      · refine m_R_1 (by decide) (m_opb_of (ins := .if_icmp .ge 77) (len := 3) (tag := 0) (a := 170) (b := 0) (c := 0) (q := 0) (by decide +kernel)) (if_neg c256) ?_
        refine m_R_sg (by decide) [(.aload_n 0, 1, 0, 0, 0, 0, 0), (.getfield 38, 3, 0, 3, 7, 0, 463), (.sipush 400, 3, 0, 400, 0, 0, 0)] (by decide +kernel) (show m_sgl X _ _ _ _ _ = some (103, [some (.ref 55), some (.int v1), w2, some (.int v3), w4, w5], [.int (400 : Int32), .int (m.1 55 7)], (SH, m.1, m.2)) from rfl) ?_
        rcases m_ite h with ⟨c257, h⟩ | ⟨c257, h⟩
        · refine m_R_1 (by decide) (m_opb_of (ins := .if_icmp .ge 67) (len := 3) (tag := 0) (a := 170) (b := 0) (c := 0) (q := 0) (by decide +kernel)) (if_pos c257) ?_
          exact ok_Notes_issue_170 X d F _ _ _ _ _ _ _ _ _ h
        · refine m_R_1 (by decide) (m_opb_of (ins := .if_icmp .ge 67) (len := 3) (tag := 0) (a := 170) (b := 0) (c := 0) (q := 0) (by decide +kernel)) (if_neg c257) ?_
          refine m_R_sg (by decide) [(.aload_n 0, 1, 0, 0, 0, 0, 0), (.aload_n 0, 1, 0, 0, 0, 0, 0), (.getfield 42, 3, 0, 3, 8, 0, 466), (.aload_n 0, 1, 0, 0, 0, 0, 0), (.getfield 38, 3, 0, 3, 7, 0, 463)] (by decide +kernel) (show m_sgl X _ _ _ _ _ = some (115, [some (.ref 55), some (.int v1), w2, some (.int v3), w4, w5], [.int (m.1 55 7), .int (m.1 55 8), .ref 55], (SH, m.1, m.2)) from rfl) ?_
          obtain ⟨q2, hc2, h⟩ := Option.bind_eq_some_iff.mp h
          refine m_R_cV (v := (some (.int q2.1))) (h1 := (SH, q2.2)) (rest := []) (lo' := [some (.ref 55), some (.int (m.1 55 8)), some (.int (m.1 55 7)), none, none]) (ml := 5) (k0 := 55) (by decide) (Or.inl rfl) (m_opb_of (ins := .invokevirtual 67) (len := 3) (tag := 5) (a := 54) (b := 2) (c := 0) (q := 828) (by decide +kernel)) (by decide +kernel) rfl (show m_isO 54 55 (SH, _) = true from m_isO_of (by decide +kernel)) (Nat.le_of_ble_eq_true rfl) rfl rfl (ok_Notes_addCopy X (d + 0) F _ _ _ _ _ hc2) ?_
          refine m_R_sg (by decide) [(.istore 5, 2, 0, 5, 0, 0, 0), (.aload_n 0, 1, 0, 0, 0, 0, 0), (.getfield 9, 3, 0, 3, 1, 3, 450), (.aload_n 0, 1, 0, 0, 0, 0, 0), (.getfield 42, 3, 0, 3, 8, 0, 466), (.iconst 1, 1, 0, 1, 0, 0, 0)] (by decide +kernel) (show m_sgl X _ _ _ _ _ = some (129, [some (.ref 55), some (.int v1), w2, some (.int v3), (m_cl w4), some (.int q2.1)], [.int (1 : Int32), .int (q2.2.1 55 8), .ref 56], (SH, q2.2.1, q2.2.2)) from rfl) ?_
          obtain ⟨c258, h⟩ := m_ite_n h
          refine m_R_1 (by decide) (m_opb_of (ins := .iastore) (len := 1) (tag := 0) (a := 0) (b := 0) (c := 0) (q := 0) (by decide +kernel)) (m_s_iast sh_56 c258) ?_
          refine m_R_sg (by decide) [(.aload_n 0, 1, 0, 0, 0, 0, 0), (.dup, 1, 0, 0, 0, 0, 0), (.getfield 42, 3, 0, 3, 8, 0, 466), (.iconst 1, 1, 0, 1, 0, 0, 0), (.iadd, 1, 0, 0, 0, 0, 0), (.putfield 42, 3, 0, 3, 8, 0, 466), (.aload_n 0, 1, 0, 0, 0, 0, 0), (.dup, 1, 0, 0, 0, 0, 0), (.getfield 45, 3, 0, 3, 9, 0, 467), (.iconst 1, 1, 0, 1, 0, 0, 0), (.iadd, 1, 0, 0, 0, 0, 0), (.putfield 45, 3, 0, 3, 9, 0, 467)] (by decide +kernel) (show m_sgl X _ _ _ _ _ = some (150, [some (.ref 55), some (.int v1), w2, some (.int v3), (m_cl w4), some (.int q2.1)], [], (SH, (m_up (m_up (m_up q2.2.1 56 (q2.2.1 55 8).toNatClampNeg (1 : Int32)) 55 8 (((m_up q2.2.1 56 (q2.2.1 55 8).toNatClampNeg (1 : Int32)) 55 8) + (1 : Int32))) 55 9 (((m_up (m_up q2.2.1 56 (q2.2.1 55 8).toNatClampNeg (1 : Int32)) 55 8 (((m_up q2.2.1 56 (q2.2.1 55 8).toNatClampNeg (1 : Int32)) 55 8) + (1 : Int32))) 55 9) + (1 : Int32))), q2.2.2)) from rfl) ?_
          exact ok_Notes_issue_150 X d F _ (fun a0 a1 a2 a3 a4 m r m' h => ih a0 a1 a2 a3 a4 m r m' h) _ _ _ _ _ _ _ _ h
def f_Notes_issue_11 (F : Nat)   : Nat → Int32 → Int32 → Int32 → Int32 → mM → Option (Unit × mM)
  | 0, _, _, _, _, _ => none
  | n + 1, v1, v3, v4, v5, m => (if v4 ≤ v5 then f_Notes_issue_82 F F v1 v3 m else (if v3 ≤ 0 then f_Notes_issue_82 F F v1 v3 m else (if v5 < 0 ∨ 300 ≤ v5.toNatClampNeg then none else (if (m.1 56 v5.toNatClampNeg) = (2 : Int32) then f_Notes_issue_61 F (f_Notes_issue_11 F n) v1 v3 v4 v5 ((m_up (m_up (m_up m.1 56 v5.toNatClampNeg (1 : Int32)) 55 10 (((m_up m.1 56 v5.toNatClampNeg (1 : Int32)) 55 10) - (1 : Int32))) 55 9 (((m_up (m_up m.1 56 v5.toNatClampNeg (1 : Int32)) 55 10 (((m_up m.1 56 v5.toNatClampNeg (1 : Int32)) 55 10) - (1 : Int32))) 55 9) + (1 : Int32))), m.2) else f_Notes_issue_76 F (f_Notes_issue_11 F n) v1 v3 v4 v5 m))))
theorem ok_Notes_issue_11 (X : mX) (d F : Nat) : ∀ (n : Nat) (v1 : Int32) (v3 : Int32) (v4 : Int32) (v5 : Int32) (w2 : Option Value) (m : mM) (r : Unit) (m' : mM), f_Notes_issue_11 F n v1 v3 v4 v5 m = some (r, m') → m_R X (d + 1) 52 11 [some (.ref 55), some (.int v1), w2, some (.int v3), some (.int v4), some (.int v5)] [] (SH, m) (none, (SH, m')) := by
  intro n
  induction n with
  | zero => intro v1 v3 v4 v5 w2 m r m' h; cases h
  | succ n ih =>
    intro v1 v3 v4 v5 w2 m r m' h
    simp only [f_Notes_issue_11] at h
    refine m_R_sg (by decide) [(.iload 5, 2, 0, 5, 0, 0, 0), (.iload 4, 2, 0, 4, 0, 0, 0)] (by decide +kernel) (show m_sgl X _ _ _ _ _ = some (15, [some (.ref 55), some (.int v1), w2, some (.int v3), some (.int v4), some (.int v5)], [.int v4, .int v5], (SH, m.1, m.2)) from rfl) ?_
    rcases m_ite h with ⟨c259, h⟩ | ⟨c259, h⟩
    · refine m_R_1 (by decide) (m_opb_of (ins := .if_icmp .ge 67) (len := 3) (tag := 0) (a := 82) (b := 0) (c := 0) (q := 0) (by decide +kernel)) (if_pos c259) ?_
      exact ok_Notes_issue_82 X d F F _ _ _ _ _ _ _ _ h
    · refine m_R_1 (by decide) (m_opb_of (ins := .if_icmp .ge 67) (len := 3) (tag := 0) (a := 82) (b := 0) (c := 0) (q := 0) (by decide +kernel)) (if_neg c259) ?_
      refine m_R_sg (by decide) [(.iload_n 3, 1, 0, 3, 0, 0, 0)] (by decide +kernel) (show m_sgl X _ _ _ _ _ = some (19, [some (.ref 55), some (.int v1), w2, some (.int v3), some (.int v4), some (.int v5)], [.int v3], (SH, m.1, m.2)) from rfl) ?_
      rcases m_ite h with ⟨c260, h⟩ | ⟨c260, h⟩
      · refine m_R_1 (by decide) (m_opb_of (ins := .ifCond .le 63) (len := 3) (tag := 0) (a := 82) (b := 0) (c := 0) (q := 0) (by decide +kernel)) (if_pos c260) ?_
        exact ok_Notes_issue_82 X d F F _ _ _ _ _ _ _ _ h
      · refine m_R_1 (by decide) (m_opb_of (ins := .ifCond .le 63) (len := 3) (tag := 0) (a := 82) (b := 0) (c := 0) (q := 0) (by decide +kernel)) (if_neg c260) ?_
        refine m_R_sg (by decide) [(.aload_n 0, 1, 0, 0, 0, 0, 0), (.getfield 9, 3, 0, 3, 1, 3, 450), (.iload 5, 2, 0, 5, 0, 0, 0)] (by decide +kernel) (show m_sgl X _ _ _ _ _ = some (28, [some (.ref 55), some (.int v1), w2, some (.int v3), some (.int v4), some (.int v5)], [.int v5, .ref 56], (SH, m.1, m.2)) from rfl) ?_
        obtain ⟨c261, h⟩ := m_ite_n h
        refine m_R_1 (by decide) (m_opb_of (ins := .iaload) (len := 1) (tag := 0) (a := 0) (b := 0) (c := 0) (q := 0) (by decide +kernel)) (m_s_iald sh_56 (by decide) c261) ?_
        refine m_R_sg (by decide) [(.iconst 2, 1, 0, 2, 0, 0, 0)] (by decide +kernel) (show m_sgl X _ _ _ _ _ = some (30, [some (.ref 55), some (.int v1), w2, some (.int v3), some (.int v4), some (.int v5)], [.int (2 : Int32), .int (m.1 56 v5.toNatClampNeg)], (SH, m.1, m.2)) from rfl) ?_
        rcases m_ite h with ⟨c262, h⟩ | ⟨c262, h⟩
        · refine m_R_1 (by decide) (m_opb_of (ins := .if_icmp .ne 46) (len := 3) (tag := 0) (a := 76) (b := 0) (c := 0) (q := 0) (by decide +kernel)) (if_pos c262) ?_
          refine m_R_sg (by decide) [(.aload_n 0, 1, 0, 0, 0, 0, 0), (.getfield 9, 3, 0, 3, 1, 3, 450), (.iload 5, 2, 0, 5, 0, 0, 0), (.iconst 1, 1, 0, 1, 0, 0, 0)] (by decide +kernel) (show m_sgl X _ _ _ _ _ = some (40, [some (.ref 55), some (.int v1), w2, some (.int v3), some (.int v4), some (.int v5)], [.int (1 : Int32), .int v5, .ref 56], (SH, m.1, m.2)) from rfl) ?_
          refine m_R_1 (by decide) (m_opb_of (ins := .iastore) (len := 1) (tag := 0) (a := 0) (b := 0) (c := 0) (q := 0) (by decide +kernel)) (m_s_iast sh_56 c261) ?_
          refine m_R_sg (by decide) [(.aload_n 0, 1, 0, 0, 0, 0, 0), (.dup, 1, 0, 0, 0, 0, 0), (.getfield 48, 3, 0, 3, 10, 0, 470), (.iconst 1, 1, 0, 1, 0, 0, 0), (.isub, 1, 0, 0, 0, 0, 0), (.putfield 48, 3, 0, 3, 10, 0, 470), (.aload_n 0, 1, 0, 0, 0, 0, 0), (.dup, 1, 0, 0, 0, 0, 0), (.getfield 45, 3, 0, 3, 9, 0, 467), (.iconst 1, 1, 0, 1, 0, 0, 0), (.iadd, 1, 0, 0, 0, 0, 0), (.putfield 45, 3, 0, 3, 9, 0, 467)] (by decide +kernel) (show m_sgl X _ _ _ _ _ = some (61, [some (.ref 55), some (.int v1), w2, some (.int v3), some (.int v4), some (.int v5)], [], (SH, (m_up (m_up (m_up m.1 56 v5.toNatClampNeg (1 : Int32)) 55 10 (((m_up m.1 56 v5.toNatClampNeg (1 : Int32)) 55 10) - (1 : Int32))) 55 9 (((m_up (m_up m.1 56 v5.toNatClampNeg (1 : Int32)) 55 10 (((m_up m.1 56 v5.toNatClampNeg (1 : Int32)) 55 10) - (1 : Int32))) 55 9) + (1 : Int32))), m.2)) from rfl) ?_
          exact ok_Notes_issue_61 X d F _ (fun a0 a1 a2 a3 a4 m r m' h => ih a0 a1 a2 a3 a4 m r m' h) _ _ _ _ _ _ _ _ h
        · refine m_R_1 (by decide) (m_opb_of (ins := .if_icmp .ne 46) (len := 3) (tag := 0) (a := 76) (b := 0) (c := 0) (q := 0) (by decide +kernel)) (if_neg c262) ?_
          exact ok_Notes_issue_76 X d F _ (fun a0 a1 a2 a3 a4 m r m' h => ih a0 a1 a2 a3 a4 m r m' h) _ _ _ _ _ _ _ _ h
def f_Notes_issue (F : Nat)   (v1 : Int32) (v2 : Int32) (m : mM) : Option (Unit × mM) := f_Notes_issue_11 F F v1 v2 (m.1 55 8) (0 : Int32) m
theorem ok_Notes_issue (X : mX) (d F : Nat) : ∀ (v1 : Int32) (v2 : Int32)  (m : mM) (r : Unit) (m' : mM), f_Notes_issue F v1 v2 m = some (r, m') → m_R X (d + 1) 52 0 [some (.ref 55), some (.int v1), some (.int v2), none, none, none] [] (SH, m) (none, (SH, m')) := by
  intro v1 v2 m r m' h
  unfold f_Notes_issue at h
  refine m_R_sg (by decide) [(.iload_n 2, 1, 0, 2, 0, 0, 0), (.istore_n 3, 1, 0, 3, 0, 0, 0), (.aload_n 0, 1, 0, 0, 0, 0, 0), (.getfield 42, 3, 0, 3, 8, 0, 466), (.istore 4, 2, 0, 4, 0, 0, 0), (.iconst 0, 1, 0, 0, 0, 0, 0), (.istore 5, 2, 0, 5, 0, 0, 0)] (by decide +kernel) (show m_sgl X _ _ _ _ _ = some (11, [some (.ref 55), some (.int v1), some (.int v2), some (.int v2), some (.int (m.1 55 8)), some (.int (0 : Int32))], [], (SH, m.1, m.2)) from rfl) ?_
  exact ok_Notes_issue_11 X d F F _ _ _ _ _ _ _ _ h
def f_Notes_noteFound_83 (F : Nat)    (m : mM) : Option (Unit × mM) := some ((), m)
theorem ok_Notes_noteFound_83 (X : mX) (d F : Nat) : ∀  (w0 : Option Value) (w1 : Option Value) (w2 : Option Value) (w3 : Option Value) (m : mM) (r : Unit) (m' : mM), f_Notes_noteFound_83 F  m = some (r, m') → m_R X (d + 0) 56 83 [w0, w1, w2, w3] [] (SH, m) (none, (SH, m')) := by
  intro w0 w1 w2 w3 m r m' h
  unfold f_Notes_noteFound_83 at h
  obtain ⟨rfl, rfl⟩ := m_some h
  exact m_R_vret (by decide) (m_opb_of (ins := .return_) (len := 1) (tag := 3) (a := 0) (b := 0) (c := 0) (q := 0) (by decide +kernel))
def f_Notes_noteFound_56 (F : Nat)   (v1 : Int32) (v2 : Int32) (m : mM) : Option (Unit × mM) := (if v1 < 0 ∨ 400 ≤ v1.toNatClampNeg then none else (if v2 < 0 ∨ 16 ≤ v2.toNatClampNeg then none else f_Notes_noteFound_83 F ((m_up (m_up (m_up m.1 55 12 ((m.1 55 12) + (1 : Int32))) 58 v1.toNatClampNeg (-1 : Int32)) 61 v2.toNatClampNeg (((m_up (m_up m.1 55 12 ((m.1 55 12) + (1 : Int32))) 58 v1.toNatClampNeg (-1 : Int32)) 61 v2.toNatClampNeg) - (1 : Int32))), m.2)))
theorem ok_Notes_noteFound_56 (X : mX) (d F : Nat) : ∀ (v1 : Int32) (v2 : Int32) (w3 : Option Value) (m : mM) (r : Unit) (m' : mM), f_Notes_noteFound_56 F v1 v2 m = some (r, m') → m_R X (d + 0) 56 56 [some (.ref 55), some (.int v1), some (.int v2), w3] [] (SH, m) (none, (SH, m')) := by
  intro v1 v2 w3 m r m' h
  unfold f_Notes_noteFound_56 at h
  refine m_R_sg (by decide) [(.aload_n 0, 1, 0, 0, 0, 0, 0), (.dup, 1, 0, 0, 0, 0, 0), (.getfield 54, 3, 0, 3, 12, 0, 474), (.iconst 1, 1, 0, 1, 0, 0, 0), (.iadd, 1, 0, 0, 0, 0, 0), (.putfield 54, 3, 0, 3, 12, 0, 474), (.aload_n 0, 1, 0, 0, 0, 0, 0), (.getfield 18, 3, 0, 3, 3, 3, 453), (.iload_n 1, 1, 0, 1, 0, 0, 0), (.iconst (-1), 1, 0, 1, 1, 0, 0)] (by decide +kernel) (show m_sgl X _ _ _ _ _ = some (72, [some (.ref 55), some (.int v1), some (.int v2), w3], [.int (-1 : Int32), .int v1, .ref 58], (SH, (m_up m.1 55 12 ((m.1 55 12) + (1 : Int32))), m.2)) from rfl) ?_
  obtain ⟨c263, h⟩ := m_ite_n h
  refine m_R_1 (by decide) (m_opb_of (ins := .iastore) (len := 1) (tag := 0) (a := 0) (b := 0) (c := 0) (q := 0) (by decide +kernel)) (m_s_iast sh_58 c263) ?_
  refine m_R_sg (by decide) [(.aload_n 0, 1, 0, 0, 0, 0, 0), (.getfield 27, 3, 0, 3, 6, 3, 460), (.iload_n 2, 1, 0, 2, 0, 0, 0), (.dup2, 1, 0, 0, 0, 0, 0)] (by decide +kernel) (show m_sgl X _ _ _ _ _ = some (79, [some (.ref 55), some (.int v1), some (.int v2), w3], [.int v2, .ref 61, .int v2, .ref 61], (SH, (m_up (m_up m.1 55 12 ((m.1 55 12) + (1 : Int32))) 58 v1.toNatClampNeg (-1 : Int32)), m.2)) from rfl) ?_
  obtain ⟨c264, h⟩ := m_ite_n h
  refine m_R_1 (by decide) (m_opb_of (ins := .iaload) (len := 1) (tag := 0) (a := 0) (b := 0) (c := 0) (q := 0) (by decide +kernel)) (m_s_iald sh_61 (by decide) c264) ?_
  refine m_R_sg (by decide) [(.iconst 1, 1, 0, 1, 0, 0, 0), (.isub, 1, 0, 0, 0, 0, 0)] (by decide +kernel) (show m_sgl X _ _ _ _ _ = some (82, [some (.ref 55), some (.int v1), some (.int v2), w3], [.int (((m_up (m_up m.1 55 12 ((m.1 55 12) + (1 : Int32))) 58 v1.toNatClampNeg (-1 : Int32)) 61 v2.toNatClampNeg) - (1 : Int32)), .int v2, .ref 61], (SH, (m_up (m_up m.1 55 12 ((m.1 55 12) + (1 : Int32))) 58 v1.toNatClampNeg (-1 : Int32)), m.2)) from rfl) ?_
  refine m_R_1 (by decide) (m_opb_of (ins := .iastore) (len := 1) (tag := 0) (a := 0) (b := 0) (c := 0) (q := 0) (by decide +kernel)) (m_s_iast sh_61 c264) ?_
  exact ok_Notes_noteFound_83 X d F _ _ _ _ _ _ _ h
def f_Notes_noteFound (F : Nat)   (v1 : Int32) (v2 : Int32) (v3 : Int32) (m : mM) : Option (Unit × mM) := (if (60 : Int32) ≤ (m.1 55 12) then f_Notes_noteFound_56 F v1 v2 m else (if v1 < 0 ∨ 400 ≤ v1.toNatClampNeg then none else (if (m.1 55 12) < 0 ∨ 60 ≤ (m.1 55 12).toNatClampNeg then none else (if ((m_up m.1 4 (m.1 55 12).toNatClampNeg (m.1 2 v1.toNatClampNeg)) 55 12) < 0 ∨ 60 ≤ ((m_up m.1 4 (m.1 55 12).toNatClampNeg (m.1 2 v1.toNatClampNeg)) 55 12).toNatClampNeg then none else (if ((m_up (m_up m.1 4 (m.1 55 12).toNatClampNeg (m.1 2 v1.toNatClampNeg)) 5 ((m_up m.1 4 (m.1 55 12).toNatClampNeg (m.1 2 v1.toNatClampNeg)) 55 12).toNatClampNeg v2) 55 12) < 0 ∨ 60 ≤ ((m_up (m_up m.1 4 (m.1 55 12).toNatClampNeg (m.1 2 v1.toNatClampNeg)) 5 ((m_up m.1 4 (m.1 55 12).toNatClampNeg (m.1 2 v1.toNatClampNeg)) 55 12).toNatClampNeg v2) 55 12).toNatClampNeg then none else f_Notes_noteFound_56 F v1 v2 ((m_up (m_up (m_up m.1 4 (m.1 55 12).toNatClampNeg (m.1 2 v1.toNatClampNeg)) 5 ((m_up m.1 4 (m.1 55 12).toNatClampNeg (m.1 2 v1.toNatClampNeg)) 55 12).toNatClampNeg v2) 6 ((m_up (m_up m.1 4 (m.1 55 12).toNatClampNeg (m.1 2 v1.toNatClampNeg)) 5 ((m_up m.1 4 (m.1 55 12).toNatClampNeg (m.1 2 v1.toNatClampNeg)) 55 12).toNatClampNeg v2) 55 12).toNatClampNeg v3), m.2))))))
theorem ok_Notes_noteFound (X : mX) (d F : Nat) : ∀ (v1 : Int32) (v2 : Int32) (v3 : Int32)  (m : mM) (r : Unit) (m' : mM), f_Notes_noteFound F v1 v2 v3 m = some (r, m') → m_R X (d + 0) 56 0 [some (.ref 55), some (.int v1), some (.int v2), some (.int v3)] [] (SH, m) (none, (SH, m')) := by
  intro v1 v2 v3 m r m' h
  unfold f_Notes_noteFound at h
  refine m_R_sg (by decide) [(.aload_n 0, 1, 0, 0, 0, 0, 0), (.getfield 54, 3, 0, 3, 12, 0, 474), (.bipush 60, 2, 0, 60, 0, 0, 0)] (by decide +kernel) (show m_sgl X _ _ _ _ _ = some (6, [some (.ref 55), some (.int v1), some (.int v2), some (.int v3)], [.int (60 : Int32), .int (m.1 55 12)], (SH, m.1, m.2)) from rfl) ?_
  rcases m_ite h with ⟨c265, h⟩ | ⟨c265, h⟩
  · refine m_R_1 (by decide) (m_opb_of (ins := .if_icmp .ge 50) (len := 3) (tag := 0) (a := 56) (b := 0) (c := 0) (q := 0) (by decide +kernel)) (if_pos c265) ?_
    exact ok_Notes_noteFound_56 X d F _ _ _ _ _ _ h
  · refine m_R_1 (by decide) (m_opb_of (ins := .if_icmp .ge 50) (len := 3) (tag := 0) (a := 56) (b := 0) (c := 0) (q := 0) (by decide +kernel)) (if_neg c265) ?_
    refine m_R_sg (by decide) [(.aload_n 0, 1, 0, 0, 0, 0, 0), (.getfield 30, 3, 0, 3, 0, 3, 449), (.getfield 86, 3, 0, 6, 2, 3, 166), (.aload_n 0, 1, 0, 0, 0, 0, 0), (.getfield 54, 3, 0, 3, 12, 0, 474), (.aload_n 0, 1, 0, 0, 0, 0, 0), (.getfield 30, 3, 0, 3, 0, 3, 449), (.getfield 70, 3, 0, 6, 0, 3, 161), (.iload_n 1, 1, 0, 1, 0, 0, 0)] (by decide +kernel) (show m_sgl X _ _ _ _ _ = some (28, [some (.ref 55), some (.int v1), some (.int v2), some (.int v3)], [.int v1, .ref 2, .int (m.1 55 12), .ref 4], (SH, m.1, m.2)) from rfl) ?_
    obtain ⟨c266, h⟩ := m_ite_n h
    refine m_R_1 (by decide) (m_opb_of (ins := .iaload) (len := 1) (tag := 0) (a := 0) (b := 0) (c := 0) (q := 0) (by decide +kernel)) (m_s_iald sh_2 (by decide) c266) ?_
    obtain ⟨c267, h⟩ := m_ite_n h
    refine m_R_1 (by decide) (m_opb_of (ins := .iastore) (len := 1) (tag := 0) (a := 0) (b := 0) (c := 0) (q := 0) (by decide +kernel)) (m_s_iast sh_4 c267) ?_
    refine m_R_sg (by decide) [(.aload_n 0, 1, 0, 0, 0, 0, 0), (.getfield 30, 3, 0, 3, 0, 3, 449), (.getfield 89, 3, 0, 6, 3, 3, 169), (.aload_n 0, 1, 0, 0, 0, 0, 0), (.getfield 54, 3, 0, 3, 12, 0, 474), (.iload_n 2, 1, 0, 2, 0, 0, 0)] (by decide +kernel) (show m_sgl X _ _ _ _ _ = some (42, [some (.ref 55), some (.int v1), some (.int v2), some (.int v3)], [.int v2, .int ((m_up m.1 4 (m.1 55 12).toNatClampNeg (m.1 2 v1.toNatClampNeg)) 55 12), .ref 5], (SH, (m_up m.1 4 (m.1 55 12).toNatClampNeg (m.1 2 v1.toNatClampNeg)), m.2)) from rfl) ?_
    obtain ⟨c268, h⟩ := m_ite_n h
    refine m_R_1 (by decide) (m_opb_of (ins := .iastore) (len := 1) (tag := 0) (a := 0) (b := 0) (c := 0) (q := 0) (by decide +kernel)) (m_s_iast sh_5 c268) ?_
    refine m_R_sg (by decide) [(.aload_n 0, 1, 0, 0, 0, 0, 0), (.getfield 30, 3, 0, 3, 0, 3, 449), (.getfield 92, 3, 0, 6, 4, 3, 172), (.aload_n 0, 1, 0, 0, 0, 0, 0), (.getfield 54, 3, 0, 3, 12, 0, 474), (.iload_n 3, 1, 0, 3, 0, 0, 0)] (by decide +kernel) (show m_sgl X _ _ _ _ _ = some (55, [some (.ref 55), some (.int v1), some (.int v2), some (.int v3)], [.int v3, .int ((m_up (m_up m.1 4 (m.1 55 12).toNatClampNeg (m.1 2 v1.toNatClampNeg)) 5 ((m_up m.1 4 (m.1 55 12).toNatClampNeg (m.1 2 v1.toNatClampNeg)) 55 12).toNatClampNeg v2) 55 12), .ref 6], (SH, (m_up (m_up m.1 4 (m.1 55 12).toNatClampNeg (m.1 2 v1.toNatClampNeg)) 5 ((m_up m.1 4 (m.1 55 12).toNatClampNeg (m.1 2 v1.toNatClampNeg)) 55 12).toNatClampNeg v2), m.2)) from rfl) ?_
    obtain ⟨c269, h⟩ := m_ite_n h
    refine m_R_1 (by decide) (m_opb_of (ins := .iastore) (len := 1) (tag := 0) (a := 0) (b := 0) (c := 0) (q := 0) (by decide +kernel)) (m_s_iast sh_6 c269) ?_
    exact ok_Notes_noteFound_56 X d F _ _ _ _ _ _ h
def f_Notes_findForged_83 (F : Nat)  (k5 : Int32 → Int32 → Int32 → Int32 → mM → Option (Unit × mM)) (v1 : Int32) (v2 : Int32) (v3 : Int32) (v4 : Int32) (m : mM) : Option (Unit × mM) := k5 v1 v2 v3 (v4 + (1 : Int32)) m
theorem ok_Notes_findForged_83 (X : mX) (d F : Nat) (k5 : Int32 → Int32 → Int32 → Int32 → mM → Option (Unit × mM)) (hk5 : ∀ (v1 : Int32) (v2 : Int32) (v3 : Int32) (v4 : Int32) (w5 : Option Value) (w6 : Option Value) (m : mM) (r : Unit) (m' : mM), k5 v1 v2 v3 v4 m = some (r, m') → m_R X (d + 1) 55 5 [some (.ref 55), some (.int v1), some (.int v2), some (.int v3), some (.int v4), w5, w6] [] (SH, m) (none, (SH, m'))) : ∀ (v1 : Int32) (v2 : Int32) (v3 : Int32) (v4 : Int32) (w5 : Option Value) (w6 : Option Value) (m : mM) (r : Unit) (m' : mM), f_Notes_findForged_83 F k5 v1 v2 v3 v4 m = some (r, m') → m_R X (d + 1) 55 83 [some (.ref 55), some (.int v1), some (.int v2), some (.int v3), some (.int v4), w5, w6] [] (SH, m) (none, (SH, m')) := by
  intro v1 v2 v3 v4 w5 w6 m r m' h
  unfold f_Notes_findForged_83 at h
  refine m_R_sg (by decide) [(.iinc 4 1, 3, 0, 4, 1, 0, 0), (.goto (-81), 3, 0, 5, 0, 0, 0)] (by decide +kernel) (show m_sgl X _ _ _ _ _ = some (5, [some (.ref 55), some (.int v1), some (.int v2), some (.int v3), some (.int (v4 + (1 : Int32))), w5, w6], [], (SH, m.1, m.2)) from rfl) ?_
  exact hk5 _ _ _ _ _ _ _ _ _ h
def f_Notes_findForged_80 (F : Nat)  (k5 : Int32 → Int32 → Int32 → Int32 → mM → Option (Unit × mM)) (v1 : Int32) (v2 : Int32) (v4 : Int32) (v6 : Int32) (m : mM) : Option (Unit × mM) := f_Notes_findForged_83 F k5 v1 v2 v6 v4 m
theorem ok_Notes_findForged_80 (X : mX) (d F : Nat) (k5 : Int32 → Int32 → Int32 → Int32 → mM → Option (Unit × mM)) (hk5 : ∀ (v1 : Int32) (v2 : Int32) (v3 : Int32) (v4 : Int32) (w5 : Option Value) (w6 : Option Value) (m : mM) (r : Unit) (m' : mM), k5 v1 v2 v3 v4 m = some (r, m') → m_R X (d + 1) 55 5 [some (.ref 55), some (.int v1), some (.int v2), some (.int v3), some (.int v4), w5, w6] [] (SH, m) (none, (SH, m'))) : ∀ (v1 : Int32) (v2 : Int32) (v4 : Int32) (v6 : Int32) (w3 : Option Value) (w5 : Option Value) (m : mM) (r : Unit) (m' : mM), f_Notes_findForged_80 F k5 v1 v2 v4 v6 m = some (r, m') → m_R X (d + 1) 55 80 [some (.ref 55), some (.int v1), some (.int v2), w3, some (.int v4), w5, some (.int v6)] [] (SH, m) (none, (SH, m')) := by
  intro v1 v2 v4 v6 w3 w5 m r m' h
  unfold f_Notes_findForged_80 at h
  refine m_R_sg (by decide) [(.iload 6, 2, 0, 6, 0, 0, 0), (.istore_n 3, 1, 0, 3, 0, 0, 0)] (by decide +kernel) (show m_sgl X _ _ _ _ _ = some (83, [some (.ref 55), some (.int v1), some (.int v2), some (.int v6), some (.int v4), w5, some (.int v6)], [], (SH, m.1, m.2)) from rfl) ?_
  exact ok_Notes_findForged_83 X d F _ hk5 _ _ _ _ _ _ _ _ _ h
def f_Notes_findForged_72 (F : Nat)  (k5 : Int32 → Int32 → Int32 → Int32 → mM → Option (Unit × mM)) (v1 : Int32) (v2 : Int32) (v4 : Int32) (v5 : Int32) (v6 : Int32) (m : mM) : Option (Unit × mM) := ((f_Notes_noteFound F v5 v1 v2 m).bind fun q1 => f_Notes_findForged_80 F k5 v1 v2 v4 v6 q1.2)
theorem ok_Notes_findForged_72 (X : mX) (d F : Nat) (k5 : Int32 → Int32 → Int32 → Int32 → mM → Option (Unit × mM)) (hk5 : ∀ (v1 : Int32) (v2 : Int32) (v3 : Int32) (v4 : Int32) (w5 : Option Value) (w6 : Option Value) (m : mM) (r : Unit) (m' : mM), k5 v1 v2 v3 v4 m = some (r, m') → m_R X (d + 1) 55 5 [some (.ref 55), some (.int v1), some (.int v2), some (.int v3), some (.int v4), w5, w6] [] (SH, m) (none, (SH, m'))) : ∀ (v1 : Int32) (v2 : Int32) (v4 : Int32) (v5 : Int32) (v6 : Int32) (w3 : Option Value) (m : mM) (r : Unit) (m' : mM), f_Notes_findForged_72 F k5 v1 v2 v4 v5 v6 m = some (r, m') → m_R X (d + 1) 55 72 [some (.ref 55), some (.int v1), some (.int v2), w3, some (.int v4), some (.int v5), some (.int v6)] [] (SH, m) (none, (SH, m')) := by
  intro v1 v2 v4 v5 v6 w3 m r m' h
  unfold f_Notes_findForged_72 at h
  refine m_R_sg (by decide) [(.aload_n 0, 1, 0, 0, 0, 0, 0), (.iload 5, 2, 0, 5, 0, 0, 0), (.iload_n 1, 1, 0, 1, 0, 0, 0), (.iload_n 2, 1, 0, 2, 0, 0, 0)] (by decide +kernel) (show m_sgl X _ _ _ _ _ = some (77, [some (.ref 55), some (.int v1), some (.int v2), w3, some (.int v4), some (.int v5), some (.int v6)], [.int v2, .int v1, .int v5, .ref 55], (SH, m.1, m.2)) from rfl) ?_
  obtain ⟨q1, hc1, h⟩ := Option.bind_eq_some_iff.mp h
  refine m_R_cV (v := none) (h1 := (SH, q1.2)) (rest := []) (lo' := [some (.ref 55), some (.int v5), some (.int v1), some (.int v2)]) (ml := 4) (k0 := 55) (by decide) (Or.inl rfl) (m_opb_of (ins := .invokevirtual 82) (len := 3) (tag := 5) (a := 56) (b := 3) (c := 0) (q := 836) (by decide +kernel)) (by decide +kernel) rfl (show m_isO 56 55 (SH, _) = true from m_isO_of (by decide +kernel)) (Nat.le_of_ble_eq_true rfl) rfl rfl (ok_Notes_noteFound X (d + 0) F _ _ _ _ _ _ hc1) ?_
  exact ok_Notes_findForged_80 X d F _ hk5 _ _ _ _ _ _ _ _ _ h
def f_Notes_findForged_89 (F : Nat)    (m : mM) : Option (Unit × mM) := some ((), m)
theorem ok_Notes_findForged_89 (X : mX) (d F : Nat) : ∀  (w0 : Option Value) (w1 : Option Value) (w2 : Option Value) (w3 : Option Value) (w4 : Option Value) (w5 : Option Value) (w6 : Option Value) (m : mM) (r : Unit) (m' : mM), f_Notes_findForged_89 F  m = some (r, m') → m_R X (d + 1) 55 89 [w0, w1, w2, w3, w4, w5, w6] [] (SH, m) (none, (SH, m')) := by
  intro w0 w1 w2 w3 w4 w5 w6 m r m' h
  unfold f_Notes_findForged_89 at h
  obtain ⟨rfl, rfl⟩ := m_some h
  exact m_R_vret (by decide) (m_opb_of (ins := .return_) (len := 1) (tag := 3) (a := 0) (b := 0) (c := 0) (q := 0) (by decide +kernel))
def f_Notes_findForged_5 (F : Nat)   : Nat → Int32 → Int32 → Int32 → Int32 → mM → Option (Unit × mM)
  | 0, _, _, _, _, _ => none
  | n + 1, v1, v2, v3, v4, m => (if (m.1 55 7) ≤ v4 then f_Notes_findForged_89 F m else (if v1 < 0 ∨ 16 ≤ v1.toNatClampNeg then none else (if (m.1 61 v1.toNatClampNeg) ≤ 0 then f_Notes_findForged_89 F m else (if v4 < 0 ∨ 400 ≤ v4.toNatClampNeg then none else (if (m.1 60 v4.toNatClampNeg) < 0 ∨ 400 ≤ (m.1 60 v4.toNatClampNeg).toNatClampNeg then none else (if (m.1 58 (m.1 60 v4.toNatClampNeg).toNatClampNeg) = v1 then (if (m.1 2 (m.1 60 v4.toNatClampNeg).toNatClampNeg) < 0 ∨ 300 ≤ (m.1 2 (m.1 60 v4.toNatClampNeg).toNatClampNeg).toNatClampNeg then none else (if (m.1 56 (m.1 2 (m.1 60 v4.toNatClampNeg).toNatClampNeg).toNatClampNeg) = (1 : Int32) then (if (m.1 2 (m.1 60 v4.toNatClampNeg).toNatClampNeg) = v3 then f_Notes_findForged_72 F (f_Notes_findForged_5 F n) v1 v2 v4 (m.1 60 v4.toNatClampNeg) (m.1 2 (m.1 60 v4.toNatClampNeg).toNatClampNeg) m else f_Notes_findForged_80 F (f_Notes_findForged_5 F n) v1 v2 v4 (m.1 2 (m.1 60 v4.toNatClampNeg).toNatClampNeg) m) else f_Notes_findForged_72 F (f_Notes_findForged_5 F n) v1 v2 v4 (m.1 60 v4.toNatClampNeg) (m.1 2 (m.1 60 v4.toNatClampNeg).toNatClampNeg) m)) else f_Notes_findForged_83 F (f_Notes_findForged_5 F n) v1 v2 v3 v4 m))))))
theorem ok_Notes_findForged_5 (X : mX) (d F : Nat) : ∀ (n : Nat) (v1 : Int32) (v2 : Int32) (v3 : Int32) (v4 : Int32) (w5 : Option Value) (w6 : Option Value) (m : mM) (r : Unit) (m' : mM), f_Notes_findForged_5 F n v1 v2 v3 v4 m = some (r, m') → m_R X (d + 1) 55 5 [some (.ref 55), some (.int v1), some (.int v2), some (.int v3), some (.int v4), w5, w6] [] (SH, m) (none, (SH, m')) := by
  intro n
  induction n with
  | zero => intro v1 v2 v3 v4 w5 w6 m r m' h; cases h
  | succ n ih =>
    intro v1 v2 v3 v4 w5 w6 m r m' h
    simp only [f_Notes_findForged_5] at h
    refine m_R_sg (by decide) [(.iload 4, 2, 0, 4, 0, 0, 0), (.aload_n 0, 1, 0, 0, 0, 0, 0), (.getfield 38, 3, 0, 3, 7, 0, 463)] (by decide +kernel) (show m_sgl X _ _ _ _ _ = some (11, [some (.ref 55), some (.int v1), some (.int v2), some (.int v3), some (.int v4), w5, w6], [.int (m.1 55 7), .int v4], (SH, m.1, m.2)) from rfl) ?_
    rcases m_ite h with ⟨c270, h⟩ | ⟨c270, h⟩
    · refine m_R_1 (by decide) (m_opb_of (ins := .if_icmp .ge 78) (len := 3) (tag := 0) (a := 89) (b := 0) (c := 0) (q := 0) (by decide +kernel)) (if_pos c270) ?_
      exact ok_Notes_findForged_89 X d F _ _ _ _ _ _ _ _ _ _ h
    · refine m_R_1 (by decide) (m_opb_of (ins := .if_icmp .ge 78) (len := 3) (tag := 0) (a := 89) (b := 0) (c := 0) (q := 0) (by decide +kernel)) (if_neg c270) ?_
      refine m_R_sg (by decide) [(.aload_n 0, 1, 0, 0, 0, 0, 0), (.getfield 27, 3, 0, 3, 6, 3, 460), (.iload_n 1, 1, 0, 1, 0, 0, 0)] (by decide +kernel) (show m_sgl X _ _ _ _ _ = some (19, [some (.ref 55), some (.int v1), some (.int v2), some (.int v3), some (.int v4), w5, w6], [.int v1, .ref 61], (SH, m.1, m.2)) from rfl) ?_
      obtain ⟨c271, h⟩ := m_ite_n h
      refine m_R_1 (by decide) (m_opb_of (ins := .iaload) (len := 1) (tag := 0) (a := 0) (b := 0) (c := 0) (q := 0) (by decide +kernel)) (m_s_iald sh_61 (by decide) c271) ?_
      rcases m_ite h with ⟨c272, h⟩ | ⟨c272, h⟩
      · refine m_R_1 (by decide) (m_opb_of (ins := .ifCond .le 69) (len := 3) (tag := 0) (a := 89) (b := 0) (c := 0) (q := 0) (by decide +kernel)) (if_pos c272) ?_
        exact ok_Notes_findForged_89 X d F _ _ _ _ _ _ _ _ _ _ h
      · refine m_R_1 (by decide) (m_opb_of (ins := .ifCond .le 69) (len := 3) (tag := 0) (a := 89) (b := 0) (c := 0) (q := 0) (by decide +kernel)) (if_neg c272) ?_
        refine m_R_sg (by decide) [(.aload_n 0, 1, 0, 0, 0, 0, 0), (.getfield 24, 3, 0, 3, 5, 3, 458), (.iload 4, 2, 0, 4, 0, 0, 0)] (by decide +kernel) (show m_sgl X _ _ _ _ _ = some (29, [some (.ref 55), some (.int v1), some (.int v2), some (.int v3), some (.int v4), w5, w6], [.int v4, .ref 60], (SH, m.1, m.2)) from rfl) ?_
        obtain ⟨c273, h⟩ := m_ite_n h
        refine m_R_1 (by decide) (m_opb_of (ins := .iaload) (len := 1) (tag := 0) (a := 0) (b := 0) (c := 0) (q := 0) (by decide +kernel)) (m_s_iald sh_60 (by decide) c273) ?_
        refine m_R_sg (by decide) [(.istore 5, 2, 0, 5, 0, 0, 0), (.aload_n 0, 1, 0, 0, 0, 0, 0), (.getfield 18, 3, 0, 3, 3, 3, 453), (.iload 5, 2, 0, 5, 0, 0, 0)] (by decide +kernel) (show m_sgl X _ _ _ _ _ = some (38, [some (.ref 55), some (.int v1), some (.int v2), some (.int v3), some (.int v4), some (.int (m.1 60 v4.toNatClampNeg)), w6], [.int (m.1 60 v4.toNatClampNeg), .ref 58], (SH, m.1, m.2)) from rfl) ?_
        obtain ⟨c274, h⟩ := m_ite_n h
        refine m_R_1 (by decide) (m_opb_of (ins := .iaload) (len := 1) (tag := 0) (a := 0) (b := 0) (c := 0) (q := 0) (by decide +kernel)) (m_s_iald sh_58 (by decide) c274) ?_
        refine m_R_sg (by decide) [(.iload_n 1, 1, 0, 1, 0, 0, 0)] (by decide +kernel) (show m_sgl X _ _ _ _ _ = some (40, [some (.ref 55), some (.int v1), some (.int v2), some (.int v3), some (.int v4), some (.int (m.1 60 v4.toNatClampNeg)), w6], [.int v1, .int (m.1 58 (m.1 60 v4.toNatClampNeg).toNatClampNeg)], (SH, m.1, m.2)) from rfl) ?_
        rcases m_ite h with ⟨c275, h⟩ | ⟨c275, h⟩
        · refine m_R_1 (by decide) (m_opb_of (ins := .if_icmp .ne 43) (len := 3) (tag := 0) (a := 83) (b := 0) (c := 0) (q := 0) (by decide +kernel)) (if_pos c275) ?_
          refine m_R_sg (by decide) [(.aload_n 0, 1, 0, 0, 0, 0, 0), (.getfield 30, 3, 0, 3, 0, 3, 449), (.getfield 70, 3, 0, 6, 0, 3, 161), (.iload 5, 2, 0, 5, 0, 0, 0)] (by decide +kernel) (show m_sgl X _ _ _ _ _ = some (52, [some (.ref 55), some (.int v1), some (.int v2), some (.int v3), some (.int v4), some (.int (m.1 60 v4.toNatClampNeg)), w6], [.int (m.1 60 v4.toNatClampNeg), .ref 2], (SH, m.1, m.2)) from rfl) ?_
          refine m_R_1 (by decide) (m_opb_of (ins := .iaload) (len := 1) (tag := 0) (a := 0) (b := 0) (c := 0) (q := 0) (by decide +kernel)) (m_s_iald sh_2 (by decide) c274) ?_
          refine m_R_sg (by decide) [(.istore 6, 2, 0, 6, 0, 0, 0), (.aload_n 0, 1, 0, 0, 0, 0, 0), (.getfield 9, 3, 0, 3, 1, 3, 450), (.iload 6, 2, 0, 6, 0, 0, 0)] (by decide +kernel) (show m_sgl X _ _ _ _ _ = some (61, [some (.ref 55), some (.int v1), some (.int v2), some (.int v3), some (.int v4), some (.int (m.1 60 v4.toNatClampNeg)), some (.int (m.1 2 (m.1 60 v4.toNatClampNeg).toNatClampNeg))], [.int (m.1 2 (m.1 60 v4.toNatClampNeg).toNatClampNeg), .ref 56], (SH, m.1, m.2)) from rfl) ?_
          obtain ⟨c276, h⟩ := m_ite_n h
          refine m_R_1 (by decide) (m_opb_of (ins := .iaload) (len := 1) (tag := 0) (a := 0) (b := 0) (c := 0) (q := 0) (by decide +kernel)) (m_s_iald sh_56 (by decide) c276) ?_
          refine m_R_sg (by decide) [(.iconst 1, 1, 0, 1, 0, 0, 0)] (by decide +kernel) (show m_sgl X _ _ _ _ _ = some (63, [some (.ref 55), some (.int v1), some (.int v2), some (.int v3), some (.int v4), some (.int (m.1 60 v4.toNatClampNeg)), some (.int (m.1 2 (m.1 60 v4.toNatClampNeg).toNatClampNeg))], [.int (1 : Int32), .int (m.1 56 (m.1 2 (m.1 60 v4.toNatClampNeg).toNatClampNeg).toNatClampNeg)], (SH, m.1, m.2)) from rfl) ?_
          rcases m_ite h with ⟨c277, h⟩ | ⟨c277, h⟩
          · refine m_R_1 (by decide) (m_opb_of (ins := .if_icmp .ne 9) (len := 3) (tag := 0) (a := 72) (b := 0) (c := 0) (q := 0) (by decide +kernel)) (if_pos c277) ?_
            refine m_R_sg (by decide) [(.iload 6, 2, 0, 6, 0, 0, 0), (.iload_n 3, 1, 0, 3, 0, 0, 0)] (by decide +kernel) (show m_sgl X _ _ _ _ _ = some (69, [some (.ref 55), some (.int v1), some (.int v2), some (.int v3), some (.int v4), some (.int (m.1 60 v4.toNatClampNeg)), some (.int (m.1 2 (m.1 60 v4.toNatClampNeg).toNatClampNeg))], [.int v3, .int (m.1 2 (m.1 60 v4.toNatClampNeg).toNatClampNeg)], (SH, m.1, m.2)) from rfl) ?_
            rcases m_ite h with ⟨c278, h⟩ | ⟨c278, h⟩
            · refine m_R_1 (by decide) (m_opb_of (ins := .if_icmp .ne 11) (len := 3) (tag := 0) (a := 80) (b := 0) (c := 0) (q := 0) (by decide +kernel)) (if_pos c278) ?_
              exact ok_Notes_findForged_72 X d F _ (fun a0 a1 a2 a3 a4 a5 m r m' h => ih a0 a1 a2 a3 a4 a5 m r m' h) _ _ _ _ _ _ _ _ _ h
            · refine m_R_1 (by decide) (m_opb_of (ins := .if_icmp .ne 11) (len := 3) (tag := 0) (a := 80) (b := 0) (c := 0) (q := 0) (by decide +kernel)) (if_neg c278) ?_
              exact ok_Notes_findForged_80 X d F _ (fun a0 a1 a2 a3 a4 a5 m r m' h => ih a0 a1 a2 a3 a4 a5 m r m' h) _ _ _ _ _ _ _ _ _ h
          · refine m_R_1 (by decide) (m_opb_of (ins := .if_icmp .ne 9) (len := 3) (tag := 0) (a := 72) (b := 0) (c := 0) (q := 0) (by decide +kernel)) (if_neg c277) ?_
            exact ok_Notes_findForged_72 X d F _ (fun a0 a1 a2 a3 a4 a5 m r m' h => ih a0 a1 a2 a3 a4 a5 m r m' h) _ _ _ _ _ _ _ _ _ h
        · refine m_R_1 (by decide) (m_opb_of (ins := .if_icmp .ne 43) (len := 3) (tag := 0) (a := 83) (b := 0) (c := 0) (q := 0) (by decide +kernel)) (if_neg c275) ?_
          exact ok_Notes_findForged_83 X d F _ (fun a0 a1 a2 a3 a4 a5 m r m' h => ih a0 a1 a2 a3 a4 a5 m r m' h) _ _ _ _ _ _ _ _ _ h
def f_Notes_findForged (F : Nat)   (v1 : Int32) (v2 : Int32) (m : mM) : Option (Unit × mM) := f_Notes_findForged_5 F F v1 v2 (-1 : Int32) (0 : Int32) m
theorem ok_Notes_findForged (X : mX) (d F : Nat) : ∀ (v1 : Int32) (v2 : Int32)  (m : mM) (r : Unit) (m' : mM), f_Notes_findForged F v1 v2 m = some (r, m') → m_R X (d + 1) 55 0 [some (.ref 55), some (.int v1), some (.int v2), none, none, none, none] [] (SH, m) (none, (SH, m')) := by
  intro v1 v2 m r m' h
  unfold f_Notes_findForged at h
  refine m_R_sg (by decide) [(.iconst (-1), 1, 0, 1, 1, 0, 0), (.istore_n 3, 1, 0, 3, 0, 0, 0), (.iconst 0, 1, 0, 0, 0, 0, 0), (.istore 4, 2, 0, 4, 0, 0, 0)] (by decide +kernel) (show m_sgl X _ _ _ _ _ = some (5, [some (.ref 55), some (.int v1), some (.int v2), some (.int (-1 : Int32)), some (.int (0 : Int32)), none, none], [], (SH, m.1, m.2)) from rfl) ?_
  exact ok_Notes_findForged_5 X d F F _ _ _ _ _ _ _ _ _ h
def f_Notes_markIn_34 (F : Nat)    (m : mM) : Option (Unit × mM) := some ((), ((m_up m.1 55 10 ((m.1 55 10) + (1 : Int32))), m.2))
theorem ok_Notes_markIn_34 (X : mX) (d F : Nat) : ∀  (w1 : Option Value) (w2 : Option Value) (m : mM) (r : Unit) (m' : mM), f_Notes_markIn_34 F  m = some (r, m') → m_R X (d + 0) 58 34 [some (.ref 55), w1, w2] [] (SH, m) (none, (SH, m')) := by
  intro w1 w2 m r m' h
  unfold f_Notes_markIn_34 at h
  refine m_R_sg (by decide) [(.aload_n 0, 1, 0, 0, 0, 0, 0), (.dup, 1, 0, 0, 0, 0, 0), (.getfield 48, 3, 0, 3, 10, 0, 470), (.iconst 1, 1, 0, 1, 0, 0, 0), (.iadd, 1, 0, 0, 0, 0, 0), (.putfield 48, 3, 0, 3, 10, 0, 470)] (by decide +kernel) (show m_sgl X _ _ _ _ _ = some (44, [some (.ref 55), w1, w2], [], (SH, (m_up m.1 55 10 ((m.1 55 10) + (1 : Int32))), m.2)) from rfl) ?_
  obtain ⟨rfl, rfl⟩ := m_some h
  exact m_R_vret (by decide) (m_opb_of (ins := .return_) (len := 1) (tag := 3) (a := 0) (b := 0) (c := 0) (q := 0) (by decide +kernel))
def f_Notes_markIn (F : Nat)   (v1 : Int32) (m : mM) : Option (Unit × mM) := (if v1 < 0 ∨ 400 ≤ v1.toNatClampNeg then none else (if (m.1 2 v1.toNatClampNeg) < 0 ∨ 300 ≤ (m.1 2 v1.toNatClampNeg).toNatClampNeg then none else f_Notes_markIn_34 F ((m_up (m_up (m_up m.1 56 (m.1 2 v1.toNatClampNeg).toNatClampNeg (2 : Int32)) 57 (m.1 2 v1.toNatClampNeg).toNatClampNeg v1) 55 9 (((m_up (m_up m.1 56 (m.1 2 v1.toNatClampNeg).toNatClampNeg (2 : Int32)) 57 (m.1 2 v1.toNatClampNeg).toNatClampNeg v1) 55 9) - (1 : Int32))), m.2)))
theorem ok_Notes_markIn (X : mX) (d F : Nat) : ∀ (v1 : Int32)  (m : mM) (r : Unit) (m' : mM), f_Notes_markIn F v1 m = some (r, m') → m_R X (d + 0) 58 0 [some (.ref 55), some (.int v1), none] [] (SH, m) (none, (SH, m')) := by
  intro v1 m r m' h
  unfold f_Notes_markIn at h
  refine m_R_sg (by decide) [(.aload_n 0, 1, 0, 0, 0, 0, 0), (.getfield 30, 3, 0, 3, 0, 3, 449), (.getfield 70, 3, 0, 6, 0, 3, 161), (.iload_n 1, 1, 0, 1, 0, 0, 0)] (by decide +kernel) (show m_sgl X _ _ _ _ _ = some (8, [some (.ref 55), some (.int v1), none], [.int v1, .ref 2], (SH, m.1, m.2)) from rfl) ?_
  obtain ⟨c279, h⟩ := m_ite_n h
  refine m_R_1 (by decide) (m_opb_of (ins := .iaload) (len := 1) (tag := 0) (a := 0) (b := 0) (c := 0) (q := 0) (by decide +kernel)) (m_s_iald sh_2 (by decide) c279) ?_
  refine m_R_sg (by decide) [(.istore_n 2, 1, 0, 2, 0, 0, 0), (.aload_n 0, 1, 0, 0, 0, 0, 0), (.getfield 9, 3, 0, 3, 1, 3, 450), (.iload_n 2, 1, 0, 2, 0, 0, 0), (.iconst 2, 1, 0, 2, 0, 0, 0)] (by decide +kernel) (show m_sgl X _ _ _ _ _ = some (16, [some (.ref 55), some (.int v1), some (.int (m.1 2 v1.toNatClampNeg))], [.int (2 : Int32), .int (m.1 2 v1.toNatClampNeg), .ref 56], (SH, m.1, m.2)) from rfl) ?_
  obtain ⟨c280, h⟩ := m_ite_n h
  refine m_R_1 (by decide) (m_opb_of (ins := .iastore) (len := 1) (tag := 0) (a := 0) (b := 0) (c := 0) (q := 0) (by decide +kernel)) (m_s_iast sh_56 c280) ?_
  refine m_R_sg (by decide) [(.aload_n 0, 1, 0, 0, 0, 0, 0), (.getfield 15, 3, 0, 3, 2, 3, 452), (.iload_n 2, 1, 0, 2, 0, 0, 0), (.iload_n 1, 1, 0, 1, 0, 0, 0)] (by decide +kernel) (show m_sgl X _ _ _ _ _ = some (23, [some (.ref 55), some (.int v1), some (.int (m.1 2 v1.toNatClampNeg))], [.int v1, .int (m.1 2 v1.toNatClampNeg), .ref 57], (SH, (m_up m.1 56 (m.1 2 v1.toNatClampNeg).toNatClampNeg (2 : Int32)), m.2)) from rfl) ?_
  refine m_R_1 (by decide) (m_opb_of (ins := .iastore) (len := 1) (tag := 0) (a := 0) (b := 0) (c := 0) (q := 0) (by decide +kernel)) (m_s_iast sh_57 c280) ?_
  refine m_R_sg (by decide) [(.aload_n 0, 1, 0, 0, 0, 0, 0), (.dup, 1, 0, 0, 0, 0, 0), (.getfield 45, 3, 0, 3, 9, 0, 467), (.iconst 1, 1, 0, 1, 0, 0, 0), (.isub, 1, 0, 0, 0, 0, 0), (.putfield 45, 3, 0, 3, 9, 0, 467)] (by decide +kernel) (show m_sgl X _ _ _ _ _ = some (34, [some (.ref 55), some (.int v1), some (.int (m.1 2 v1.toNatClampNeg))], [], (SH, (m_up (m_up (m_up m.1 56 (m.1 2 v1.toNatClampNeg).toNatClampNeg (2 : Int32)) 57 (m.1 2 v1.toNatClampNeg).toNatClampNeg v1) 55 9 (((m_up (m_up m.1 56 (m.1 2 v1.toNatClampNeg).toNatClampNeg (2 : Int32)) 57 (m.1 2 v1.toNatClampNeg).toNatClampNeg v1) 55 9) - (1 : Int32))), m.2)) from rfl) ?_
  exact ok_Notes_markIn_34 X d F _ _ _ _ _ h
def f_Notes_pass_60 (F : Nat)  (k6 : Int32 → Int32 → Int32 → Int32 → mM → Option (Unit × mM)) (v1 : Int32) (v2 : Int32) (v4 : Int32) (v5 : Int32) (m : mM) : Option (Unit × mM) := k6 v1 v2 v4 (v5 + (1 : Int32)) m
theorem ok_Notes_pass_60 (X : mX) (d F : Nat) (k6 : Int32 → Int32 → Int32 → Int32 → mM → Option (Unit × mM)) (hk6 : ∀ (v1 : Int32) (v2 : Int32) (v4 : Int32) (v5 : Int32) (w3 : Option Value) (w6 : Option Value) (m : mM) (r : Unit) (m' : mM), k6 v1 v2 v4 v5 m = some (r, m') → m_R X (d + 1) 57 6 [some (.ref 55), some (.int v1), some (.int v2), w3, some (.int v4), some (.int v5), w6] [] (SH, m) (none, (SH, m'))) : ∀ (v1 : Int32) (v2 : Int32) (v4 : Int32) (v5 : Int32) (w3 : Option Value) (w6 : Option Value) (m : mM) (r : Unit) (m' : mM), f_Notes_pass_60 F k6 v1 v2 v4 v5 m = some (r, m') → m_R X (d + 1) 57 60 [some (.ref 55), some (.int v1), some (.int v2), w3, some (.int v4), some (.int v5), w6] [] (SH, m) (none, (SH, m')) := by
  intro v1 v2 v4 v5 w3 w6 m r m' h
  unfold f_Notes_pass_60 at h
  refine m_R_sg (by decide) [(.iinc 5 1, 3, 0, 5, 1, 0, 0), (.goto (-57), 3, 0, 6, 0, 0, 0)] (by decide +kernel) (show m_sgl X _ _ _ _ _ = some (6, [some (.ref 55), some (.int v1), some (.int v2), w3, some (.int v4), some (.int (v5 + (1 : Int32))), w6], [], (SH, m.1, m.2)) from rfl) ?_
  exact hk6 _ _ _ _ _ _ _ _ _ h
def f_Notes_pass_50 (F : Nat)  (k6 : Int32 → Int32 → Int32 → Int32 → mM → Option (Unit × mM)) (v1 : Int32) (v2 : Int32) (v4 : Int32) (v5 : Int32) (v6 : Int32) (m : mM) : Option (Unit × mM) := ((f_Notes_moveTo F v6 v2 m).bind fun q2 => f_Notes_pass_60 F k6 v1 v2 (v4 + (-1 : Int32)) v5 q2.2)
theorem ok_Notes_pass_50 (X : mX) (d F : Nat) (k6 : Int32 → Int32 → Int32 → Int32 → mM → Option (Unit × mM)) (hk6 : ∀ (v1 : Int32) (v2 : Int32) (v4 : Int32) (v5 : Int32) (w3 : Option Value) (w6 : Option Value) (m : mM) (r : Unit) (m' : mM), k6 v1 v2 v4 v5 m = some (r, m') → m_R X (d + 1) 57 6 [some (.ref 55), some (.int v1), some (.int v2), w3, some (.int v4), some (.int v5), w6] [] (SH, m) (none, (SH, m'))) : ∀ (v1 : Int32) (v2 : Int32) (v4 : Int32) (v5 : Int32) (v6 : Int32) (w3 : Option Value) (m : mM) (r : Unit) (m' : mM), f_Notes_pass_50 F k6 v1 v2 v4 v5 v6 m = some (r, m') → m_R X (d + 1) 57 50 [some (.ref 55), some (.int v1), some (.int v2), w3, some (.int v4), some (.int v5), some (.int v6)] [] (SH, m) (none, (SH, m')) := by
  intro v1 v2 v4 v5 v6 w3 m r m' h
  unfold f_Notes_pass_50 at h
  refine m_R_sg (by decide) [(.aload_n 0, 1, 0, 0, 0, 0, 0), (.iload 6, 2, 0, 6, 0, 0, 0), (.iload_n 2, 1, 0, 2, 0, 0, 0)] (by decide +kernel) (show m_sgl X _ _ _ _ _ = some (54, [some (.ref 55), some (.int v1), some (.int v2), w3, some (.int v4), some (.int v5), some (.int v6)], [.int v2, .int v6, .ref 55], (SH, m.1, m.2)) from rfl) ?_
  obtain ⟨q2, hc2, h⟩ := Option.bind_eq_some_iff.mp h
  refine m_R_cV (v := none) (h1 := (SH, q2.2)) (rest := []) (lo' := [some (.ref 55), some (.int v6), some (.int v2), none]) (ml := 4) (k0 := 55) (by decide) (Or.inl rfl) (m_opb_of (ins := .invokevirtual 63) (len := 3) (tag := 5) (a := 53) (b := 2) (c := 0) (q := 824) (by decide +kernel)) (by decide +kernel) rfl (show m_isO 53 55 (SH, _) = true from m_isO_of (by decide +kernel)) (Nat.le_of_ble_eq_true rfl) rfl rfl (ok_Notes_moveTo X (d + 0) F _ _ _ _ _ hc2) ?_
  refine m_R_sg (by decide) [(.iinc 4 (-1), 3, 0, 4, 1, 1, 0)] (by decide +kernel) (show m_sgl X _ _ _ _ _ = some (60, [some (.ref 55), some (.int v1), some (.int v2), w3, some (.int (v4 + (-1 : Int32))), some (.int v5), some (.int v6)], [], (SH, q2.2.1, q2.2.2)) from rfl) ?_
  exact ok_Notes_pass_60 X d F _ hk6 _ _ _ _ _ _ _ _ _ h
def f_Notes_pass_66 (F : Nat)    (m : mM) : Option (Unit × mM) := some ((), m)
theorem ok_Notes_pass_66 (X : mX) (d F : Nat) : ∀  (w0 : Option Value) (w1 : Option Value) (w2 : Option Value) (w3 : Option Value) (w4 : Option Value) (w5 : Option Value) (w6 : Option Value) (m : mM) (r : Unit) (m' : mM), f_Notes_pass_66 F  m = some (r, m') → m_R X (d + 1) 57 66 [w0, w1, w2, w3, w4, w5, w6] [] (SH, m) (none, (SH, m')) := by
  intro w0 w1 w2 w3 w4 w5 w6 m r m' h
  unfold f_Notes_pass_66 at h
  obtain ⟨rfl, rfl⟩ := m_some h
  exact m_R_vret (by decide) (m_opb_of (ins := .return_) (len := 1) (tag := 3) (a := 0) (b := 0) (c := 0) (q := 0) (by decide +kernel))
def f_Notes_pass_6 (F : Nat)   : Nat → Int32 → Int32 → Int32 → Int32 → mM → Option (Unit × mM)
  | 0, _, _, _, _, _ => none
  | n + 1, v1, v2, v4, v5, m => (if (m.1 55 7) ≤ v5 then f_Notes_pass_66 F m else (if v4 ≤ 0 then f_Notes_pass_66 F m else (if v5 < 0 ∨ 400 ≤ v5.toNatClampNeg then none else (if (m.1 60 v5.toNatClampNeg) < 0 ∨ 400 ≤ (m.1 60 v5.toNatClampNeg).toNatClampNeg then none else (if (m.1 58 (m.1 60 v5.toNatClampNeg).toNatClampNeg) = v1 then (if v2 = 0 then ((f_Notes_markIn F (m.1 60 v5.toNatClampNeg) m).bind fun q1 => f_Notes_pass_50 F (f_Notes_pass_6 F n) v1 v2 v4 v5 (m.1 60 v5.toNatClampNeg) q1.2) else f_Notes_pass_50 F (f_Notes_pass_6 F n) v1 v2 v4 v5 (m.1 60 v5.toNatClampNeg) m) else f_Notes_pass_60 F (f_Notes_pass_6 F n) v1 v2 v4 v5 m)))))
theorem ok_Notes_pass_6 (X : mX) (d F : Nat) : ∀ (n : Nat) (v1 : Int32) (v2 : Int32) (v4 : Int32) (v5 : Int32) (w3 : Option Value) (w6 : Option Value) (m : mM) (r : Unit) (m' : mM), f_Notes_pass_6 F n v1 v2 v4 v5 m = some (r, m') → m_R X (d + 1) 57 6 [some (.ref 55), some (.int v1), some (.int v2), w3, some (.int v4), some (.int v5), w6] [] (SH, m) (none, (SH, m')) := by
  intro n
  induction n with
  | zero => intro v1 v2 v4 v5 w3 w6 m r m' h; cases h
  | succ n ih =>
    intro v1 v2 v4 v5 w3 w6 m r m' h
    simp only [f_Notes_pass_6] at h
    refine m_R_sg (by decide) [(.iload 5, 2, 0, 5, 0, 0, 0), (.aload_n 0, 1, 0, 0, 0, 0, 0), (.getfield 38, 3, 0, 3, 7, 0, 463)] (by decide +kernel) (show m_sgl X _ _ _ _ _ = some (12, [some (.ref 55), some (.int v1), some (.int v2), w3, some (.int v4), some (.int v5), w6], [.int (m.1 55 7), .int v5], (SH, m.1, m.2)) from rfl) ?_
    rcases m_ite h with ⟨c281, h⟩ | ⟨c281, h⟩
    · refine m_R_1 (by decide) (m_opb_of (ins := .if_icmp .ge 54) (len := 3) (tag := 0) (a := 66) (b := 0) (c := 0) (q := 0) (by decide +kernel)) (if_pos c281) ?_
      exact ok_Notes_pass_66 X d F _ _ _ _ _ _ _ _ _ _ h
    · refine m_R_1 (by decide) (m_opb_of (ins := .if_icmp .ge 54) (len := 3) (tag := 0) (a := 66) (b := 0) (c := 0) (q := 0) (by decide +kernel)) (if_neg c281) ?_
      refine m_R_sg (by decide) [(.iload 4, 2, 0, 4, 0, 0, 0)] (by decide +kernel) (show m_sgl X _ _ _ _ _ = some (17, [some (.ref 55), some (.int v1), some (.int v2), w3, some (.int v4), some (.int v5), w6], [.int v4], (SH, m.1, m.2)) from rfl) ?_
      rcases m_ite h with ⟨c282, h⟩ | ⟨c282, h⟩
      · refine m_R_1 (by decide) (m_opb_of (ins := .ifCond .le 49) (len := 3) (tag := 0) (a := 66) (b := 0) (c := 0) (q := 0) (by decide +kernel)) (if_pos c282) ?_
        exact ok_Notes_pass_66 X d F _ _ _ _ _ _ _ _ _ _ h
      · refine m_R_1 (by decide) (m_opb_of (ins := .ifCond .le 49) (len := 3) (tag := 0) (a := 66) (b := 0) (c := 0) (q := 0) (by decide +kernel)) (if_neg c282) ?_
        refine m_R_sg (by decide) [(.aload_n 0, 1, 0, 0, 0, 0, 0), (.getfield 24, 3, 0, 3, 5, 3, 458), (.iload 5, 2, 0, 5, 0, 0, 0)] (by decide +kernel) (show m_sgl X _ _ _ _ _ = some (26, [some (.ref 55), some (.int v1), some (.int v2), w3, some (.int v4), some (.int v5), w6], [.int v5, .ref 60], (SH, m.1, m.2)) from rfl) ?_
        obtain ⟨c283, h⟩ := m_ite_n h
        refine m_R_1 (by decide) (m_opb_of (ins := .iaload) (len := 1) (tag := 0) (a := 0) (b := 0) (c := 0) (q := 0) (by decide +kernel)) (m_s_iald sh_60 (by decide) c283) ?_
        refine m_R_sg (by decide) [(.istore 6, 2, 0, 6, 0, 0, 0), (.aload_n 0, 1, 0, 0, 0, 0, 0), (.getfield 18, 3, 0, 3, 3, 3, 453), (.iload 6, 2, 0, 6, 0, 0, 0)] (by decide +kernel) (show m_sgl X _ _ _ _ _ = some (35, [some (.ref 55), some (.int v1), some (.int v2), w3, some (.int v4), some (.int v5), some (.int (m.1 60 v5.toNatClampNeg))], [.int (m.1 60 v5.toNatClampNeg), .ref 58], (SH, m.1, m.2)) from rfl) ?_
        obtain ⟨c284, h⟩ := m_ite_n h
        refine m_R_1 (by decide) (m_opb_of (ins := .iaload) (len := 1) (tag := 0) (a := 0) (b := 0) (c := 0) (q := 0) (by decide +kernel)) (m_s_iald sh_58 (by decide) c284) ?_
        refine m_R_sg (by decide) [(.iload_n 1, 1, 0, 1, 0, 0, 0)] (by decide +kernel) (show m_sgl X _ _ _ _ _ = some (37, [some (.ref 55), some (.int v1), some (.int v2), w3, some (.int v4), some (.int v5), some (.int (m.1 60 v5.toNatClampNeg))], [.int v1, .int (m.1 58 (m.1 60 v5.toNatClampNeg).toNatClampNeg)], (SH, m.1, m.2)) from rfl) ?_
        rcases m_ite h with ⟨c285, h⟩ | ⟨c285, h⟩
        · refine m_R_1 (by decide) (m_opb_of (ins := .if_icmp .ne 23) (len := 3) (tag := 0) (a := 60) (b := 0) (c := 0) (q := 0) (by decide +kernel)) (if_pos c285) ?_
          refine m_R_sg (by decide) [(.iload_n 2, 1, 0, 2, 0, 0, 0)] (by decide +kernel) (show m_sgl X _ _ _ _ _ = some (41, [some (.ref 55), some (.int v1), some (.int v2), w3, some (.int v4), some (.int v5), some (.int (m.1 60 v5.toNatClampNeg))], [.int v2], (SH, m.1, m.2)) from rfl) ?_
          rcases m_ite h with ⟨c286, h⟩ | ⟨c286, h⟩
          · refine m_R_1 (by decide) (m_opb_of (ins := .ifCond .ne 9) (len := 3) (tag := 0) (a := 50) (b := 0) (c := 0) (q := 0) (by decide +kernel)) (if_pos c286) ?_
            refine m_R_sg (by decide) [(.aload_n 0, 1, 0, 0, 0, 0, 0), (.iload 6, 2, 0, 6, 0, 0, 0)] (by decide +kernel) (show m_sgl X _ _ _ _ _ = some (47, [some (.ref 55), some (.int v1), some (.int v2), w3, some (.int v4), some (.int v5), some (.int (m.1 60 v5.toNatClampNeg))], [.int (m.1 60 v5.toNatClampNeg), .ref 55], (SH, m.1, m.2)) from rfl) ?_
            obtain ⟨q1, hc1, h⟩ := Option.bind_eq_some_iff.mp h
            refine m_R_cV (v := none) (h1 := (SH, q1.2)) (rest := []) (lo' := [some (.ref 55), some (.int (m.1 60 v5.toNatClampNeg)), none]) (ml := 3) (k0 := 55) (by decide) (Or.inl rfl) (m_opb_of (ins := .invokevirtual 78) (len := 3) (tag := 5) (a := 58) (b := 1) (c := 0) (q := 844) (by decide +kernel)) (by decide +kernel) rfl (show m_isO 58 55 (SH, _) = true from m_isO_of (by decide +kernel)) (Nat.le_of_ble_eq_true rfl) rfl rfl (ok_Notes_markIn X (d + 0) F _ _ _ _ hc1) ?_
            exact ok_Notes_pass_50 X d F _ (fun a0 a1 a2 a3 a4 a5 m r m' h => ih a0 a1 a2 a3 a4 a5 m r m' h) _ _ _ _ _ _ _ _ _ h
          · refine m_R_1 (by decide) (m_opb_of (ins := .ifCond .ne 9) (len := 3) (tag := 0) (a := 50) (b := 0) (c := 0) (q := 0) (by decide +kernel)) (if_neg c286) ?_
            exact ok_Notes_pass_50 X d F _ (fun a0 a1 a2 a3 a4 a5 m r m' h => ih a0 a1 a2 a3 a4 a5 m r m' h) _ _ _ _ _ _ _ _ _ h
        · refine m_R_1 (by decide) (m_opb_of (ins := .if_icmp .ne 23) (len := 3) (tag := 0) (a := 60) (b := 0) (c := 0) (q := 0) (by decide +kernel)) (if_neg c285) ?_
          exact ok_Notes_pass_60 X d F _ (fun a0 a1 a2 a3 a4 a5 m r m' h => ih a0 a1 a2 a3 a4 a5 m r m' h) _ _ _ _ _ _ _ _ _ h
def f_Notes_pass (F : Nat)   (v1 : Int32) (v2 : Int32) (v3 : Int32) (m : mM) : Option (Unit × mM) := f_Notes_pass_6 F F v1 v2 v3 (0 : Int32) m
theorem ok_Notes_pass (X : mX) (d F : Nat) : ∀ (v1 : Int32) (v2 : Int32) (v3 : Int32)  (m : mM) (r : Unit) (m' : mM), f_Notes_pass F v1 v2 v3 m = some (r, m') → m_R X (d + 1) 57 0 [some (.ref 55), some (.int v1), some (.int v2), some (.int v3), none, none, none] [] (SH, m) (none, (SH, m')) := by
  intro v1 v2 v3 m r m' h
  unfold f_Notes_pass at h
  refine m_R_sg (by decide) [(.iload_n 3, 1, 0, 3, 0, 0, 0), (.istore 4, 2, 0, 4, 0, 0, 0), (.iconst 0, 1, 0, 0, 0, 0, 0), (.istore 5, 2, 0, 5, 0, 0, 0)] (by decide +kernel) (show m_sgl X _ _ _ _ _ = some (6, [some (.ref 55), some (.int v1), some (.int v2), some (.int v3), some (.int v3), some (.int (0 : Int32)), none], [], (SH, m.1, m.2)) from rfl) ?_
  exact ok_Notes_pass_6 X d F F _ _ _ _ _ _ _ _ _ h
def f_World_transfer_110 (F : Nat)    (m : mM) : Option (Unit × mM) := some ((), m)
theorem ok_World_transfer_110 (X : mX) (d F : Nat) : ∀  (w0 : Option Value) (w1 : Option Value) (w2 : Option Value) (w3 : Option Value) (w4 : Option Value) (m : mM) (r : Unit) (m' : mM), f_World_transfer_110 F  m = some (r, m') → m_R X (d + 2) 51 110 [w0, w1, w2, w3, w4] [] (SH, m) (none, (SH, m')) := by
  intro w0 w1 w2 w3 w4 m r m' h
  unfold f_World_transfer_110 at h
  obtain ⟨rfl, rfl⟩ := m_some h
  exact m_R_vret (by decide) (m_opb_of (ins := .return_) (len := 1) (tag := 3) (a := 0) (b := 0) (c := 0) (q := 0) (by decide +kernel))
def f_World_transfer_72 (F : Nat)   (v1 : Int32) (v2 : Int32) (v3 : Int32) (v4 : Int32) (m : mM) : Option (Unit × mM) := (if v1 < 0 ∨ 16 ≤ v1.toNatClampNeg then none else (if v2 < 0 ∨ 16 ≤ v2.toNatClampNeg then none else f_World_transfer_110 F ((m_up (m_up m.1 22 v1.toNatClampNeg ((m.1 22 v1.toNatClampNeg) - (v3 - ((10 : Int32) * v4)))) 22 v2.toNatClampNeg (((m_up m.1 22 v1.toNatClampNeg ((m.1 22 v1.toNatClampNeg) - (v3 - ((10 : Int32) * v4)))) 22 v2.toNatClampNeg) + (v3 - ((10 : Int32) * v4)))), m.2)))
theorem ok_World_transfer_72 (X : mX) (d F : Nat) : ∀ (v1 : Int32) (v2 : Int32) (v3 : Int32) (v4 : Int32)  (m : mM) (r : Unit) (m' : mM), f_World_transfer_72 F v1 v2 v3 v4 m = some (r, m') → m_R X (d + 2) 51 72 [some (.ref 16), some (.int v1), some (.int v2), some (.int v3), some (.int v4)] [] (SH, m) (none, (SH, m')) := by
  intro v1 v2 v3 v4 m r m' h
  unfold f_World_transfer_72 at h
  refine m_R_sg (by decide) [(.aload_n 0, 1, 0, 0, 0, 0, 0), (.getfield 21, 3, 0, 10, 1, 3, 505), (.getfield 107, 3, 0, 1, 2, 3, 255), (.iload_n 1, 1, 0, 1, 0, 0, 0), (.dup2, 1, 0, 0, 0, 0, 0)] (by decide +kernel) (show m_sgl X _ _ _ _ _ = some (81, [some (.ref 16), some (.int v1), some (.int v2), some (.int v3), some (.int v4)], [.int v1, .ref 22, .int v1, .ref 22], (SH, m.1, m.2)) from rfl) ?_
  obtain ⟨c287, h⟩ := m_ite_n h
  refine m_R_1 (by decide) (m_opb_of (ins := .iaload) (len := 1) (tag := 0) (a := 0) (b := 0) (c := 0) (q := 0) (by decide +kernel)) (m_s_iald sh_22 (by decide) c287) ?_
  refine m_R_sg (by decide) [(.iload_n 3, 1, 0, 3, 0, 0, 0), (.bipush 10, 2, 0, 10, 0, 0, 0), (.iload 4, 2, 0, 4, 0, 0, 0), (.imul, 1, 0, 0, 0, 0, 0), (.isub, 1, 0, 0, 0, 0, 0), (.isub, 1, 0, 0, 0, 0, 0)] (by decide +kernel) (show m_sgl X _ _ _ _ _ = some (90, [some (.ref 16), some (.int v1), some (.int v2), some (.int v3), some (.int v4)], [.int ((m.1 22 v1.toNatClampNeg) - (v3 - ((10 : Int32) * v4))), .int v1, .ref 22], (SH, m.1, m.2)) from rfl) ?_
  refine m_R_1 (by decide) (m_opb_of (ins := .iastore) (len := 1) (tag := 0) (a := 0) (b := 0) (c := 0) (q := 0) (by decide +kernel)) (m_s_iast sh_22 c287) ?_
  refine m_R_sg (by decide) [(.aload_n 0, 1, 0, 0, 0, 0, 0), (.getfield 21, 3, 0, 10, 1, 3, 505), (.getfield 107, 3, 0, 1, 2, 3, 255), (.iload_n 2, 1, 0, 2, 0, 0, 0), (.dup2, 1, 0, 0, 0, 0, 0)] (by decide +kernel) (show m_sgl X _ _ _ _ _ = some (100, [some (.ref 16), some (.int v1), some (.int v2), some (.int v3), some (.int v4)], [.int v2, .ref 22, .int v2, .ref 22], (SH, (m_up m.1 22 v1.toNatClampNeg ((m.1 22 v1.toNatClampNeg) - (v3 - ((10 : Int32) * v4)))), m.2)) from rfl) ?_
  obtain ⟨c288, h⟩ := m_ite_n h
  refine m_R_1 (by decide) (m_opb_of (ins := .iaload) (len := 1) (tag := 0) (a := 0) (b := 0) (c := 0) (q := 0) (by decide +kernel)) (m_s_iald sh_22 (by decide) c288) ?_
  refine m_R_sg (by decide) [(.iload_n 3, 1, 0, 3, 0, 0, 0), (.bipush 10, 2, 0, 10, 0, 0, 0), (.iload 4, 2, 0, 4, 0, 0, 0), (.imul, 1, 0, 0, 0, 0, 0), (.isub, 1, 0, 0, 0, 0, 0), (.iadd, 1, 0, 0, 0, 0, 0)] (by decide +kernel) (show m_sgl X _ _ _ _ _ = some (109, [some (.ref 16), some (.int v1), some (.int v2), some (.int v3), some (.int v4)], [.int (((m_up m.1 22 v1.toNatClampNeg ((m.1 22 v1.toNatClampNeg) - (v3 - ((10 : Int32) * v4)))) 22 v2.toNatClampNeg) + (v3 - ((10 : Int32) * v4))), .int v2, .ref 22], (SH, (m_up m.1 22 v1.toNatClampNeg ((m.1 22 v1.toNatClampNeg) - (v3 - ((10 : Int32) * v4)))), m.2)) from rfl) ?_
  refine m_R_1 (by decide) (m_opb_of (ins := .iastore) (len := 1) (tag := 0) (a := 0) (b := 0) (c := 0) (q := 0) (by decide +kernel)) (m_s_iast sh_22 c288) ?_
  exact ok_World_transfer_110 X d F _ _ _ _ _ _ _ _ h
def f_World_transfer_45 (F : Nat)   (v1 : Int32) (v2 : Int32) (v3 : Int32) (v4 : Int32) (m : mM) : Option (Unit × mM) := (if v1 < 0 ∨ 16 ≤ v1.toNatClampNeg then none else ((f_Math_min_II F v4 (m.1 61 v1.toNatClampNeg) m).bind fun q3 => ((f_Notes_pass F v1 v2 q3.1 q3.2).bind fun q4 => f_World_transfer_72 F v1 v2 v3 q3.1 q4.2)))
theorem ok_World_transfer_45 (X : mX) (d F : Nat) : ∀ (v1 : Int32) (v2 : Int32) (v3 : Int32) (v4 : Int32)  (m : mM) (r : Unit) (m' : mM), f_World_transfer_45 F v1 v2 v3 v4 m = some (r, m') → m_R X (d + 2) 51 45 [some (.ref 16), some (.int v1), some (.int v2), some (.int v3), some (.int v4)] [] (SH, m) (none, (SH, m')) := by
  intro v1 v2 v3 v4 m r m' h
  unfold f_World_transfer_45 at h
  refine m_R_sg (by decide) [(.iload 4, 2, 0, 4, 0, 0, 0), (.aload_n 0, 1, 0, 0, 0, 0, 0), (.getfield 72, 3, 0, 10, 8, 3, 518), (.getfield 110, 3, 0, 3, 6, 3, 461), (.iload_n 1, 1, 0, 1, 0, 0, 0)] (by decide +kernel) (show m_sgl X _ _ _ _ _ = some (55, [some (.ref 16), some (.int v1), some (.int v2), some (.int v3), some (.int v4)], [.int v1, .ref 61, .int v4], (SH, m.1, m.2)) from rfl) ?_
  obtain ⟨c289, h⟩ := m_ite_n h
  refine m_R_1 (by decide) (m_opb_of (ins := .iaload) (len := 1) (tag := 0) (a := 0) (b := 0) (c := 0) (q := 0) (by decide +kernel)) (m_s_iald sh_61 (by decide) c289) ?_
  obtain ⟨q3, hc3, h⟩ := Option.bind_eq_some_iff.mp h
  refine m_R_cS (v := (some (.int q3.1))) (h1 := (SH, q3.2)) (rest := []) (lo' := [some (.int v4), some (.int (m.1 61 v1.toNatClampNeg))]) (ml := 2) (by decide) (m_opb_of (ins := .invokestatic 175) (len := 3) (tag := 4) (a := 50) (b := 2) (c := 0) (q := 813) (by decide +kernel)) (by decide +kernel) (Nat.le_of_ble_eq_true rfl) rfl (Nat.le_of_ble_eq_true rfl) rfl rfl (ok_Math_min_II X (d + 1) F _ _ _ _ _ hc3) ?_
  refine m_R_sg (by decide) [(.istore 4, 2, 0, 4, 0, 0, 0), (.aload_n 0, 1, 0, 0, 0, 0, 0), (.getfield 72, 3, 0, 10, 8, 3, 518), (.iload_n 1, 1, 0, 1, 0, 0, 0), (.iload_n 2, 1, 0, 2, 0, 0, 0), (.iload 4, 2, 0, 4, 0, 0, 0)] (by decide +kernel) (show m_sgl X _ _ _ _ _ = some (69, [some (.ref 16), some (.int v1), some (.int v2), some (.int v3), some (.int q3.1)], [.int q3.1, .int v2, .int v1, .ref 55], (SH, q3.2.1, q3.2.2)) from rfl) ?_
  obtain ⟨q4, hc4, h⟩ := Option.bind_eq_some_iff.mp h
  refine m_R_cV (v := none) (h1 := (SH, q4.2)) (rest := []) (lo' := [some (.ref 55), some (.int v1), some (.int v2), some (.int q3.1), none, none, none]) (ml := 7) (k0 := 55) (by decide) (Or.inl rfl) (m_opb_of (ins := .invokevirtual 193) (len := 3) (tag := 5) (a := 57) (b := 3) (c := 0) (q := 840) (by decide +kernel)) (by decide +kernel) rfl (show m_isO 57 55 (SH, _) = true from m_isO_of (by decide +kernel)) (Nat.le_of_ble_eq_true rfl) rfl rfl (ok_Notes_pass X (d + 0) F _ _ _ _ _ _ hc4) ?_
  exact ok_World_transfer_72 X d F _ _ _ _ _ _ _ h
def f_World_transfer (F : Nat)   (v1 : Int32) (v2 : Int32) (v3 : Int32) (m : mM) : Option (Unit × mM) := (if v1 = v2 then some ((), m) else (if v1 = 0 then ((f_Notes_issue F v2 (v3 / (10 : Int32)) m).bind fun q1 => f_World_transfer_72 F v1 v2 v3 (v3 / (10 : Int32)) q1.2) else (if v2 = 0 then ((f_Notes_findForged F v1 (m.1 16 9) m).bind fun q2 => f_World_transfer_45 F v1 v2 v3 (v3 / (10 : Int32)) q2.2) else f_World_transfer_45 F v1 v2 v3 (v3 / (10 : Int32)) m)))
theorem ok_World_transfer (X : mX) (d F : Nat) : ∀ (v1 : Int32) (v2 : Int32) (v3 : Int32)  (m : mM) (r : Unit) (m' : mM), f_World_transfer F v1 v2 v3 m = some (r, m') → m_R X (d + 2) 51 0 [some (.ref 16), some (.int v1), some (.int v2), some (.int v3), none] [] (SH, m) (none, (SH, m')) := by
  intro v1 v2 v3 m r m' h
  unfold f_World_transfer at h
  refine m_R_sg (by decide) [(.iload_n 1, 1, 0, 1, 0, 0, 0), (.iload_n 2, 1, 0, 2, 0, 0, 0)] (by decide +kernel) (show m_sgl X _ _ _ _ _ = some (2, [some (.ref 16), some (.int v1), some (.int v2), some (.int v3), none], [.int v2, .int v1], (SH, m.1, m.2)) from rfl) ?_
  rcases m_ite h with ⟨c290, h⟩ | ⟨c290, h⟩
  · refine m_R_1 (by decide) (m_opb_of (ins := .if_icmp .ne 4) (len := 3) (tag := 0) (a := 6) (b := 0) (c := 0) (q := 0) (by decide +kernel)) (if_pos c290) ?_
    obtain ⟨rfl, rfl⟩ := m_some h
    exact m_R_vret (by decide) (m_opb_of (ins := .return_) (len := 1) (tag := 3) (a := 0) (b := 0) (c := 0) (q := 0) (by decide +kernel))
  · refine m_R_1 (by decide) (m_opb_of (ins := .if_icmp .ne 4) (len := 3) (tag := 0) (a := 6) (b := 0) (c := 0) (q := 0) (by decide +kernel)) (if_neg c290) ?_
    refine m_R_sg (by decide) [(.iload_n 3, 1, 0, 3, 0, 0, 0), (.bipush 10, 2, 0, 10, 0, 0, 0)] (by decide +kernel) (show m_sgl X _ _ _ _ _ = some (9, [some (.ref 16), some (.int v1), some (.int v2), some (.int v3), none], [.int (10 : Int32), .int v3], (SH, m.1, m.2)) from rfl) ?_
    refine m_R_1 (by decide) (m_opb_of (ins := .idiv) (len := 1) (tag := 0) (a := 0) (b := 0) (c := 0) (q := 0) (by decide +kernel)) (m_s_idiv (by decide)) ?_
    refine m_R_sg (by decide) [(.istore 4, 2, 0, 4, 0, 0, 0), (.iload_n 1, 1, 0, 1, 0, 0, 0)] (by decide +kernel) (show m_sgl X _ _ _ _ _ = some (13, [some (.ref 16), some (.int v1), some (.int v2), some (.int v3), some (.int (v3 / (10 : Int32)))], [.int v1], (SH, m.1, m.2)) from rfl) ?_
    rcases m_ite h with ⟨c291, h⟩ | ⟨c291, h⟩
    · refine m_R_1 (by decide) (m_opb_of (ins := .ifCond .ne 16) (len := 3) (tag := 0) (a := 29) (b := 0) (c := 0) (q := 0) (by decide +kernel)) (if_pos c291) ?_
      refine m_R_sg (by decide) [(.aload_n 0, 1, 0, 0, 0, 0, 0), (.getfield 72, 3, 0, 10, 8, 3, 518), (.iload_n 2, 1, 0, 2, 0, 0, 0), (.iload 4, 2, 0, 4, 0, 0, 0)] (by decide +kernel) (show m_sgl X _ _ _ _ _ = some (23, [some (.ref 16), some (.int v1), some (.int v2), some (.int v3), some (.int (v3 / (10 : Int32)))], [.int (v3 / (10 : Int32)), .int v2, .ref 55], (SH, m.1, m.2)) from rfl) ?_
      obtain ⟨q1, hc1, h⟩ := Option.bind_eq_some_iff.mp h
      refine m_R_cV (v := none) (h1 := (SH, q1.2)) (rest := []) (lo' := [some (.ref 55), some (.int v2), some (.int (v3 / (10 : Int32))), none, none, none]) (ml := 6) (k0 := 55) (by decide) (Or.inl rfl) (m_opb_of (ins := .invokevirtual 186) (len := 3) (tag := 5) (a := 52) (b := 2) (c := 0) (q := 820) (by decide +kernel)) (by decide +kernel) rfl (show m_isO 52 55 (SH, _) = true from m_isO_of (by decide +kernel)) (Nat.le_of_ble_eq_true rfl) rfl rfl (ok_Notes_issue X (d + 0) F _ _ _ _ _ hc1) ?_
      refine m_R_sg (by decide) [(.goto 46, 3, 0, 72, 0, 0, 0)] (by decide +kernel) (show m_sgl X _ _ _ _ _ = some (72, [some (.ref 16), some (.int v1), some (.int v2), some (.int v3), some (.int (v3 / (10 : Int32)))], [], (SH, q1.2.1, q1.2.2)) from rfl) ?_
      exact ok_World_transfer_72 X d F _ _ _ _ _ _ _ h
    · refine m_R_1 (by decide) (m_opb_of (ins := .ifCond .ne 16) (len := 3) (tag := 0) (a := 29) (b := 0) (c := 0) (q := 0) (by decide +kernel)) (if_neg c291) ?_
      refine m_R_sg (by decide) [(.iload_n 2, 1, 0, 2, 0, 0, 0)] (by decide +kernel) (show m_sgl X _ _ _ _ _ = some (30, [some (.ref 16), some (.int v1), some (.int v2), some (.int v3), some (.int (v3 / (10 : Int32)))], [.int v2], (SH, m.1, m.2)) from rfl) ?_
      rcases m_ite h with ⟨c292, h⟩ | ⟨c292, h⟩
      · refine m_R_1 (by decide) (m_opb_of (ins := .ifCond .ne 15) (len := 3) (tag := 0) (a := 45) (b := 0) (c := 0) (q := 0) (by decide +kernel)) (if_pos c292) ?_
        refine m_R_sg (by decide) [(.aload_n 0, 1, 0, 0, 0, 0, 0), (.getfield 72, 3, 0, 10, 8, 3, 518), (.iload_n 1, 1, 0, 1, 0, 0, 0), (.aload_n 0, 1, 0, 0, 0, 0, 0), (.getfield 95, 3, 0, 10, 9, 0, 520)] (by decide +kernel) (show m_sgl X _ _ _ _ _ = some (42, [some (.ref 16), some (.int v1), some (.int v2), some (.int v3), some (.int (v3 / (10 : Int32)))], [.int (m.1 16 9), .int v1, .ref 55], (SH, m.1, m.2)) from rfl) ?_
        obtain ⟨q2, hc2, h⟩ := Option.bind_eq_some_iff.mp h
        refine m_R_cV (v := none) (h1 := (SH, q2.2)) (rest := []) (lo' := [some (.ref 55), some (.int v1), some (.int (m.1 16 9)), none, none, none, none]) (ml := 7) (k0 := 55) (by decide) (Or.inl rfl) (m_opb_of (ins := .invokevirtual 190) (len := 3) (tag := 5) (a := 55) (b := 2) (c := 0) (q := 832) (by decide +kernel)) (by decide +kernel) rfl (show m_isO 55 55 (SH, _) = true from m_isO_of (by decide +kernel)) (Nat.le_of_ble_eq_true rfl) rfl rfl (ok_Notes_findForged X (d + 0) F _ _ _ _ _ hc2) ?_
        exact ok_World_transfer_45 X d F _ _ _ _ _ _ _ h
      · refine m_R_1 (by decide) (m_opb_of (ins := .ifCond .ne 15) (len := 3) (tag := 0) (a := 45) (b := 0) (c := 0) (q := 0) (by decide +kernel)) (if_neg c292) ?_
        exact ok_World_transfer_45 X d F _ _ _ _ _ _ _ h
def f_x_give_27 (F : Nat)    (m : mM) : Option (Int32 × mM) := ((f_x_refuse F (-3 : Int32) m).bind fun q8 => some (q8.1, q8.2))
theorem ok_x_give_27 (X : mX) (d F : Nat) : ∀  (w1 : Option Value) (w2 : Option Value) (w3 : Option Value) (w4 : Option Value) (m : mM) (r : Int32) (m' : mM), f_x_give_27 F  m = some (r, m') → m_R X (d + 5) 33 27 [some (.ref 0), w1, w2, w3, w4] [] (SH, m) (some (.int r), (SH, m')) := by
  intro w1 w2 w3 w4 m r m' h
  unfold f_x_give_27 at h
  refine m_R_sg (by decide) [(.aload_n 0, 1, 0, 0, 0, 0, 0), (.bipush (-3), 2, 0, 3, 1, 0, 0)] (by decide +kernel) (show m_sgl X _ _ _ _ _ = some (30, [some (.ref 0), w1, w2, w3, w4], [.int (-3 : Int32), .ref 0], (SH, m.1, m.2)) from rfl) ?_
  obtain ⟨q8, hc8, h⟩ := Option.bind_eq_some_iff.mp h
  refine m_R_cV (v := (some (.int q8.1))) (h1 := (SH, q8.2)) (rest := []) (lo' := [some (.ref 0), some (.int (-3 : Int32))]) (ml := 2) (k0 := 0) (by decide) (Or.inl rfl) (m_opb_of (ins := .invokevirtual 76) (len := 3) (tag := 5) (a := 14) (b := 1) (c := 0) (q := 671) (by decide +kernel)) (by decide +kernel) rfl (show m_isO 14 0 (SH, _) = true from m_isO_of (by decide +kernel)) (Nat.le_of_ble_eq_true rfl) rfl rfl (ok_x_refuse X (d + 4) F _ _ _ _ hc8) ?_
  obtain ⟨rfl, rfl⟩ := m_some h
  exact m_R_iret (by decide) (m_opb_of (ins := .ireturn) (len := 1) (tag := 1) (a := 0) (b := 0) (c := 0) (q := 0) (by decide +kernel)) (Or.inl rfl)
def f_x_give_77 (F : Nat)    (m : mM) : Option (Int32 × mM) := ((f_x_refuse F (-7 : Int32) m).bind fun q9 => some (q9.1, q9.2))
theorem ok_x_give_77 (X : mX) (d F : Nat) : ∀  (w1 : Option Value) (w2 : Option Value) (w3 : Option Value) (w4 : Option Value) (m : mM) (r : Int32) (m' : mM), f_x_give_77 F  m = some (r, m') → m_R X (d + 5) 33 77 [some (.ref 0), w1, w2, w3, w4] [] (SH, m) (some (.int r), (SH, m')) := by
  intro w1 w2 w3 w4 m r m' h
  unfold f_x_give_77 at h
  refine m_R_sg (by decide) [(.aload_n 0, 1, 0, 0, 0, 0, 0), (.bipush (-7), 2, 0, 7, 1, 0, 0)] (by decide +kernel) (show m_sgl X _ _ _ _ _ = some (80, [some (.ref 0), w1, w2, w3, w4], [.int (-7 : Int32), .ref 0], (SH, m.1, m.2)) from rfl) ?_
  obtain ⟨q9, hc9, h⟩ := Option.bind_eq_some_iff.mp h
  refine m_R_cV (v := (some (.int q9.1))) (h1 := (SH, q9.2)) (rest := []) (lo' := [some (.ref 0), some (.int (-7 : Int32))]) (ml := 2) (k0 := 0) (by decide) (Or.inl rfl) (m_opb_of (ins := .invokevirtual 76) (len := 3) (tag := 5) (a := 14) (b := 1) (c := 0) (q := 671) (by decide +kernel)) (by decide +kernel) rfl (show m_isO 14 0 (SH, _) = true from m_isO_of (by decide +kernel)) (Nat.le_of_ble_eq_true rfl) rfl rfl (ok_x_refuse X (d + 4) F _ _ _ _ hc9) ?_
  obtain ⟨rfl, rfl⟩ := m_some h
  exact m_R_iret (by decide) (m_opb_of (ins := .ireturn) (len := 1) (tag := 1) (a := 0) (b := 0) (c := 0) (q := 0) (by decide +kernel)) (Or.inl rfl)
def f_x_give (F : Nat)   (v1 : Int32) (v2 : Int32) (v3 : Int32) (m : mM) : Option (Int32 × mM) := ((f_Houses_isHouse F v1 m).bind fun q1 => (if q1.1 = 0 then f_x_give_27 F q1.2 else ((f_Houses_isHouse F v2 q1.2).bind fun q2 => (if q2.1 = 0 then f_x_give_27 F q2.2 else ((f_x_isSum F v3 q2.2).bind fun q3 => (if q3.1 = 0 then f_x_give_77 F q3.2 else (if v1 = v2 then f_x_give_77 F q3.2 else ((f_Houses_isUp F v1 q3.2).bind fun q4 => (if q4.1 = 0 then f_x_give_77 F q4.2 else ((f_Houses_isUp F v2 q4.2).bind fun q5 => (if q5.1 = 0 then f_x_give_77 F q5.2 else ((f_World_canGive F v1 v2 v3 q5.2).bind fun q6 => (if q6.1 = 0 then f_x_give_77 F q6.2 else ((f_World_transfer F v1 v2 v3 q6.2).bind fun q7 => (if v1 < 0 ∨ 16 ≤ v1.toNatClampNeg then none else some ((q7.2.1 22 v1.toNatClampNeg), q7.2))))))))))))))))
theorem ok_x_give (X : mX) (d F : Nat) : ∀ (v1 : Int32) (v2 : Int32) (v3 : Int32)  (m : mM) (r : Int32) (m' : mM), f_x_give F v1 v2 v3 m = some (r, m') → m_R X (d + 5) 33 0 [some (.ref 0), some (.int v1), some (.int v2), some (.int v3), none] [] (SH, m) (some (.int r), (SH, m')) := by
  intro v1 v2 v3 m r m' h
  unfold f_x_give at h
  refine m_R_sg (by decide) [(.aload_n 0, 1, 0, 0, 0, 0, 0), (.getfield 28, 3, 0, 11, 2, 3, 632), (.getfield 95, 3, 0, 10, 1, 3, 507), (.astore 4, 2, 0, 4, 0, 0, 0), (.aload 4, 2, 0, 4, 0, 0, 0), (.iload_n 1, 1, 0, 1, 0, 0, 0)] (by decide +kernel) (show m_sgl X _ _ _ _ _ = some (12, [some (.ref 0), some (.int v1), some (.int v2), some (.int v3), some (.ref 19)], [.int v1, .ref 19], (SH, m.1, m.2)) from rfl) ?_
  obtain ⟨q1, hc1, h⟩ := Option.bind_eq_some_iff.mp h
  refine m_R_cV (v := (some (.int q1.1))) (h1 := (SH, q1.2)) (rest := []) (lo' := [some (.ref 19), some (.int v1)]) (ml := 2) (k0 := 19) (by decide) (Or.inl rfl) (m_opb_of (ins := .invokevirtual 107) (len := 3) (tag := 5) (a := 24) (b := 1) (c := 0) (q := 712) (by decide +kernel)) (by decide +kernel) rfl (show m_isO 24 19 (SH, _) = true from m_isO_of (by decide +kernel)) (Nat.le_of_ble_eq_true rfl) rfl rfl (ok_Houses_isHouse X (d + 4) F _ _ _ _ hc1) ?_
  rcases m_ite h with ⟨c293, h⟩ | ⟨c293, h⟩
  · refine m_R_1 (by decide) (m_opb_of (ins := .ifCond .eq 12) (len := 3) (tag := 0) (a := 27) (b := 0) (c := 0) (q := 0) (by decide +kernel)) (if_pos c293) ?_
    exact ok_x_give_27 X d F _ _ _ _ _ _ _ h
  · refine m_R_1 (by decide) (m_opb_of (ins := .ifCond .eq 12) (len := 3) (tag := 0) (a := 27) (b := 0) (c := 0) (q := 0) (by decide +kernel)) (if_neg c293) ?_
    refine m_R_sg (by decide) [(.aload 4, 2, 0, 4, 0, 0, 0), (.iload_n 2, 1, 0, 2, 0, 0, 0)] (by decide +kernel) (show m_sgl X _ _ _ _ _ = some (21, [some (.ref 0), some (.int v1), some (.int v2), some (.int v3), some (.ref 19)], [.int v2, .ref 19], (SH, q1.2.1, q1.2.2)) from rfl) ?_
    obtain ⟨q2, hc2, h⟩ := Option.bind_eq_some_iff.mp h
    refine m_R_cV (v := (some (.int q2.1))) (h1 := (SH, q2.2)) (rest := []) (lo' := [some (.ref 19), some (.int v2)]) (ml := 2) (k0 := 19) (by decide) (Or.inl rfl) (m_opb_of (ins := .invokevirtual 107) (len := 3) (tag := 5) (a := 24) (b := 1) (c := 0) (q := 712) (by decide +kernel)) (by decide +kernel) rfl (show m_isO 24 19 (SH, _) = true from m_isO_of (by decide +kernel)) (Nat.le_of_ble_eq_true rfl) rfl rfl (ok_Houses_isHouse X (d + 4) F _ _ _ _ hc2) ?_
    rcases m_ite h with ⟨c294, h⟩ | ⟨c294, h⟩
    · refine m_R_1 (by decide) (m_opb_of (ins := .ifCond .ne 10) (len := 3) (tag := 0) (a := 34) (b := 0) (c := 0) (q := 0) (by decide +kernel)) (if_pos c294) ?_
      exact ok_x_give_27 X d F _ _ _ _ _ _ _ h
    · refine m_R_1 (by decide) (m_opb_of (ins := .ifCond .ne 10) (len := 3) (tag := 0) (a := 34) (b := 0) (c := 0) (q := 0) (by decide +kernel)) (if_neg c294) ?_
      refine m_R_sg (by decide) [(.iload_n 3, 1, 0, 3, 0, 0, 0)] (by decide +kernel) (show m_sgl X _ _ _ _ _ = some (35, [some (.ref 0), some (.int v1), some (.int v2), some (.int v3), some (.ref 19)], [.int v3], (SH, q2.2.1, q2.2.2)) from rfl) ?_
      obtain ⟨q3, hc3, h⟩ := Option.bind_eq_some_iff.mp h
      refine m_R_cS (v := (some (.int q3.1))) (h1 := (SH, q3.2)) (rest := []) (lo' := [some (.int v3)]) (ml := 1) (by decide) (m_opb_of (ins := .invokestatic 170) (len := 3) (tag := 4) (a := 34) (b := 1) (c := 0) (q := 753) (by decide +kernel)) (by decide +kernel) (Nat.le_of_ble_eq_true rfl) rfl (Nat.le_of_ble_eq_true rfl) rfl rfl (ok_x_isSum X (d + 4) F _ _ _ _ hc3) ?_
      rcases m_ite h with ⟨c295, h⟩ | ⟨c295, h⟩
      · refine m_R_1 (by decide) (m_opb_of (ins := .ifCond .eq 39) (len := 3) (tag := 0) (a := 77) (b := 0) (c := 0) (q := 0) (by decide +kernel)) (if_pos c295) ?_
        exact ok_x_give_77 X d F _ _ _ _ _ _ _ h
      · refine m_R_1 (by decide) (m_opb_of (ins := .ifCond .eq 39) (len := 3) (tag := 0) (a := 77) (b := 0) (c := 0) (q := 0) (by decide +kernel)) (if_neg c295) ?_
        refine m_R_sg (by decide) [(.iload_n 1, 1, 0, 1, 0, 0, 0), (.iload_n 2, 1, 0, 2, 0, 0, 0)] (by decide +kernel) (show m_sgl X _ _ _ _ _ = some (43, [some (.ref 0), some (.int v1), some (.int v2), some (.int v3), some (.ref 19)], [.int v2, .int v1], (SH, q3.2.1, q3.2.2)) from rfl) ?_
        rcases m_ite h with ⟨c296, h⟩ | ⟨c296, h⟩
        · refine m_R_1 (by decide) (m_opb_of (ins := .if_icmp .eq 34) (len := 3) (tag := 0) (a := 77) (b := 0) (c := 0) (q := 0) (by decide +kernel)) (if_pos c296) ?_
          exact ok_x_give_77 X d F _ _ _ _ _ _ _ h
        · refine m_R_1 (by decide) (m_opb_of (ins := .if_icmp .eq 34) (len := 3) (tag := 0) (a := 77) (b := 0) (c := 0) (q := 0) (by decide +kernel)) (if_neg c296) ?_
          refine m_R_sg (by decide) [(.aload 4, 2, 0, 4, 0, 0, 0), (.iload_n 1, 1, 0, 1, 0, 0, 0)] (by decide +kernel) (show m_sgl X _ _ _ _ _ = some (49, [some (.ref 0), some (.int v1), some (.int v2), some (.int v3), some (.ref 19)], [.int v1, .ref 19], (SH, q3.2.1, q3.2.2)) from rfl) ?_
          obtain ⟨q4, hc4, h⟩ := Option.bind_eq_some_iff.mp h
          refine m_R_cV (v := (some (.int q4.1))) (h1 := (SH, q4.2)) (rest := []) (lo' := [some (.ref 19), some (.int v1)]) (ml := 2) (k0 := 19) (by decide) (Or.inl rfl) (m_opb_of (ins := .invokevirtual 110) (len := 3) (tag := 5) (a := 25) (b := 1) (c := 0) (q := 716) (by decide +kernel)) (by decide +kernel) rfl (show m_isO 25 19 (SH, _) = true from m_isO_of (by decide +kernel)) (Nat.le_of_ble_eq_true rfl) rfl rfl (ok_Houses_isUp X (d + 3) F _ _ _ _ hc4) ?_
          rcases m_ite h with ⟨c297, h⟩ | ⟨c297, h⟩
          · refine m_R_1 (by decide) (m_opb_of (ins := .ifCond .eq 25) (len := 3) (tag := 0) (a := 77) (b := 0) (c := 0) (q := 0) (by decide +kernel)) (if_pos c297) ?_
            exact ok_x_give_77 X d F _ _ _ _ _ _ _ h
          · refine m_R_1 (by decide) (m_opb_of (ins := .ifCond .eq 25) (len := 3) (tag := 0) (a := 77) (b := 0) (c := 0) (q := 0) (by decide +kernel)) (if_neg c297) ?_
            refine m_R_sg (by decide) [(.aload 4, 2, 0, 4, 0, 0, 0), (.iload_n 2, 1, 0, 2, 0, 0, 0)] (by decide +kernel) (show m_sgl X _ _ _ _ _ = some (58, [some (.ref 0), some (.int v1), some (.int v2), some (.int v3), some (.ref 19)], [.int v2, .ref 19], (SH, q4.2.1, q4.2.2)) from rfl) ?_
            obtain ⟨q5, hc5, h⟩ := Option.bind_eq_some_iff.mp h
            refine m_R_cV (v := (some (.int q5.1))) (h1 := (SH, q5.2)) (rest := []) (lo' := [some (.ref 19), some (.int v2)]) (ml := 2) (k0 := 19) (by decide) (Or.inl rfl) (m_opb_of (ins := .invokevirtual 110) (len := 3) (tag := 5) (a := 25) (b := 1) (c := 0) (q := 716) (by decide +kernel)) (by decide +kernel) rfl (show m_isO 25 19 (SH, _) = true from m_isO_of (by decide +kernel)) (Nat.le_of_ble_eq_true rfl) rfl rfl (ok_Houses_isUp X (d + 3) F _ _ _ _ hc5) ?_
            rcases m_ite h with ⟨c298, h⟩ | ⟨c298, h⟩
            · refine m_R_1 (by decide) (m_opb_of (ins := .ifCond .eq 16) (len := 3) (tag := 0) (a := 77) (b := 0) (c := 0) (q := 0) (by decide +kernel)) (if_pos c298) ?_
              exact ok_x_give_77 X d F _ _ _ _ _ _ _ h
            · refine m_R_1 (by decide) (m_opb_of (ins := .ifCond .eq 16) (len := 3) (tag := 0) (a := 77) (b := 0) (c := 0) (q := 0) (by decide +kernel)) (if_neg c298) ?_
              refine m_R_sg (by decide) [(.aload_n 0, 1, 0, 0, 0, 0, 0), (.getfield 28, 3, 0, 11, 2, 3, 632), (.iload_n 1, 1, 0, 1, 0, 0, 0), (.iload_n 2, 1, 0, 2, 0, 0, 0), (.iload_n 3, 1, 0, 3, 0, 0, 0)] (by decide +kernel) (show m_sgl X _ _ _ _ _ = some (71, [some (.ref 0), some (.int v1), some (.int v2), some (.int v3), some (.ref 19)], [.int v3, .int v2, .int v1, .ref 16], (SH, q5.2.1, q5.2.2)) from rfl) ?_
              obtain ⟨q6, hc6, h⟩ := Option.bind_eq_some_iff.mp h
              refine m_R_cV (v := (some (.int q6.1))) (h1 := (SH, q6.2)) (rest := []) (lo' := [some (.ref 16), some (.int v1), some (.int v2), some (.int v3)]) (ml := 4) (k0 := 16) (by decide) (Or.inl rfl) (m_opb_of (ins := .invokevirtual 173) (len := 3) (tag := 5) (a := 35) (b := 3) (c := 0) (q := 756) (by decide +kernel)) (by decide +kernel) rfl (show m_isO 35 16 (SH, _) = true from m_isO_of (by decide +kernel)) (Nat.le_of_ble_eq_true rfl) rfl rfl (ok_World_canGive X (d + 0) F _ _ _ _ _ _ hc6) ?_
              rcases m_ite h with ⟨c299, h⟩ | ⟨c299, h⟩
              · refine m_R_1 (by decide) (m_opb_of (ins := .ifCond .ne 10) (len := 3) (tag := 0) (a := 84) (b := 0) (c := 0) (q := 0) (by decide +kernel)) (if_pos c299) ?_
                exact ok_x_give_77 X d F _ _ _ _ _ _ _ h
              · refine m_R_1 (by decide) (m_opb_of (ins := .ifCond .ne 10) (len := 3) (tag := 0) (a := 84) (b := 0) (c := 0) (q := 0) (by decide +kernel)) (if_neg c299) ?_
                refine m_R_sg (by decide) [(.aload_n 0, 1, 0, 0, 0, 0, 0), (.getfield 28, 3, 0, 11, 2, 3, 632), (.iload_n 1, 1, 0, 1, 0, 0, 0), (.iload_n 2, 1, 0, 2, 0, 0, 0), (.iload_n 3, 1, 0, 3, 0, 0, 0)] (by decide +kernel) (show m_sgl X _ _ _ _ _ = some (91, [some (.ref 0), some (.int v1), some (.int v2), some (.int v3), some (.ref 19)], [.int v3, .int v2, .int v1, .ref 16], (SH, q6.2.1, q6.2.2)) from rfl) ?_
                obtain ⟨q7, hc7, h⟩ := Option.bind_eq_some_iff.mp h
                refine m_R_cV (v := none) (h1 := (SH, q7.2)) (rest := []) (lo' := [some (.ref 16), some (.int v1), some (.int v2), some (.int v3), none]) (ml := 5) (k0 := 16) (by decide) (Or.inl rfl) (m_opb_of (ins := .invokevirtual 177) (len := 3) (tag := 5) (a := 51) (b := 3) (c := 0) (q := 816) (by decide +kernel)) (by decide +kernel) rfl (show m_isO 51 16 (SH, _) = true from m_isO_of (by decide +kernel)) (Nat.le_of_ble_eq_true rfl) rfl rfl (ok_World_transfer X (d + 2) F _ _ _ _ _ _ hc7) ?_
                refine m_R_sg (by decide) [(.aload 4, 2, 0, 4, 0, 0, 0), (.getfield 113, 3, 0, 1, 2, 3, 256), (.iload_n 1, 1, 0, 1, 0, 0, 0)] (by decide +kernel) (show m_sgl X _ _ _ _ _ = some (100, [some (.ref 0), some (.int v1), some (.int v2), some (.int v3), some (.ref 19)], [.int v1, .ref 22], (SH, q7.2.1, q7.2.2)) from rfl) ?_
                obtain ⟨c300, h⟩ := m_ite_n h
                refine m_R_1 (by decide) (m_opb_of (ins := .iaload) (len := 1) (tag := 0) (a := 0) (b := 0) (c := 0) (q := 0) (by decide +kernel)) (m_s_iald sh_22 (by decide) c300) ?_
                obtain ⟨rfl, rfl⟩ := m_some h
                exact m_R_iret (by decide) (m_opb_of (ins := .ireturn) (len := 1) (tag := 1) (a := 0) (b := 0) (c := 0) (q := 0) (by decide +kernel)) (Or.inl rfl)
def f_m_stateOf (F : Nat)   (v1 : Int32) (m : mM) : Option (Int32 × mM) := (if ((320 : Int32) + ((3 : Int32) * v1)) < 0 ∨ 9732 ≤ ((320 : Int32) + ((3 : Int32) * v1)).toNatClampNeg then none else some ((m.1 305 ((320 : Int32) + ((3 : Int32) * v1)).toNatClampNeg), m))
theorem ok_m_stateOf (X : mX) (d F : Nat) : ∀ (v1 : Int32)  (m : mM) (r : Int32) (m' : mM), f_m_stateOf F v1 m = some (r, m') → m_R X (d + 0) 224 0 [some (.ref 304), some (.int v1)] [] (SH, m) (some (.int r), (SH, m')) := by
  intro v1 m r m' h
  unfold f_m_stateOf at h
  refine m_R_sg (by decide) [(.aload_n 0, 1, 0, 0, 0, 0, 0), (.getfield 13, 3, 0, 12, 1, 3, 1493), (.sipush 320, 3, 0, 320, 0, 0, 0), (.iconst 3, 1, 0, 3, 0, 0, 0), (.iload_n 1, 1, 0, 1, 0, 0, 0), (.imul, 1, 0, 0, 0, 0, 0), (.iadd, 1, 0, 0, 0, 0, 0)] (by decide +kernel) (show m_sgl X _ _ _ _ _ = some (11, [some (.ref 304), some (.int v1)], [.int ((320 : Int32) + ((3 : Int32) * v1)), .ref 305], (SH, m.1, m.2)) from rfl) ?_
  obtain ⟨c301, h⟩ := m_ite_n h
  refine m_R_1 (by decide) (m_opb_of (ins := .iaload) (len := 1) (tag := 0) (a := 0) (b := 0) (c := 0) (q := 0) (by decide +kernel)) (m_s_iald sh_305 (by decide) c301) ?_
  obtain ⟨rfl, rfl⟩ := m_some h
  exact m_R_iret (by decide) (m_opb_of (ins := .ireturn) (len := 1) (tag := 1) (a := 0) (b := 0) (c := 0) (q := 0) (by decide +kernel)) (Or.inl rfl)
def f_m_many_26 (F : Nat)  (k4 : Int32 → Int32 → Int32 → mM → Option (Int32 × mM)) (v1 : Int32) (v3 : Int32) (s0 : Int32) (s1 : Int32) (m : mM) : Option (Int32 × mM) := k4 v1 (s0 + s1) (v3 + (1 : Int32)) m
theorem ok_m_many_26 (X : mX) (d F : Nat) (k4 : Int32 → Int32 → Int32 → mM → Option (Int32 × mM)) (hk4 : ∀ (v1 : Int32) (v2 : Int32) (v3 : Int32) (m : mM) (r : Int32) (m' : mM), k4 v1 v2 v3 m = some (r, m') → m_R X (d + 1) 223 4 [some (.ref 304), some (.int v1), some (.int v2), some (.int v3)] [] (SH, m) (some (.int r), (SH, m'))) : ∀ (v1 : Int32) (v3 : Int32) (s0 : Int32) (s1 : Int32) (w2 : Option Value) (m : mM) (r : Int32) (m' : mM), f_m_many_26 F k4 v1 v3 s0 s1 m = some (r, m') → m_R X (d + 1) 223 26 [some (.ref 304), some (.int v1), w2, some (.int v3)] [.int s1, .int s0] (SH, m) (some (.int r), (SH, m')) := by
  intro v1 v3 s0 s1 w2 m r m' h
  unfold f_m_many_26 at h
  refine m_R_sg (by decide) [(.iadd, 1, 0, 0, 0, 0, 0), (.istore_n 2, 1, 0, 2, 0, 0, 0), (.iinc 3 1, 3, 0, 3, 1, 0, 0), (.goto (-27), 3, 0, 4, 0, 0, 0)] (by decide +kernel) (show m_sgl X _ _ _ _ _ = some (4, [some (.ref 304), some (.int v1), some (.int (s0 + s1)), some (.int (v3 + (1 : Int32)))], [], (SH, m.1, m.2)) from rfl) ?_
  exact hk4 _ _ _ _ _ _ h
def f_m_many_4 (F : Nat)   : Nat → Int32 → Int32 → Int32 → mM → Option (Int32 × mM)
  | 0, _, _, _, _ => none
  | n + 1, v1, v2, v3, m => (if (300 : Int32) ≤ v3 then some (v2, m) else ((f_m_stateOf F v3 m).bind fun q1 => (if q1.1 = v1 then f_m_many_26 F (f_m_many_4 F n) v1 v3 v2 (1 : Int32) q1.2 else f_m_many_26 F (f_m_many_4 F n) v1 v3 v2 (0 : Int32) q1.2)))
theorem ok_m_many_4 (X : mX) (d F : Nat) : ∀ (n : Nat) (v1 : Int32) (v2 : Int32) (v3 : Int32)  (m : mM) (r : Int32) (m' : mM), f_m_many_4 F n v1 v2 v3 m = some (r, m') → m_R X (d + 1) 223 4 [some (.ref 304), some (.int v1), some (.int v2), some (.int v3)] [] (SH, m) (some (.int r), (SH, m')) := by
  intro n
  induction n with
  | zero => intro v1 v2 v3 m r m' h; cases h
  | succ n ih =>
    intro v1 v2 v3 m r m' h
    simp only [f_m_many_4] at h
    refine m_R_sg (by decide) [(.iload_n 3, 1, 0, 3, 0, 0, 0), (.sipush 300, 3, 0, 300, 0, 0, 0)] (by decide +kernel) (show m_sgl X _ _ _ _ _ = some (8, [some (.ref 304), some (.int v1), some (.int v2), some (.int v3)], [.int (300 : Int32), .int v3], (SH, m.1, m.2)) from rfl) ?_
    rcases m_ite h with ⟨c302, h⟩ | ⟨c302, h⟩
    · refine m_R_1 (by decide) (m_opb_of (ins := .if_icmp .ge 26) (len := 3) (tag := 0) (a := 34) (b := 0) (c := 0) (q := 0) (by decide +kernel)) (if_pos c302) ?_
      refine m_R_sg (by decide) [(.iload_n 2, 1, 0, 2, 0, 0, 0)] (by decide +kernel) (show m_sgl X _ _ _ _ _ = some (35, [some (.ref 304), some (.int v1), some (.int v2), some (.int v3)], [.int v2], (SH, m.1, m.2)) from rfl) ?_
      obtain ⟨rfl, rfl⟩ := m_some h
      exact m_R_iret (by decide) (m_opb_of (ins := .ireturn) (len := 1) (tag := 1) (a := 0) (b := 0) (c := 0) (q := 0) (by decide +kernel)) (Or.inl rfl)
    · refine m_R_1 (by decide) (m_opb_of (ins := .if_icmp .ge 26) (len := 3) (tag := 0) (a := 34) (b := 0) (c := 0) (q := 0) (by decide +kernel)) (if_neg c302) ?_
      refine m_R_sg (by decide) [(.iload_n 2, 1, 0, 2, 0, 0, 0), (.aload_n 0, 1, 0, 0, 0, 0, 0), (.iload_n 3, 1, 0, 3, 0, 0, 0)] (by decide +kernel) (show m_sgl X _ _ _ _ _ = some (14, [some (.ref 304), some (.int v1), some (.int v2), some (.int v3)], [.int v3, .ref 304, .int v2], (SH, m.1, m.2)) from rfl) ?_
      obtain ⟨q1, hc1, h⟩ := Option.bind_eq_some_iff.mp h
      refine m_R_cV (v := (some (.int q1.1))) (h1 := (SH, q1.2)) (rest := [.int v2]) (lo' := [some (.ref 304), some (.int v3)]) (ml := 2) (k0 := 304) (by decide) (Or.inl rfl) (m_opb_of (ins := .invokevirtual 99) (len := 3) (tag := 5) (a := 224) (b := 1) (c := 0) (q := 1681) (by decide +kernel)) (by decide +kernel) rfl (show m_isO 224 304 (SH, _) = true from m_isO_of (by decide +kernel)) (Nat.le_of_ble_eq_true rfl) rfl rfl (ok_m_stateOf X (d + 0) F _ _ _ _ hc1) ?_
      refine m_R_sg (by decide) [(.iload_n 1, 1, 0, 1, 0, 0, 0)] (by decide +kernel) (show m_sgl X _ _ _ _ _ = some (18, [some (.ref 304), some (.int v1), some (.int v2), some (.int v3)], [.int v1, .int q1.1, .int v2], (SH, q1.2.1, q1.2.2)) from rfl) ?_
      rcases m_ite h with ⟨c303, h⟩ | ⟨c303, h⟩
      · refine m_R_1 (by decide) (m_opb_of (ins := .if_icmp .ne 7) (len := 3) (tag := 0) (a := 25) (b := 0) (c := 0) (q := 0) (by decide +kernel)) (if_pos c303) ?_
        refine m_R_sg (by decide) [(.iconst 1, 1, 0, 1, 0, 0, 0), (.goto 4, 3, 0, 26, 0, 0, 0)] (by decide +kernel) (show m_sgl X _ _ _ _ _ = some (26, [some (.ref 304), some (.int v1), some (.int v2), some (.int v3)], [.int (1 : Int32), .int v2], (SH, q1.2.1, q1.2.2)) from rfl) ?_
        exact ok_m_many_26 X d F _ (fun a0 a1 a2 m r m' h => ih a0 a1 a2 m r m' h) _ _ _ _ _ _ _ _ h
      · refine m_R_1 (by decide) (m_opb_of (ins := .if_icmp .ne 7) (len := 3) (tag := 0) (a := 25) (b := 0) (c := 0) (q := 0) (by decide +kernel)) (if_neg c303) ?_
        refine m_R_sg (by decide) [(.iconst 0, 1, 0, 0, 0, 0, 0)] (by decide +kernel) (show m_sgl X _ _ _ _ _ = some (26, [some (.ref 304), some (.int v1), some (.int v2), some (.int v3)], [.int (0 : Int32), .int v2], (SH, q1.2.1, q1.2.2)) from rfl) ?_
        exact ok_m_many_26 X d F _ (fun a0 a1 a2 m r m' h => ih a0 a1 a2 m r m' h) _ _ _ _ _ _ _ _ h
def f_m_many (F : Nat)   (v1 : Int32) (m : mM) : Option (Int32 × mM) := f_m_many_4 F F v1 (0 : Int32) (0 : Int32) m
theorem ok_m_many (X : mX) (d F : Nat) : ∀ (v1 : Int32)  (m : mM) (r : Int32) (m' : mM), f_m_many F v1 m = some (r, m') → m_R X (d + 1) 223 0 [some (.ref 304), some (.int v1), none, none] [] (SH, m) (some (.int r), (SH, m')) := by
  intro v1 m r m' h
  unfold f_m_many at h
  refine m_R_sg (by decide) [(.iconst 0, 1, 0, 0, 0, 0, 0), (.istore_n 2, 1, 0, 2, 0, 0, 0), (.iconst 0, 1, 0, 0, 0, 0, 0), (.istore_n 3, 1, 0, 3, 0, 0, 0)] (by decide +kernel) (show m_sgl X _ _ _ _ _ = some (4, [some (.ref 304), some (.int v1), some (.int (0 : Int32)), some (.int (0 : Int32))], [], (SH, m.1, m.2)) from rfl) ?_
  exact ok_m_many_4 X d F F _ _ _ _ _ _ h
def f_m_byteAt_18 (F : Nat)   (s0 : Int32) (m : mM) : Option (Int32 × mM) := some (s0, m)
theorem ok_m_byteAt_18 (X : mX) (d F : Nat) : ∀ (s0 : Int32) (w0 : Option Value) (w1 : Option Value) (m : mM) (r : Int32) (m' : mM), f_m_byteAt_18 F s0 m = some (r, m') → m_R X (d + 0) 231 18 [w0, w1] [.int s0] (SH, m) (some (.int r), (SH, m')) := by
  intro s0 w0 w1 m r m' h
  unfold f_m_byteAt_18 at h
  obtain ⟨rfl, rfl⟩ := m_some h
  exact m_R_iret (by decide) (m_opb_of (ins := .ireturn) (len := 1) (tag := 1) (a := 0) (b := 0) (c := 0) (q := 0) (by decide +kernel)) (Or.inl rfl)
def f_m_byteAt (F : Nat)   (v1 : Int32) (m : mM) : Option (Int32 × mM) := (if (m.1 304 11) ≤ v1 then f_m_byteAt_18 F (-1 : Int32) m else (if v1 < 0 ∨ 120 ≤ v1.toNatClampNeg then none else f_m_byteAt_18 F (m.1 312 v1.toNatClampNeg) m))
theorem ok_m_byteAt (X : mX) (d F : Nat) : ∀ (v1 : Int32)  (m : mM) (r : Int32) (m' : mM), f_m_byteAt F v1 m = some (r, m') → m_R X (d + 0) 231 0 [some (.ref 304), some (.int v1)] [] (SH, m) (some (.int r), (SH, m')) := by
  intro v1 m r m' h
  unfold f_m_byteAt at h
  refine m_R_sg (by decide) [(.iload_n 1, 1, 0, 1, 0, 0, 0), (.aload_n 0, 1, 0, 0, 0, 0, 0), (.getfield 227, 3, 0, 12, 11, 0, 1503)] (by decide +kernel) (show m_sgl X _ _ _ _ _ = some (5, [some (.ref 304), some (.int v1)], [.int (m.1 304 11), .int v1], (SH, m.1, m.2)) from rfl) ?_
  rcases m_ite h with ⟨c304, h⟩ | ⟨c304, h⟩
  · refine m_R_1 (by decide) (m_opb_of (ins := .if_icmp .ge 12) (len := 3) (tag := 0) (a := 17) (b := 0) (c := 0) (q := 0) (by decide +kernel)) (if_pos c304) ?_
    refine m_R_sg (by decide) [(.iconst (-1), 1, 0, 1, 1, 0, 0)] (by decide +kernel) (show m_sgl X _ _ _ _ _ = some (18, [some (.ref 304), some (.int v1)], [.int (-1 : Int32)], (SH, m.1, m.2)) from rfl) ?_
    exact ok_m_byteAt_18 X d F _ _ _ _ _ _ h
  · refine m_R_1 (by decide) (m_opb_of (ins := .if_icmp .ge 12) (len := 3) (tag := 0) (a := 17) (b := 0) (c := 0) (q := 0) (by decide +kernel)) (if_neg c304) ?_
    refine m_R_sg (by decide) [(.aload_n 0, 1, 0, 0, 0, 0, 0), (.getfield 36, 3, 0, 12, 10, 3, 1502), (.iload_n 1, 1, 0, 1, 0, 0, 0)] (by decide +kernel) (show m_sgl X _ _ _ _ _ = some (13, [some (.ref 304), some (.int v1)], [.int v1, .ref 312], (SH, m.1, m.2)) from rfl) ?_
    obtain ⟨c305, h⟩ := m_ite_n h
    refine m_R_1 (by decide) (m_opb_of (ins := .iaload) (len := 1) (tag := 0) (a := 0) (b := 0) (c := 0) (q := 0) (by decide +kernel)) (m_s_iald sh_312 (by decide) c305) ?_
    refine m_R_sg (by decide) [(.goto 4, 3, 0, 18, 0, 0, 0)] (by decide +kernel) (show m_sgl X _ _ _ _ _ = some (18, [some (.ref 304), some (.int v1)], [.int (m.1 312 v1.toNatClampNeg)], (SH, m.1, m.2)) from rfl) ?_
    exact ok_m_byteAt_18 X d F _ _ _ _ _ _ h
def f_m_next_144 (F : Nat)  (k91 : Int32 → mM → Option (Unit × mM)) (v2 : Int32) (s1 : Int64) (m : mM) : Option (Unit × mM) := k91 (v2 + (1 : Int32)) ((m_up m.1 304 15 ((m.1 304 15) + (1 : Int32))), (m_upl m.2 304 s1))
theorem ok_m_next_144 (X : mX) (d F : Nat) (k91 : Int32 → mM → Option (Unit × mM)) (hk91 : ∀ (v2 : Int32) (w1 : Option Value) (m : mM) (r : Unit) (m' : mM), k91 v2 m = some (r, m') → m_R X (d + 1) 230 91 [some (.ref 304), w1, some (.int v2)] [] (SH, m) (none, (SH, m'))) : ∀ (v2 : Int32) (s1 : Int64) (w1 : Option Value) (m : mM) (r : Unit) (m' : mM), f_m_next_144 F k91 v2 s1 m = some (r, m') → m_R X (d + 1) 230 144 [some (.ref 304), w1, some (.int v2)] [.long s1, .ref 304] (SH, m) (none, (SH, m')) := by
  intro v2 s1 w1 m r m' h
  unfold f_m_next_144 at h
  refine m_R_sg (by decide) [(.putfield 242, 3, 0, 12, 14, 2, 1506), (.iinc 2 1, 3, 0, 2, 1, 0, 0), (.aload_n 0, 1, 0, 0, 0, 0, 0), (.dup, 1, 0, 0, 0, 0, 0), (.getfield 230, 3, 0, 12, 15, 0, 1507), (.iconst 1, 1, 0, 1, 0, 0, 0), (.iadd, 1, 0, 0, 0, 0, 0), (.putfield 230, 3, 0, 12, 15, 0, 1507), (.goto (-69), 3, 0, 91, 0, 0, 0)] (by decide +kernel) (show m_sgl X _ _ _ _ _ = some (91, [some (.ref 304), w1, some (.int (v2 + (1 : Int32)))], [], (SH, (m_up m.1 304 15 ((m.1 304 15) + (1 : Int32))), (m_upl m.2 304 s1))) from rfl) ?_
  exact hk91 _ _ _ _ _ h
def f_m_next_359 (F : Nat)    (m : mM) : Option (Unit × mM) := some ((), m)
theorem ok_m_next_359 (X : mX) (d F : Nat) : ∀  (w0 : Option Value) (w1 : Option Value) (w2 : Option Value) (m : mM) (r : Unit) (m' : mM), f_m_next_359 F  m = some (r, m') → m_R X (d + 1) 230 359 [w0, w1, w2] [] (SH, m) (none, (SH, m')) := by
  intro w0 w1 w2 m r m' h
  unfold f_m_next_359 at h
  obtain ⟨rfl, rfl⟩ := m_some h
  exact m_R_vret (by decide) (m_opb_of (ins := .return_) (len := 1) (tag := 3) (a := 0) (b := 0) (c := 0) (q := 0) (by decide +kernel))
def f_m_next_91 (F : Nat)   : Nat → Int32 → mM → Option (Unit × mM)
  | 0, _, _ => none
  | n + 1, v2, m => ((f_m_byteAt F (m.1 304 15) m).bind fun q5 => ((f_m_in F q5.1 (97 : Int32) (122 : Int32) q5.2).bind fun q6 => (if q6.1 = 0 then f_m_next_359 F q6.2 else (if (7 : Int32) ≤ v2 then f_m_next_144 F (f_m_next_91 F n) v2 (-1 : Int64) q6.2 else ((f_m_byteAt F (q6.2.1 304 15) q6.2).bind fun q7 => f_m_next_144 F (f_m_next_91 F n) v2 ((((27 : Int64) * (q6.2.2 304)) + q7.1.toInt64) - (96 : Int64)) q7.2)))))
theorem ok_m_next_91 (X : mX) (d F : Nat) : ∀ (n : Nat) (v2 : Int32) (w1 : Option Value) (m : mM) (r : Unit) (m' : mM), f_m_next_91 F n v2 m = some (r, m') → m_R X (d + 1) 230 91 [some (.ref 304), w1, some (.int v2)] [] (SH, m) (none, (SH, m')) := by
  intro n
  induction n with
  | zero => intro v2 w1 m r m' h; cases h
  | succ n ih =>
    intro v2 w1 m r m' h
    simp only [f_m_next_91] at h
    refine m_R_sg (by decide) [(.aload_n 0, 1, 0, 0, 0, 0, 0), (.aload_n 0, 1, 0, 0, 0, 0, 0), (.getfield 230, 3, 0, 12, 15, 0, 1507)] (by decide +kernel) (show m_sgl X _ _ _ _ _ = some (96, [some (.ref 304), w1, some (.int v2)], [.int (m.1 304 15), .ref 304], (SH, m.1, m.2)) from rfl) ?_
    obtain ⟨q5, hc5, h⟩ := Option.bind_eq_some_iff.mp h
    refine m_R_cV (v := (some (.int q5.1))) (h1 := (SH, q5.2)) (rest := []) (lo' := [some (.ref 304), some (.int (m.1 304 15))]) (ml := 2) (k0 := 304) (by decide) (Or.inl rfl) (m_opb_of (ins := .invokevirtual 233) (len := 3) (tag := 5) (a := 231) (b := 1) (c := 0) (q := 1709) (by decide +kernel)) (by decide +kernel) rfl (show m_isO 231 304 (SH, _) = true from m_isO_of (by decide +kernel)) (Nat.le_of_ble_eq_true rfl) rfl rfl (ok_m_byteAt X (d + 0) F _ _ _ _ hc5) ?_
    refine m_R_sg (by decide) [(.bipush 97, 2, 0, 97, 0, 0, 0), (.bipush 122, 2, 0, 122, 0, 0, 0)] (by decide +kernel) (show m_sgl X _ _ _ _ _ = some (103, [some (.ref 304), w1, some (.int v2)], [.int (122 : Int32), .int (97 : Int32), .int q5.1], (SH, q5.2.1, q5.2.2)) from rfl) ?_
    obtain ⟨q6, hc6, h⟩ := Option.bind_eq_some_iff.mp h
    refine m_R_cS (v := (some (.int q6.1))) (h1 := (SH, q6.2)) (rest := []) (lo' := [some (.int q5.1), some (.int (97 : Int32)), some (.int (122 : Int32))]) (ml := 3) (by decide) (m_opb_of (ins := .invokestatic 57) (len := 3) (tag := 4) (a := 201) (b := 3) (c := 0) (q := 1590) (by decide +kernel)) (by decide +kernel) (Nat.le_of_ble_eq_true rfl) rfl (Nat.le_of_ble_eq_true rfl) rfl rfl (ok_m_in X (d + 0) F _ _ _ _ _ _ hc6) ?_
    rcases m_ite h with ⟨c306, h⟩ | ⟨c306, h⟩
    · refine m_R_1 (by decide) (m_opb_of (ins := .ifCond .eq 57) (len := 3) (tag := 0) (a := 163) (b := 0) (c := 0) (q := 0) (by decide +kernel)) (if_pos c306) ?_
      refine m_R_sg (by decide) [(.goto 196, 3, 0, 359, 0, 0, 0)] (by decide +kernel) (show m_sgl X _ _ _ _ _ = some (359, [some (.ref 304), w1, some (.int v2)], [], (SH, q6.2.1, q6.2.2)) from rfl) ?_
      exact ok_m_next_359 X d F _ _ _ _ _ _ h
    · refine m_R_1 (by decide) (m_opb_of (ins := .ifCond .eq 57) (len := 3) (tag := 0) (a := 163) (b := 0) (c := 0) (q := 0) (by decide +kernel)) (if_neg c306) ?_
      refine m_R_sg (by decide) [(.aload_n 0, 1, 0, 0, 0, 0, 0), (.iload_n 2, 1, 0, 2, 0, 0, 0), (.bipush 7, 2, 0, 7, 0, 0, 0)] (by decide +kernel) (show m_sgl X _ _ _ _ _ = some (113, [some (.ref 304), w1, some (.int v2)], [.int (7 : Int32), .int v2, .ref 304], (SH, q6.2.1, q6.2.2)) from rfl) ?_
      rcases m_ite h with ⟨c307, h⟩ | ⟨c307, h⟩
      · refine m_R_1 (by decide) (m_opb_of (ins := .if_icmp .ge 28) (len := 3) (tag := 0) (a := 141) (b := 0) (c := 0) (q := 0) (by decide +kernel)) (if_pos c307) ?_
        refine m_R_sg (by decide) [(.ldc2_w 250, 3, 0, 1, 1, 0, 1715)] (by decide +kernel) (show m_sgl X _ _ _ _ _ = some (144, [some (.ref 304), w1, some (.int v2)], [.long (-1 : Int64), .ref 304], (SH, q6.2.1, q6.2.2)) from rfl) ?_
        exact ok_m_next_144 X d F _ (fun a0 a1 m r m' h => ih a0 a1 m r m' h) _ _ _ _ _ _ h
      · refine m_R_1 (by decide) (m_opb_of (ins := .if_icmp .ge 28) (len := 3) (tag := 0) (a := 141) (b := 0) (c := 0) (q := 0) (by decide +kernel)) (if_neg c307) ?_
        refine m_R_sg (by decide) [(.ldc2_w 246, 3, 0, 27, 0, 0, 1713), (.aload_n 0, 1, 0, 0, 0, 0, 0), (.getfield 242, 3, 0, 12, 14, 2, 1506), (.lmul, 1, 0, 0, 0, 0, 0), (.aload_n 0, 1, 0, 0, 0, 0, 0), (.aload_n 0, 1, 0, 0, 0, 0, 0), (.getfield 230, 3, 0, 12, 15, 0, 1507)] (by decide +kernel) (show m_sgl X _ _ _ _ _ = some (129, [some (.ref 304), w1, some (.int v2)], [.int (q6.2.1 304 15), .ref 304, .long ((27 : Int64) * (q6.2.2 304)), .ref 304], (SH, q6.2.1, q6.2.2)) from rfl) ?_
        obtain ⟨q7, hc7, h⟩ := Option.bind_eq_some_iff.mp h
        refine m_R_cV (v := (some (.int q7.1))) (h1 := (SH, q7.2)) (rest := [.long ((27 : Int64) * (q6.2.2 304)), .ref 304]) (lo' := [some (.ref 304), some (.int (q6.2.1 304 15))]) (ml := 2) (k0 := 304) (by decide) (Or.inl rfl) (m_opb_of (ins := .invokevirtual 233) (len := 3) (tag := 5) (a := 231) (b := 1) (c := 0) (q := 1709) (by decide +kernel)) (by decide +kernel) rfl (show m_isO 231 304 (SH, _) = true from m_isO_of (by decide +kernel)) (Nat.le_of_ble_eq_true rfl) rfl rfl (ok_m_byteAt X (d + 0) F _ _ _ _ hc7) ?_
        refine m_R_sg (by decide) [(.i2l, 1, 0, 0, 0, 0, 0), (.ladd, 1, 0, 0, 0, 0, 0), (.ldc2_w 248, 3, 0, 96, 0, 0, 1714), (.lsub, 1, 0, 0, 0, 0, 0), (.goto 6, 3, 0, 144, 0, 0, 0)] (by decide +kernel) (show m_sgl X _ _ _ _ _ = some (144, [some (.ref 304), w1, some (.int v2)], [.long ((((27 : Int64) * (q6.2.2 304)) + q7.1.toInt64) - (96 : Int64)), .ref 304], (SH, q7.2.1, q7.2.2)) from rfl) ?_
        exact ok_m_next_144 X d F _ (fun a0 a1 m r m' h => ih a0 a1 m r m' h) _ _ _ _ _ _ h
def f_m_next_242 (F : Nat)  (k189 : Int32 → mM → Option (Unit × mM)) (v2 : Int32) (s1 : Int64) (m : mM) : Option (Unit × mM) := k189 (v2 + (1 : Int32)) ((m_up m.1 304 15 ((m.1 304 15) + (1 : Int32))), (m_upl m.2 304 s1))
theorem ok_m_next_242 (X : mX) (d F : Nat) (k189 : Int32 → mM → Option (Unit × mM)) (hk189 : ∀ (v2 : Int32) (w1 : Option Value) (m : mM) (r : Unit) (m' : mM), k189 v2 m = some (r, m') → m_R X (d + 1) 230 189 [some (.ref 304), w1, some (.int v2)] [] (SH, m) (none, (SH, m'))) : ∀ (v2 : Int32) (s1 : Int64) (w1 : Option Value) (m : mM) (r : Unit) (m' : mM), f_m_next_242 F k189 v2 s1 m = some (r, m') → m_R X (d + 1) 230 242 [some (.ref 304), w1, some (.int v2)] [.long s1, .ref 304] (SH, m) (none, (SH, m')) := by
  intro v2 s1 w1 m r m' h
  unfold f_m_next_242 at h
  refine m_R_sg (by decide) [(.putfield 242, 3, 0, 12, 14, 2, 1506), (.iinc 2 1, 3, 0, 2, 1, 0, 0), (.aload_n 0, 1, 0, 0, 0, 0, 0), (.dup, 1, 0, 0, 0, 0, 0), (.getfield 230, 3, 0, 12, 15, 0, 1507), (.iconst 1, 1, 0, 1, 0, 0, 0), (.iadd, 1, 0, 0, 0, 0, 0), (.putfield 230, 3, 0, 12, 15, 0, 1507), (.goto (-69), 3, 0, 189, 0, 0, 0)] (by decide +kernel) (show m_sgl X _ _ _ _ _ = some (189, [some (.ref 304), w1, some (.int (v2 + (1 : Int32)))], [], (SH, (m_up m.1 304 15 ((m.1 304 15) + (1 : Int32))), (m_upl m.2 304 s1))) from rfl) ?_
  exact hk189 _ _ _ _ _ h
def f_m_next_272 (F : Nat)   (s1 : Int32) (m : mM) : Option (Unit × mM) := f_m_next_359 F ((m_up m.1 304 12 s1), m.2)
theorem ok_m_next_272 (X : mX) (d F : Nat) : ∀ (s1 : Int32) (w0 : Option Value) (w1 : Option Value) (w2 : Option Value) (m : mM) (r : Unit) (m' : mM), f_m_next_272 F s1 m = some (r, m') → m_R X (d + 1) 230 272 [w0, w1, w2] [.int s1, .ref 304] (SH, m) (none, (SH, m')) := by
  intro s1 w0 w1 w2 m r m' h
  unfold f_m_next_272 at h
  refine m_R_sg (by decide) [(.putfield 239, 3, 0, 12, 12, 0, 1504), (.goto 84, 3, 0, 359, 0, 0, 0)] (by decide +kernel) (show m_sgl X _ _ _ _ _ = some (359, [w0, w1, w2], [], (SH, (m_up m.1 304 12 s1), m.2)) from rfl) ?_
  exact ok_m_next_359 X d F _ _ _ _ _ _ h
def f_m_next_189 (F : Nat)   : Nat → Int32 → mM → Option (Unit × mM)
  | 0, _, _ => none
  | n + 1, v2, m => ((f_m_byteAt F (m.1 304 15) m).bind fun q8 => ((f_m_in F q8.1 (48 : Int32) (57 : Int32) q8.2).bind fun q9 => (if q9.1 = 0 then (if v2 ≤ (5 : Int32) then f_m_next_272 F (2 : Int32) q9.2 else f_m_next_272 F (4 : Int32) q9.2) else (if (5 : Int32) ≤ v2 then f_m_next_242 F (f_m_next_189 F n) v2 (q9.2.2 304) q9.2 else ((f_m_byteAt F (q9.2.1 304 15) q9.2).bind fun q10 => f_m_next_242 F (f_m_next_189 F n) v2 ((((10 : Int64) * (q9.2.2 304)) + q10.1.toInt64) - (48 : Int64)) q10.2)))))
theorem ok_m_next_189 (X : mX) (d F : Nat) : ∀ (n : Nat) (v2 : Int32) (w1 : Option Value) (m : mM) (r : Unit) (m' : mM), f_m_next_189 F n v2 m = some (r, m') → m_R X (d + 1) 230 189 [some (.ref 304), w1, some (.int v2)] [] (SH, m) (none, (SH, m')) := by
  intro n
  induction n with
  | zero => intro v2 w1 m r m' h; cases h
  | succ n ih =>
    intro v2 w1 m r m' h
    simp only [f_m_next_189] at h
    refine m_R_sg (by decide) [(.aload_n 0, 1, 0, 0, 0, 0, 0), (.aload_n 0, 1, 0, 0, 0, 0, 0), (.getfield 230, 3, 0, 12, 15, 0, 1507)] (by decide +kernel) (show m_sgl X _ _ _ _ _ = some (194, [some (.ref 304), w1, some (.int v2)], [.int (m.1 304 15), .ref 304], (SH, m.1, m.2)) from rfl) ?_
    obtain ⟨q8, hc8, h⟩ := Option.bind_eq_some_iff.mp h
    refine m_R_cV (v := (some (.int q8.1))) (h1 := (SH, q8.2)) (rest := []) (lo' := [some (.ref 304), some (.int (m.1 304 15))]) (ml := 2) (k0 := 304) (by decide) (Or.inl rfl) (m_opb_of (ins := .invokevirtual 233) (len := 3) (tag := 5) (a := 231) (b := 1) (c := 0) (q := 1709) (by decide +kernel)) (by decide +kernel) rfl (show m_isO 231 304 (SH, _) = true from m_isO_of (by decide +kernel)) (Nat.le_of_ble_eq_true rfl) rfl rfl (ok_m_byteAt X (d + 0) F _ _ _ _ hc8) ?_
    refine m_R_sg (by decide) [(.bipush 48, 2, 0, 48, 0, 0, 0), (.bipush 57, 2, 0, 57, 0, 0, 0)] (by decide +kernel) (show m_sgl X _ _ _ _ _ = some (201, [some (.ref 304), w1, some (.int v2)], [.int (57 : Int32), .int (48 : Int32), .int q8.1], (SH, q8.2.1, q8.2.2)) from rfl) ?_
    obtain ⟨q9, hc9, h⟩ := Option.bind_eq_some_iff.mp h
    refine m_R_cS (v := (some (.int q9.1))) (h1 := (SH, q9.2)) (rest := []) (lo' := [some (.int q8.1), some (.int (48 : Int32)), some (.int (57 : Int32))]) (ml := 3) (by decide) (m_opb_of (ins := .invokestatic 57) (len := 3) (tag := 4) (a := 201) (b := 3) (c := 0) (q := 1590) (by decide +kernel)) (by decide +kernel) (Nat.le_of_ble_eq_true rfl) rfl (Nat.le_of_ble_eq_true rfl) rfl rfl (ok_m_in X (d + 0) F _ _ _ _ _ _ hc9) ?_
    rcases m_ite h with ⟨c308, h⟩ | ⟨c308, h⟩
    · refine m_R_1 (by decide) (m_opb_of (ins := .ifCond .eq 57) (len := 3) (tag := 0) (a := 261) (b := 0) (c := 0) (q := 0) (by decide +kernel)) (if_pos c308) ?_
      refine m_R_sg (by decide) [(.aload_n 0, 1, 0, 0, 0, 0, 0), (.iload_n 2, 1, 0, 2, 0, 0, 0), (.iconst 5, 1, 0, 5, 0, 0, 0)] (by decide +kernel) (show m_sgl X _ _ _ _ _ = some (264, [some (.ref 304), w1, some (.int v2)], [.int (5 : Int32), .int v2, .ref 304], (SH, q9.2.1, q9.2.2)) from rfl) ?_
      rcases m_ite h with ⟨c309, h⟩ | ⟨c309, h⟩
      · refine m_R_1 (by decide) (m_opb_of (ins := .if_icmp .le 7) (len := 3) (tag := 0) (a := 271) (b := 0) (c := 0) (q := 0) (by decide +kernel)) (if_pos c309) ?_
        refine m_R_sg (by decide) [(.iconst 2, 1, 0, 2, 0, 0, 0)] (by decide +kernel) (show m_sgl X _ _ _ _ _ = some (272, [some (.ref 304), w1, some (.int v2)], [.int (2 : Int32), .ref 304], (SH, q9.2.1, q9.2.2)) from rfl) ?_
        exact ok_m_next_272 X d F _ _ _ _ _ _ _ h
      · refine m_R_1 (by decide) (m_opb_of (ins := .if_icmp .le 7) (len := 3) (tag := 0) (a := 271) (b := 0) (c := 0) (q := 0) (by decide +kernel)) (if_neg c309) ?_
        refine m_R_sg (by decide) [(.iconst 4, 1, 0, 4, 0, 0, 0), (.goto 4, 3, 0, 272, 0, 0, 0)] (by decide +kernel) (show m_sgl X _ _ _ _ _ = some (272, [some (.ref 304), w1, some (.int v2)], [.int (4 : Int32), .ref 304], (SH, q9.2.1, q9.2.2)) from rfl) ?_
        exact ok_m_next_272 X d F _ _ _ _ _ _ _ h
    · refine m_R_1 (by decide) (m_opb_of (ins := .ifCond .eq 57) (len := 3) (tag := 0) (a := 261) (b := 0) (c := 0) (q := 0) (by decide +kernel)) (if_neg c308) ?_
      refine m_R_sg (by decide) [(.aload_n 0, 1, 0, 0, 0, 0, 0), (.iload_n 2, 1, 0, 2, 0, 0, 0), (.iconst 5, 1, 0, 5, 0, 0, 0)] (by decide +kernel) (show m_sgl X _ _ _ _ _ = some (210, [some (.ref 304), w1, some (.int v2)], [.int (5 : Int32), .int v2, .ref 304], (SH, q9.2.1, q9.2.2)) from rfl) ?_
      rcases m_ite h with ⟨c310, h⟩ | ⟨c310, h⟩
      · refine m_R_1 (by decide) (m_opb_of (ins := .if_icmp .ge 28) (len := 3) (tag := 0) (a := 238) (b := 0) (c := 0) (q := 0) (by decide +kernel)) (if_pos c310) ?_
        refine m_R_sg (by decide) [(.aload_n 0, 1, 0, 0, 0, 0, 0), (.getfield 242, 3, 0, 12, 14, 2, 1506)] (by decide +kernel) (show m_sgl X _ _ _ _ _ = some (242, [some (.ref 304), w1, some (.int v2)], [.long (q9.2.2 304), .ref 304], (SH, q9.2.1, q9.2.2)) from rfl) ?_
        exact ok_m_next_242 X d F _ (fun a0 a1 m r m' h => ih a0 a1 m r m' h) _ _ _ _ _ _ h
      · refine m_R_1 (by decide) (m_opb_of (ins := .if_icmp .ge 28) (len := 3) (tag := 0) (a := 238) (b := 0) (c := 0) (q := 0) (by decide +kernel)) (if_neg c310) ?_
        refine m_R_sg (by decide) [(.ldc2_w 252, 3, 0, 10, 0, 0, 1716), (.aload_n 0, 1, 0, 0, 0, 0, 0), (.getfield 242, 3, 0, 12, 14, 2, 1506), (.lmul, 1, 0, 0, 0, 0, 0), (.aload_n 0, 1, 0, 0, 0, 0, 0), (.aload_n 0, 1, 0, 0, 0, 0, 0), (.getfield 230, 3, 0, 12, 15, 0, 1507)] (by decide +kernel) (show m_sgl X _ _ _ _ _ = some (226, [some (.ref 304), w1, some (.int v2)], [.int (q9.2.1 304 15), .ref 304, .long ((10 : Int64) * (q9.2.2 304)), .ref 304], (SH, q9.2.1, q9.2.2)) from rfl) ?_
        obtain ⟨q10, hc10, h⟩ := Option.bind_eq_some_iff.mp h
        refine m_R_cV (v := (some (.int q10.1))) (h1 := (SH, q10.2)) (rest := [.long ((10 : Int64) * (q9.2.2 304)), .ref 304]) (lo' := [some (.ref 304), some (.int (q9.2.1 304 15))]) (ml := 2) (k0 := 304) (by decide) (Or.inl rfl) (m_opb_of (ins := .invokevirtual 233) (len := 3) (tag := 5) (a := 231) (b := 1) (c := 0) (q := 1709) (by decide +kernel)) (by decide +kernel) rfl (show m_isO 231 304 (SH, _) = true from m_isO_of (by decide +kernel)) (Nat.le_of_ble_eq_true rfl) rfl rfl (ok_m_byteAt X (d + 0) F _ _ _ _ hc10) ?_
        refine m_R_sg (by decide) [(.i2l, 1, 0, 0, 0, 0, 0), (.ladd, 1, 0, 0, 0, 0, 0), (.ldc2_w 254, 3, 0, 48, 0, 0, 1717), (.lsub, 1, 0, 0, 0, 0, 0), (.goto 7, 3, 0, 242, 0, 0, 0)] (by decide +kernel) (show m_sgl X _ _ _ _ _ = some (242, [some (.ref 304), w1, some (.int v2)], [.long ((((10 : Int64) * (q9.2.2 304)) + q10.1.toInt64) - (48 : Int64)), .ref 304], (SH, q10.2.1, q10.2.2)) from rfl) ?_
        exact ok_m_next_242 X d F _ (fun a0 a1 m r m' h => ih a0 a1 m r m' h) _ _ _ _ _ _ h
def f_m_next_338 (F : Nat)   (v1 : Int32) (m : mM) : Option (Unit × mM) := f_m_next_359 F ((m_up (m_up m.1 304 12 (3 : Int32)) 304 15 (((m_up m.1 304 12 (3 : Int32)) 304 15) + (1 : Int32))), (m_upl m.2 304 v1.toInt64))
theorem ok_m_next_338 (X : mX) (d F : Nat) : ∀ (v1 : Int32) (w2 : Option Value) (m : mM) (r : Unit) (m' : mM), f_m_next_338 F v1 m = some (r, m') → m_R X (d + 1) 230 338 [some (.ref 304), some (.int v1), w2] [] (SH, m) (none, (SH, m')) := by
  intro v1 w2 m r m' h
  unfold f_m_next_338 at h
  refine m_R_sg (by decide) [(.aload_n 0, 1, 0, 0, 0, 0, 0), (.iconst 3, 1, 0, 3, 0, 0, 0), (.putfield 239, 3, 0, 12, 12, 0, 1504), (.aload_n 0, 1, 0, 0, 0, 0, 0), (.iload_n 1, 1, 0, 1, 0, 0, 0), (.i2l, 1, 0, 0, 0, 0, 0), (.putfield 242, 3, 0, 12, 14, 2, 1506), (.aload_n 0, 1, 0, 0, 0, 0, 0), (.dup, 1, 0, 0, 0, 0, 0), (.getfield 230, 3, 0, 12, 15, 0, 1507), (.iconst 1, 1, 0, 1, 0, 0, 0), (.iadd, 1, 0, 0, 0, 0, 0), (.putfield 230, 3, 0, 12, 15, 0, 1507)] (by decide +kernel) (show m_sgl X _ _ _ _ _ = some (359, [some (.ref 304), some (.int v1), w2], [], (SH, (m_up (m_up m.1 304 12 (3 : Int32)) 304 15 (((m_up m.1 304 12 (3 : Int32)) 304 15) + (1 : Int32))), (m_upl m.2 304 v1.toInt64))) from rfl) ?_
  exact ok_m_next_359 X d F _ _ _ _ _ _ h
def f_m_next_0 (F : Nat)   : Nat → mM → Option (Unit × mM)
  | 0, _ => none
  | n + 1, m => ((f_m_byteAt F (m.1 304 15) m).bind fun q1 => (if q1.1 = (32 : Int32) then f_m_next_0 F n ((m_up q1.2.1 304 15 ((q1.2.1 304 15) + (1 : Int32))), q1.2.2) else ((f_m_byteAt F ((m_up q1.2.1 304 13 (q1.2.1 304 15)) 304 15) ((m_up q1.2.1 304 13 (q1.2.1 304 15)), q1.2.2)).bind fun q2 => (if 0 ≤ q2.1 then ((f_m_in F q2.1 (97 : Int32) (122 : Int32) ((m_up q2.2.1 304 12 (4 : Int32)), q2.2.2)).bind fun q3 => (if q3.1 = 0 then ((f_m_in F q2.1 (48 : Int32) (57 : Int32) q3.2).bind fun q4 => (if q4.1 = 0 then (if q2.1 = (40 : Int32) then f_m_next_338 F q2.1 q4.2 else (if q2.1 = (41 : Int32) then f_m_next_338 F q2.1 q4.2 else (if q2.1 = (43 : Int32) then f_m_next_338 F q2.1 q4.2 else (if q2.1 = (45 : Int32) then f_m_next_338 F q2.1 q4.2 else (if q2.1 = (42 : Int32) then f_m_next_338 F q2.1 q4.2 else (if q2.1 = (47 : Int32) then f_m_next_338 F q2.1 q4.2 else (if q2.1 = (37 : Int32) then f_m_next_338 F q2.1 q4.2 else (if q2.1 = (61 : Int32) then f_m_next_338 F q2.1 q4.2 else (if q2.1 = (60 : Int32) then f_m_next_338 F q2.1 q4.2 else (if q2.1 = (62 : Int32) then f_m_next_338 F q2.1 q4.2 else f_m_next_359 F q4.2)))))))))) else f_m_next_189 F F (0 : Int32) ((m_up q4.2.1 304 12 (2 : Int32)), (m_upl q4.2.2 304 (0 : Int64))))) else f_m_next_91 F F (0 : Int32) ((m_up q3.2.1 304 12 (1 : Int32)), (m_upl q3.2.2 304 (0 : Int64))))) else f_m_next_359 F ((m_up (m_up (m_up q2.2.1 304 12 (4 : Int32)) 304 12 (0 : Int32)) 304 13 ((m_up (m_up q2.2.1 304 12 (4 : Int32)) 304 12 (0 : Int32)) 304 11)), q2.2.2)))))
theorem ok_m_next_0 (X : mX) (d F : Nat) : ∀ (n : Nat)  (w1 : Option Value) (w2 : Option Value) (m : mM) (r : Unit) (m' : mM), f_m_next_0 F n  m = some (r, m') → m_R X (d + 1) 230 0 [some (.ref 304), w1, w2] [] (SH, m) (none, (SH, m')) := by
  intro n
  induction n with
  | zero => intro w1 w2 m r m' h; cases h
  | succ n ih =>
    intro w1 w2 m r m' h
    simp only [f_m_next_0] at h
    refine m_R_sg (by decide) [(.aload_n 0, 1, 0, 0, 0, 0, 0), (.aload_n 0, 1, 0, 0, 0, 0, 0), (.getfield 230, 3, 0, 12, 15, 0, 1507)] (by decide +kernel) (show m_sgl X _ _ _ _ _ = some (5, [some (.ref 304), w1, w2], [.int (m.1 304 15), .ref 304], (SH, m.1, m.2)) from rfl) ?_
    obtain ⟨q1, hc1, h⟩ := Option.bind_eq_some_iff.mp h
    refine m_R_cV (v := (some (.int q1.1))) (h1 := (SH, q1.2)) (rest := []) (lo' := [some (.ref 304), some (.int (m.1 304 15))]) (ml := 2) (k0 := 304) (by decide) (Or.inl rfl) (m_opb_of (ins := .invokevirtual 233) (len := 3) (tag := 5) (a := 231) (b := 1) (c := 0) (q := 1709) (by decide +kernel)) (by decide +kernel) rfl (show m_isO 231 304 (SH, _) = true from m_isO_of (by decide +kernel)) (Nat.le_of_ble_eq_true rfl) rfl rfl (ok_m_byteAt X (d + 0) F _ _ _ _ hc1) ?_
    refine m_R_sg (by decide) [(.bipush 32, 2, 0, 32, 0, 0, 0)] (by decide +kernel) (show m_sgl X _ _ _ _ _ = some (10, [some (.ref 304), w1, w2], [.int (32 : Int32), .int q1.1], (SH, q1.2.1, q1.2.2)) from rfl) ?_
    rcases m_ite h with ⟨c311, h⟩ | ⟨c311, h⟩
    · refine m_R_1 (by decide) (m_opb_of (ins := .if_icmp .ne 16) (len := 3) (tag := 0) (a := 26) (b := 0) (c := 0) (q := 0) (by decide +kernel)) (if_pos c311) ?_
      refine m_R_sg (by decide) [(.aload_n 0, 1, 0, 0, 0, 0, 0), (.dup, 1, 0, 0, 0, 0, 0), (.getfield 230, 3, 0, 12, 15, 0, 1507), (.iconst 1, 1, 0, 1, 0, 0, 0), (.iadd, 1, 0, 0, 0, 0, 0), (.putfield 230, 3, 0, 12, 15, 0, 1507), (.goto (-23), 3, 0, 0, 0, 0, 0)] (by decide +kernel) (show m_sgl X _ _ _ _ _ = some (0, [some (.ref 304), w1, w2], [], (SH, (m_up q1.2.1 304 15 ((q1.2.1 304 15) + (1 : Int32))), q1.2.2)) from rfl) ?_
      exact ih _ _ _ _ _ h
    · refine m_R_1 (by decide) (m_opb_of (ins := .if_icmp .ne 16) (len := 3) (tag := 0) (a := 26) (b := 0) (c := 0) (q := 0) (by decide +kernel)) (if_neg c311) ?_
      refine m_R_sg (by decide) [(.aload_n 0, 1, 0, 0, 0, 0, 0), (.aload_n 0, 1, 0, 0, 0, 0, 0), (.getfield 230, 3, 0, 12, 15, 0, 1507), (.putfield 236, 3, 0, 12, 13, 0, 1505), (.aload_n 0, 1, 0, 0, 0, 0, 0), (.aload_n 0, 1, 0, 0, 0, 0, 0), (.getfield 230, 3, 0, 12, 15, 0, 1507)] (by decide +kernel) (show m_sgl X _ _ _ _ _ = some (39, [some (.ref 304), w1, w2], [.int ((m_up q1.2.1 304 13 (q1.2.1 304 15)) 304 15), .ref 304], (SH, (m_up q1.2.1 304 13 (q1.2.1 304 15)), q1.2.2)) from rfl) ?_
      obtain ⟨q2, hc2, h⟩ := Option.bind_eq_some_iff.mp h
      refine m_R_cV (v := (some (.int q2.1))) (h1 := (SH, q2.2)) (rest := []) (lo' := [some (.ref 304), some (.int ((m_up q1.2.1 304 13 (q1.2.1 304 15)) 304 15))]) (ml := 2) (k0 := 304) (by decide) (Or.inl rfl) (m_opb_of (ins := .invokevirtual 233) (len := 3) (tag := 5) (a := 231) (b := 1) (c := 0) (q := 1709) (by decide +kernel)) (by decide +kernel) rfl (show m_isO 231 304 (SH, _) = true from m_isO_of (by decide +kernel)) (Nat.le_of_ble_eq_true rfl) rfl rfl (ok_m_byteAt X (d + 0) F _ _ _ _ hc2) ?_
      refine m_R_sg (by decide) [(.istore_n 1, 1, 0, 1, 0, 0, 0), (.aload_n 0, 1, 0, 0, 0, 0, 0), (.iconst 4, 1, 0, 4, 0, 0, 0), (.putfield 239, 3, 0, 12, 12, 0, 1504), (.iload_n 1, 1, 0, 1, 0, 0, 0)] (by decide +kernel) (show m_sgl X _ _ _ _ _ = some (49, [some (.ref 304), some (.int q2.1), w2], [.int q2.1], (SH, (m_up q2.2.1 304 12 (4 : Int32)), q2.2.2)) from rfl) ?_
      rcases m_ite h with ⟨c312, h⟩ | ⟨c312, h⟩
      · refine m_R_1 (by decide) (m_opb_of (ins := .ifCond .ge 19) (len := 3) (tag := 0) (a := 68) (b := 0) (c := 0) (q := 0) (by decide +kernel)) (if_pos c312) ?_
        refine m_R_sg (by decide) [(.iload_n 1, 1, 0, 1, 0, 0, 0), (.bipush 97, 2, 0, 97, 0, 0, 0), (.bipush 122, 2, 0, 122, 0, 0, 0)] (by decide +kernel) (show m_sgl X _ _ _ _ _ = some (73, [some (.ref 304), some (.int q2.1), w2], [.int (122 : Int32), .int (97 : Int32), .int q2.1], (SH, (m_up q2.2.1 304 12 (4 : Int32)), q2.2.2)) from rfl) ?_
        obtain ⟨q3, hc3, h⟩ := Option.bind_eq_some_iff.mp h
        refine m_R_cS (v := (some (.int q3.1))) (h1 := (SH, q3.2)) (rest := []) (lo' := [some (.int q2.1), some (.int (97 : Int32)), some (.int (122 : Int32))]) (ml := 3) (by decide) (m_opb_of (ins := .invokestatic 57) (len := 3) (tag := 4) (a := 201) (b := 3) (c := 0) (q := 1590) (by decide +kernel)) (by decide +kernel) (Nat.le_of_ble_eq_true rfl) rfl (Nat.le_of_ble_eq_true rfl) rfl rfl (ok_m_in X (d + 0) F _ _ _ _ _ _ hc3) ?_
        rcases m_ite h with ⟨c313, h⟩ | ⟨c313, h⟩
        · refine m_R_1 (by decide) (m_opb_of (ins := .ifCond .eq 90) (len := 3) (tag := 0) (a := 166) (b := 0) (c := 0) (q := 0) (by decide +kernel)) (if_pos c313) ?_
          refine m_R_sg (by decide) [(.iload_n 1, 1, 0, 1, 0, 0, 0), (.bipush 48, 2, 0, 48, 0, 0, 0), (.bipush 57, 2, 0, 57, 0, 0, 0)] (by decide +kernel) (show m_sgl X _ _ _ _ _ = some (171, [some (.ref 304), some (.int q2.1), w2], [.int (57 : Int32), .int (48 : Int32), .int q2.1], (SH, q3.2.1, q3.2.2)) from rfl) ?_
          obtain ⟨q4, hc4, h⟩ := Option.bind_eq_some_iff.mp h
          refine m_R_cS (v := (some (.int q4.1))) (h1 := (SH, q4.2)) (rest := []) (lo' := [some (.int q2.1), some (.int (48 : Int32)), some (.int (57 : Int32))]) (ml := 3) (by decide) (m_opb_of (ins := .invokestatic 57) (len := 3) (tag := 4) (a := 201) (b := 3) (c := 0) (q := 1590) (by decide +kernel)) (by decide +kernel) (Nat.le_of_ble_eq_true rfl) rfl (Nat.le_of_ble_eq_true rfl) rfl rfl (ok_m_in X (d + 0) F _ _ _ _ _ _ hc4) ?_
          rcases m_ite h with ⟨c314, h⟩ | ⟨c314, h⟩
          · refine m_R_1 (by decide) (m_opb_of (ins := .ifCond .eq 104) (len := 3) (tag := 0) (a := 278) (b := 0) (c := 0) (q := 0) (by decide +kernel)) (if_pos c314) ?_
            refine m_R_sg (by decide) [(.iload_n 1, 1, 0, 1, 0, 0, 0), (.bipush 40, 2, 0, 40, 0, 0, 0)] (by decide +kernel) (show m_sgl X _ _ _ _ _ = some (281, [some (.ref 304), some (.int q2.1), w2], [.int (40 : Int32), .int q2.1], (SH, q4.2.1, q4.2.2)) from rfl) ?_
            rcases m_ite h with ⟨c315, h⟩ | ⟨c315, h⟩
            · refine m_R_1 (by decide) (m_opb_of (ins := .if_icmp .eq 57) (len := 3) (tag := 0) (a := 338) (b := 0) (c := 0) (q := 0) (by decide +kernel)) (if_pos c315) ?_
              exact ok_m_next_338 X d F _ _ _ _ _ h
            · refine m_R_1 (by decide) (m_opb_of (ins := .if_icmp .eq 57) (len := 3) (tag := 0) (a := 338) (b := 0) (c := 0) (q := 0) (by decide +kernel)) (if_neg c315) ?_
              refine m_R_sg (by decide) [(.iload_n 1, 1, 0, 1, 0, 0, 0), (.bipush 41, 2, 0, 41, 0, 0, 0)] (by decide +kernel) (show m_sgl X _ _ _ _ _ = some (287, [some (.ref 304), some (.int q2.1), w2], [.int (41 : Int32), .int q2.1], (SH, q4.2.1, q4.2.2)) from rfl) ?_
              rcases m_ite h with ⟨c316, h⟩ | ⟨c316, h⟩
              · refine m_R_1 (by decide) (m_opb_of (ins := .if_icmp .eq 51) (len := 3) (tag := 0) (a := 338) (b := 0) (c := 0) (q := 0) (by decide +kernel)) (if_pos c316) ?_
                exact ok_m_next_338 X d F _ _ _ _ _ h
              · refine m_R_1 (by decide) (m_opb_of (ins := .if_icmp .eq 51) (len := 3) (tag := 0) (a := 338) (b := 0) (c := 0) (q := 0) (by decide +kernel)) (if_neg c316) ?_
                refine m_R_sg (by decide) [(.iload_n 1, 1, 0, 1, 0, 0, 0), (.bipush 43, 2, 0, 43, 0, 0, 0)] (by decide +kernel) (show m_sgl X _ _ _ _ _ = some (293, [some (.ref 304), some (.int q2.1), w2], [.int (43 : Int32), .int q2.1], (SH, q4.2.1, q4.2.2)) from rfl) ?_
                rcases m_ite h with ⟨c317, h⟩ | ⟨c317, h⟩
                · refine m_R_1 (by decide) (m_opb_of (ins := .if_icmp .eq 45) (len := 3) (tag := 0) (a := 338) (b := 0) (c := 0) (q := 0) (by decide +kernel)) (if_pos c317) ?_
                  exact ok_m_next_338 X d F _ _ _ _ _ h
                · refine m_R_1 (by decide) (m_opb_of (ins := .if_icmp .eq 45) (len := 3) (tag := 0) (a := 338) (b := 0) (c := 0) (q := 0) (by decide +kernel)) (if_neg c317) ?_
                  refine m_R_sg (by decide) [(.iload_n 1, 1, 0, 1, 0, 0, 0), (.bipush 45, 2, 0, 45, 0, 0, 0)] (by decide +kernel) (show m_sgl X _ _ _ _ _ = some (299, [some (.ref 304), some (.int q2.1), w2], [.int (45 : Int32), .int q2.1], (SH, q4.2.1, q4.2.2)) from rfl) ?_
                  rcases m_ite h with ⟨c318, h⟩ | ⟨c318, h⟩
                  · refine m_R_1 (by decide) (m_opb_of (ins := .if_icmp .eq 39) (len := 3) (tag := 0) (a := 338) (b := 0) (c := 0) (q := 0) (by decide +kernel)) (if_pos c318) ?_
                    exact ok_m_next_338 X d F _ _ _ _ _ h
                  · refine m_R_1 (by decide) (m_opb_of (ins := .if_icmp .eq 39) (len := 3) (tag := 0) (a := 338) (b := 0) (c := 0) (q := 0) (by decide +kernel)) (if_neg c318) ?_
                    refine m_R_sg (by decide) [(.iload_n 1, 1, 0, 1, 0, 0, 0), (.bipush 42, 2, 0, 42, 0, 0, 0)] (by decide +kernel) (show m_sgl X _ _ _ _ _ = some (305, [some (.ref 304), some (.int q2.1), w2], [.int (42 : Int32), .int q2.1], (SH, q4.2.1, q4.2.2)) from rfl) ?_
                    rcases m_ite h with ⟨c319, h⟩ | ⟨c319, h⟩
                    · refine m_R_1 (by decide) (m_opb_of (ins := .if_icmp .eq 33) (len := 3) (tag := 0) (a := 338) (b := 0) (c := 0) (q := 0) (by decide +kernel)) (if_pos c319) ?_
                      exact ok_m_next_338 X d F _ _ _ _ _ h
                    · refine m_R_1 (by decide) (m_opb_of (ins := .if_icmp .eq 33) (len := 3) (tag := 0) (a := 338) (b := 0) (c := 0) (q := 0) (by decide +kernel)) (if_neg c319) ?_
                      refine m_R_sg (by decide) [(.iload_n 1, 1, 0, 1, 0, 0, 0), (.bipush 47, 2, 0, 47, 0, 0, 0)] (by decide +kernel) (show m_sgl X _ _ _ _ _ = some (311, [some (.ref 304), some (.int q2.1), w2], [.int (47 : Int32), .int q2.1], (SH, q4.2.1, q4.2.2)) from rfl) ?_
                      rcases m_ite h with ⟨c320, h⟩ | ⟨c320, h⟩
                      · refine m_R_1 (by decide) (m_opb_of (ins := .if_icmp .eq 27) (len := 3) (tag := 0) (a := 338) (b := 0) (c := 0) (q := 0) (by decide +kernel)) (if_pos c320) ?_
                        exact ok_m_next_338 X d F _ _ _ _ _ h
                      · refine m_R_1 (by decide) (m_opb_of (ins := .if_icmp .eq 27) (len := 3) (tag := 0) (a := 338) (b := 0) (c := 0) (q := 0) (by decide +kernel)) (if_neg c320) ?_
                        refine m_R_sg (by decide) [(.iload_n 1, 1, 0, 1, 0, 0, 0), (.bipush 37, 2, 0, 37, 0, 0, 0)] (by decide +kernel) (show m_sgl X _ _ _ _ _ = some (317, [some (.ref 304), some (.int q2.1), w2], [.int (37 : Int32), .int q2.1], (SH, q4.2.1, q4.2.2)) from rfl) ?_
                        rcases m_ite h with ⟨c321, h⟩ | ⟨c321, h⟩
                        · refine m_R_1 (by decide) (m_opb_of (ins := .if_icmp .eq 21) (len := 3) (tag := 0) (a := 338) (b := 0) (c := 0) (q := 0) (by decide +kernel)) (if_pos c321) ?_
                          exact ok_m_next_338 X d F _ _ _ _ _ h
                        · refine m_R_1 (by decide) (m_opb_of (ins := .if_icmp .eq 21) (len := 3) (tag := 0) (a := 338) (b := 0) (c := 0) (q := 0) (by decide +kernel)) (if_neg c321) ?_
                          refine m_R_sg (by decide) [(.iload_n 1, 1, 0, 1, 0, 0, 0), (.bipush 61, 2, 0, 61, 0, 0, 0)] (by decide +kernel) (show m_sgl X _ _ _ _ _ = some (323, [some (.ref 304), some (.int q2.1), w2], [.int (61 : Int32), .int q2.1], (SH, q4.2.1, q4.2.2)) from rfl) ?_
                          rcases m_ite h with ⟨c322, h⟩ | ⟨c322, h⟩
                          · refine m_R_1 (by decide) (m_opb_of (ins := .if_icmp .eq 15) (len := 3) (tag := 0) (a := 338) (b := 0) (c := 0) (q := 0) (by decide +kernel)) (if_pos c322) ?_
                            exact ok_m_next_338 X d F _ _ _ _ _ h
                          · refine m_R_1 (by decide) (m_opb_of (ins := .if_icmp .eq 15) (len := 3) (tag := 0) (a := 338) (b := 0) (c := 0) (q := 0) (by decide +kernel)) (if_neg c322) ?_
                            refine m_R_sg (by decide) [(.iload_n 1, 1, 0, 1, 0, 0, 0), (.bipush 60, 2, 0, 60, 0, 0, 0)] (by decide +kernel) (show m_sgl X _ _ _ _ _ = some (329, [some (.ref 304), some (.int q2.1), w2], [.int (60 : Int32), .int q2.1], (SH, q4.2.1, q4.2.2)) from rfl) ?_
                            rcases m_ite h with ⟨c323, h⟩ | ⟨c323, h⟩
                            · refine m_R_1 (by decide) (m_opb_of (ins := .if_icmp .eq 9) (len := 3) (tag := 0) (a := 338) (b := 0) (c := 0) (q := 0) (by decide +kernel)) (if_pos c323) ?_
                              exact ok_m_next_338 X d F _ _ _ _ _ h
                            · refine m_R_1 (by decide) (m_opb_of (ins := .if_icmp .eq 9) (len := 3) (tag := 0) (a := 338) (b := 0) (c := 0) (q := 0) (by decide +kernel)) (if_neg c323) ?_
                              refine m_R_sg (by decide) [(.iload_n 1, 1, 0, 1, 0, 0, 0), (.bipush 62, 2, 0, 62, 0, 0, 0)] (by decide +kernel) (show m_sgl X _ _ _ _ _ = some (335, [some (.ref 304), some (.int q2.1), w2], [.int (62 : Int32), .int q2.1], (SH, q4.2.1, q4.2.2)) from rfl) ?_
                              rcases m_ite h with ⟨c324, h⟩ | ⟨c324, h⟩
                              · refine m_R_1 (by decide) (m_opb_of (ins := .if_icmp .ne 24) (len := 3) (tag := 0) (a := 359) (b := 0) (c := 0) (q := 0) (by decide +kernel)) (if_pos c324) ?_
                                exact ok_m_next_338 X d F _ _ _ _ _ h
                              · refine m_R_1 (by decide) (m_opb_of (ins := .if_icmp .ne 24) (len := 3) (tag := 0) (a := 359) (b := 0) (c := 0) (q := 0) (by decide +kernel)) (if_neg c324) ?_
                                exact ok_m_next_359 X d F _ _ _ _ _ _ h
          · refine m_R_1 (by decide) (m_opb_of (ins := .ifCond .eq 104) (len := 3) (tag := 0) (a := 278) (b := 0) (c := 0) (q := 0) (by decide +kernel)) (if_neg c314) ?_
            refine m_R_sg (by decide) [(.aload_n 0, 1, 0, 0, 0, 0, 0), (.iconst 2, 1, 0, 2, 0, 0, 0), (.putfield 239, 3, 0, 12, 12, 0, 1504), (.aload_n 0, 1, 0, 0, 0, 0, 0), (.lconst 0, 1, 0, 0, 0, 0, 0), (.putfield 242, 3, 0, 12, 14, 2, 1506), (.iconst 0, 1, 0, 0, 0, 0, 0), (.istore_n 2, 1, 0, 2, 0, 0, 0)] (by decide +kernel) (show m_sgl X _ _ _ _ _ = some (189, [some (.ref 304), some (.int q2.1), some (.int (0 : Int32))], [], (SH, (m_up q4.2.1 304 12 (2 : Int32)), (m_upl q4.2.2 304 (0 : Int64)))) from rfl) ?_
            exact ok_m_next_189 X d F F _ _ _ _ _ h
        · refine m_R_1 (by decide) (m_opb_of (ins := .ifCond .eq 90) (len := 3) (tag := 0) (a := 166) (b := 0) (c := 0) (q := 0) (by decide +kernel)) (if_neg c313) ?_
          refine m_R_sg (by decide) [(.aload_n 0, 1, 0, 0, 0, 0, 0), (.iconst 1, 1, 0, 1, 0, 0, 0), (.putfield 239, 3, 0, 12, 12, 0, 1504), (.aload_n 0, 1, 0, 0, 0, 0, 0), (.lconst 0, 1, 0, 0, 0, 0, 0), (.putfield 242, 3, 0, 12, 14, 2, 1506), (.iconst 0, 1, 0, 0, 0, 0, 0), (.istore_n 2, 1, 0, 2, 0, 0, 0)] (by decide +kernel) (show m_sgl X _ _ _ _ _ = some (91, [some (.ref 304), some (.int q2.1), some (.int (0 : Int32))], [], (SH, (m_up q3.2.1 304 12 (1 : Int32)), (m_upl q3.2.2 304 (0 : Int64)))) from rfl) ?_
          exact ok_m_next_91 X d F F _ _ _ _ _ h
      · refine m_R_1 (by decide) (m_opb_of (ins := .ifCond .ge 19) (len := 3) (tag := 0) (a := 68) (b := 0) (c := 0) (q := 0) (by decide +kernel)) (if_neg c312) ?_
        refine m_R_sg (by decide) [(.aload_n 0, 1, 0, 0, 0, 0, 0), (.iconst 0, 1, 0, 0, 0, 0, 0), (.putfield 239, 3, 0, 12, 12, 0, 1504), (.aload_n 0, 1, 0, 0, 0, 0, 0), (.aload_n 0, 1, 0, 0, 0, 0, 0), (.getfield 227, 3, 0, 12, 11, 0, 1503), (.putfield 236, 3, 0, 12, 13, 0, 1505), (.goto 294, 3, 0, 359, 0, 0, 0)] (by decide +kernel) (show m_sgl X _ _ _ _ _ = some (359, [some (.ref 304), some (.int q2.1), w2], [], (SH, (m_up (m_up (m_up q2.2.1 304 12 (4 : Int32)) 304 12 (0 : Int32)) 304 13 ((m_up (m_up q2.2.1 304 12 (4 : Int32)) 304 12 (0 : Int32)) 304 11)), q2.2.2)) from rfl) ?_
        exact ok_m_next_359 X d F _ _ _ _ _ _ h
def f_m_next (F : Nat)    (m : mM) : Option (Unit × mM) := f_m_next_0 F F m
theorem ok_m_next (X : mX) (d F : Nat) : ∀   (m : mM) (r : Unit) (m' : mM), f_m_next F  m = some (r, m') → m_R X (d + 1) 230 0 [some (.ref 304), none, none] [] (SH, m) (none, (SH, m')) := by
  intro m r m' h
  unfold f_m_next at h
  exact ok_m_next_0 X d F F _ _ _ _ _ h
def f_m_isWord_29 (F : Nat)   (s0 : Int32) (m : mM) : Option (Int32 × mM) := (if s0 = 0 ∨ s0 = 1 then some (s0, m) else none)
theorem ok_m_isWord_29 (X : mX) (d F : Nat) : ∀ (s0 : Int32) (w0 : Option Value) (w1 : Option Value) (w2 : Option Value) (m : mM) (r : Int32) (m' : mM), f_m_isWord_29 F s0 m = some (r, m') → m_R X (d + 0) 233 29 [w0, w1, w2] [.int s0] (SH, m) (some (.int r), (SH, m')) := by
  intro s0 w0 w1 w2 m r m' h
  unfold f_m_isWord_29 at h
  obtain ⟨c0, h⟩ := m_ite_p h
  obtain ⟨rfl, rfl⟩ := m_some h
  exact m_R_iret (by decide) (m_opb_of (ins := .ireturn) (len := 1) (tag := 1) (a := 1) (b := 0) (c := 0) (q := 0) (by decide +kernel)) (Or.inr c0)
def f_m_isWord_28 (F : Nat)    (m : mM) : Option (Int32 × mM) := f_m_isWord_29 F (0 : Int32) m
theorem ok_m_isWord_28 (X : mX) (d F : Nat) : ∀  (w0 : Option Value) (w1 : Option Value) (w2 : Option Value) (m : mM) (r : Int32) (m' : mM), f_m_isWord_28 F  m = some (r, m') → m_R X (d + 0) 233 28 [w0, w1, w2] [] (SH, m) (some (.int r), (SH, m')) := by
  intro w0 w1 w2 m r m' h
  unfold f_m_isWord_28 at h
  refine m_R_sg (by decide) [(.iconst 0, 1, 0, 0, 0, 0, 0)] (by decide +kernel) (show m_sgl X _ _ _ _ _ = some (29, [w0, w1, w2], [.int (0 : Int32)], (SH, m.1, m.2)) from rfl) ?_
  exact ok_m_isWord_29 X d F _ _ _ _ _ _ _ h
def f_m_isWord (F : Nat)   (v1 : Int64) (m : mM) : Option (Int32 × mM) := (if (m.1 304 17) = 0 then (if (m.1 304 12) = (1 : Int32) then (if (lg_cmp (m.2 304) v1) = 0 then f_m_isWord_29 F (1 : Int32) m else f_m_isWord_28 F m) else f_m_isWord_28 F m) else f_m_isWord_28 F m)
theorem ok_m_isWord (X : mX) (d F : Nat) : ∀ (v1 : Int64)  (m : mM) (r : Int32) (m' : mM), f_m_isWord F v1 m = some (r, m') → m_R X (d + 0) 233 0 [some (.ref 304), some (.long v1), none] [] (SH, m) (some (.int r), (SH, m')) := by
  intro v1 m r m' h
  unfold f_m_isWord at h
  refine m_R_sg (by decide) [(.aload_n 0, 1, 0, 0, 0, 0, 0), (.getfield 256, 3, 0, 12, 17, 1, 1509)] (by decide +kernel) (show m_sgl X _ _ _ _ _ = some (4, [some (.ref 304), some (.long v1), none], [.int (m.1 304 17)], (SH, m.1, m.2)) from rfl) ?_
  rcases m_ite h with ⟨c325, h⟩ | ⟨c325, h⟩
  · refine m_R_1 (by decide) (m_opb_of (ins := .ifCond .ne 24) (len := 3) (tag := 0) (a := 28) (b := 0) (c := 0) (q := 0) (by decide +kernel)) (if_pos c325) ?_
    refine m_R_sg (by decide) [(.aload_n 0, 1, 0, 0, 0, 0, 0), (.getfield 239, 3, 0, 12, 12, 0, 1504), (.iconst 1, 1, 0, 1, 0, 0, 0)] (by decide +kernel) (show m_sgl X _ _ _ _ _ = some (12, [some (.ref 304), some (.long v1), none], [.int (1 : Int32), .int (m.1 304 12)], (SH, m.1, m.2)) from rfl) ?_
    rcases m_ite h with ⟨c326, h⟩ | ⟨c326, h⟩
    · refine m_R_1 (by decide) (m_opb_of (ins := .if_icmp .ne 16) (len := 3) (tag := 0) (a := 28) (b := 0) (c := 0) (q := 0) (by decide +kernel)) (if_pos c326) ?_
      refine m_R_sg (by decide) [(.aload_n 0, 1, 0, 0, 0, 0, 0), (.getfield 242, 3, 0, 12, 14, 2, 1506), (.lload_n 1, 1, 0, 1, 0, 0, 0), (.lcmp, 1, 0, 0, 0, 0, 0)] (by decide +kernel) (show m_sgl X _ _ _ _ _ = some (21, [some (.ref 304), some (.long v1), none], [.int (lg_cmp (m.2 304) v1)], (SH, m.1, m.2)) from rfl) ?_
      rcases m_ite h with ⟨c327, h⟩ | ⟨c327, h⟩
      · refine m_R_1 (by decide) (m_opb_of (ins := .ifCond .ne 7) (len := 3) (tag := 0) (a := 28) (b := 0) (c := 0) (q := 0) (by decide +kernel)) (if_pos c327) ?_
        refine m_R_sg (by decide) [(.iconst 1, 1, 0, 1, 0, 0, 0), (.goto 4, 3, 0, 29, 0, 0, 0)] (by decide +kernel) (show m_sgl X _ _ _ _ _ = some (29, [some (.ref 304), some (.long v1), none], [.int (1 : Int32)], (SH, m.1, m.2)) from rfl) ?_
        exact ok_m_isWord_29 X d F _ _ _ _ _ _ _ h
      · refine m_R_1 (by decide) (m_opb_of (ins := .ifCond .ne 7) (len := 3) (tag := 0) (a := 28) (b := 0) (c := 0) (q := 0) (by decide +kernel)) (if_neg c327) ?_
        exact ok_m_isWord_28 X d F _ _ _ _ _ _ h
    · refine m_R_1 (by decide) (m_opb_of (ins := .if_icmp .ne 16) (len := 3) (tag := 0) (a := 28) (b := 0) (c := 0) (q := 0) (by decide +kernel)) (if_neg c326) ?_
      exact ok_m_isWord_28 X d F _ _ _ _ _ _ h
  · refine m_R_1 (by decide) (m_opb_of (ins := .ifCond .ne 24) (len := 3) (tag := 0) (a := 28) (b := 0) (c := 0) (q := 0) (by decide +kernel)) (if_neg c325) ?_
    exact ok_m_isWord_28 X d F _ _ _ _ _ _ h
def f_m_keyHere_100 (F : Nat)   (s0 : Int32) (m : mM) : Option (Int32 × mM) := some (s0, m)
theorem ok_m_keyHere_100 (X : mX) (d F : Nat) : ∀ (s0 : Int32) (w0 : Option Value) (m : mM) (r : Int32) (m' : mM), f_m_keyHere_100 F s0 m = some (r, m') → m_R X (d + 1) 232 100 [w0] [.int s0] (SH, m) (some (.int r), (SH, m')) := by
  intro s0 w0 m r m' h
  unfold f_m_keyHere_100 at h
  obtain ⟨rfl, rfl⟩ := m_some h
  exact m_R_iret (by decide) (m_opb_of (ins := .ireturn) (len := 1) (tag := 1) (a := 0) (b := 0) (c := 0) (q := 0) (by decide +kernel)) (Or.inl rfl)
def f_m_keyHere (F : Nat)    (m : mM) : Option (Int32 × mM) := ((f_m_isWord F (11522 : Int64) m).bind fun q1 => (if q1.1 = 0 then ((f_m_isWord F (355568 : Int64) q1.2).bind fun q2 => (if q2.1 = 0 then ((f_m_isWord F (2050 : Int64) q2.2).bind fun q3 => (if q3.1 = 0 then ((f_m_isWord F (240223 : Int64) q3.2).bind fun q4 => (if q4.1 = 0 then ((f_m_isWord F (164138 : Int64) q4.2).bind fun q5 => (if q5.1 = 0 then ((f_m_isWord F (380237 : Int64) q5.2).bind fun q6 => (if q6.1 = 0 then ((f_m_isWord F (242939 : Int64) q6.2).bind fun q7 => (if q7.1 = 0 then f_m_keyHere_100 F (-1 : Int32) q7.2 else f_m_keyHere_100 F (6 : Int32) q7.2)) else f_m_keyHere_100 F (5 : Int32) q6.2)) else f_m_keyHere_100 F (4 : Int32) q5.2)) else f_m_keyHere_100 F (3 : Int32) q4.2)) else f_m_keyHere_100 F (2 : Int32) q3.2)) else f_m_keyHere_100 F (1 : Int32) q2.2)) else f_m_keyHere_100 F (0 : Int32) q1.2))
theorem ok_m_keyHere (X : mX) (d F : Nat) : ∀   (m : mM) (r : Int32) (m' : mM), f_m_keyHere F  m = some (r, m') → m_R X (d + 1) 232 0 [some (.ref 304)] [] (SH, m) (some (.int r), (SH, m')) := by
  intro m r m' h
  unfold f_m_keyHere at h
  refine m_R_sg (by decide) [(.aload_n 0, 1, 0, 0, 0, 0, 0), (.ldc2_w 344, 3, 0, 11522, 0, 0, 1722)] (by decide +kernel) (show m_sgl X _ _ _ _ _ = some (4, [some (.ref 304)], [.long (11522 : Int64), .ref 304], (SH, m.1, m.2)) from rfl) ?_
  obtain ⟨q1, hc1, h⟩ := Option.bind_eq_some_iff.mp h
  refine m_R_cV (v := (some (.int q1.1))) (h1 := (SH, q1.2)) (rest := []) (lo' := [some (.ref 304), some (.long (11522 : Int64)), none]) (ml := 3) (k0 := 304) (by decide) (Or.inl rfl) (m_opb_of (ins := .invokevirtual 273) (len := 3) (tag := 5) (a := 233) (b := 1) (c := 0) (q := 1723) (by decide +kernel)) (by decide +kernel) rfl (show m_isO 233 304 (SH, _) = true from m_isO_of (by decide +kernel)) (Nat.le_of_ble_eq_true rfl) rfl rfl (ok_m_isWord X (d + 0) F _ _ _ _ hc1) ?_
  rcases m_ite h with ⟨c328, h⟩ | ⟨c328, h⟩
  · refine m_R_1 (by decide) (m_opb_of (ins := .ifCond .eq 7) (len := 3) (tag := 0) (a := 14) (b := 0) (c := 0) (q := 0) (by decide +kernel)) (if_pos c328) ?_
    refine m_R_sg (by decide) [(.aload_n 0, 1, 0, 0, 0, 0, 0), (.ldc2_w 346, 3, 0, 355568, 0, 0, 1727)] (by decide +kernel) (show m_sgl X _ _ _ _ _ = some (18, [some (.ref 304)], [.long (355568 : Int64), .ref 304], (SH, q1.2.1, q1.2.2)) from rfl) ?_
    obtain ⟨q2, hc2, h⟩ := Option.bind_eq_some_iff.mp h
    refine m_R_cV (v := (some (.int q2.1))) (h1 := (SH, q2.2)) (rest := []) (lo' := [some (.ref 304), some (.long (355568 : Int64)), none]) (ml := 3) (k0 := 304) (by decide) (Or.inl rfl) (m_opb_of (ins := .invokevirtual 273) (len := 3) (tag := 5) (a := 233) (b := 1) (c := 0) (q := 1723) (by decide +kernel)) (by decide +kernel) rfl (show m_isO 233 304 (SH, _) = true from m_isO_of (by decide +kernel)) (Nat.le_of_ble_eq_true rfl) rfl rfl (ok_m_isWord X (d + 0) F _ _ _ _ hc2) ?_
    rcases m_ite h with ⟨c329, h⟩ | ⟨c329, h⟩
    · refine m_R_1 (by decide) (m_opb_of (ins := .ifCond .eq 7) (len := 3) (tag := 0) (a := 28) (b := 0) (c := 0) (q := 0) (by decide +kernel)) (if_pos c329) ?_
      refine m_R_sg (by decide) [(.aload_n 0, 1, 0, 0, 0, 0, 0), (.ldc2_w 348, 3, 0, 2050, 0, 0, 1728)] (by decide +kernel) (show m_sgl X _ _ _ _ _ = some (32, [some (.ref 304)], [.long (2050 : Int64), .ref 304], (SH, q2.2.1, q2.2.2)) from rfl) ?_
      obtain ⟨q3, hc3, h⟩ := Option.bind_eq_some_iff.mp h
      refine m_R_cV (v := (some (.int q3.1))) (h1 := (SH, q3.2)) (rest := []) (lo' := [some (.ref 304), some (.long (2050 : Int64)), none]) (ml := 3) (k0 := 304) (by decide) (Or.inl rfl) (m_opb_of (ins := .invokevirtual 273) (len := 3) (tag := 5) (a := 233) (b := 1) (c := 0) (q := 1723) (by decide +kernel)) (by decide +kernel) rfl (show m_isO 233 304 (SH, _) = true from m_isO_of (by decide +kernel)) (Nat.le_of_ble_eq_true rfl) rfl rfl (ok_m_isWord X (d + 0) F _ _ _ _ hc3) ?_
      rcases m_ite h with ⟨c330, h⟩ | ⟨c330, h⟩
      · refine m_R_1 (by decide) (m_opb_of (ins := .ifCond .eq 7) (len := 3) (tag := 0) (a := 42) (b := 0) (c := 0) (q := 0) (by decide +kernel)) (if_pos c330) ?_
        refine m_R_sg (by decide) [(.aload_n 0, 1, 0, 0, 0, 0, 0), (.ldc2_w 350, 3, 0, 240223, 0, 0, 1729)] (by decide +kernel) (show m_sgl X _ _ _ _ _ = some (46, [some (.ref 304)], [.long (240223 : Int64), .ref 304], (SH, q3.2.1, q3.2.2)) from rfl) ?_
        obtain ⟨q4, hc4, h⟩ := Option.bind_eq_some_iff.mp h
        refine m_R_cV (v := (some (.int q4.1))) (h1 := (SH, q4.2)) (rest := []) (lo' := [some (.ref 304), some (.long (240223 : Int64)), none]) (ml := 3) (k0 := 304) (by decide) (Or.inl rfl) (m_opb_of (ins := .invokevirtual 273) (len := 3) (tag := 5) (a := 233) (b := 1) (c := 0) (q := 1723) (by decide +kernel)) (by decide +kernel) rfl (show m_isO 233 304 (SH, _) = true from m_isO_of (by decide +kernel)) (Nat.le_of_ble_eq_true rfl) rfl rfl (ok_m_isWord X (d + 0) F _ _ _ _ hc4) ?_
        rcases m_ite h with ⟨c331, h⟩ | ⟨c331, h⟩
        · refine m_R_1 (by decide) (m_opb_of (ins := .ifCond .eq 7) (len := 3) (tag := 0) (a := 56) (b := 0) (c := 0) (q := 0) (by decide +kernel)) (if_pos c331) ?_
          refine m_R_sg (by decide) [(.aload_n 0, 1, 0, 0, 0, 0, 0), (.ldc2_w 352, 3, 0, 164138, 0, 0, 1730)] (by decide +kernel) (show m_sgl X _ _ _ _ _ = some (60, [some (.ref 304)], [.long (164138 : Int64), .ref 304], (SH, q4.2.1, q4.2.2)) from rfl) ?_
          obtain ⟨q5, hc5, h⟩ := Option.bind_eq_some_iff.mp h
          refine m_R_cV (v := (some (.int q5.1))) (h1 := (SH, q5.2)) (rest := []) (lo' := [some (.ref 304), some (.long (164138 : Int64)), none]) (ml := 3) (k0 := 304) (by decide) (Or.inl rfl) (m_opb_of (ins := .invokevirtual 273) (len := 3) (tag := 5) (a := 233) (b := 1) (c := 0) (q := 1723) (by decide +kernel)) (by decide +kernel) rfl (show m_isO 233 304 (SH, _) = true from m_isO_of (by decide +kernel)) (Nat.le_of_ble_eq_true rfl) rfl rfl (ok_m_isWord X (d + 0) F _ _ _ _ hc5) ?_
          rcases m_ite h with ⟨c332, h⟩ | ⟨c332, h⟩
          · refine m_R_1 (by decide) (m_opb_of (ins := .ifCond .eq 7) (len := 3) (tag := 0) (a := 70) (b := 0) (c := 0) (q := 0) (by decide +kernel)) (if_pos c332) ?_
            refine m_R_sg (by decide) [(.aload_n 0, 1, 0, 0, 0, 0, 0), (.ldc2_w 354, 3, 0, 380237, 0, 0, 1731)] (by decide +kernel) (show m_sgl X _ _ _ _ _ = some (74, [some (.ref 304)], [.long (380237 : Int64), .ref 304], (SH, q5.2.1, q5.2.2)) from rfl) ?_
            obtain ⟨q6, hc6, h⟩ := Option.bind_eq_some_iff.mp h
            refine m_R_cV (v := (some (.int q6.1))) (h1 := (SH, q6.2)) (rest := []) (lo' := [some (.ref 304), some (.long (380237 : Int64)), none]) (ml := 3) (k0 := 304) (by decide) (Or.inl rfl) (m_opb_of (ins := .invokevirtual 273) (len := 3) (tag := 5) (a := 233) (b := 1) (c := 0) (q := 1723) (by decide +kernel)) (by decide +kernel) rfl (show m_isO 233 304 (SH, _) = true from m_isO_of (by decide +kernel)) (Nat.le_of_ble_eq_true rfl) rfl rfl (ok_m_isWord X (d + 0) F _ _ _ _ hc6) ?_
            rcases m_ite h with ⟨c333, h⟩ | ⟨c333, h⟩
            · refine m_R_1 (by decide) (m_opb_of (ins := .ifCond .eq 7) (len := 3) (tag := 0) (a := 84) (b := 0) (c := 0) (q := 0) (by decide +kernel)) (if_pos c333) ?_
              refine m_R_sg (by decide) [(.aload_n 0, 1, 0, 0, 0, 0, 0), (.ldc2_w 356, 3, 0, 242939, 0, 0, 1732)] (by decide +kernel) (show m_sgl X _ _ _ _ _ = some (88, [some (.ref 304)], [.long (242939 : Int64), .ref 304], (SH, q6.2.1, q6.2.2)) from rfl) ?_
              obtain ⟨q7, hc7, h⟩ := Option.bind_eq_some_iff.mp h
              refine m_R_cV (v := (some (.int q7.1))) (h1 := (SH, q7.2)) (rest := []) (lo' := [some (.ref 304), some (.long (242939 : Int64)), none]) (ml := 3) (k0 := 304) (by decide) (Or.inl rfl) (m_opb_of (ins := .invokevirtual 273) (len := 3) (tag := 5) (a := 233) (b := 1) (c := 0) (q := 1723) (by decide +kernel)) (by decide +kernel) rfl (show m_isO 233 304 (SH, _) = true from m_isO_of (by decide +kernel)) (Nat.le_of_ble_eq_true rfl) rfl rfl (ok_m_isWord X (d + 0) F _ _ _ _ hc7) ?_
              rcases m_ite h with ⟨c334, h⟩ | ⟨c334, h⟩
              · refine m_R_1 (by decide) (m_opb_of (ins := .ifCond .eq 8) (len := 3) (tag := 0) (a := 99) (b := 0) (c := 0) (q := 0) (by decide +kernel)) (if_pos c334) ?_
                refine m_R_sg (by decide) [(.iconst (-1), 1, 0, 1, 1, 0, 0)] (by decide +kernel) (show m_sgl X _ _ _ _ _ = some (100, [some (.ref 304)], [.int (-1 : Int32)], (SH, q7.2.1, q7.2.2)) from rfl) ?_
                exact ok_m_keyHere_100 X d F _ _ _ _ _ h
              · refine m_R_1 (by decide) (m_opb_of (ins := .ifCond .eq 8) (len := 3) (tag := 0) (a := 99) (b := 0) (c := 0) (q := 0) (by decide +kernel)) (if_neg c334) ?_
                refine m_R_sg (by decide) [(.bipush 6, 2, 0, 6, 0, 0, 0), (.goto 4, 3, 0, 100, 0, 0, 0)] (by decide +kernel) (show m_sgl X _ _ _ _ _ = some (100, [some (.ref 304)], [.int (6 : Int32)], (SH, q7.2.1, q7.2.2)) from rfl) ?_
                exact ok_m_keyHere_100 X d F _ _ _ _ _ h
            · refine m_R_1 (by decide) (m_opb_of (ins := .ifCond .eq 7) (len := 3) (tag := 0) (a := 84) (b := 0) (c := 0) (q := 0) (by decide +kernel)) (if_neg c333) ?_
              refine m_R_sg (by decide) [(.iconst 5, 1, 0, 5, 0, 0, 0), (.goto 19, 3, 0, 100, 0, 0, 0)] (by decide +kernel) (show m_sgl X _ _ _ _ _ = some (100, [some (.ref 304)], [.int (5 : Int32)], (SH, q6.2.1, q6.2.2)) from rfl) ?_
              exact ok_m_keyHere_100 X d F _ _ _ _ _ h
          · refine m_R_1 (by decide) (m_opb_of (ins := .ifCond .eq 7) (len := 3) (tag := 0) (a := 70) (b := 0) (c := 0) (q := 0) (by decide +kernel)) (if_neg c332) ?_
            refine m_R_sg (by decide) [(.iconst 4, 1, 0, 4, 0, 0, 0), (.goto 33, 3, 0, 100, 0, 0, 0)] (by decide +kernel) (show m_sgl X _ _ _ _ _ = some (100, [some (.ref 304)], [.int (4 : Int32)], (SH, q5.2.1, q5.2.2)) from rfl) ?_
            exact ok_m_keyHere_100 X d F _ _ _ _ _ h
        · refine m_R_1 (by decide) (m_opb_of (ins := .ifCond .eq 7) (len := 3) (tag := 0) (a := 56) (b := 0) (c := 0) (q := 0) (by decide +kernel)) (if_neg c331) ?_
          refine m_R_sg (by decide) [(.iconst 3, 1, 0, 3, 0, 0, 0), (.goto 47, 3, 0, 100, 0, 0, 0)] (by decide +kernel) (show m_sgl X _ _ _ _ _ = some (100, [some (.ref 304)], [.int (3 : Int32)], (SH, q4.2.1, q4.2.2)) from rfl) ?_
          exact ok_m_keyHere_100 X d F _ _ _ _ _ h
      · refine m_R_1 (by decide) (m_opb_of (ins := .ifCond .eq 7) (len := 3) (tag := 0) (a := 42) (b := 0) (c := 0) (q := 0) (by decide +kernel)) (if_neg c330) ?_
        refine m_R_sg (by decide) [(.iconst 2, 1, 0, 2, 0, 0, 0), (.goto 61, 3, 0, 100, 0, 0, 0)] (by decide +kernel) (show m_sgl X _ _ _ _ _ = some (100, [some (.ref 304)], [.int (2 : Int32)], (SH, q3.2.1, q3.2.2)) from rfl) ?_
        exact ok_m_keyHere_100 X d F _ _ _ _ _ h
    · refine m_R_1 (by decide) (m_opb_of (ins := .ifCond .eq 7) (len := 3) (tag := 0) (a := 28) (b := 0) (c := 0) (q := 0) (by decide +kernel)) (if_neg c329) ?_
      refine m_R_sg (by decide) [(.iconst 1, 1, 0, 1, 0, 0, 0), (.goto 75, 3, 0, 100, 0, 0, 0)] (by decide +kernel) (show m_sgl X _ _ _ _ _ = some (100, [some (.ref 304)], [.int (1 : Int32)], (SH, q2.2.1, q2.2.2)) from rfl) ?_
      exact ok_m_keyHere_100 X d F _ _ _ _ _ h
  · refine m_R_1 (by decide) (m_opb_of (ins := .ifCond .eq 7) (len := 3) (tag := 0) (a := 14) (b := 0) (c := 0) (q := 0) (by decide +kernel)) (if_neg c328) ?_
    refine m_R_sg (by decide) [(.iconst 0, 1, 0, 0, 0, 0, 0), (.goto 89, 3, 0, 100, 0, 0, 0)] (by decide +kernel) (show m_sgl X _ _ _ _ _ = some (100, [some (.ref 304)], [.int (0 : Int32)], (SH, q1.2.1, q1.2.2)) from rfl) ?_
    exact ok_m_keyHere_100 X d F _ _ _ _ _ h
def f_m_fail_20 (F : Nat)    (m : mM) : Option (Unit × mM) := some ((), m)
theorem ok_m_fail_20 (X : mX) (d F : Nat) : ∀  (w0 : Option Value) (m : mM) (r : Unit) (m' : mM), f_m_fail_20 F  m = some (r, m') → m_R X (d + 0) 234 20 [w0] [] (SH, m) (none, (SH, m')) := by
  intro w0 m r m' h
  unfold f_m_fail_20 at h
  obtain ⟨rfl, rfl⟩ := m_some h
  exact m_R_vret (by decide) (m_opb_of (ins := .return_) (len := 1) (tag := 3) (a := 0) (b := 0) (c := 0) (q := 0) (by decide +kernel))
def f_m_fail (F : Nat)    (m : mM) : Option (Unit × mM) := (if (m.1 304 17) = 0 then f_m_fail_20 F ((m_up (m_up m.1 304 17 (1 : Int32)) 304 18 ((m_up m.1 304 17 (1 : Int32)) 304 13)), m.2) else f_m_fail_20 F m)
theorem ok_m_fail (X : mX) (d F : Nat) : ∀   (m : mM) (r : Unit) (m' : mM), f_m_fail F  m = some (r, m') → m_R X (d + 0) 234 0 [some (.ref 304)] [] (SH, m) (none, (SH, m')) := by
  intro m r m' h
  unfold f_m_fail at h
  refine m_R_sg (by decide) [(.aload_n 0, 1, 0, 0, 0, 0, 0), (.getfield 256, 3, 0, 12, 17, 1, 1509)] (by decide +kernel) (show m_sgl X _ _ _ _ _ = some (4, [some (.ref 304)], [.int (m.1 304 17)], (SH, m.1, m.2)) from rfl) ?_
  rcases m_ite h with ⟨c335, h⟩ | ⟨c335, h⟩
  · refine m_R_1 (by decide) (m_opb_of (ins := .ifCond .ne 16) (len := 3) (tag := 0) (a := 20) (b := 0) (c := 0) (q := 0) (by decide +kernel)) (if_pos c335) ?_
    refine m_R_sg (by decide) [(.aload_n 0, 1, 0, 0, 0, 0, 0), (.iconst 1, 1, 0, 1, 0, 0, 0), (.putfield 256, 3, 0, 12, 17, 1, 1509), (.aload_n 0, 1, 0, 0, 0, 0, 0), (.aload_n 0, 1, 0, 0, 0, 0, 0), (.getfield 236, 3, 0, 12, 13, 0, 1505), (.putfield 260, 3, 0, 12, 18, 0, 1510)] (by decide +kernel) (show m_sgl X _ _ _ _ _ = some (20, [some (.ref 304)], [], (SH, (m_up (m_up m.1 304 17 (1 : Int32)) 304 18 ((m_up m.1 304 17 (1 : Int32)) 304 13)), m.2)) from rfl) ?_
    exact ok_m_fail_20 X d F _ _ _ _ h
  · refine m_R_1 (by decide) (m_opb_of (ins := .ifCond .ne 16) (len := 3) (tag := 0) (a := 20) (b := 0) (c := 0) (q := 0) (by decide +kernel)) (if_neg c335) ?_
    exact ok_m_fail_20 X d F _ _ _ _ h
def f_m_isSign_30 (F : Nat)   (s0 : Int32) (m : mM) : Option (Int32 × mM) := (if s0 = 0 ∨ s0 = 1 then some (s0, m) else none)
theorem ok_m_isSign_30 (X : mX) (d F : Nat) : ∀ (s0 : Int32) (w0 : Option Value) (w1 : Option Value) (m : mM) (r : Int32) (m' : mM), f_m_isSign_30 F s0 m = some (r, m') → m_R X (d + 0) 242 30 [w0, w1] [.int s0] (SH, m) (some (.int r), (SH, m')) := by
  intro s0 w0 w1 m r m' h
  unfold f_m_isSign_30 at h
  obtain ⟨c0, h⟩ := m_ite_p h
  obtain ⟨rfl, rfl⟩ := m_some h
  exact m_R_iret (by decide) (m_opb_of (ins := .ireturn) (len := 1) (tag := 1) (a := 1) (b := 0) (c := 0) (q := 0) (by decide +kernel)) (Or.inr c0)
def f_m_isSign_29 (F : Nat)    (m : mM) : Option (Int32 × mM) := f_m_isSign_30 F (0 : Int32) m
theorem ok_m_isSign_29 (X : mX) (d F : Nat) : ∀  (w0 : Option Value) (w1 : Option Value) (m : mM) (r : Int32) (m' : mM), f_m_isSign_29 F  m = some (r, m') → m_R X (d + 0) 242 29 [w0, w1] [] (SH, m) (some (.int r), (SH, m')) := by
  intro w0 w1 m r m' h
  unfold f_m_isSign_29 at h
  refine m_R_sg (by decide) [(.iconst 0, 1, 0, 0, 0, 0, 0)] (by decide +kernel) (show m_sgl X _ _ _ _ _ = some (30, [w0, w1], [.int (0 : Int32)], (SH, m.1, m.2)) from rfl) ?_
  exact ok_m_isSign_30 X d F _ _ _ _ _ _ h
def f_m_isSign (F : Nat)   (v1 : Int32) (m : mM) : Option (Int32 × mM) := (if (m.1 304 17) = 0 then (if (m.1 304 12) = (3 : Int32) then (if (lg_cmp (m.2 304) v1.toInt64) = 0 then f_m_isSign_30 F (1 : Int32) m else f_m_isSign_29 F m) else f_m_isSign_29 F m) else f_m_isSign_29 F m)
theorem ok_m_isSign (X : mX) (d F : Nat) : ∀ (v1 : Int32)  (m : mM) (r : Int32) (m' : mM), f_m_isSign F v1 m = some (r, m') → m_R X (d + 0) 242 0 [some (.ref 304), some (.int v1)] [] (SH, m) (some (.int r), (SH, m')) := by
  intro v1 m r m' h
  unfold f_m_isSign at h
  refine m_R_sg (by decide) [(.aload_n 0, 1, 0, 0, 0, 0, 0), (.getfield 256, 3, 0, 12, 17, 1, 1509)] (by decide +kernel) (show m_sgl X _ _ _ _ _ = some (4, [some (.ref 304), some (.int v1)], [.int (m.1 304 17)], (SH, m.1, m.2)) from rfl) ?_
  rcases m_ite h with ⟨c336, h⟩ | ⟨c336, h⟩
  · refine m_R_1 (by decide) (m_opb_of (ins := .ifCond .ne 25) (len := 3) (tag := 0) (a := 29) (b := 0) (c := 0) (q := 0) (by decide +kernel)) (if_pos c336) ?_
    refine m_R_sg (by decide) [(.aload_n 0, 1, 0, 0, 0, 0, 0), (.getfield 239, 3, 0, 12, 12, 0, 1504), (.iconst 3, 1, 0, 3, 0, 0, 0)] (by decide +kernel) (show m_sgl X _ _ _ _ _ = some (12, [some (.ref 304), some (.int v1)], [.int (3 : Int32), .int (m.1 304 12)], (SH, m.1, m.2)) from rfl) ?_
    rcases m_ite h with ⟨c337, h⟩ | ⟨c337, h⟩
    · refine m_R_1 (by decide) (m_opb_of (ins := .if_icmp .ne 17) (len := 3) (tag := 0) (a := 29) (b := 0) (c := 0) (q := 0) (by decide +kernel)) (if_pos c337) ?_
      refine m_R_sg (by decide) [(.aload_n 0, 1, 0, 0, 0, 0, 0), (.getfield 242, 3, 0, 12, 14, 2, 1506), (.iload_n 1, 1, 0, 1, 0, 0, 0), (.i2l, 1, 0, 0, 0, 0, 0), (.lcmp, 1, 0, 0, 0, 0, 0)] (by decide +kernel) (show m_sgl X _ _ _ _ _ = some (22, [some (.ref 304), some (.int v1)], [.int (lg_cmp (m.2 304) v1.toInt64)], (SH, m.1, m.2)) from rfl) ?_
      rcases m_ite h with ⟨c338, h⟩ | ⟨c338, h⟩
      · refine m_R_1 (by decide) (m_opb_of (ins := .ifCond .ne 7) (len := 3) (tag := 0) (a := 29) (b := 0) (c := 0) (q := 0) (by decide +kernel)) (if_pos c338) ?_
        refine m_R_sg (by decide) [(.iconst 1, 1, 0, 1, 0, 0, 0), (.goto 4, 3, 0, 30, 0, 0, 0)] (by decide +kernel) (show m_sgl X _ _ _ _ _ = some (30, [some (.ref 304), some (.int v1)], [.int (1 : Int32)], (SH, m.1, m.2)) from rfl) ?_
        exact ok_m_isSign_30 X d F _ _ _ _ _ _ h
      · refine m_R_1 (by decide) (m_opb_of (ins := .ifCond .ne 7) (len := 3) (tag := 0) (a := 29) (b := 0) (c := 0) (q := 0) (by decide +kernel)) (if_neg c338) ?_
        exact ok_m_isSign_29 X d F _ _ _ _ _ h
    · refine m_R_1 (by decide) (m_opb_of (ins := .if_icmp .ne 17) (len := 3) (tag := 0) (a := 29) (b := 0) (c := 0) (q := 0) (by decide +kernel)) (if_neg c337) ?_
      exact ok_m_isSign_29 X d F _ _ _ _ _ h
  · refine m_R_1 (by decide) (m_opb_of (ins := .ifCond .ne 25) (len := 3) (tag := 0) (a := 29) (b := 0) (c := 0) (q := 0) (by decide +kernel)) (if_neg c336) ?_
    exact ok_m_isSign_29 X d F _ _ _ _ _ h
def f_m_opens (F : Nat)    (m : mM) : Option (Int32 × mM) := (if (m.1 304 16) = (6 : Int32) then ((f_m_fail F m).bind fun q1 => some ((0 : Int32), q1.2)) else ((f_m_next F ((m_up m.1 304 16 ((m.1 304 16) + (1 : Int32))), m.2)).bind fun q2 => some ((1 : Int32), q2.2)))
theorem ok_m_opens (X : mX) (d F : Nat) : ∀   (m : mM) (r : Int32) (m' : mM), f_m_opens F  m = some (r, m') → m_R X (d + 2) 238 0 [some (.ref 304)] [] (SH, m) (some (.int r), (SH, m')) := by
  intro m r m' h
  unfold f_m_opens at h
  refine m_R_sg (by decide) [(.aload_n 0, 1, 0, 0, 0, 0, 0), (.getfield 263, 3, 0, 12, 16, 0, 1508), (.bipush 6, 2, 0, 6, 0, 0, 0)] (by decide +kernel) (show m_sgl X _ _ _ _ _ = some (6, [some (.ref 304)], [.int (6 : Int32), .int (m.1 304 16)], (SH, m.1, m.2)) from rfl) ?_
  rcases m_ite h with ⟨c339, h⟩ | ⟨c339, h⟩
  · refine m_R_1 (by decide) (m_opb_of (ins := .if_icmp .ne 9) (len := 3) (tag := 0) (a := 15) (b := 0) (c := 0) (q := 0) (by decide +kernel)) (if_pos c339) ?_
    refine m_R_sg (by decide) [(.aload_n 0, 1, 0, 0, 0, 0, 0)] (by decide +kernel) (show m_sgl X _ _ _ _ _ = some (10, [some (.ref 304)], [.ref 304], (SH, m.1, m.2)) from rfl) ?_
    obtain ⟨q1, hc1, h⟩ := Option.bind_eq_some_iff.mp h
    refine m_R_cV (v := none) (h1 := (SH, q1.2)) (rest := []) (lo' := [some (.ref 304)]) (ml := 1) (k0 := 304) (by decide) (Or.inl rfl) (m_opb_of (ins := .invokevirtual 266) (len := 3) (tag := 5) (a := 234) (b := 0) (c := 0) (q := 1733) (by decide +kernel)) (by decide +kernel) rfl (show m_isO 234 304 (SH, _) = true from m_isO_of (by decide +kernel)) (Nat.le_of_ble_eq_true rfl) rfl rfl (ok_m_fail X (d + 1) F _ _ _ hc1) ?_
    refine m_R_sg (by decide) [(.iconst 0, 1, 0, 0, 0, 0, 0)] (by decide +kernel) (show m_sgl X _ _ _ _ _ = some (14, [some (.ref 304)], [.int (0 : Int32)], (SH, q1.2.1, q1.2.2)) from rfl) ?_
    obtain ⟨rfl, rfl⟩ := m_some h
    exact m_R_iret (by decide) (m_opb_of (ins := .ireturn) (len := 1) (tag := 1) (a := 1) (b := 0) (c := 0) (q := 0) (by decide +kernel)) (Or.inr (Or.inl rfl))
  · refine m_R_1 (by decide) (m_opb_of (ins := .if_icmp .ne 9) (len := 3) (tag := 0) (a := 15) (b := 0) (c := 0) (q := 0) (by decide +kernel)) (if_neg c339) ?_
    refine m_R_sg (by decide) [(.aload_n 0, 1, 0, 0, 0, 0, 0), (.dup, 1, 0, 0, 0, 0, 0), (.getfield 263, 3, 0, 12, 16, 0, 1508), (.iconst 1, 1, 0, 1, 0, 0, 0), (.iadd, 1, 0, 0, 0, 0, 0), (.putfield 263, 3, 0, 12, 16, 0, 1508), (.aload_n 0, 1, 0, 0, 0, 0, 0)] (by decide +kernel) (show m_sgl X _ _ _ _ _ = some (26, [some (.ref 304)], [.ref 304], (SH, (m_up m.1 304 16 ((m.1 304 16) + (1 : Int32))), m.2)) from rfl) ?_
    obtain ⟨q2, hc2, h⟩ := Option.bind_eq_some_iff.mp h
    refine m_R_cV (v := none) (h1 := (SH, q2.2)) (rest := []) (lo' := [some (.ref 304), none, none]) (ml := 3) (k0 := 304) (by decide) (Or.inl rfl) (m_opb_of (ins := .invokevirtual 269) (len := 3) (tag := 5) (a := 230) (b := 0) (c := 0) (q := 1705) (by decide +kernel)) (by decide +kernel) rfl (show m_isO 230 304 (SH, _) = true from m_isO_of (by decide +kernel)) (Nat.le_of_ble_eq_true rfl) rfl rfl (ok_m_next X (d + 0) F _ _ _ hc2) ?_
    refine m_R_sg (by decide) [(.iconst 1, 1, 0, 1, 0, 0, 0)] (by decide +kernel) (show m_sgl X _ _ _ _ _ = some (30, [some (.ref 304)], [.int (1 : Int32)], (SH, q2.2.1, q2.2.2)) from rfl) ?_
    obtain ⟨rfl, rfl⟩ := m_some h
    exact m_R_iret (by decide) (m_opb_of (ins := .ireturn) (len := 1) (tag := 1) (a := 1) (b := 0) (c := 0) (q := 0) (by decide +kernel)) (Or.inr (Or.inr rfl))
def f_m_out (F : Nat)    (m : mM) : Option (Int32 × mM) := ((f_m_many F (1 : Int32) m).bind fun q1 => some (((10 : Int32) * q1.1), q1.2))
theorem ok_m_out (X : mX) (d F : Nat) : ∀   (m : mM) (r : Int32) (m' : mM), f_m_out F  m = some (r, m') → m_R X (d + 2) 244 0 [some (.ref 304)] [] (SH, m) (some (.int r), (SH, m')) := by
  intro m r m' h
  unfold f_m_out at h
  refine m_R_sg (by decide) [(.bipush 10, 2, 0, 10, 0, 0, 0), (.aload_n 0, 1, 0, 0, 0, 0, 0), (.iconst 1, 1, 0, 1, 0, 0, 0)] (by decide +kernel) (show m_sgl X _ _ _ _ _ = some (4, [some (.ref 304)], [.int (1 : Int32), .ref 304, .int (10 : Int32)], (SH, m.1, m.2)) from rfl) ?_
  obtain ⟨q1, hc1, h⟩ := Option.bind_eq_some_iff.mp h
  refine m_R_cV (v := (some (.int q1.1))) (h1 := (SH, q1.2)) (rest := [.int (10 : Int32)]) (lo' := [some (.ref 304), some (.int (1 : Int32)), none, none]) (ml := 4) (k0 := 304) (by decide) (Or.inl rfl) (m_opb_of (ins := .invokevirtual 109) (len := 3) (tag := 5) (a := 223) (b := 1) (c := 0) (q := 1677) (by decide +kernel)) (by decide +kernel) rfl (show m_isO 223 304 (SH, _) = true from m_isO_of (by decide +kernel)) (Nat.le_of_ble_eq_true rfl) rfl rfl (ok_m_many X (d + 0) F _ _ _ _ hc1) ?_
  refine m_R_sg (by decide) [(.imul, 1, 0, 0, 0, 0, 0)] (by decide +kernel) (show m_sgl X _ _ _ _ _ = some (8, [some (.ref 304)], [.int ((10 : Int32) * q1.1)], (SH, q1.2.1, q1.2.2)) from rfl) ?_
  obtain ⟨rfl, rfl⟩ := m_some h
  exact m_R_iret (by decide) (m_opb_of (ins := .ireturn) (len := 1) (tag := 1) (a := 0) (b := 0) (c := 0) (q := 0) (by decide +kernel)) (Or.inl rfl)
def f_m_reserve_44 (F : Nat)   (s0 : Int32) (m : mM) : Option (Int32 × mM) := some (s0, m)
theorem ok_m_reserve_44 (X : mX) (d F : Nat) : ∀ (s0 : Int32) (w0 : Option Value) (w1 : Option Value) (w2 : Option Value) (w3 : Option Value) (m : mM) (r : Int32) (m' : mM), f_m_reserve_44 F s0 m = some (r, m') → m_R X (d + 3) 245 44 [w0, w1, w2, w3] [.int s0] (SH, m) (some (.int r), (SH, m')) := by
  intro s0 w0 w1 w2 w3 m r m' h
  unfold f_m_reserve_44 at h
  obtain ⟨rfl, rfl⟩ := m_some h
  exact m_R_iret (by decide) (m_opb_of (ins := .ireturn) (len := 1) (tag := 1) (a := 0) (b := 0) (c := 0) (q := 0) (by decide +kernel)) (Or.inl rfl)
def f_m_reserve (F : Nat)    (m : mM) : Option (Int32 × mM) := ((f_m_out F m).bind fun q1 => (if q1.1 = 0 then some ((999 : Int32), q1.2) else ((f_m_hs F (0 : Int32) (2 : Int32) q1.2).bind fun q2 => (if q1.1.toInt64 = 0 then none else (if (lg_cmp ((q2.1.toInt64 * (100 : Int64)) / q1.1.toInt64) (999 : Int64)) ≤ 0 then f_m_reserve_44 F ((q2.1.toInt64 * (100 : Int64)) / q1.1.toInt64).toInt32 q2.2 else f_m_reserve_44 F (999 : Int32) q2.2)))))
theorem ok_m_reserve (X : mX) (d F : Nat) : ∀   (m : mM) (r : Int32) (m' : mM), f_m_reserve F  m = some (r, m') → m_R X (d + 3) 245 0 [some (.ref 304), none, none, none] [] (SH, m) (some (.int r), (SH, m')) := by
  intro m r m' h
  unfold f_m_reserve at h
  refine m_R_sg (by decide) [(.aload_n 0, 1, 0, 0, 0, 0, 0)] (by decide +kernel) (show m_sgl X _ _ _ _ _ = some (1, [some (.ref 304), none, none, none], [.ref 304], (SH, m.1, m.2)) from rfl) ?_
  obtain ⟨q1, hc1, h⟩ := Option.bind_eq_some_iff.mp h
  refine m_R_cV (v := (some (.int q1.1))) (h1 := (SH, q1.2)) (rest := []) (lo' := [some (.ref 304)]) (ml := 1) (k0 := 304) (by decide) (Or.inl rfl) (m_opb_of (ins := .invokevirtual 112) (len := 3) (tag := 5) (a := 244) (b := 0) (c := 0) (q := 1776) (by decide +kernel)) (by decide +kernel) rfl (show m_isO 244 304 (SH, _) = true from m_isO_of (by decide +kernel)) (Nat.le_of_ble_eq_true rfl) rfl rfl (ok_m_out X (d + 0) F _ _ _ hc1) ?_
  refine m_R_sg (by decide) [(.istore_n 1, 1, 0, 1, 0, 0, 0), (.iload_n 1, 1, 0, 1, 0, 0, 0)] (by decide +kernel) (show m_sgl X _ _ _ _ _ = some (6, [some (.ref 304), some (.int q1.1), none, none], [.int q1.1], (SH, q1.2.1, q1.2.2)) from rfl) ?_
  rcases m_ite h with ⟨c340, h⟩ | ⟨c340, h⟩
  · refine m_R_1 (by decide) (m_opb_of (ins := .ifCond .ne 7) (len := 3) (tag := 0) (a := 13) (b := 0) (c := 0) (q := 0) (by decide +kernel)) (if_pos c340) ?_
    refine m_R_sg (by decide) [(.sipush 999, 3, 0, 999, 0, 0, 0)] (by decide +kernel) (show m_sgl X _ _ _ _ _ = some (12, [some (.ref 304), some (.int q1.1), none, none], [.int (999 : Int32)], (SH, q1.2.1, q1.2.2)) from rfl) ?_
    obtain ⟨rfl, rfl⟩ := m_some h
    exact m_R_iret (by decide) (m_opb_of (ins := .ireturn) (len := 1) (tag := 1) (a := 0) (b := 0) (c := 0) (q := 0) (by decide +kernel)) (Or.inl rfl)
  · refine m_R_1 (by decide) (m_opb_of (ins := .ifCond .ne 7) (len := 3) (tag := 0) (a := 13) (b := 0) (c := 0) (q := 0) (by decide +kernel)) (if_neg c340) ?_
    refine m_R_sg (by decide) [(.aload_n 0, 1, 0, 0, 0, 0, 0), (.iconst 0, 1, 0, 0, 0, 0, 0), (.iconst 2, 1, 0, 2, 0, 0, 0)] (by decide +kernel) (show m_sgl X _ _ _ _ _ = some (16, [some (.ref 304), some (.int q1.1), none, none], [.int (2 : Int32), .int (0 : Int32), .ref 304], (SH, q1.2.1, q1.2.2)) from rfl) ?_
    obtain ⟨q2, hc2, h⟩ := Option.bind_eq_some_iff.mp h
    refine m_R_cV (v := (some (.int q2.1))) (h1 := (SH, q2.2)) (rest := []) (lo' := [some (.ref 304), some (.int (0 : Int32)), some (.int (2 : Int32))]) (ml := 3) (k0 := 304) (by decide) (Or.inl rfl) (m_opb_of (ins := .invokevirtual 65) (len := 3) (tag := 5) (a := 212) (b := 2) (c := 0) (q := 1633) (by decide +kernel)) (by decide +kernel) rfl (show m_isO 212 304 (SH, _) = true from m_isO_of (by decide +kernel)) (Nat.le_of_ble_eq_true rfl) rfl rfl (ok_m_hs X (d + 2) F _ _ _ _ _ hc2) ?_
    refine m_R_sg (by decide) [(.i2l, 1, 0, 0, 0, 0, 0), (.ldc2_w 116, 3, 0, 100, 0, 0, 1785), (.lmul, 1, 0, 0, 0, 0, 0), (.iload_n 1, 1, 0, 1, 0, 0, 0), (.i2l, 1, 0, 0, 0, 0, 0)] (by decide +kernel) (show m_sgl X _ _ _ _ _ = some (26, [some (.ref 304), some (.int q1.1), none, none], [.long q1.1.toInt64, .long (q2.1.toInt64 * (100 : Int64))], (SH, q2.2.1, q2.2.2)) from rfl) ?_
    obtain ⟨c341, h⟩ := m_ite_n h
    refine m_R_1 (by decide) (m_opb_of (ins := .ldiv) (len := 1) (tag := 0) (a := 0) (b := 0) (c := 0) (q := 0) (by decide +kernel)) (m_s_ldiv c341) ?_
    refine m_R_sg (by decide) [(.lstore_n 2, 1, 0, 2, 0, 0, 0), (.lload_n 2, 1, 0, 2, 0, 0, 0), (.ldc2_w 118, 3, 0, 999, 0, 0, 1786), (.lcmp, 1, 0, 0, 0, 0, 0)] (by decide +kernel) (show m_sgl X _ _ _ _ _ = some (33, [some (.ref 304), some (.int q1.1), some (.long ((q2.1.toInt64 * (100 : Int64)) / q1.1.toInt64)), none], [.int (lg_cmp ((q2.1.toInt64 * (100 : Int64)) / q1.1.toInt64) (999 : Int64))], (SH, q2.2.1, q2.2.2)) from rfl) ?_
    rcases m_ite h with ⟨c342, h⟩ | ⟨c342, h⟩
    · refine m_R_1 (by decide) (m_opb_of (ins := .ifCond .le 9) (len := 3) (tag := 0) (a := 42) (b := 0) (c := 0) (q := 0) (by decide +kernel)) (if_pos c342) ?_
      refine m_R_sg (by decide) [(.lload_n 2, 1, 0, 2, 0, 0, 0), (.l2i, 1, 0, 0, 0, 0, 0)] (by decide +kernel) (show m_sgl X _ _ _ _ _ = some (44, [some (.ref 304), some (.int q1.1), some (.long ((q2.1.toInt64 * (100 : Int64)) / q1.1.toInt64)), none], [.int ((q2.1.toInt64 * (100 : Int64)) / q1.1.toInt64).toInt32], (SH, q2.2.1, q2.2.2)) from rfl) ?_
      exact ok_m_reserve_44 X d F _ _ _ _ _ _ _ _ h
    · refine m_R_1 (by decide) (m_opb_of (ins := .ifCond .le 9) (len := 3) (tag := 0) (a := 42) (b := 0) (c := 0) (q := 0) (by decide +kernel)) (if_neg c342) ?_
      refine m_R_sg (by decide) [(.sipush 999, 3, 0, 999, 0, 0, 0), (.goto 5, 3, 0, 44, 0, 0, 0)] (by decide +kernel) (show m_sgl X _ _ _ _ _ = some (44, [some (.ref 304), some (.int q1.1), some (.long ((q2.1.toInt64 * (100 : Int64)) / q1.1.toInt64)), none], [.int (999 : Int32)], (SH, q2.2.1, q2.2.2)) from rfl) ?_
      exact ok_m_reserve_44 X d F _ _ _ _ _ _ _ _ h
def f_m_paper (F : Nat)   (v1 : Int32) (v2 : Int32) (m : mM) : Option (Int32 × mM) := (if (((6200 : Int32) + ((20 : Int32) * v1)) + v2) < 0 ∨ 9732 ≤ (((6200 : Int32) + ((20 : Int32) * v1)) + v2).toNatClampNeg then none else some ((m.1 305 (((6200 : Int32) + ((20 : Int32) * v1)) + v2).toNatClampNeg), m))
theorem ok_m_paper (X : mX) (d F : Nat) : ∀ (v1 : Int32) (v2 : Int32)  (m : mM) (r : Int32) (m' : mM), f_m_paper F v1 v2 m = some (r, m') → m_R X (d + 0) 246 0 [some (.ref 304), some (.int v1), some (.int v2)] [] (SH, m) (some (.int r), (SH, m')) := by
  intro v1 v2 m r m' h
  unfold f_m_paper at h
  refine m_R_sg (by decide) [(.aload_n 0, 1, 0, 0, 0, 0, 0), (.getfield 13, 3, 0, 12, 1, 3, 1493), (.sipush 6200, 3, 0, 6200, 0, 0, 0), (.bipush 20, 2, 0, 20, 0, 0, 0), (.iload_n 1, 1, 0, 1, 0, 0, 0), (.imul, 1, 0, 0, 0, 0, 0), (.iadd, 1, 0, 0, 0, 0, 0), (.iload_n 2, 1, 0, 2, 0, 0, 0), (.iadd, 1, 0, 0, 0, 0, 0)] (by decide +kernel) (show m_sgl X _ _ _ _ _ = some (14, [some (.ref 304), some (.int v1), some (.int v2)], [.int (((6200 : Int32) + ((20 : Int32) * v1)) + v2), .ref 305], (SH, m.1, m.2)) from rfl) ?_
  obtain ⟨c343, h⟩ := m_ite_n h
  refine m_R_1 (by decide) (m_opb_of (ins := .iaload) (len := 1) (tag := 0) (a := 0) (b := 0) (c := 0) (q := 0) (by decide +kernel)) (m_s_iald sh_305 (by decide) c343) ?_
  obtain ⟨rfl, rfl⟩ := m_some h
  exact m_R_iret (by decide) (m_opb_of (ins := .ireturn) (len := 1) (tag := 1) (a := 0) (b := 0) (c := 0) (q := 0) (by decide +kernel)) (Or.inl rfl)
def f_m_name__143 (F : Nat)   (s0 : Int32) (m : mM) : Option (Int32 × mM) := some (s0, m)
theorem ok_m_name__143 (X : mX) (d F : Nat) : ∀ (s0 : Int32) (w0 : Option Value) (w1 : Option Value) (m : mM) (r : Int32) (m' : mM), f_m_name__143 F s0 m = some (r, m') → m_R X (d + 4) 243 143 [w0, w1] [.int s0] (SH, m) (some (.int r), (SH, m')) := by
  intro s0 w0 w1 m r m' h
  unfold f_m_name__143 at h
  obtain ⟨rfl, rfl⟩ := m_some h
  exact m_R_iret (by decide) (m_opb_of (ins := .ireturn) (len := 1) (tag := 1) (a := 0) (b := 0) (c := 0) (q := 0) (by decide +kernel)) (Or.inl rfl)
def f_m_name__178 (F : Nat)   (s0 : Int32) (m : mM) : Option (Int32 × mM) := some (s0, m)
theorem ok_m_name__178 (X : mX) (d F : Nat) : ∀ (s0 : Int32) (w0 : Option Value) (w1 : Option Value) (m : mM) (r : Int32) (m' : mM), f_m_name__178 F s0 m = some (r, m') → m_R X (d + 4) 243 178 [w0, w1] [.int s0] (SH, m) (some (.int r), (SH, m')) := by
  intro s0 w0 w1 m r m' h
  unfold f_m_name__178 at h
  obtain ⟨rfl, rfl⟩ := m_some h
  exact m_R_iret (by decide) (m_opb_of (ins := .ireturn) (len := 1) (tag := 1) (a := 0) (b := 0) (c := 0) (q := 0) (by decide +kernel)) (Or.inl rfl)
def f_m_name__207 (F : Nat)   (s0 : Int32) (m : mM) : Option (Int32 × mM) := some (s0, m)
theorem ok_m_name__207 (X : mX) (d F : Nat) : ∀ (s0 : Int32) (w0 : Option Value) (w1 : Option Value) (m : mM) (r : Int32) (m' : mM), f_m_name__207 F s0 m = some (r, m') → m_R X (d + 4) 243 207 [w0, w1] [.int s0] (SH, m) (some (.int r), (SH, m')) := by
  intro s0 w0 w1 m r m' h
  unfold f_m_name__207 at h
  obtain ⟨rfl, rfl⟩ := m_some h
  exact m_R_iret (by decide) (m_opb_of (ins := .ireturn) (len := 1) (tag := 1) (a := 0) (b := 0) (c := 0) (q := 0) (by decide +kernel)) (Or.inl rfl)
def f_m_name__240 (F : Nat)   (s0 : Int32) (m : mM) : Option (Int32 × mM) := some (s0, m)
theorem ok_m_name__240 (X : mX) (d F : Nat) : ∀ (s0 : Int32) (w0 : Option Value) (w1 : Option Value) (m : mM) (r : Int32) (m' : mM), f_m_name__240 F s0 m = some (r, m') → m_R X (d + 4) 243 240 [w0, w1] [.int s0] (SH, m) (some (.int r), (SH, m')) := by
  intro s0 w0 w1 m r m' h
  unfold f_m_name__240 at h
  obtain ⟨rfl, rfl⟩ := m_some h
  exact m_R_iret (by decide) (m_opb_of (ins := .ireturn) (len := 1) (tag := 1) (a := 0) (b := 0) (c := 0) (q := 0) (by decide +kernel)) (Or.inl rfl)
def f_m_name__115 (F : Nat)   (s0 : Int32) (m : mM) : Option (Int32 × mM) := ((f_m_isWord F (14431 : Int64) m).bind fun q10 => (if q10.1 = 0 then ((f_m_isWord F (80155 : Int64) q10.2).bind fun q11 => (if q11.1 = 0 then ((f_m_isWord F (7469488 : Int64) q11.2).bind fun q12 => (if q12.1 = 0 then ((f_m_isWord F (405230 : Int64) q12.2).bind fun q13 => (if q13.1 = 0 then ((f_m_fail F q13.2).bind fun q14 => some ((0 : Int32), q14.2)) else (if s0 = 0 then ((f_m_paper F (q13.2.1 304 19) (3 : Int32) q13.2).bind fun q15 => ((f_m_hs F q15.1 (1 : Int32) q15.2).bind fun q16 => f_m_name__240 F q16.1 q16.2)) else f_m_name__240 F (0 : Int32) q13.2))) else (if s0 = 0 then ((f_m_paper F (q12.2.1 304 19) (7 : Int32) q12.2).bind fun q17 => f_m_name__207 F q17.1 q17.2) else f_m_name__207 F (0 : Int32) q12.2))) else (if s0 = 0 then ((f_m_paper F (q11.2.1 304 19) (5 : Int32) q11.2).bind fun q18 => f_m_name__178 F (q18.1 - (q18.2.1 305 (0 : Int32).toNatClampNeg)) q18.2) else f_m_name__178 F (0 : Int32) q11.2))) else (if s0 = 0 then ((f_m_paper F (q10.2.1 304 19) (2 : Int32) q10.2).bind fun q19 => f_m_name__143 F q19.1 q19.2) else f_m_name__143 F (0 : Int32) q10.2)))
theorem ok_m_name__115 (X : mX) (d F : Nat) : ∀ (s0 : Int32) (w1 : Option Value) (m : mM) (r : Int32) (m' : mM), f_m_name__115 F s0 m = some (r, m') → m_R X (d + 4) 243 115 [some (.ref 304), w1] [.int s0] (SH, m) (some (.int r), (SH, m')) := by
  intro s0 w1 m r m' h
  unfold f_m_name__115 at h
  refine m_R_sg (by decide) [(.istore_n 1, 1, 0, 1, 0, 0, 0), (.aload_n 0, 1, 0, 0, 0, 0, 0), (.ldc2_w 293, 3, 0, 14431, 0, 0, 1790)] (by decide +kernel) (show m_sgl X _ _ _ _ _ = some (120, [some (.ref 304), some (.int s0)], [.long (14431 : Int64), .ref 304], (SH, m.1, m.2)) from rfl) ?_
  obtain ⟨q10, hc10, h⟩ := Option.bind_eq_some_iff.mp h
  refine m_R_cV (v := (some (.int q10.1))) (h1 := (SH, q10.2)) (rest := []) (lo' := [some (.ref 304), some (.long (14431 : Int64)), none]) (ml := 3) (k0 := 304) (by decide) (Or.inl rfl) (m_opb_of (ins := .invokevirtual 273) (len := 3) (tag := 5) (a := 233) (b := 1) (c := 0) (q := 1723) (by decide +kernel)) (by decide +kernel) rfl (show m_isO 233 304 (SH, _) = true from m_isO_of (by decide +kernel)) (Nat.le_of_ble_eq_true rfl) rfl rfl (ok_m_isWord X (d + 3) F _ _ _ _ hc10) ?_
  rcases m_ite h with ⟨c344, h⟩ | ⟨c344, h⟩
  · refine m_R_1 (by decide) (m_opb_of (ins := .ifCond .eq 21) (len := 3) (tag := 0) (a := 144) (b := 0) (c := 0) (q := 0) (by decide +kernel)) (if_pos c344) ?_
    refine m_R_sg (by decide) [(.aload_n 0, 1, 0, 0, 0, 0, 0), (.ldc2_w 295, 3, 0, 80155, 0, 0, 1795)] (by decide +kernel) (show m_sgl X _ _ _ _ _ = some (148, [some (.ref 304), some (.int s0)], [.long (80155 : Int64), .ref 304], (SH, q10.2.1, q10.2.2)) from rfl) ?_
    obtain ⟨q11, hc11, h⟩ := Option.bind_eq_some_iff.mp h
    refine m_R_cV (v := (some (.int q11.1))) (h1 := (SH, q11.2)) (rest := []) (lo' := [some (.ref 304), some (.long (80155 : Int64)), none]) (ml := 3) (k0 := 304) (by decide) (Or.inl rfl) (m_opb_of (ins := .invokevirtual 273) (len := 3) (tag := 5) (a := 233) (b := 1) (c := 0) (q := 1723) (by decide +kernel)) (by decide +kernel) rfl (show m_isO 233 304 (SH, _) = true from m_isO_of (by decide +kernel)) (Nat.le_of_ble_eq_true rfl) rfl rfl (ok_m_isWord X (d + 3) F _ _ _ _ hc11) ?_
    rcases m_ite h with ⟨c345, h⟩ | ⟨c345, h⟩
    · refine m_R_1 (by decide) (m_opb_of (ins := .ifCond .eq 28) (len := 3) (tag := 0) (a := 179) (b := 0) (c := 0) (q := 0) (by decide +kernel)) (if_pos c345) ?_
      refine m_R_sg (by decide) [(.aload_n 0, 1, 0, 0, 0, 0, 0), (.ldc2_w 297, 3, 0, 7469488, 0, 0, 1796)] (by decide +kernel) (show m_sgl X _ _ _ _ _ = some (183, [some (.ref 304), some (.int s0)], [.long (7469488 : Int64), .ref 304], (SH, q11.2.1, q11.2.2)) from rfl) ?_
      obtain ⟨q12, hc12, h⟩ := Option.bind_eq_some_iff.mp h
      refine m_R_cV (v := (some (.int q12.1))) (h1 := (SH, q12.2)) (rest := []) (lo' := [some (.ref 304), some (.long (7469488 : Int64)), none]) (ml := 3) (k0 := 304) (by decide) (Or.inl rfl) (m_opb_of (ins := .invokevirtual 273) (len := 3) (tag := 5) (a := 233) (b := 1) (c := 0) (q := 1723) (by decide +kernel)) (by decide +kernel) rfl (show m_isO 233 304 (SH, _) = true from m_isO_of (by decide +kernel)) (Nat.le_of_ble_eq_true rfl) rfl rfl (ok_m_isWord X (d + 3) F _ _ _ _ hc12) ?_
      rcases m_ite h with ⟨c346, h⟩ | ⟨c346, h⟩
      · refine m_R_1 (by decide) (m_opb_of (ins := .ifCond .eq 22) (len := 3) (tag := 0) (a := 208) (b := 0) (c := 0) (q := 0) (by decide +kernel)) (if_pos c346) ?_
        refine m_R_sg (by decide) [(.aload_n 0, 1, 0, 0, 0, 0, 0), (.ldc2_w 299, 3, 0, 405230, 0, 0, 1797)] (by decide +kernel) (show m_sgl X _ _ _ _ _ = some (212, [some (.ref 304), some (.int s0)], [.long (405230 : Int64), .ref 304], (SH, q12.2.1, q12.2.2)) from rfl) ?_
        obtain ⟨q13, hc13, h⟩ := Option.bind_eq_some_iff.mp h
        refine m_R_cV (v := (some (.int q13.1))) (h1 := (SH, q13.2)) (rest := []) (lo' := [some (.ref 304), some (.long (405230 : Int64)), none]) (ml := 3) (k0 := 304) (by decide) (Or.inl rfl) (m_opb_of (ins := .invokevirtual 273) (len := 3) (tag := 5) (a := 233) (b := 1) (c := 0) (q := 1723) (by decide +kernel)) (by decide +kernel) rfl (show m_isO 233 304 (SH, _) = true from m_isO_of (by decide +kernel)) (Nat.le_of_ble_eq_true rfl) rfl rfl (ok_m_isWord X (d + 3) F _ _ _ _ hc13) ?_
        rcases m_ite h with ⟨c347, h⟩ | ⟨c347, h⟩
        · refine m_R_1 (by decide) (m_opb_of (ins := .ifCond .eq 26) (len := 3) (tag := 0) (a := 241) (b := 0) (c := 0) (q := 0) (by decide +kernel)) (if_pos c347) ?_
          refine m_R_sg (by decide) [(.aload_n 0, 1, 0, 0, 0, 0, 0)] (by decide +kernel) (show m_sgl X _ _ _ _ _ = some (242, [some (.ref 304), some (.int s0)], [.ref 304], (SH, q13.2.1, q13.2.2)) from rfl) ?_
          obtain ⟨q14, hc14, h⟩ := Option.bind_eq_some_iff.mp h
          refine m_R_cV (v := none) (h1 := (SH, q14.2)) (rest := []) (lo' := [some (.ref 304)]) (ml := 1) (k0 := 304) (by decide) (Or.inl rfl) (m_opb_of (ins := .invokevirtual 266) (len := 3) (tag := 5) (a := 234) (b := 0) (c := 0) (q := 1733) (by decide +kernel)) (by decide +kernel) rfl (show m_isO 234 304 (SH, _) = true from m_isO_of (by decide +kernel)) (Nat.le_of_ble_eq_true rfl) rfl rfl (ok_m_fail X (d + 3) F _ _ _ hc14) ?_
          refine m_R_sg (by decide) [(.iconst 0, 1, 0, 0, 0, 0, 0)] (by decide +kernel) (show m_sgl X _ _ _ _ _ = some (246, [some (.ref 304), some (.int s0)], [.int (0 : Int32)], (SH, q14.2.1, q14.2.2)) from rfl) ?_
          obtain ⟨rfl, rfl⟩ := m_some h
          exact m_R_iret (by decide) (m_opb_of (ins := .ireturn) (len := 1) (tag := 1) (a := 0) (b := 0) (c := 0) (q := 0) (by decide +kernel)) (Or.inl rfl)
        · refine m_R_1 (by decide) (m_opb_of (ins := .ifCond .eq 26) (len := 3) (tag := 0) (a := 241) (b := 0) (c := 0) (q := 0) (by decide +kernel)) (if_neg c347) ?_
          refine m_R_sg (by decide) [(.iload_n 1, 1, 0, 1, 0, 0, 0)] (by decide +kernel) (show m_sgl X _ _ _ _ _ = some (219, [some (.ref 304), some (.int s0)], [.int s0], (SH, q13.2.1, q13.2.2)) from rfl) ?_
          rcases m_ite h with ⟨c348, h⟩ | ⟨c348, h⟩
          · refine m_R_1 (by decide) (m_opb_of (ins := .ifCond .eq 7) (len := 3) (tag := 0) (a := 226) (b := 0) (c := 0) (q := 0) (by decide +kernel)) (if_pos c348) ?_
            refine m_R_sg (by decide) [(.aload_n 0, 1, 0, 0, 0, 0, 0), (.aload_n 0, 1, 0, 0, 0, 0, 0), (.aload_n 0, 1, 0, 0, 0, 0, 0), (.getfield 290, 3, 0, 12, 19, 0, 1511), (.iconst 3, 1, 0, 3, 0, 0, 0)] (by decide +kernel) (show m_sgl X _ _ _ _ _ = some (233, [some (.ref 304), some (.int s0)], [.int (3 : Int32), .int (q13.2.1 304 19), .ref 304, .ref 304], (SH, q13.2.1, q13.2.2)) from rfl) ?_
            obtain ⟨q15, hc15, h⟩ := Option.bind_eq_some_iff.mp h
            refine m_R_cV (v := (some (.int q15.1))) (h1 := (SH, q15.2)) (rest := [.ref 304]) (lo' := [some (.ref 304), some (.int (q13.2.1 304 19)), some (.int (3 : Int32))]) (ml := 3) (k0 := 304) (by decide) (Or.inl rfl) (m_opb_of (ins := .invokevirtual 160) (len := 3) (tag := 5) (a := 246) (b := 2) (c := 0) (q := 1791) (by decide +kernel)) (by decide +kernel) rfl (show m_isO 246 304 (SH, _) = true from m_isO_of (by decide +kernel)) (Nat.le_of_ble_eq_true rfl) rfl rfl (ok_m_paper X (d + 3) F _ _ _ _ _ hc15) ?_
            refine m_R_sg (by decide) [(.iconst 1, 1, 0, 1, 0, 0, 0)] (by decide +kernel) (show m_sgl X _ _ _ _ _ = some (237, [some (.ref 304), some (.int s0)], [.int (1 : Int32), .int q15.1, .ref 304], (SH, q15.2.1, q15.2.2)) from rfl) ?_
            obtain ⟨q16, hc16, h⟩ := Option.bind_eq_some_iff.mp h
            refine m_R_cV (v := (some (.int q16.1))) (h1 := (SH, q16.2)) (rest := []) (lo' := [some (.ref 304), some (.int q15.1), some (.int (1 : Int32))]) (ml := 3) (k0 := 304) (by decide) (Or.inl rfl) (m_opb_of (ins := .invokevirtual 65) (len := 3) (tag := 5) (a := 212) (b := 2) (c := 0) (q := 1633) (by decide +kernel)) (by decide +kernel) rfl (show m_isO 212 304 (SH, _) = true from m_isO_of (by decide +kernel)) (Nat.le_of_ble_eq_true rfl) rfl rfl (ok_m_hs X (d + 3) F _ _ _ _ _ hc16) ?_
            exact ok_m_name__240 X d F _ _ _ _ _ _ h
          · refine m_R_1 (by decide) (m_opb_of (ins := .ifCond .eq 7) (len := 3) (tag := 0) (a := 226) (b := 0) (c := 0) (q := 0) (by decide +kernel)) (if_neg c348) ?_
            refine m_R_sg (by decide) [(.iconst 0, 1, 0, 0, 0, 0, 0), (.goto 17, 3, 0, 240, 0, 0, 0)] (by decide +kernel) (show m_sgl X _ _ _ _ _ = some (240, [some (.ref 304), some (.int s0)], [.int (0 : Int32)], (SH, q13.2.1, q13.2.2)) from rfl) ?_
            exact ok_m_name__240 X d F _ _ _ _ _ _ h
      · refine m_R_1 (by decide) (m_opb_of (ins := .ifCond .eq 22) (len := 3) (tag := 0) (a := 208) (b := 0) (c := 0) (q := 0) (by decide +kernel)) (if_neg c346) ?_
        refine m_R_sg (by decide) [(.iload_n 1, 1, 0, 1, 0, 0, 0)] (by decide +kernel) (show m_sgl X _ _ _ _ _ = some (190, [some (.ref 304), some (.int s0)], [.int s0], (SH, q12.2.1, q12.2.2)) from rfl) ?_
        rcases m_ite h with ⟨c349, h⟩ | ⟨c349, h⟩
        · refine m_R_1 (by decide) (m_opb_of (ins := .ifCond .eq 7) (len := 3) (tag := 0) (a := 197) (b := 0) (c := 0) (q := 0) (by decide +kernel)) (if_pos c349) ?_
          refine m_R_sg (by decide) [(.aload_n 0, 1, 0, 0, 0, 0, 0), (.aload_n 0, 1, 0, 0, 0, 0, 0), (.getfield 290, 3, 0, 12, 19, 0, 1511), (.bipush 7, 2, 0, 7, 0, 0, 0)] (by decide +kernel) (show m_sgl X _ _ _ _ _ = some (204, [some (.ref 304), some (.int s0)], [.int (7 : Int32), .int (q12.2.1 304 19), .ref 304], (SH, q12.2.1, q12.2.2)) from rfl) ?_
          obtain ⟨q17, hc17, h⟩ := Option.bind_eq_some_iff.mp h
          refine m_R_cV (v := (some (.int q17.1))) (h1 := (SH, q17.2)) (rest := []) (lo' := [some (.ref 304), some (.int (q12.2.1 304 19)), some (.int (7 : Int32))]) (ml := 3) (k0 := 304) (by decide) (Or.inl rfl) (m_opb_of (ins := .invokevirtual 160) (len := 3) (tag := 5) (a := 246) (b := 2) (c := 0) (q := 1791) (by decide +kernel)) (by decide +kernel) rfl (show m_isO 246 304 (SH, _) = true from m_isO_of (by decide +kernel)) (Nat.le_of_ble_eq_true rfl) rfl rfl (ok_m_paper X (d + 3) F _ _ _ _ _ hc17) ?_
          exact ok_m_name__207 X d F _ _ _ _ _ _ h
        · refine m_R_1 (by decide) (m_opb_of (ins := .ifCond .eq 7) (len := 3) (tag := 0) (a := 197) (b := 0) (c := 0) (q := 0) (by decide +kernel)) (if_neg c349) ?_
          refine m_R_sg (by decide) [(.iconst 0, 1, 0, 0, 0, 0, 0), (.goto 13, 3, 0, 207, 0, 0, 0)] (by decide +kernel) (show m_sgl X _ _ _ _ _ = some (207, [some (.ref 304), some (.int s0)], [.int (0 : Int32)], (SH, q12.2.1, q12.2.2)) from rfl) ?_
          exact ok_m_name__207 X d F _ _ _ _ _ _ h
    · refine m_R_1 (by decide) (m_opb_of (ins := .ifCond .eq 28) (len := 3) (tag := 0) (a := 179) (b := 0) (c := 0) (q := 0) (by decide +kernel)) (if_neg c345) ?_
      refine m_R_sg (by decide) [(.iload_n 1, 1, 0, 1, 0, 0, 0)] (by decide +kernel) (show m_sgl X _ _ _ _ _ = some (155, [some (.ref 304), some (.int s0)], [.int s0], (SH, q11.2.1, q11.2.2)) from rfl) ?_
      rcases m_ite h with ⟨c350, h⟩ | ⟨c350, h⟩
      · refine m_R_1 (by decide) (m_opb_of (ins := .ifCond .eq 7) (len := 3) (tag := 0) (a := 162) (b := 0) (c := 0) (q := 0) (by decide +kernel)) (if_pos c350) ?_
        refine m_R_sg (by decide) [(.aload_n 0, 1, 0, 0, 0, 0, 0), (.aload_n 0, 1, 0, 0, 0, 0, 0), (.getfield 290, 3, 0, 12, 19, 0, 1511), (.iconst 5, 1, 0, 5, 0, 0, 0)] (by decide +kernel) (show m_sgl X _ _ _ _ _ = some (168, [some (.ref 304), some (.int s0)], [.int (5 : Int32), .int (q11.2.1 304 19), .ref 304], (SH, q11.2.1, q11.2.2)) from rfl) ?_
        obtain ⟨q18, hc18, h⟩ := Option.bind_eq_some_iff.mp h
        refine m_R_cV (v := (some (.int q18.1))) (h1 := (SH, q18.2)) (rest := []) (lo' := [some (.ref 304), some (.int (q11.2.1 304 19)), some (.int (5 : Int32))]) (ml := 3) (k0 := 304) (by decide) (Or.inl rfl) (m_opb_of (ins := .invokevirtual 160) (len := 3) (tag := 5) (a := 246) (b := 2) (c := 0) (q := 1791) (by decide +kernel)) (by decide +kernel) rfl (show m_isO 246 304 (SH, _) = true from m_isO_of (by decide +kernel)) (Nat.le_of_ble_eq_true rfl) rfl rfl (ok_m_paper X (d + 3) F _ _ _ _ _ hc18) ?_
        refine m_R_sg (by decide) [(.aload_n 0, 1, 0, 0, 0, 0, 0), (.getfield 13, 3, 0, 12, 1, 3, 1493), (.iconst 0, 1, 0, 0, 0, 0, 0)] (by decide +kernel) (show m_sgl X _ _ _ _ _ = some (176, [some (.ref 304), some (.int s0)], [.int (0 : Int32), .ref 305, .int q18.1], (SH, q18.2.1, q18.2.2)) from rfl) ?_
        refine m_R_1 (by decide) (m_opb_of (ins := .iaload) (len := 1) (tag := 0) (a := 0) (b := 0) (c := 0) (q := 0) (by decide +kernel)) (m_s_iald sh_305 (by decide) (show ¬ ((0 : Int32) < 0 ∨ 9732 ≤ (0 : Int32).toNatClampNeg) by decide)) ?_
        refine m_R_sg (by decide) [(.isub, 1, 0, 0, 0, 0, 0)] (by decide +kernel) (show m_sgl X _ _ _ _ _ = some (178, [some (.ref 304), some (.int s0)], [.int (q18.1 - (q18.2.1 305 (0 : Int32).toNatClampNeg))], (SH, q18.2.1, q18.2.2)) from rfl) ?_
        exact ok_m_name__178 X d F _ _ _ _ _ _ h
      · refine m_R_1 (by decide) (m_opb_of (ins := .ifCond .eq 7) (len := 3) (tag := 0) (a := 162) (b := 0) (c := 0) (q := 0) (by decide +kernel)) (if_neg c350) ?_
        refine m_R_sg (by decide) [(.iconst 0, 1, 0, 0, 0, 0, 0), (.goto 19, 3, 0, 178, 0, 0, 0)] (by decide +kernel) (show m_sgl X _ _ _ _ _ = some (178, [some (.ref 304), some (.int s0)], [.int (0 : Int32)], (SH, q11.2.1, q11.2.2)) from rfl) ?_
        exact ok_m_name__178 X d F _ _ _ _ _ _ h
  · refine m_R_1 (by decide) (m_opb_of (ins := .ifCond .eq 21) (len := 3) (tag := 0) (a := 144) (b := 0) (c := 0) (q := 0) (by decide +kernel)) (if_neg c344) ?_
    refine m_R_sg (by decide) [(.iload_n 1, 1, 0, 1, 0, 0, 0)] (by decide +kernel) (show m_sgl X _ _ _ _ _ = some (127, [some (.ref 304), some (.int s0)], [.int s0], (SH, q10.2.1, q10.2.2)) from rfl) ?_
    rcases m_ite h with ⟨c351, h⟩ | ⟨c351, h⟩
    · refine m_R_1 (by decide) (m_opb_of (ins := .ifCond .eq 7) (len := 3) (tag := 0) (a := 134) (b := 0) (c := 0) (q := 0) (by decide +kernel)) (if_pos c351) ?_
      refine m_R_sg (by decide) [(.aload_n 0, 1, 0, 0, 0, 0, 0), (.aload_n 0, 1, 0, 0, 0, 0, 0), (.getfield 290, 3, 0, 12, 19, 0, 1511), (.iconst 2, 1, 0, 2, 0, 0, 0)] (by decide +kernel) (show m_sgl X _ _ _ _ _ = some (140, [some (.ref 304), some (.int s0)], [.int (2 : Int32), .int (q10.2.1 304 19), .ref 304], (SH, q10.2.1, q10.2.2)) from rfl) ?_
      obtain ⟨q19, hc19, h⟩ := Option.bind_eq_some_iff.mp h
      refine m_R_cV (v := (some (.int q19.1))) (h1 := (SH, q19.2)) (rest := []) (lo' := [some (.ref 304), some (.int (q10.2.1 304 19)), some (.int (2 : Int32))]) (ml := 3) (k0 := 304) (by decide) (Or.inl rfl) (m_opb_of (ins := .invokevirtual 160) (len := 3) (tag := 5) (a := 246) (b := 2) (c := 0) (q := 1791) (by decide +kernel)) (by decide +kernel) rfl (show m_isO 246 304 (SH, _) = true from m_isO_of (by decide +kernel)) (Nat.le_of_ble_eq_true rfl) rfl rfl (ok_m_paper X (d + 3) F _ _ _ _ _ hc19) ?_
      exact ok_m_name__143 X d F _ _ _ _ _ _ h
    · refine m_R_1 (by decide) (m_opb_of (ins := .ifCond .eq 7) (len := 3) (tag := 0) (a := 134) (b := 0) (c := 0) (q := 0) (by decide +kernel)) (if_neg c351) ?_
      refine m_R_sg (by decide) [(.iconst 0, 1, 0, 0, 0, 0, 0), (.goto 12, 3, 0, 143, 0, 0, 0)] (by decide +kernel) (show m_sgl X _ _ _ _ _ = some (143, [some (.ref 304), some (.int s0)], [.int (0 : Int32)], (SH, q10.2.1, q10.2.2)) from rfl) ?_
      exact ok_m_name__143 X d F _ _ _ _ _ _ h
def f_m_name_ (F : Nat)    (m : mM) : Option (Int32 × mM) := ((f_m_isWord F (149044 : Int64) m).bind fun q1 => (if q1.1 = 0 then ((f_m_isWord F (7750153 : Int64) q1.2).bind fun q2 => (if q2.1 = 0 then ((f_m_isWord F (7055522852 : Int64) q2.2).bind fun q3 => (if q3.1 = 0 then ((f_m_isWord F (456500 : Int64) q3.2).bind fun q4 => (if q4.1 = 0 then ((f_m_isWord F (2968 : Int64) q4.2).bind fun q5 => (if q5.1 = 0 then ((f_m_isWord F (8863997 : Int64) q5.2).bind fun q6 => (if q6.1 = 0 then (if (q6.2.1 304 19) = (-1 : Int32) then f_m_name__115 F (1 : Int32) q6.2 else f_m_name__115 F (0 : Int32) q6.2) else some ((q6.2.1 305 (10 : Int32).toNatClampNeg), q6.2))) else some ((q5.2.1 305 (0 : Int32).toNatClampNeg), q5.2))) else some (((q4.2.1 305 (0 : Int32).toNatClampNeg) / (7 : Int32)), q4.2))) else ((f_m_reserve F q3.2).bind fun q7 => some (q7.1, q7.2)))) else ((f_m_out F q2.2).bind fun q8 => some (q8.1, q8.2)))) else ((f_m_hs F (0 : Int32) (2 : Int32) q1.2).bind fun q9 => some (q9.1, q9.2))))
theorem ok_m_name_ (X : mX) (d F : Nat) : ∀   (m : mM) (r : Int32) (m' : mM), f_m_name_ F  m = some (r, m') → m_R X (d + 4) 243 0 [some (.ref 304), none] [] (SH, m) (some (.int r), (SH, m')) := by
  intro m r m' h
  unfold f_m_name_ at h
  refine m_R_sg (by decide) [(.aload_n 0, 1, 0, 0, 0, 0, 0), (.ldc2_w 271, 3, 0, 149044, 0, 0, 1774)] (by decide +kernel) (show m_sgl X _ _ _ _ _ = some (4, [some (.ref 304), none], [.long (149044 : Int64), .ref 304], (SH, m.1, m.2)) from rfl) ?_
  obtain ⟨q1, hc1, h⟩ := Option.bind_eq_some_iff.mp h
  refine m_R_cV (v := (some (.int q1.1))) (h1 := (SH, q1.2)) (rest := []) (lo' := [some (.ref 304), some (.long (149044 : Int64)), none]) (ml := 3) (k0 := 304) (by decide) (Or.inl rfl) (m_opb_of (ins := .invokevirtual 273) (len := 3) (tag := 5) (a := 233) (b := 1) (c := 0) (q := 1723) (by decide +kernel)) (by decide +kernel) rfl (show m_isO 233 304 (SH, _) = true from m_isO_of (by decide +kernel)) (Nat.le_of_ble_eq_true rfl) rfl rfl (ok_m_isWord X (d + 3) F _ _ _ _ hc1) ?_
  rcases m_ite h with ⟨c352, h⟩ | ⟨c352, h⟩
  · refine m_R_1 (by decide) (m_opb_of (ins := .ifCond .eq 10) (len := 3) (tag := 0) (a := 17) (b := 0) (c := 0) (q := 0) (by decide +kernel)) (if_pos c352) ?_
    refine m_R_sg (by decide) [(.aload_n 0, 1, 0, 0, 0, 0, 0), (.ldc2_w 277, 3, 0, 7750153, 0, 0, 1775)] (by decide +kernel) (show m_sgl X _ _ _ _ _ = some (21, [some (.ref 304), none], [.long (7750153 : Int64), .ref 304], (SH, q1.2.1, q1.2.2)) from rfl) ?_
    obtain ⟨q2, hc2, h⟩ := Option.bind_eq_some_iff.mp h
    refine m_R_cV (v := (some (.int q2.1))) (h1 := (SH, q2.2)) (rest := []) (lo' := [some (.ref 304), some (.long (7750153 : Int64)), none]) (ml := 3) (k0 := 304) (by decide) (Or.inl rfl) (m_opb_of (ins := .invokevirtual 273) (len := 3) (tag := 5) (a := 233) (b := 1) (c := 0) (q := 1723) (by decide +kernel)) (by decide +kernel) rfl (show m_isO 233 304 (SH, _) = true from m_isO_of (by decide +kernel)) (Nat.le_of_ble_eq_true rfl) rfl rfl (ok_m_isWord X (d + 3) F _ _ _ _ hc2) ?_
    rcases m_ite h with ⟨c353, h⟩ | ⟨c353, h⟩
    · refine m_R_1 (by decide) (m_opb_of (ins := .ifCond .eq 8) (len := 3) (tag := 0) (a := 32) (b := 0) (c := 0) (q := 0) (by decide +kernel)) (if_pos c353) ?_
      refine m_R_sg (by decide) [(.aload_n 0, 1, 0, 0, 0, 0, 0), (.ldc2_w 279, 3, 0, 7055522852, 0, 0, 1780)] (by decide +kernel) (show m_sgl X _ _ _ _ _ = some (36, [some (.ref 304), none], [.long (7055522852 : Int64), .ref 304], (SH, q2.2.1, q2.2.2)) from rfl) ?_
      obtain ⟨q3, hc3, h⟩ := Option.bind_eq_some_iff.mp h
      refine m_R_cV (v := (some (.int q3.1))) (h1 := (SH, q3.2)) (rest := []) (lo' := [some (.ref 304), some (.long (7055522852 : Int64)), none]) (ml := 3) (k0 := 304) (by decide) (Or.inl rfl) (m_opb_of (ins := .invokevirtual 273) (len := 3) (tag := 5) (a := 233) (b := 1) (c := 0) (q := 1723) (by decide +kernel)) (by decide +kernel) rfl (show m_isO 233 304 (SH, _) = true from m_isO_of (by decide +kernel)) (Nat.le_of_ble_eq_true rfl) rfl rfl (ok_m_isWord X (d + 3) F _ _ _ _ hc3) ?_
      rcases m_ite h with ⟨c354, h⟩ | ⟨c354, h⟩
      · refine m_R_1 (by decide) (m_opb_of (ins := .ifCond .eq 8) (len := 3) (tag := 0) (a := 47) (b := 0) (c := 0) (q := 0) (by decide +kernel)) (if_pos c354) ?_
        refine m_R_sg (by decide) [(.aload_n 0, 1, 0, 0, 0, 0, 0), (.ldc2_w 284, 3, 0, 456500, 0, 0, 1787)] (by decide +kernel) (show m_sgl X _ _ _ _ _ = some (51, [some (.ref 304), none], [.long (456500 : Int64), .ref 304], (SH, q3.2.1, q3.2.2)) from rfl) ?_
        obtain ⟨q4, hc4, h⟩ := Option.bind_eq_some_iff.mp h
        refine m_R_cV (v := (some (.int q4.1))) (h1 := (SH, q4.2)) (rest := []) (lo' := [some (.ref 304), some (.long (456500 : Int64)), none]) (ml := 3) (k0 := 304) (by decide) (Or.inl rfl) (m_opb_of (ins := .invokevirtual 273) (len := 3) (tag := 5) (a := 233) (b := 1) (c := 0) (q := 1723) (by decide +kernel)) (by decide +kernel) rfl (show m_isO 233 304 (SH, _) = true from m_isO_of (by decide +kernel)) (Nat.le_of_ble_eq_true rfl) rfl rfl (ok_m_isWord X (d + 3) F _ _ _ _ hc4) ?_
        rcases m_ite h with ⟨c355, h⟩ | ⟨c355, h⟩
        · refine m_R_1 (by decide) (m_opb_of (ins := .ifCond .eq 13) (len := 3) (tag := 0) (a := 67) (b := 0) (c := 0) (q := 0) (by decide +kernel)) (if_pos c355) ?_
          refine m_R_sg (by decide) [(.aload_n 0, 1, 0, 0, 0, 0, 0), (.ldc2_w 286, 3, 0, 2968, 0, 0, 1788)] (by decide +kernel) (show m_sgl X _ _ _ _ _ = some (71, [some (.ref 304), none], [.long (2968 : Int64), .ref 304], (SH, q4.2.1, q4.2.2)) from rfl) ?_
          obtain ⟨q5, hc5, h⟩ := Option.bind_eq_some_iff.mp h
          refine m_R_cV (v := (some (.int q5.1))) (h1 := (SH, q5.2)) (rest := []) (lo' := [some (.ref 304), some (.long (2968 : Int64)), none]) (ml := 3) (k0 := 304) (by decide) (Or.inl rfl) (m_opb_of (ins := .invokevirtual 273) (len := 3) (tag := 5) (a := 233) (b := 1) (c := 0) (q := 1723) (by decide +kernel)) (by decide +kernel) rfl (show m_isO 233 304 (SH, _) = true from m_isO_of (by decide +kernel)) (Nat.le_of_ble_eq_true rfl) rfl rfl (ok_m_isWord X (d + 3) F _ _ _ _ hc5) ?_
          rcases m_ite h with ⟨c356, h⟩ | ⟨c356, h⟩
          · refine m_R_1 (by decide) (m_opb_of (ins := .ifCond .eq 10) (len := 3) (tag := 0) (a := 84) (b := 0) (c := 0) (q := 0) (by decide +kernel)) (if_pos c356) ?_
            refine m_R_sg (by decide) [(.aload_n 0, 1, 0, 0, 0, 0, 0), (.ldc2_w 288, 3, 0, 8863997, 0, 0, 1789)] (by decide +kernel) (show m_sgl X _ _ _ _ _ = some (88, [some (.ref 304), none], [.long (8863997 : Int64), .ref 304], (SH, q5.2.1, q5.2.2)) from rfl) ?_
            obtain ⟨q6, hc6, h⟩ := Option.bind_eq_some_iff.mp h
            refine m_R_cV (v := (some (.int q6.1))) (h1 := (SH, q6.2)) (rest := []) (lo' := [some (.ref 304), some (.long (8863997 : Int64)), none]) (ml := 3) (k0 := 304) (by decide) (Or.inl rfl) (m_opb_of (ins := .invokevirtual 273) (len := 3) (tag := 5) (a := 233) (b := 1) (c := 0) (q := 1723) (by decide +kernel)) (by decide +kernel) rfl (show m_isO 233 304 (SH, _) = true from m_isO_of (by decide +kernel)) (Nat.le_of_ble_eq_true rfl) rfl rfl (ok_m_isWord X (d + 3) F _ _ _ _ hc6) ?_
            rcases m_ite h with ⟨c357, h⟩ | ⟨c357, h⟩
            · refine m_R_1 (by decide) (m_opb_of (ins := .ifCond .eq 11) (len := 3) (tag := 0) (a := 102) (b := 0) (c := 0) (q := 0) (by decide +kernel)) (if_pos c357) ?_
              refine m_R_sg (by decide) [(.aload_n 0, 1, 0, 0, 0, 0, 0), (.getfield 290, 3, 0, 12, 19, 0, 1511), (.iconst (-1), 1, 0, 1, 1, 0, 0)] (by decide +kernel) (show m_sgl X _ _ _ _ _ = some (107, [some (.ref 304), none], [.int (-1 : Int32), .int (q6.2.1 304 19)], (SH, q6.2.1, q6.2.2)) from rfl) ?_
              rcases m_ite h with ⟨c358, h⟩ | ⟨c358, h⟩
              · refine m_R_1 (by decide) (m_opb_of (ins := .if_icmp .ne 7) (len := 3) (tag := 0) (a := 114) (b := 0) (c := 0) (q := 0) (by decide +kernel)) (if_pos c358) ?_
                refine m_R_sg (by decide) [(.iconst 1, 1, 0, 1, 0, 0, 0), (.goto 4, 3, 0, 115, 0, 0, 0)] (by decide +kernel) (show m_sgl X _ _ _ _ _ = some (115, [some (.ref 304), none], [.int (1 : Int32)], (SH, q6.2.1, q6.2.2)) from rfl) ?_
                exact ok_m_name__115 X d F _ _ _ _ _ h
              · refine m_R_1 (by decide) (m_opb_of (ins := .if_icmp .ne 7) (len := 3) (tag := 0) (a := 114) (b := 0) (c := 0) (q := 0) (by decide +kernel)) (if_neg c358) ?_
                refine m_R_sg (by decide) [(.iconst 0, 1, 0, 0, 0, 0, 0)] (by decide +kernel) (show m_sgl X _ _ _ _ _ = some (115, [some (.ref 304), none], [.int (0 : Int32)], (SH, q6.2.1, q6.2.2)) from rfl) ?_
                exact ok_m_name__115 X d F _ _ _ _ _ h
            · refine m_R_1 (by decide) (m_opb_of (ins := .ifCond .eq 11) (len := 3) (tag := 0) (a := 102) (b := 0) (c := 0) (q := 0) (by decide +kernel)) (if_neg c357) ?_
              refine m_R_sg (by decide) [(.aload_n 0, 1, 0, 0, 0, 0, 0), (.getfield 13, 3, 0, 12, 1, 3, 1493), (.bipush 10, 2, 0, 10, 0, 0, 0)] (by decide +kernel) (show m_sgl X _ _ _ _ _ = some (100, [some (.ref 304), none], [.int (10 : Int32), .ref 305], (SH, q6.2.1, q6.2.2)) from rfl) ?_
              refine m_R_1 (by decide) (m_opb_of (ins := .iaload) (len := 1) (tag := 0) (a := 0) (b := 0) (c := 0) (q := 0) (by decide +kernel)) (m_s_iald sh_305 (by decide) (show ¬ ((10 : Int32) < 0 ∨ 9732 ≤ (10 : Int32).toNatClampNeg) by decide)) ?_
              obtain ⟨rfl, rfl⟩ := m_some h
              exact m_R_iret (by decide) (m_opb_of (ins := .ireturn) (len := 1) (tag := 1) (a := 0) (b := 0) (c := 0) (q := 0) (by decide +kernel)) (Or.inl rfl)
          · refine m_R_1 (by decide) (m_opb_of (ins := .ifCond .eq 10) (len := 3) (tag := 0) (a := 84) (b := 0) (c := 0) (q := 0) (by decide +kernel)) (if_neg c356) ?_
            refine m_R_sg (by decide) [(.aload_n 0, 1, 0, 0, 0, 0, 0), (.getfield 13, 3, 0, 12, 1, 3, 1493), (.iconst 0, 1, 0, 0, 0, 0, 0)] (by decide +kernel) (show m_sgl X _ _ _ _ _ = some (82, [some (.ref 304), none], [.int (0 : Int32), .ref 305], (SH, q5.2.1, q5.2.2)) from rfl) ?_
            refine m_R_1 (by decide) (m_opb_of (ins := .iaload) (len := 1) (tag := 0) (a := 0) (b := 0) (c := 0) (q := 0) (by decide +kernel)) (m_s_iald sh_305 (by decide) (show ¬ ((0 : Int32) < 0 ∨ 9732 ≤ (0 : Int32).toNatClampNeg) by decide)) ?_
            obtain ⟨rfl, rfl⟩ := m_some h
            exact m_R_iret (by decide) (m_opb_of (ins := .ireturn) (len := 1) (tag := 1) (a := 0) (b := 0) (c := 0) (q := 0) (by decide +kernel)) (Or.inl rfl)
        · refine m_R_1 (by decide) (m_opb_of (ins := .ifCond .eq 13) (len := 3) (tag := 0) (a := 67) (b := 0) (c := 0) (q := 0) (by decide +kernel)) (if_neg c355) ?_
          refine m_R_sg (by decide) [(.aload_n 0, 1, 0, 0, 0, 0, 0), (.getfield 13, 3, 0, 12, 1, 3, 1493), (.iconst 0, 1, 0, 0, 0, 0, 0)] (by decide +kernel) (show m_sgl X _ _ _ _ _ = some (62, [some (.ref 304), none], [.int (0 : Int32), .ref 305], (SH, q4.2.1, q4.2.2)) from rfl) ?_
          refine m_R_1 (by decide) (m_opb_of (ins := .iaload) (len := 1) (tag := 0) (a := 0) (b := 0) (c := 0) (q := 0) (by decide +kernel)) (m_s_iald sh_305 (by decide) (show ¬ ((0 : Int32) < 0 ∨ 9732 ≤ (0 : Int32).toNatClampNeg) by decide)) ?_
          refine m_R_sg (by decide) [(.bipush 7, 2, 0, 7, 0, 0, 0)] (by decide +kernel) (show m_sgl X _ _ _ _ _ = some (65, [some (.ref 304), none], [.int (7 : Int32), .int (q4.2.1 305 (0 : Int32).toNatClampNeg)], (SH, q4.2.1, q4.2.2)) from rfl) ?_
          refine m_R_1 (by decide) (m_opb_of (ins := .idiv) (len := 1) (tag := 0) (a := 0) (b := 0) (c := 0) (q := 0) (by decide +kernel)) (m_s_idiv (by decide)) ?_
          obtain ⟨rfl, rfl⟩ := m_some h
          exact m_R_iret (by decide) (m_opb_of (ins := .ireturn) (len := 1) (tag := 1) (a := 0) (b := 0) (c := 0) (q := 0) (by decide +kernel)) (Or.inl rfl)
      · refine m_R_1 (by decide) (m_opb_of (ins := .ifCond .eq 8) (len := 3) (tag := 0) (a := 47) (b := 0) (c := 0) (q := 0) (by decide +kernel)) (if_neg c354) ?_
        refine m_R_sg (by decide) [(.aload_n 0, 1, 0, 0, 0, 0, 0)] (by decide +kernel) (show m_sgl X _ _ _ _ _ = some (43, [some (.ref 304), none], [.ref 304], (SH, q3.2.1, q3.2.2)) from rfl) ?_
        obtain ⟨q7, hc7, h⟩ := Option.bind_eq_some_iff.mp h
        refine m_R_cV (v := (some (.int q7.1))) (h1 := (SH, q7.2)) (rest := []) (lo' := [some (.ref 304), none, none, none]) (ml := 4) (k0 := 304) (by decide) (Or.inl rfl) (m_opb_of (ins := .invokevirtual 281) (len := 3) (tag := 5) (a := 245) (b := 0) (c := 0) (q := 1781) (by decide +kernel)) (by decide +kernel) rfl (show m_isO 245 304 (SH, _) = true from m_isO_of (by decide +kernel)) (Nat.le_of_ble_eq_true rfl) rfl rfl (ok_m_reserve X (d + 0) F _ _ _ hc7) ?_
        obtain ⟨rfl, rfl⟩ := m_some h
        exact m_R_iret (by decide) (m_opb_of (ins := .ireturn) (len := 1) (tag := 1) (a := 0) (b := 0) (c := 0) (q := 0) (by decide +kernel)) (Or.inl rfl)
    · refine m_R_1 (by decide) (m_opb_of (ins := .ifCond .eq 8) (len := 3) (tag := 0) (a := 32) (b := 0) (c := 0) (q := 0) (by decide +kernel)) (if_neg c353) ?_
      refine m_R_sg (by decide) [(.aload_n 0, 1, 0, 0, 0, 0, 0)] (by decide +kernel) (show m_sgl X _ _ _ _ _ = some (28, [some (.ref 304), none], [.ref 304], (SH, q2.2.1, q2.2.2)) from rfl) ?_
      obtain ⟨q8, hc8, h⟩ := Option.bind_eq_some_iff.mp h
      refine m_R_cV (v := (some (.int q8.1))) (h1 := (SH, q8.2)) (rest := []) (lo' := [some (.ref 304)]) (ml := 1) (k0 := 304) (by decide) (Or.inl rfl) (m_opb_of (ins := .invokevirtual 112) (len := 3) (tag := 5) (a := 244) (b := 0) (c := 0) (q := 1776) (by decide +kernel)) (by decide +kernel) rfl (show m_isO 244 304 (SH, _) = true from m_isO_of (by decide +kernel)) (Nat.le_of_ble_eq_true rfl) rfl rfl (ok_m_out X (d + 1) F _ _ _ hc8) ?_
      obtain ⟨rfl, rfl⟩ := m_some h
      exact m_R_iret (by decide) (m_opb_of (ins := .ireturn) (len := 1) (tag := 1) (a := 0) (b := 0) (c := 0) (q := 0) (by decide +kernel)) (Or.inl rfl)
  · refine m_R_1 (by decide) (m_opb_of (ins := .ifCond .eq 10) (len := 3) (tag := 0) (a := 17) (b := 0) (c := 0) (q := 0) (by decide +kernel)) (if_neg c352) ?_
    refine m_R_sg (by decide) [(.aload_n 0, 1, 0, 0, 0, 0, 0), (.iconst 0, 1, 0, 0, 0, 0, 0), (.iconst 2, 1, 0, 2, 0, 0, 0)] (by decide +kernel) (show m_sgl X _ _ _ _ _ = some (13, [some (.ref 304), none], [.int (2 : Int32), .int (0 : Int32), .ref 304], (SH, q1.2.1, q1.2.2)) from rfl) ?_
    obtain ⟨q9, hc9, h⟩ := Option.bind_eq_some_iff.mp h
    refine m_R_cV (v := (some (.int q9.1))) (h1 := (SH, q9.2)) (rest := []) (lo' := [some (.ref 304), some (.int (0 : Int32)), some (.int (2 : Int32))]) (ml := 3) (k0 := 304) (by decide) (Or.inl rfl) (m_opb_of (ins := .invokevirtual 65) (len := 3) (tag := 5) (a := 212) (b := 2) (c := 0) (q := 1633) (by decide +kernel)) (by decide +kernel) rfl (show m_isO 212 304 (SH, _) = true from m_isO_of (by decide +kernel)) (Nat.le_of_ble_eq_true rfl) rfl rfl (ok_m_hs X (d + 3) F _ _ _ _ _ hc9) ?_
    obtain ⟨rfl, rfl⟩ := m_some h
    exact m_R_iret (by decide) (m_opb_of (ins := .ireturn) (len := 1) (tag := 1) (a := 0) (b := 0) (c := 0) (q := 0) (by decide +kernel)) (Or.inl rfl)
def f_m_either_37 (F : Nat) (g : Nat → mM → Option (Int32 × mM)) (k5 : Int32 → mM → Option (Int32 × mM)) (s0 : Int32) (m : mM) : Option (Int32 × mM) := k5 s0 m
theorem ok_m_either_37 (X : mX) (d F : Nat) (g : Nat → mM → Option (Int32 × mM)) (hg235 : ∀  (m : mM) (r : Int32) (m' : mM), g 235  m = some (r, m') → m_R X (d + 4) 235 0 [some (.ref 304), none, none] [] (SH, m) (some (.int r), (SH, m'))) (hg236 : ∀  (m : mM) (r : Int32) (m' : mM), g 236  m = some (r, m') → m_R X (d + 4) 236 0 [some (.ref 304), none, none] [] (SH, m) (some (.int r), (SH, m'))) (hg237 : ∀  (m : mM) (r : Int32) (m' : mM), g 237  m = some (r, m') → m_R X (d + 4) 237 0 [some (.ref 304), none, none, none, none] [] (SH, m) (some (.int r), (SH, m'))) (hg239 : ∀  (m : mM) (r : Int32) (m' : mM), g 239  m = some (r, m') → m_R X (d + 4) 239 0 [some (.ref 304), none, none, none] [] (SH, m) (some (.int r), (SH, m'))) (hg240 : ∀  (m : mM) (r : Int32) (m' : mM), g 240  m = some (r, m') → m_R X (d + 4) 240 0 [some (.ref 304), none, none, none, none] [] (SH, m) (some (.int r), (SH, m'))) (hg241 : ∀  (m : mM) (r : Int32) (m' : mM), g 241  m = some (r, m') → m_R X (d + 4) 241 0 [some (.ref 304), none] [] (SH, m) (some (.int r), (SH, m'))) (k5 : Int32 → mM → Option (Int32 × mM)) (hk5 : ∀ (v1 : Int32) (w2 : Option Value) (m : mM) (r : Int32) (m' : mM), k5 v1 m = some (r, m') → m_R X (d + 5) 235 5 [some (.ref 304), some (.int v1), w2] [] (SH, m) (some (.int r), (SH, m'))) : ∀ (s0 : Int32) (w1 : Option Value) (w2 : Option Value) (m : mM) (r : Int32) (m' : mM), f_m_either_37 F g k5 s0 m = some (r, m') → m_R X (d + 5) 235 37 [some (.ref 304), w1, w2] [.int s0] (SH, m) (some (.int r), (SH, m')) := by
  intro s0 w1 w2 m r m' h
  unfold f_m_either_37 at h
  refine m_R_sg (by decide) [(.istore_n 1, 1, 0, 1, 0, 0, 0), (.goto (-33), 3, 0, 5, 0, 0, 0)] (by decide +kernel) (show m_sgl X _ _ _ _ _ = some (5, [some (.ref 304), some (.int s0), w2], [], (SH, m.1, m.2)) from rfl) ?_
  exact hk5 _ _ _ _ _ h
def f_m_either_32 (F : Nat) (g : Nat → mM → Option (Int32 × mM)) (k5 : Int32 → mM → Option (Int32 × mM))  (m : mM) : Option (Int32 × mM) := f_m_either_37 F g k5 (1 : Int32) m
theorem ok_m_either_32 (X : mX) (d F : Nat) (g : Nat → mM → Option (Int32 × mM)) (hg235 : ∀  (m : mM) (r : Int32) (m' : mM), g 235  m = some (r, m') → m_R X (d + 4) 235 0 [some (.ref 304), none, none] [] (SH, m) (some (.int r), (SH, m'))) (hg236 : ∀  (m : mM) (r : Int32) (m' : mM), g 236  m = some (r, m') → m_R X (d + 4) 236 0 [some (.ref 304), none, none] [] (SH, m) (some (.int r), (SH, m'))) (hg237 : ∀  (m : mM) (r : Int32) (m' : mM), g 237  m = some (r, m') → m_R X (d + 4) 237 0 [some (.ref 304), none, none, none, none] [] (SH, m) (some (.int r), (SH, m'))) (hg239 : ∀  (m : mM) (r : Int32) (m' : mM), g 239  m = some (r, m') → m_R X (d + 4) 239 0 [some (.ref 304), none, none, none] [] (SH, m) (some (.int r), (SH, m'))) (hg240 : ∀  (m : mM) (r : Int32) (m' : mM), g 240  m = some (r, m') → m_R X (d + 4) 240 0 [some (.ref 304), none, none, none, none] [] (SH, m) (some (.int r), (SH, m'))) (hg241 : ∀  (m : mM) (r : Int32) (m' : mM), g 241  m = some (r, m') → m_R X (d + 4) 241 0 [some (.ref 304), none] [] (SH, m) (some (.int r), (SH, m'))) (k5 : Int32 → mM → Option (Int32 × mM)) (hk5 : ∀ (v1 : Int32) (w2 : Option Value) (m : mM) (r : Int32) (m' : mM), k5 v1 m = some (r, m') → m_R X (d + 5) 235 5 [some (.ref 304), some (.int v1), w2] [] (SH, m) (some (.int r), (SH, m'))) : ∀  (w1 : Option Value) (w2 : Option Value) (m : mM) (r : Int32) (m' : mM), f_m_either_32 F g k5  m = some (r, m') → m_R X (d + 5) 235 32 [some (.ref 304), w1, w2] [] (SH, m) (some (.int r), (SH, m')) := by
  intro w1 w2 m r m' h
  unfold f_m_either_32 at h
  refine m_R_sg (by decide) [(.iconst 1, 1, 0, 1, 0, 0, 0), (.goto 4, 3, 0, 37, 0, 0, 0)] (by decide +kernel) (show m_sgl X _ _ _ _ _ = some (37, [some (.ref 304), w1, w2], [.int (1 : Int32)], (SH, m.1, m.2)) from rfl) ?_
  exact ok_m_either_37 X d F g hg235 hg236 hg237 hg239 hg240 hg241 _ hk5 _ _ _ _ _ _ h
def f_m_either_5 (F : Nat) (g : Nat → mM → Option (Int32 × mM))  : Nat → Int32 → mM → Option (Int32 × mM)
  | 0, _, _ => none
  | n + 1, v1, m => ((f_m_isWord F (423 : Int64) m).bind fun q2 => (if q2.1 = 0 then some (v1, q2.2) else ((f_m_next F q2.2).bind fun q3 => ((g 236 q3.2).bind fun q4 => (if v1 = 0 then (if q4.1 = 0 then f_m_either_37 F g (f_m_either_5 F g n) (0 : Int32) q4.2 else f_m_either_32 F g (f_m_either_5 F g n) q4.2) else f_m_either_32 F g (f_m_either_5 F g n) q4.2)))))
theorem ok_m_either_5 (X : mX) (d F : Nat) (g : Nat → mM → Option (Int32 × mM)) (hg235 : ∀  (m : mM) (r : Int32) (m' : mM), g 235  m = some (r, m') → m_R X (d + 4) 235 0 [some (.ref 304), none, none] [] (SH, m) (some (.int r), (SH, m'))) (hg236 : ∀  (m : mM) (r : Int32) (m' : mM), g 236  m = some (r, m') → m_R X (d + 4) 236 0 [some (.ref 304), none, none] [] (SH, m) (some (.int r), (SH, m'))) (hg237 : ∀  (m : mM) (r : Int32) (m' : mM), g 237  m = some (r, m') → m_R X (d + 4) 237 0 [some (.ref 304), none, none, none, none] [] (SH, m) (some (.int r), (SH, m'))) (hg239 : ∀  (m : mM) (r : Int32) (m' : mM), g 239  m = some (r, m') → m_R X (d + 4) 239 0 [some (.ref 304), none, none, none] [] (SH, m) (some (.int r), (SH, m'))) (hg240 : ∀  (m : mM) (r : Int32) (m' : mM), g 240  m = some (r, m') → m_R X (d + 4) 240 0 [some (.ref 304), none, none, none, none] [] (SH, m) (some (.int r), (SH, m'))) (hg241 : ∀  (m : mM) (r : Int32) (m' : mM), g 241  m = some (r, m') → m_R X (d + 4) 241 0 [some (.ref 304), none] [] (SH, m) (some (.int r), (SH, m'))) : ∀ (n : Nat) (v1 : Int32) (w2 : Option Value) (m : mM) (r : Int32) (m' : mM), f_m_either_5 F g n v1 m = some (r, m') → m_R X (d + 5) 235 5 [some (.ref 304), some (.int v1), w2] [] (SH, m) (some (.int r), (SH, m')) := by
  intro n
  induction n with
  | zero => intro v1 w2 m r m' h; cases h
  | succ n ih =>
    intro v1 w2 m r m' h
    simp only [f_m_either_5] at h
    refine m_R_sg (by decide) [(.aload_n 0, 1, 0, 0, 0, 0, 0), (.ldc2_w 342, 3, 0, 423, 0, 0, 1804)] (by decide +kernel) (show m_sgl X _ _ _ _ _ = some (9, [some (.ref 304), some (.int v1), w2], [.long (423 : Int64), .ref 304], (SH, m.1, m.2)) from rfl) ?_
    obtain ⟨q2, hc2, h⟩ := Option.bind_eq_some_iff.mp h
    refine m_R_cV (v := (some (.int q2.1))) (h1 := (SH, q2.2)) (rest := []) (lo' := [some (.ref 304), some (.long (423 : Int64)), none]) (ml := 3) (k0 := 304) (by decide) (Or.inl rfl) (m_opb_of (ins := .invokevirtual 273) (len := 3) (tag := 5) (a := 233) (b := 1) (c := 0) (q := 1723) (by decide +kernel)) (by decide +kernel) rfl (show m_isO 233 304 (SH, _) = true from m_isO_of (by decide +kernel)) (Nat.le_of_ble_eq_true rfl) rfl rfl (ok_m_isWord X (d + 4) F _ _ _ _ hc2) ?_
    rcases m_ite h with ⟨c359, h⟩ | ⟨c359, h⟩
    · refine m_R_1 (by decide) (m_opb_of (ins := .ifCond .eq 29) (len := 3) (tag := 0) (a := 41) (b := 0) (c := 0) (q := 0) (by decide +kernel)) (if_pos c359) ?_
      refine m_R_sg (by decide) [(.iload_n 1, 1, 0, 1, 0, 0, 0)] (by decide +kernel) (show m_sgl X _ _ _ _ _ = some (42, [some (.ref 304), some (.int v1), w2], [.int v1], (SH, q2.2.1, q2.2.2)) from rfl) ?_
      obtain ⟨rfl, rfl⟩ := m_some h
      exact m_R_iret (by decide) (m_opb_of (ins := .ireturn) (len := 1) (tag := 1) (a := 0) (b := 0) (c := 0) (q := 0) (by decide +kernel)) (Or.inl rfl)
    · refine m_R_1 (by decide) (m_opb_of (ins := .ifCond .eq 29) (len := 3) (tag := 0) (a := 41) (b := 0) (c := 0) (q := 0) (by decide +kernel)) (if_neg c359) ?_
      refine m_R_sg (by decide) [(.aload_n 0, 1, 0, 0, 0, 0, 0)] (by decide +kernel) (show m_sgl X _ _ _ _ _ = some (16, [some (.ref 304), some (.int v1), w2], [.ref 304], (SH, q2.2.1, q2.2.2)) from rfl) ?_
      obtain ⟨q3, hc3, h⟩ := Option.bind_eq_some_iff.mp h
      refine m_R_cV (v := none) (h1 := (SH, q3.2)) (rest := []) (lo' := [some (.ref 304), none, none]) (ml := 3) (k0 := 304) (by decide) (Or.inl rfl) (m_opb_of (ins := .invokevirtual 269) (len := 3) (tag := 5) (a := 230) (b := 0) (c := 0) (q := 1705) (by decide +kernel)) (by decide +kernel) rfl (show m_isO 230 304 (SH, _) = true from m_isO_of (by decide +kernel)) (Nat.le_of_ble_eq_true rfl) rfl rfl (ok_m_next X (d + 3) F _ _ _ hc3) ?_
      refine m_R_sg (by decide) [(.aload_n 0, 1, 0, 0, 0, 0, 0)] (by decide +kernel) (show m_sgl X _ _ _ _ _ = some (20, [some (.ref 304), some (.int v1), w2], [.ref 304], (SH, q3.2.1, q3.2.2)) from rfl) ?_
      obtain ⟨q4, hc4, h⟩ := Option.bind_eq_some_iff.mp h
      refine m_R_cV (v := (some (.int q4.1))) (h1 := (SH, q4.2)) (rest := []) (lo' := [some (.ref 304), none, none]) (ml := 3) (k0 := 304) (by decide) (Or.inl rfl) (m_opb_of (ins := .invokevirtual 339) (len := 3) (tag := 5) (a := 236) (b := 0) (c := 0) (q := 1741) (by decide +kernel)) (by decide +kernel) rfl (show m_isO 236 304 (SH, _) = true from m_isO_of (by decide +kernel)) (Nat.le_of_ble_eq_true rfl) rfl rfl (hg236 _ _ _ hc4) ?_
      refine m_R_sg (by decide) [(.istore_n 2, 1, 0, 2, 0, 0, 0), (.iload_n 1, 1, 0, 1, 0, 0, 0)] (by decide +kernel) (show m_sgl X _ _ _ _ _ = some (25, [some (.ref 304), some (.int v1), some (.int q4.1)], [.int v1], (SH, q4.2.1, q4.2.2)) from rfl) ?_
      rcases m_ite h with ⟨c360, h⟩ | ⟨c360, h⟩
      · refine m_R_1 (by decide) (m_opb_of (ins := .ifCond .ne 7) (len := 3) (tag := 0) (a := 32) (b := 0) (c := 0) (q := 0) (by decide +kernel)) (if_pos c360) ?_
        refine m_R_sg (by decide) [(.iload_n 2, 1, 0, 2, 0, 0, 0)] (by decide +kernel) (show m_sgl X _ _ _ _ _ = some (29, [some (.ref 304), some (.int v1), some (.int q4.1)], [.int q4.1], (SH, q4.2.1, q4.2.2)) from rfl) ?_
        rcases m_ite h with ⟨c361, h⟩ | ⟨c361, h⟩
        · refine m_R_1 (by decide) (m_opb_of (ins := .ifCond .eq 7) (len := 3) (tag := 0) (a := 36) (b := 0) (c := 0) (q := 0) (by decide +kernel)) (if_pos c361) ?_
          refine m_R_sg (by decide) [(.iconst 0, 1, 0, 0, 0, 0, 0)] (by decide +kernel) (show m_sgl X _ _ _ _ _ = some (37, [some (.ref 304), some (.int v1), some (.int q4.1)], [.int (0 : Int32)], (SH, q4.2.1, q4.2.2)) from rfl) ?_
          exact ok_m_either_37 X d F g hg235 hg236 hg237 hg239 hg240 hg241 _ (fun a0 a1 m r m' h => ih a0 a1 m r m' h) _ _ _ _ _ _ h
        · refine m_R_1 (by decide) (m_opb_of (ins := .ifCond .eq 7) (len := 3) (tag := 0) (a := 36) (b := 0) (c := 0) (q := 0) (by decide +kernel)) (if_neg c361) ?_
          exact ok_m_either_32 X d F g hg235 hg236 hg237 hg239 hg240 hg241 _ (fun a0 a1 m r m' h => ih a0 a1 m r m' h) _ _ _ _ _ h
      · refine m_R_1 (by decide) (m_opb_of (ins := .ifCond .ne 7) (len := 3) (tag := 0) (a := 32) (b := 0) (c := 0) (q := 0) (by decide +kernel)) (if_neg c360) ?_
        exact ok_m_either_32 X d F g hg235 hg236 hg237 hg239 hg240 hg241 _ (fun a0 a1 m r m' h => ih a0 a1 m r m' h) _ _ _ _ _ h
def f_m_either (F : Nat) (g : Nat → mM → Option (Int32 × mM))   (m : mM) : Option (Int32 × mM) := ((g 236 m).bind fun q1 => f_m_either_5 F g F q1.1 q1.2)
theorem ok_m_either (X : mX) (d F : Nat) (g : Nat → mM → Option (Int32 × mM)) (hg235 : ∀  (m : mM) (r : Int32) (m' : mM), g 235  m = some (r, m') → m_R X (d + 4) 235 0 [some (.ref 304), none, none] [] (SH, m) (some (.int r), (SH, m'))) (hg236 : ∀  (m : mM) (r : Int32) (m' : mM), g 236  m = some (r, m') → m_R X (d + 4) 236 0 [some (.ref 304), none, none] [] (SH, m) (some (.int r), (SH, m'))) (hg237 : ∀  (m : mM) (r : Int32) (m' : mM), g 237  m = some (r, m') → m_R X (d + 4) 237 0 [some (.ref 304), none, none, none, none] [] (SH, m) (some (.int r), (SH, m'))) (hg239 : ∀  (m : mM) (r : Int32) (m' : mM), g 239  m = some (r, m') → m_R X (d + 4) 239 0 [some (.ref 304), none, none, none] [] (SH, m) (some (.int r), (SH, m'))) (hg240 : ∀  (m : mM) (r : Int32) (m' : mM), g 240  m = some (r, m') → m_R X (d + 4) 240 0 [some (.ref 304), none, none, none, none] [] (SH, m) (some (.int r), (SH, m'))) (hg241 : ∀  (m : mM) (r : Int32) (m' : mM), g 241  m = some (r, m') → m_R X (d + 4) 241 0 [some (.ref 304), none] [] (SH, m) (some (.int r), (SH, m'))) : ∀   (m : mM) (r : Int32) (m' : mM), f_m_either F g  m = some (r, m') → m_R X (d + 5) 235 0 [some (.ref 304), none, none] [] (SH, m) (some (.int r), (SH, m')) := by
  intro m r m' h
  unfold f_m_either at h
  refine m_R_sg (by decide) [(.aload_n 0, 1, 0, 0, 0, 0, 0)] (by decide +kernel) (show m_sgl X _ _ _ _ _ = some (1, [some (.ref 304), none, none], [.ref 304], (SH, m.1, m.2)) from rfl) ?_
  obtain ⟨q1, hc1, h⟩ := Option.bind_eq_some_iff.mp h
  refine m_R_cV (v := (some (.int q1.1))) (h1 := (SH, q1.2)) (rest := []) (lo' := [some (.ref 304), none, none]) (ml := 3) (k0 := 304) (by decide) (Or.inl rfl) (m_opb_of (ins := .invokevirtual 339) (len := 3) (tag := 5) (a := 236) (b := 0) (c := 0) (q := 1741) (by decide +kernel)) (by decide +kernel) rfl (show m_isO 236 304 (SH, _) = true from m_isO_of (by decide +kernel)) (Nat.le_of_ble_eq_true rfl) rfl rfl (hg236 _ _ _ hc1) ?_
  refine m_R_sg (by decide) [(.istore_n 1, 1, 0, 1, 0, 0, 0)] (by decide +kernel) (show m_sgl X _ _ _ _ _ = some (5, [some (.ref 304), some (.int q1.1), none], [], (SH, q1.2.1, q1.2.2)) from rfl) ?_
  exact ok_m_either_5 X d F g hg235 hg236 hg237 hg239 hg240 hg241 F _ _ _ _ _ h
def f_m_both_37 (F : Nat) (g : Nat → mM → Option (Int32 × mM)) (k5 : Int32 → mM → Option (Int32 × mM)) (s0 : Int32) (m : mM) : Option (Int32 × mM) := k5 s0 m
theorem ok_m_both_37 (X : mX) (d F : Nat) (g : Nat → mM → Option (Int32 × mM)) (hg235 : ∀  (m : mM) (r : Int32) (m' : mM), g 235  m = some (r, m') → m_R X (d + 4) 235 0 [some (.ref 304), none, none] [] (SH, m) (some (.int r), (SH, m'))) (hg236 : ∀  (m : mM) (r : Int32) (m' : mM), g 236  m = some (r, m') → m_R X (d + 4) 236 0 [some (.ref 304), none, none] [] (SH, m) (some (.int r), (SH, m'))) (hg237 : ∀  (m : mM) (r : Int32) (m' : mM), g 237  m = some (r, m') → m_R X (d + 4) 237 0 [some (.ref 304), none, none, none, none] [] (SH, m) (some (.int r), (SH, m'))) (hg239 : ∀  (m : mM) (r : Int32) (m' : mM), g 239  m = some (r, m') → m_R X (d + 4) 239 0 [some (.ref 304), none, none, none] [] (SH, m) (some (.int r), (SH, m'))) (hg240 : ∀  (m : mM) (r : Int32) (m' : mM), g 240  m = some (r, m') → m_R X (d + 4) 240 0 [some (.ref 304), none, none, none, none] [] (SH, m) (some (.int r), (SH, m'))) (hg241 : ∀  (m : mM) (r : Int32) (m' : mM), g 241  m = some (r, m') → m_R X (d + 4) 241 0 [some (.ref 304), none] [] (SH, m) (some (.int r), (SH, m'))) (k5 : Int32 → mM → Option (Int32 × mM)) (hk5 : ∀ (v1 : Int32) (w2 : Option Value) (m : mM) (r : Int32) (m' : mM), k5 v1 m = some (r, m') → m_R X (d + 5) 236 5 [some (.ref 304), some (.int v1), w2] [] (SH, m) (some (.int r), (SH, m'))) : ∀ (s0 : Int32) (w1 : Option Value) (w2 : Option Value) (m : mM) (r : Int32) (m' : mM), f_m_both_37 F g k5 s0 m = some (r, m') → m_R X (d + 5) 236 37 [some (.ref 304), w1, w2] [.int s0] (SH, m) (some (.int r), (SH, m')) := by
  intro s0 w1 w2 m r m' h
  unfold f_m_both_37 at h
  refine m_R_sg (by decide) [(.istore_n 1, 1, 0, 1, 0, 0, 0), (.goto (-33), 3, 0, 5, 0, 0, 0)] (by decide +kernel) (show m_sgl X _ _ _ _ _ = some (5, [some (.ref 304), some (.int s0), w2], [], (SH, m.1, m.2)) from rfl) ?_
  exact hk5 _ _ _ _ _ h
def f_m_both_36 (F : Nat) (g : Nat → mM → Option (Int32 × mM)) (k5 : Int32 → mM → Option (Int32 × mM))  (m : mM) : Option (Int32 × mM) := f_m_both_37 F g k5 (0 : Int32) m
theorem ok_m_both_36 (X : mX) (d F : Nat) (g : Nat → mM → Option (Int32 × mM)) (hg235 : ∀  (m : mM) (r : Int32) (m' : mM), g 235  m = some (r, m') → m_R X (d + 4) 235 0 [some (.ref 304), none, none] [] (SH, m) (some (.int r), (SH, m'))) (hg236 : ∀  (m : mM) (r : Int32) (m' : mM), g 236  m = some (r, m') → m_R X (d + 4) 236 0 [some (.ref 304), none, none] [] (SH, m) (some (.int r), (SH, m'))) (hg237 : ∀  (m : mM) (r : Int32) (m' : mM), g 237  m = some (r, m') → m_R X (d + 4) 237 0 [some (.ref 304), none, none, none, none] [] (SH, m) (some (.int r), (SH, m'))) (hg239 : ∀  (m : mM) (r : Int32) (m' : mM), g 239  m = some (r, m') → m_R X (d + 4) 239 0 [some (.ref 304), none, none, none] [] (SH, m) (some (.int r), (SH, m'))) (hg240 : ∀  (m : mM) (r : Int32) (m' : mM), g 240  m = some (r, m') → m_R X (d + 4) 240 0 [some (.ref 304), none, none, none, none] [] (SH, m) (some (.int r), (SH, m'))) (hg241 : ∀  (m : mM) (r : Int32) (m' : mM), g 241  m = some (r, m') → m_R X (d + 4) 241 0 [some (.ref 304), none] [] (SH, m) (some (.int r), (SH, m'))) (k5 : Int32 → mM → Option (Int32 × mM)) (hk5 : ∀ (v1 : Int32) (w2 : Option Value) (m : mM) (r : Int32) (m' : mM), k5 v1 m = some (r, m') → m_R X (d + 5) 236 5 [some (.ref 304), some (.int v1), w2] [] (SH, m) (some (.int r), (SH, m'))) : ∀  (w1 : Option Value) (w2 : Option Value) (m : mM) (r : Int32) (m' : mM), f_m_both_36 F g k5  m = some (r, m') → m_R X (d + 5) 236 36 [some (.ref 304), w1, w2] [] (SH, m) (some (.int r), (SH, m')) := by
  intro w1 w2 m r m' h
  unfold f_m_both_36 at h
  refine m_R_sg (by decide) [(.iconst 0, 1, 0, 0, 0, 0, 0)] (by decide +kernel) (show m_sgl X _ _ _ _ _ = some (37, [some (.ref 304), w1, w2], [.int (0 : Int32)], (SH, m.1, m.2)) from rfl) ?_
  exact ok_m_both_37 X d F g hg235 hg236 hg237 hg239 hg240 hg241 _ hk5 _ _ _ _ _ _ h
def f_m_both_5 (F : Nat) (g : Nat → mM → Option (Int32 × mM))  : Nat → Int32 → mM → Option (Int32 × mM)
  | 0, _, _ => none
  | n + 1, v1, m => ((f_m_isWord F (1111 : Int64) m).bind fun q2 => (if q2.1 = 0 then some (v1, q2.2) else ((f_m_next F q2.2).bind fun q3 => ((g 237 q3.2).bind fun q4 => (if v1 = 0 then f_m_both_36 F g (f_m_both_5 F g n) q4.2 else (if q4.1 = 0 then f_m_both_36 F g (f_m_both_5 F g n) q4.2 else f_m_both_37 F g (f_m_both_5 F g n) (1 : Int32) q4.2))))))
theorem ok_m_both_5 (X : mX) (d F : Nat) (g : Nat → mM → Option (Int32 × mM)) (hg235 : ∀  (m : mM) (r : Int32) (m' : mM), g 235  m = some (r, m') → m_R X (d + 4) 235 0 [some (.ref 304), none, none] [] (SH, m) (some (.int r), (SH, m'))) (hg236 : ∀  (m : mM) (r : Int32) (m' : mM), g 236  m = some (r, m') → m_R X (d + 4) 236 0 [some (.ref 304), none, none] [] (SH, m) (some (.int r), (SH, m'))) (hg237 : ∀  (m : mM) (r : Int32) (m' : mM), g 237  m = some (r, m') → m_R X (d + 4) 237 0 [some (.ref 304), none, none, none, none] [] (SH, m) (some (.int r), (SH, m'))) (hg239 : ∀  (m : mM) (r : Int32) (m' : mM), g 239  m = some (r, m') → m_R X (d + 4) 239 0 [some (.ref 304), none, none, none] [] (SH, m) (some (.int r), (SH, m'))) (hg240 : ∀  (m : mM) (r : Int32) (m' : mM), g 240  m = some (r, m') → m_R X (d + 4) 240 0 [some (.ref 304), none, none, none, none] [] (SH, m) (some (.int r), (SH, m'))) (hg241 : ∀  (m : mM) (r : Int32) (m' : mM), g 241  m = some (r, m') → m_R X (d + 4) 241 0 [some (.ref 304), none] [] (SH, m) (some (.int r), (SH, m'))) : ∀ (n : Nat) (v1 : Int32) (w2 : Option Value) (m : mM) (r : Int32) (m' : mM), f_m_both_5 F g n v1 m = some (r, m') → m_R X (d + 5) 236 5 [some (.ref 304), some (.int v1), w2] [] (SH, m) (some (.int r), (SH, m')) := by
  intro n
  induction n with
  | zero => intro v1 w2 m r m' h; cases h
  | succ n ih =>
    intro v1 w2 m r m' h
    simp only [f_m_both_5] at h
    refine m_R_sg (by decide) [(.aload_n 0, 1, 0, 0, 0, 0, 0), (.ldc2_w 337, 3, 0, 1111, 0, 0, 1803)] (by decide +kernel) (show m_sgl X _ _ _ _ _ = some (9, [some (.ref 304), some (.int v1), w2], [.long (1111 : Int64), .ref 304], (SH, m.1, m.2)) from rfl) ?_
    obtain ⟨q2, hc2, h⟩ := Option.bind_eq_some_iff.mp h
    refine m_R_cV (v := (some (.int q2.1))) (h1 := (SH, q2.2)) (rest := []) (lo' := [some (.ref 304), some (.long (1111 : Int64)), none]) (ml := 3) (k0 := 304) (by decide) (Or.inl rfl) (m_opb_of (ins := .invokevirtual 273) (len := 3) (tag := 5) (a := 233) (b := 1) (c := 0) (q := 1723) (by decide +kernel)) (by decide +kernel) rfl (show m_isO 233 304 (SH, _) = true from m_isO_of (by decide +kernel)) (Nat.le_of_ble_eq_true rfl) rfl rfl (ok_m_isWord X (d + 4) F _ _ _ _ hc2) ?_
    rcases m_ite h with ⟨c362, h⟩ | ⟨c362, h⟩
    · refine m_R_1 (by decide) (m_opb_of (ins := .ifCond .eq 29) (len := 3) (tag := 0) (a := 41) (b := 0) (c := 0) (q := 0) (by decide +kernel)) (if_pos c362) ?_
      refine m_R_sg (by decide) [(.iload_n 1, 1, 0, 1, 0, 0, 0)] (by decide +kernel) (show m_sgl X _ _ _ _ _ = some (42, [some (.ref 304), some (.int v1), w2], [.int v1], (SH, q2.2.1, q2.2.2)) from rfl) ?_
      obtain ⟨rfl, rfl⟩ := m_some h
      exact m_R_iret (by decide) (m_opb_of (ins := .ireturn) (len := 1) (tag := 1) (a := 0) (b := 0) (c := 0) (q := 0) (by decide +kernel)) (Or.inl rfl)
    · refine m_R_1 (by decide) (m_opb_of (ins := .ifCond .eq 29) (len := 3) (tag := 0) (a := 41) (b := 0) (c := 0) (q := 0) (by decide +kernel)) (if_neg c362) ?_
      refine m_R_sg (by decide) [(.aload_n 0, 1, 0, 0, 0, 0, 0)] (by decide +kernel) (show m_sgl X _ _ _ _ _ = some (16, [some (.ref 304), some (.int v1), w2], [.ref 304], (SH, q2.2.1, q2.2.2)) from rfl) ?_
      obtain ⟨q3, hc3, h⟩ := Option.bind_eq_some_iff.mp h
      refine m_R_cV (v := none) (h1 := (SH, q3.2)) (rest := []) (lo' := [some (.ref 304), none, none]) (ml := 3) (k0 := 304) (by decide) (Or.inl rfl) (m_opb_of (ins := .invokevirtual 269) (len := 3) (tag := 5) (a := 230) (b := 0) (c := 0) (q := 1705) (by decide +kernel)) (by decide +kernel) rfl (show m_isO 230 304 (SH, _) = true from m_isO_of (by decide +kernel)) (Nat.le_of_ble_eq_true rfl) rfl rfl (ok_m_next X (d + 3) F _ _ _ hc3) ?_
      refine m_R_sg (by decide) [(.aload_n 0, 1, 0, 0, 0, 0, 0)] (by decide +kernel) (show m_sgl X _ _ _ _ _ = some (20, [some (.ref 304), some (.int v1), w2], [.ref 304], (SH, q3.2.1, q3.2.2)) from rfl) ?_
      obtain ⟨q4, hc4, h⟩ := Option.bind_eq_some_iff.mp h
      refine m_R_cV (v := (some (.int q4.1))) (h1 := (SH, q4.2)) (rest := []) (lo' := [some (.ref 304), none, none, none, none]) (ml := 5) (k0 := 304) (by decide) (Or.inl rfl) (m_opb_of (ins := .invokevirtual 327) (len := 3) (tag := 5) (a := 237) (b := 0) (c := 0) (q := 1745) (by decide +kernel)) (by decide +kernel) rfl (show m_isO 237 304 (SH, _) = true from m_isO_of (by decide +kernel)) (Nat.le_of_ble_eq_true rfl) rfl rfl (hg237 _ _ _ hc4) ?_
      refine m_R_sg (by decide) [(.istore_n 2, 1, 0, 2, 0, 0, 0), (.iload_n 1, 1, 0, 1, 0, 0, 0)] (by decide +kernel) (show m_sgl X _ _ _ _ _ = some (25, [some (.ref 304), some (.int v1), some (.int q4.1)], [.int v1], (SH, q4.2.1, q4.2.2)) from rfl) ?_
      rcases m_ite h with ⟨c363, h⟩ | ⟨c363, h⟩
      · refine m_R_1 (by decide) (m_opb_of (ins := .ifCond .eq 11) (len := 3) (tag := 0) (a := 36) (b := 0) (c := 0) (q := 0) (by decide +kernel)) (if_pos c363) ?_
        exact ok_m_both_36 X d F g hg235 hg236 hg237 hg239 hg240 hg241 _ (fun a0 a1 m r m' h => ih a0 a1 m r m' h) _ _ _ _ _ h
      · refine m_R_1 (by decide) (m_opb_of (ins := .ifCond .eq 11) (len := 3) (tag := 0) (a := 36) (b := 0) (c := 0) (q := 0) (by decide +kernel)) (if_neg c363) ?_
        refine m_R_sg (by decide) [(.iload_n 2, 1, 0, 2, 0, 0, 0)] (by decide +kernel) (show m_sgl X _ _ _ _ _ = some (29, [some (.ref 304), some (.int v1), some (.int q4.1)], [.int q4.1], (SH, q4.2.1, q4.2.2)) from rfl) ?_
        rcases m_ite h with ⟨c364, h⟩ | ⟨c364, h⟩
        · refine m_R_1 (by decide) (m_opb_of (ins := .ifCond .eq 7) (len := 3) (tag := 0) (a := 36) (b := 0) (c := 0) (q := 0) (by decide +kernel)) (if_pos c364) ?_
          exact ok_m_both_36 X d F g hg235 hg236 hg237 hg239 hg240 hg241 _ (fun a0 a1 m r m' h => ih a0 a1 m r m' h) _ _ _ _ _ h
        · refine m_R_1 (by decide) (m_opb_of (ins := .ifCond .eq 7) (len := 3) (tag := 0) (a := 36) (b := 0) (c := 0) (q := 0) (by decide +kernel)) (if_neg c364) ?_
          refine m_R_sg (by decide) [(.iconst 1, 1, 0, 1, 0, 0, 0), (.goto 4, 3, 0, 37, 0, 0, 0)] (by decide +kernel) (show m_sgl X _ _ _ _ _ = some (37, [some (.ref 304), some (.int v1), some (.int q4.1)], [.int (1 : Int32)], (SH, q4.2.1, q4.2.2)) from rfl) ?_
          exact ok_m_both_37 X d F g hg235 hg236 hg237 hg239 hg240 hg241 _ (fun a0 a1 m r m' h => ih a0 a1 m r m' h) _ _ _ _ _ _ h
def f_m_both (F : Nat) (g : Nat → mM → Option (Int32 × mM))   (m : mM) : Option (Int32 × mM) := ((g 237 m).bind fun q1 => f_m_both_5 F g F q1.1 q1.2)
theorem ok_m_both (X : mX) (d F : Nat) (g : Nat → mM → Option (Int32 × mM)) (hg235 : ∀  (m : mM) (r : Int32) (m' : mM), g 235  m = some (r, m') → m_R X (d + 4) 235 0 [some (.ref 304), none, none] [] (SH, m) (some (.int r), (SH, m'))) (hg236 : ∀  (m : mM) (r : Int32) (m' : mM), g 236  m = some (r, m') → m_R X (d + 4) 236 0 [some (.ref 304), none, none] [] (SH, m) (some (.int r), (SH, m'))) (hg237 : ∀  (m : mM) (r : Int32) (m' : mM), g 237  m = some (r, m') → m_R X (d + 4) 237 0 [some (.ref 304), none, none, none, none] [] (SH, m) (some (.int r), (SH, m'))) (hg239 : ∀  (m : mM) (r : Int32) (m' : mM), g 239  m = some (r, m') → m_R X (d + 4) 239 0 [some (.ref 304), none, none, none] [] (SH, m) (some (.int r), (SH, m'))) (hg240 : ∀  (m : mM) (r : Int32) (m' : mM), g 240  m = some (r, m') → m_R X (d + 4) 240 0 [some (.ref 304), none, none, none, none] [] (SH, m) (some (.int r), (SH, m'))) (hg241 : ∀  (m : mM) (r : Int32) (m' : mM), g 241  m = some (r, m') → m_R X (d + 4) 241 0 [some (.ref 304), none] [] (SH, m) (some (.int r), (SH, m'))) : ∀   (m : mM) (r : Int32) (m' : mM), f_m_both F g  m = some (r, m') → m_R X (d + 5) 236 0 [some (.ref 304), none, none] [] (SH, m) (some (.int r), (SH, m')) := by
  intro m r m' h
  unfold f_m_both at h
  refine m_R_sg (by decide) [(.aload_n 0, 1, 0, 0, 0, 0, 0)] (by decide +kernel) (show m_sgl X _ _ _ _ _ = some (1, [some (.ref 304), none, none], [.ref 304], (SH, m.1, m.2)) from rfl) ?_
  obtain ⟨q1, hc1, h⟩ := Option.bind_eq_some_iff.mp h
  refine m_R_cV (v := (some (.int q1.1))) (h1 := (SH, q1.2)) (rest := []) (lo' := [some (.ref 304), none, none, none, none]) (ml := 5) (k0 := 304) (by decide) (Or.inl rfl) (m_opb_of (ins := .invokevirtual 327) (len := 3) (tag := 5) (a := 237) (b := 0) (c := 0) (q := 1745) (by decide +kernel)) (by decide +kernel) rfl (show m_isO 237 304 (SH, _) = true from m_isO_of (by decide +kernel)) (Nat.le_of_ble_eq_true rfl) rfl rfl (hg237 _ _ _ hc1) ?_
  refine m_R_sg (by decide) [(.istore_n 1, 1, 0, 1, 0, 0, 0)] (by decide +kernel) (show m_sgl X _ _ _ _ _ = some (5, [some (.ref 304), some (.int q1.1), none], [], (SH, q1.2.1, q1.2.2)) from rfl) ?_
  exact ok_m_both_5 X d F g hg235 hg236 hg237 hg239 hg240 hg241 F _ _ _ _ _ h
def f_m_not_43 (F : Nat) (g : Nat → mM → Option (Int32 × mM))  (s0 : Int32) (m : mM) : Option (Int32 × mM) := some (s0, m)
theorem ok_m_not_43 (X : mX) (d F : Nat) (g : Nat → mM → Option (Int32 × mM)) (hg235 : ∀  (m : mM) (r : Int32) (m' : mM), g 235  m = some (r, m') → m_R X (d + 4) 235 0 [some (.ref 304), none, none] [] (SH, m) (some (.int r), (SH, m'))) (hg236 : ∀  (m : mM) (r : Int32) (m' : mM), g 236  m = some (r, m') → m_R X (d + 4) 236 0 [some (.ref 304), none, none] [] (SH, m) (some (.int r), (SH, m'))) (hg237 : ∀  (m : mM) (r : Int32) (m' : mM), g 237  m = some (r, m') → m_R X (d + 4) 237 0 [some (.ref 304), none, none, none, none] [] (SH, m) (some (.int r), (SH, m'))) (hg239 : ∀  (m : mM) (r : Int32) (m' : mM), g 239  m = some (r, m') → m_R X (d + 4) 239 0 [some (.ref 304), none, none, none] [] (SH, m) (some (.int r), (SH, m'))) (hg240 : ∀  (m : mM) (r : Int32) (m' : mM), g 240  m = some (r, m') → m_R X (d + 4) 240 0 [some (.ref 304), none, none, none, none] [] (SH, m) (some (.int r), (SH, m'))) (hg241 : ∀  (m : mM) (r : Int32) (m' : mM), g 241  m = some (r, m') → m_R X (d + 4) 241 0 [some (.ref 304), none] [] (SH, m) (some (.int r), (SH, m'))) : ∀ (s0 : Int32) (w0 : Option Value) (w1 : Option Value) (w2 : Option Value) (w3 : Option Value) (w4 : Option Value) (m : mM) (r : Int32) (m' : mM), f_m_not_43 F g s0 m = some (r, m') → m_R X (d + 5) 237 43 [w0, w1, w2, w3, w4] [.int s0] (SH, m) (some (.int r), (SH, m')) := by
  intro s0 w0 w1 w2 w3 w4 m r m' h
  unfold f_m_not_43 at h
  obtain ⟨rfl, rfl⟩ := m_some h
  exact m_R_iret (by decide) (m_opb_of (ins := .ireturn) (len := 1) (tag := 1) (a := 0) (b := 0) (c := 0) (q := 0) (by decide +kernel)) (Or.inl rfl)
def f_m_not_138 (F : Nat) (g : Nat → mM → Option (Int32 × mM))  (s0 : Int32) (m : mM) : Option (Int32 × mM) := some (s0, m)
theorem ok_m_not_138 (X : mX) (d F : Nat) (g : Nat → mM → Option (Int32 × mM)) (hg235 : ∀  (m : mM) (r : Int32) (m' : mM), g 235  m = some (r, m') → m_R X (d + 4) 235 0 [some (.ref 304), none, none] [] (SH, m) (some (.int r), (SH, m'))) (hg236 : ∀  (m : mM) (r : Int32) (m' : mM), g 236  m = some (r, m') → m_R X (d + 4) 236 0 [some (.ref 304), none, none] [] (SH, m) (some (.int r), (SH, m'))) (hg237 : ∀  (m : mM) (r : Int32) (m' : mM), g 237  m = some (r, m') → m_R X (d + 4) 237 0 [some (.ref 304), none, none, none, none] [] (SH, m) (some (.int r), (SH, m'))) (hg239 : ∀  (m : mM) (r : Int32) (m' : mM), g 239  m = some (r, m') → m_R X (d + 4) 239 0 [some (.ref 304), none, none, none] [] (SH, m) (some (.int r), (SH, m'))) (hg240 : ∀  (m : mM) (r : Int32) (m' : mM), g 240  m = some (r, m') → m_R X (d + 4) 240 0 [some (.ref 304), none, none, none, none] [] (SH, m) (some (.int r), (SH, m'))) (hg241 : ∀  (m : mM) (r : Int32) (m' : mM), g 241  m = some (r, m') → m_R X (d + 4) 241 0 [some (.ref 304), none] [] (SH, m) (some (.int r), (SH, m'))) : ∀ (s0 : Int32) (w0 : Option Value) (w1 : Option Value) (w2 : Option Value) (w3 : Option Value) (w4 : Option Value) (m : mM) (r : Int32) (m' : mM), f_m_not_138 F g s0 m = some (r, m') → m_R X (d + 5) 237 138 [w0, w1, w2, w3, w4] [.int s0] (SH, m) (some (.int r), (SH, m')) := by
  intro s0 w0 w1 w2 w3 w4 m r m' h
  unfold f_m_not_138 at h
  obtain ⟨rfl, rfl⟩ := m_some h
  exact m_R_iret (by decide) (m_opb_of (ins := .ireturn) (len := 1) (tag := 1) (a := 0) (b := 0) (c := 0) (q := 0) (by decide +kernel)) (Or.inl rfl)
def f_m_not_133 (F : Nat) (g : Nat → mM → Option (Int32 × mM))   (m : mM) : Option (Int32 × mM) := f_m_not_138 F g (1 : Int32) m
theorem ok_m_not_133 (X : mX) (d F : Nat) (g : Nat → mM → Option (Int32 × mM)) (hg235 : ∀  (m : mM) (r : Int32) (m' : mM), g 235  m = some (r, m') → m_R X (d + 4) 235 0 [some (.ref 304), none, none] [] (SH, m) (some (.int r), (SH, m'))) (hg236 : ∀  (m : mM) (r : Int32) (m' : mM), g 236  m = some (r, m') → m_R X (d + 4) 236 0 [some (.ref 304), none, none] [] (SH, m) (some (.int r), (SH, m'))) (hg237 : ∀  (m : mM) (r : Int32) (m' : mM), g 237  m = some (r, m') → m_R X (d + 4) 237 0 [some (.ref 304), none, none, none, none] [] (SH, m) (some (.int r), (SH, m'))) (hg239 : ∀  (m : mM) (r : Int32) (m' : mM), g 239  m = some (r, m') → m_R X (d + 4) 239 0 [some (.ref 304), none, none, none] [] (SH, m) (some (.int r), (SH, m'))) (hg240 : ∀  (m : mM) (r : Int32) (m' : mM), g 240  m = some (r, m') → m_R X (d + 4) 240 0 [some (.ref 304), none, none, none, none] [] (SH, m) (some (.int r), (SH, m'))) (hg241 : ∀  (m : mM) (r : Int32) (m' : mM), g 241  m = some (r, m') → m_R X (d + 4) 241 0 [some (.ref 304), none] [] (SH, m) (some (.int r), (SH, m'))) : ∀  (w0 : Option Value) (w1 : Option Value) (w2 : Option Value) (w3 : Option Value) (w4 : Option Value) (m : mM) (r : Int32) (m' : mM), f_m_not_133 F g  m = some (r, m') → m_R X (d + 5) 237 133 [w0, w1, w2, w3, w4] [] (SH, m) (some (.int r), (SH, m')) := by
  intro w0 w1 w2 w3 w4 m r m' h
  unfold f_m_not_133 at h
  refine m_R_sg (by decide) [(.iconst 1, 1, 0, 1, 0, 0, 0), (.goto 4, 3, 0, 138, 0, 0, 0)] (by decide +kernel) (show m_sgl X _ _ _ _ _ = some (138, [w0, w1, w2, w3, w4], [.int (1 : Int32)], (SH, m.1, m.2)) from rfl) ?_
  exact ok_m_not_138 X d F g hg235 hg236 hg237 hg239 hg240 hg241 _ _ _ _ _ _ _ _ _ h
def f_m_not_137 (F : Nat) (g : Nat → mM → Option (Int32 × mM))   (m : mM) : Option (Int32 × mM) := f_m_not_138 F g (0 : Int32) m
theorem ok_m_not_137 (X : mX) (d F : Nat) (g : Nat → mM → Option (Int32 × mM)) (hg235 : ∀  (m : mM) (r : Int32) (m' : mM), g 235  m = some (r, m') → m_R X (d + 4) 235 0 [some (.ref 304), none, none] [] (SH, m) (some (.int r), (SH, m'))) (hg236 : ∀  (m : mM) (r : Int32) (m' : mM), g 236  m = some (r, m') → m_R X (d + 4) 236 0 [some (.ref 304), none, none] [] (SH, m) (some (.int r), (SH, m'))) (hg237 : ∀  (m : mM) (r : Int32) (m' : mM), g 237  m = some (r, m') → m_R X (d + 4) 237 0 [some (.ref 304), none, none, none, none] [] (SH, m) (some (.int r), (SH, m'))) (hg239 : ∀  (m : mM) (r : Int32) (m' : mM), g 239  m = some (r, m') → m_R X (d + 4) 239 0 [some (.ref 304), none, none, none] [] (SH, m) (some (.int r), (SH, m'))) (hg240 : ∀  (m : mM) (r : Int32) (m' : mM), g 240  m = some (r, m') → m_R X (d + 4) 240 0 [some (.ref 304), none, none, none, none] [] (SH, m) (some (.int r), (SH, m'))) (hg241 : ∀  (m : mM) (r : Int32) (m' : mM), g 241  m = some (r, m') → m_R X (d + 4) 241 0 [some (.ref 304), none] [] (SH, m) (some (.int r), (SH, m'))) : ∀  (w0 : Option Value) (w1 : Option Value) (w2 : Option Value) (w3 : Option Value) (w4 : Option Value) (m : mM) (r : Int32) (m' : mM), f_m_not_137 F g  m = some (r, m') → m_R X (d + 5) 237 137 [w0, w1, w2, w3, w4] [] (SH, m) (some (.int r), (SH, m')) := by
  intro w0 w1 w2 w3 w4 m r m' h
  unfold f_m_not_137 at h
  refine m_R_sg (by decide) [(.iconst 0, 1, 0, 0, 0, 0, 0)] (by decide +kernel) (show m_sgl X _ _ _ _ _ = some (138, [w0, w1, w2, w3, w4], [.int (0 : Int32)], (SH, m.1, m.2)) from rfl) ?_
  exact ok_m_not_138 X d F g hg235 hg236 hg237 hg239 hg240 hg241 _ _ _ _ _ _ _ _ _ h
def f_m_not_78 (F : Nat) (g : Nat → mM → Option (Int32 × mM))  (v1 : Int32) (m : mM) : Option (Int32 × mM) := ((f_m_next F m).bind fun q8 => ((g 239 q8.2).bind fun q9 => (if (lg_cmp (m.2 304) (60 : Int64)) = 0 then (if q9.1 ≤ v1 then f_m_not_137 F g q9.2 else f_m_not_133 F g q9.2) else (if (lg_cmp (m.2 304) (61 : Int64)) = 0 then (if v1 = q9.1 then f_m_not_133 F g q9.2 else f_m_not_137 F g q9.2) else (if v1 ≤ q9.1 then f_m_not_137 F g q9.2 else f_m_not_133 F g q9.2)))))
theorem ok_m_not_78 (X : mX) (d F : Nat) (g : Nat → mM → Option (Int32 × mM)) (hg235 : ∀  (m : mM) (r : Int32) (m' : mM), g 235  m = some (r, m') → m_R X (d + 4) 235 0 [some (.ref 304), none, none] [] (SH, m) (some (.int r), (SH, m'))) (hg236 : ∀  (m : mM) (r : Int32) (m' : mM), g 236  m = some (r, m') → m_R X (d + 4) 236 0 [some (.ref 304), none, none] [] (SH, m) (some (.int r), (SH, m'))) (hg237 : ∀  (m : mM) (r : Int32) (m' : mM), g 237  m = some (r, m') → m_R X (d + 4) 237 0 [some (.ref 304), none, none, none, none] [] (SH, m) (some (.int r), (SH, m'))) (hg239 : ∀  (m : mM) (r : Int32) (m' : mM), g 239  m = some (r, m') → m_R X (d + 4) 239 0 [some (.ref 304), none, none, none] [] (SH, m) (some (.int r), (SH, m'))) (hg240 : ∀  (m : mM) (r : Int32) (m' : mM), g 240  m = some (r, m') → m_R X (d + 4) 240 0 [some (.ref 304), none, none, none, none] [] (SH, m) (some (.int r), (SH, m'))) (hg241 : ∀  (m : mM) (r : Int32) (m' : mM), g 241  m = some (r, m') → m_R X (d + 4) 241 0 [some (.ref 304), none] [] (SH, m) (some (.int r), (SH, m'))) : ∀ (v1 : Int32) (w2 : Option Value) (w3 : Option Value) (w4 : Option Value) (m : mM) (r : Int32) (m' : mM), f_m_not_78 F g v1 m = some (r, m') → m_R X (d + 5) 237 78 [some (.ref 304), some (.int v1), w2, w3, w4] [] (SH, m) (some (.int r), (SH, m')) := by
  intro v1 w2 w3 w4 m r m' h
  unfold f_m_not_78 at h
  refine m_R_sg (by decide) [(.aload_n 0, 1, 0, 0, 0, 0, 0), (.getfield 242, 3, 0, 12, 14, 2, 1506), (.lstore_n 2, 1, 0, 2, 0, 0, 0), (.aload_n 0, 1, 0, 0, 0, 0, 0)] (by decide +kernel) (show m_sgl X _ _ _ _ _ = some (84, [some (.ref 304), some (.int v1), some (.long (m.2 304)), none, w4], [.ref 304], (SH, m.1, m.2)) from rfl) ?_
  obtain ⟨q8, hc8, h⟩ := Option.bind_eq_some_iff.mp h
  refine m_R_cV (v := none) (h1 := (SH, q8.2)) (rest := []) (lo' := [some (.ref 304), none, none]) (ml := 3) (k0 := 304) (by decide) (Or.inl rfl) (m_opb_of (ins := .invokevirtual 269) (len := 3) (tag := 5) (a := 230) (b := 0) (c := 0) (q := 1705) (by decide +kernel)) (by decide +kernel) rfl (show m_isO 230 304 (SH, _) = true from m_isO_of (by decide +kernel)) (Nat.le_of_ble_eq_true rfl) rfl rfl (ok_m_next X (d + 3) F _ _ _ hc8) ?_
  refine m_R_sg (by decide) [(.aload_n 0, 1, 0, 0, 0, 0, 0)] (by decide +kernel) (show m_sgl X _ _ _ _ _ = some (88, [some (.ref 304), some (.int v1), some (.long (m.2 304)), none, w4], [.ref 304], (SH, q8.2.1, q8.2.2)) from rfl) ?_
  obtain ⟨q9, hc9, h⟩ := Option.bind_eq_some_iff.mp h
  refine m_R_cV (v := (some (.int q9.1))) (h1 := (SH, q9.2)) (rest := []) (lo' := [some (.ref 304), none, none, none]) (ml := 4) (k0 := 304) (by decide) (Or.inl rfl) (m_opb_of (ins := .invokevirtual 330) (len := 3) (tag := 5) (a := 239) (b := 0) (c := 0) (q := 1754) (by decide +kernel)) (by decide +kernel) rfl (show m_isO 239 304 (SH, _) = true from m_isO_of (by decide +kernel)) (Nat.le_of_ble_eq_true rfl) rfl rfl (hg239 _ _ _ hc9) ?_
  refine m_R_sg (by decide) [(.istore 4, 2, 0, 4, 0, 0, 0), (.lload_n 2, 1, 0, 2, 0, 0, 0), (.ldc2_w 333, 3, 0, 60, 0, 0, 1801), (.lcmp, 1, 0, 0, 0, 0, 0)] (by decide +kernel) (show m_sgl X _ _ _ _ _ = some (98, [some (.ref 304), some (.int v1), some (.long (m.2 304)), none, some (.int q9.1)], [.int (lg_cmp (m.2 304) (60 : Int64))], (SH, q9.2.1, q9.2.2)) from rfl) ?_
  rcases m_ite h with ⟨c365, h⟩ | ⟨c365, h⟩
  · refine m_R_1 (by decide) (m_opb_of (ins := .ifCond .ne 12) (len := 3) (tag := 0) (a := 110) (b := 0) (c := 0) (q := 0) (by decide +kernel)) (if_pos c365) ?_
    refine m_R_sg (by decide) [(.iload_n 1, 1, 0, 1, 0, 0, 0), (.iload 4, 2, 0, 4, 0, 0, 0)] (by decide +kernel) (show m_sgl X _ _ _ _ _ = some (104, [some (.ref 304), some (.int v1), some (.long (m.2 304)), none, some (.int q9.1)], [.int q9.1, .int v1], (SH, q9.2.1, q9.2.2)) from rfl) ?_
    rcases m_ite h with ⟨c366, h⟩ | ⟨c366, h⟩
    · refine m_R_1 (by decide) (m_opb_of (ins := .if_icmp .ge 33) (len := 3) (tag := 0) (a := 137) (b := 0) (c := 0) (q := 0) (by decide +kernel)) (if_pos c366) ?_
      exact ok_m_not_137 X d F g hg235 hg236 hg237 hg239 hg240 hg241 _ _ _ _ _ _ _ _ h
    · refine m_R_1 (by decide) (m_opb_of (ins := .if_icmp .ge 33) (len := 3) (tag := 0) (a := 137) (b := 0) (c := 0) (q := 0) (by decide +kernel)) (if_neg c366) ?_
      refine m_R_sg (by decide) [(.goto 26, 3, 0, 133, 0, 0, 0)] (by decide +kernel) (show m_sgl X _ _ _ _ _ = some (133, [some (.ref 304), some (.int v1), some (.long (m.2 304)), none, some (.int q9.1)], [], (SH, q9.2.1, q9.2.2)) from rfl) ?_
      exact ok_m_not_133 X d F g hg235 hg236 hg237 hg239 hg240 hg241 _ _ _ _ _ _ _ _ h
  · refine m_R_1 (by decide) (m_opb_of (ins := .ifCond .ne 12) (len := 3) (tag := 0) (a := 110) (b := 0) (c := 0) (q := 0) (by decide +kernel)) (if_neg c365) ?_
    refine m_R_sg (by decide) [(.lload_n 2, 1, 0, 2, 0, 0, 0), (.ldc2_w 335, 3, 0, 61, 0, 0, 1802), (.lcmp, 1, 0, 0, 0, 0, 0)] (by decide +kernel) (show m_sgl X _ _ _ _ _ = some (115, [some (.ref 304), some (.int v1), some (.long (m.2 304)), none, some (.int q9.1)], [.int (lg_cmp (m.2 304) (61 : Int64))], (SH, q9.2.1, q9.2.2)) from rfl) ?_
    rcases m_ite h with ⟨c367, h⟩ | ⟨c367, h⟩
    · refine m_R_1 (by decide) (m_opb_of (ins := .ifCond .ne 12) (len := 3) (tag := 0) (a := 127) (b := 0) (c := 0) (q := 0) (by decide +kernel)) (if_pos c367) ?_
      refine m_R_sg (by decide) [(.iload_n 1, 1, 0, 1, 0, 0, 0), (.iload 4, 2, 0, 4, 0, 0, 0)] (by decide +kernel) (show m_sgl X _ _ _ _ _ = some (121, [some (.ref 304), some (.int v1), some (.long (m.2 304)), none, some (.int q9.1)], [.int q9.1, .int v1], (SH, q9.2.1, q9.2.2)) from rfl) ?_
      rcases m_ite h with ⟨c368, h⟩ | ⟨c368, h⟩
      · refine m_R_1 (by decide) (m_opb_of (ins := .if_icmp .ne 16) (len := 3) (tag := 0) (a := 137) (b := 0) (c := 0) (q := 0) (by decide +kernel)) (if_pos c368) ?_
        refine m_R_sg (by decide) [(.goto 9, 3, 0, 133, 0, 0, 0)] (by decide +kernel) (show m_sgl X _ _ _ _ _ = some (133, [some (.ref 304), some (.int v1), some (.long (m.2 304)), none, some (.int q9.1)], [], (SH, q9.2.1, q9.2.2)) from rfl) ?_
        exact ok_m_not_133 X d F g hg235 hg236 hg237 hg239 hg240 hg241 _ _ _ _ _ _ _ _ h
      · refine m_R_1 (by decide) (m_opb_of (ins := .if_icmp .ne 16) (len := 3) (tag := 0) (a := 137) (b := 0) (c := 0) (q := 0) (by decide +kernel)) (if_neg c368) ?_
        exact ok_m_not_137 X d F g hg235 hg236 hg237 hg239 hg240 hg241 _ _ _ _ _ _ _ _ h
    · refine m_R_1 (by decide) (m_opb_of (ins := .ifCond .ne 12) (len := 3) (tag := 0) (a := 127) (b := 0) (c := 0) (q := 0) (by decide +kernel)) (if_neg c367) ?_
      refine m_R_sg (by decide) [(.iload_n 1, 1, 0, 1, 0, 0, 0), (.iload 4, 2, 0, 4, 0, 0, 0)] (by decide +kernel) (show m_sgl X _ _ _ _ _ = some (130, [some (.ref 304), some (.int v1), some (.long (m.2 304)), none, some (.int q9.1)], [.int q9.1, .int v1], (SH, q9.2.1, q9.2.2)) from rfl) ?_
      rcases m_ite h with ⟨c369, h⟩ | ⟨c369, h⟩
      · refine m_R_1 (by decide) (m_opb_of (ins := .if_icmp .le 7) (len := 3) (tag := 0) (a := 137) (b := 0) (c := 0) (q := 0) (by decide +kernel)) (if_pos c369) ?_
        exact ok_m_not_137 X d F g hg235 hg236 hg237 hg239 hg240 hg241 _ _ _ _ _ _ _ _ h
      · refine m_R_1 (by decide) (m_opb_of (ins := .if_icmp .le 7) (len := 3) (tag := 0) (a := 137) (b := 0) (c := 0) (q := 0) (by decide +kernel)) (if_neg c369) ?_
        exact ok_m_not_133 X d F g hg235 hg236 hg237 hg239 hg240 hg241 _ _ _ _ _ _ _ _ h
def f_m_not (F : Nat) (g : Nat → mM → Option (Int32 × mM))   (m : mM) : Option (Int32 × mM) := ((f_m_isWord F (10631 : Int64) m).bind fun q1 => (if q1.1 = 0 then ((g 239 q1.2).bind fun q2 => ((f_m_isSign F (60 : Int32) q2.2).bind fun q3 => (if q3.1 = 0 then ((f_m_isSign F (61 : Int32) q3.2).bind fun q4 => (if q4.1 = 0 then ((f_m_isSign F (62 : Int32) q4.2).bind fun q5 => (if q5.1 = 0 then some (q2.1, q5.2) else f_m_not_78 F g q2.1 q5.2)) else f_m_not_78 F g q2.1 q4.2)) else f_m_not_78 F g q2.1 q3.2))) else ((f_m_opens F q1.2).bind fun q6 => (if q6.1 = 0 then some ((0 : Int32), q6.2) else ((g 237 q6.2).bind fun q7 => (if q7.1 = 0 then f_m_not_43 F g (1 : Int32) ((m_up q7.2.1 304 16 ((q7.2.1 304 16) - (1 : Int32))), q7.2.2) else f_m_not_43 F g (0 : Int32) ((m_up q7.2.1 304 16 ((q7.2.1 304 16) - (1 : Int32))), q7.2.2)))))))
theorem ok_m_not (X : mX) (d F : Nat) (g : Nat → mM → Option (Int32 × mM)) (hg235 : ∀  (m : mM) (r : Int32) (m' : mM), g 235  m = some (r, m') → m_R X (d + 4) 235 0 [some (.ref 304), none, none] [] (SH, m) (some (.int r), (SH, m'))) (hg236 : ∀  (m : mM) (r : Int32) (m' : mM), g 236  m = some (r, m') → m_R X (d + 4) 236 0 [some (.ref 304), none, none] [] (SH, m) (some (.int r), (SH, m'))) (hg237 : ∀  (m : mM) (r : Int32) (m' : mM), g 237  m = some (r, m') → m_R X (d + 4) 237 0 [some (.ref 304), none, none, none, none] [] (SH, m) (some (.int r), (SH, m'))) (hg239 : ∀  (m : mM) (r : Int32) (m' : mM), g 239  m = some (r, m') → m_R X (d + 4) 239 0 [some (.ref 304), none, none, none] [] (SH, m) (some (.int r), (SH, m'))) (hg240 : ∀  (m : mM) (r : Int32) (m' : mM), g 240  m = some (r, m') → m_R X (d + 4) 240 0 [some (.ref 304), none, none, none, none] [] (SH, m) (some (.int r), (SH, m'))) (hg241 : ∀  (m : mM) (r : Int32) (m' : mM), g 241  m = some (r, m') → m_R X (d + 4) 241 0 [some (.ref 304), none] [] (SH, m) (some (.int r), (SH, m'))) : ∀   (m : mM) (r : Int32) (m' : mM), f_m_not F g  m = some (r, m') → m_R X (d + 5) 237 0 [some (.ref 304), none, none, none, none] [] (SH, m) (some (.int r), (SH, m')) := by
  intro m r m' h
  unfold f_m_not at h
  refine m_R_sg (by decide) [(.aload_n 0, 1, 0, 0, 0, 0, 0), (.ldc2_w 325, 3, 0, 10631, 0, 0, 1749)] (by decide +kernel) (show m_sgl X _ _ _ _ _ = some (4, [some (.ref 304), none, none, none, none], [.long (10631 : Int64), .ref 304], (SH, m.1, m.2)) from rfl) ?_
  obtain ⟨q1, hc1, h⟩ := Option.bind_eq_some_iff.mp h
  refine m_R_cV (v := (some (.int q1.1))) (h1 := (SH, q1.2)) (rest := []) (lo' := [some (.ref 304), some (.long (10631 : Int64)), none]) (ml := 3) (k0 := 304) (by decide) (Or.inl rfl) (m_opb_of (ins := .invokevirtual 273) (len := 3) (tag := 5) (a := 233) (b := 1) (c := 0) (q := 1723) (by decide +kernel)) (by decide +kernel) rfl (show m_isO 233 304 (SH, _) = true from m_isO_of (by decide +kernel)) (Nat.le_of_ble_eq_true rfl) rfl rfl (ok_m_isWord X (d + 4) F _ _ _ _ hc1) ?_
  rcases m_ite h with ⟨c370, h⟩ | ⟨c370, h⟩
  · refine m_R_1 (by decide) (m_opb_of (ins := .ifCond .eq 37) (len := 3) (tag := 0) (a := 44) (b := 0) (c := 0) (q := 0) (by decide +kernel)) (if_pos c370) ?_
    refine m_R_sg (by decide) [(.aload_n 0, 1, 0, 0, 0, 0, 0)] (by decide +kernel) (show m_sgl X _ _ _ _ _ = some (45, [some (.ref 304), none, none, none, none], [.ref 304], (SH, q1.2.1, q1.2.2)) from rfl) ?_
    obtain ⟨q2, hc2, h⟩ := Option.bind_eq_some_iff.mp h
    refine m_R_cV (v := (some (.int q2.1))) (h1 := (SH, q2.2)) (rest := []) (lo' := [some (.ref 304), none, none, none]) (ml := 4) (k0 := 304) (by decide) (Or.inl rfl) (m_opb_of (ins := .invokevirtual 330) (len := 3) (tag := 5) (a := 239) (b := 0) (c := 0) (q := 1754) (by decide +kernel)) (by decide +kernel) rfl (show m_isO 239 304 (SH, _) = true from m_isO_of (by decide +kernel)) (Nat.le_of_ble_eq_true rfl) rfl rfl (hg239 _ _ _ hc2) ?_
    refine m_R_sg (by decide) [(.istore_n 1, 1, 0, 1, 0, 0, 0), (.aload_n 0, 1, 0, 0, 0, 0, 0), (.bipush 60, 2, 0, 60, 0, 0, 0)] (by decide +kernel) (show m_sgl X _ _ _ _ _ = some (52, [some (.ref 304), some (.int q2.1), none, none, none], [.int (60 : Int32), .ref 304], (SH, q2.2.1, q2.2.2)) from rfl) ?_
    obtain ⟨q3, hc3, h⟩ := Option.bind_eq_some_iff.mp h
    refine m_R_cV (v := (some (.int q3.1))) (h1 := (SH, q3.2)) (rest := []) (lo' := [some (.ref 304), some (.int (60 : Int32))]) (ml := 2) (k0 := 304) (by decide) (Or.inl rfl) (m_opb_of (ins := .invokevirtual 301) (len := 3) (tag := 5) (a := 242) (b := 1) (c := 0) (q := 1766) (by decide +kernel)) (by decide +kernel) rfl (show m_isO 242 304 (SH, _) = true from m_isO_of (by decide +kernel)) (Nat.le_of_ble_eq_true rfl) rfl rfl (ok_m_isSign X (d + 4) F _ _ _ _ hc3) ?_
    rcases m_ite h with ⟨c371, h⟩ | ⟨c371, h⟩
    · refine m_R_1 (by decide) (m_opb_of (ins := .ifCond .ne 23) (len := 3) (tag := 0) (a := 78) (b := 0) (c := 0) (q := 0) (by decide +kernel)) (if_pos c371) ?_
      refine m_R_sg (by decide) [(.aload_n 0, 1, 0, 0, 0, 0, 0), (.bipush 61, 2, 0, 61, 0, 0, 0)] (by decide +kernel) (show m_sgl X _ _ _ _ _ = some (61, [some (.ref 304), some (.int q2.1), none, none, none], [.int (61 : Int32), .ref 304], (SH, q3.2.1, q3.2.2)) from rfl) ?_
      obtain ⟨q4, hc4, h⟩ := Option.bind_eq_some_iff.mp h
      refine m_R_cV (v := (some (.int q4.1))) (h1 := (SH, q4.2)) (rest := []) (lo' := [some (.ref 304), some (.int (61 : Int32))]) (ml := 2) (k0 := 304) (by decide) (Or.inl rfl) (m_opb_of (ins := .invokevirtual 301) (len := 3) (tag := 5) (a := 242) (b := 1) (c := 0) (q := 1766) (by decide +kernel)) (by decide +kernel) rfl (show m_isO 242 304 (SH, _) = true from m_isO_of (by decide +kernel)) (Nat.le_of_ble_eq_true rfl) rfl rfl (ok_m_isSign X (d + 4) F _ _ _ _ hc4) ?_
      rcases m_ite h with ⟨c372, h⟩ | ⟨c372, h⟩
      · refine m_R_1 (by decide) (m_opb_of (ins := .ifCond .ne 14) (len := 3) (tag := 0) (a := 78) (b := 0) (c := 0) (q := 0) (by decide +kernel)) (if_pos c372) ?_
        refine m_R_sg (by decide) [(.aload_n 0, 1, 0, 0, 0, 0, 0), (.bipush 62, 2, 0, 62, 0, 0, 0)] (by decide +kernel) (show m_sgl X _ _ _ _ _ = some (70, [some (.ref 304), some (.int q2.1), none, none, none], [.int (62 : Int32), .ref 304], (SH, q4.2.1, q4.2.2)) from rfl) ?_
        obtain ⟨q5, hc5, h⟩ := Option.bind_eq_some_iff.mp h
        refine m_R_cV (v := (some (.int q5.1))) (h1 := (SH, q5.2)) (rest := []) (lo' := [some (.ref 304), some (.int (62 : Int32))]) (ml := 2) (k0 := 304) (by decide) (Or.inl rfl) (m_opb_of (ins := .invokevirtual 301) (len := 3) (tag := 5) (a := 242) (b := 1) (c := 0) (q := 1766) (by decide +kernel)) (by decide +kernel) rfl (show m_isO 242 304 (SH, _) = true from m_isO_of (by decide +kernel)) (Nat.le_of_ble_eq_true rfl) rfl rfl (ok_m_isSign X (d + 4) F _ _ _ _ hc5) ?_
        rcases m_ite h with ⟨c373, h⟩ | ⟨c373, h⟩
        · refine m_R_1 (by decide) (m_opb_of (ins := .ifCond .ne 5) (len := 3) (tag := 0) (a := 78) (b := 0) (c := 0) (q := 0) (by decide +kernel)) (if_pos c373) ?_
          refine m_R_sg (by decide) [(.iload_n 1, 1, 0, 1, 0, 0, 0)] (by decide +kernel) (show m_sgl X _ _ _ _ _ = some (77, [some (.ref 304), some (.int q2.1), none, none, none], [.int q2.1], (SH, q5.2.1, q5.2.2)) from rfl) ?_
          obtain ⟨rfl, rfl⟩ := m_some h
          exact m_R_iret (by decide) (m_opb_of (ins := .ireturn) (len := 1) (tag := 1) (a := 0) (b := 0) (c := 0) (q := 0) (by decide +kernel)) (Or.inl rfl)
        · refine m_R_1 (by decide) (m_opb_of (ins := .ifCond .ne 5) (len := 3) (tag := 0) (a := 78) (b := 0) (c := 0) (q := 0) (by decide +kernel)) (if_neg c373) ?_
          exact ok_m_not_78 X d F g hg235 hg236 hg237 hg239 hg240 hg241 _ _ _ _ _ _ _ h
      · refine m_R_1 (by decide) (m_opb_of (ins := .ifCond .ne 14) (len := 3) (tag := 0) (a := 78) (b := 0) (c := 0) (q := 0) (by decide +kernel)) (if_neg c372) ?_
        exact ok_m_not_78 X d F g hg235 hg236 hg237 hg239 hg240 hg241 _ _ _ _ _ _ _ h
    · refine m_R_1 (by decide) (m_opb_of (ins := .ifCond .ne 23) (len := 3) (tag := 0) (a := 78) (b := 0) (c := 0) (q := 0) (by decide +kernel)) (if_neg c371) ?_
      exact ok_m_not_78 X d F g hg235 hg236 hg237 hg239 hg240 hg241 _ _ _ _ _ _ _ h
  · refine m_R_1 (by decide) (m_opb_of (ins := .ifCond .eq 37) (len := 3) (tag := 0) (a := 44) (b := 0) (c := 0) (q := 0) (by decide +kernel)) (if_neg c370) ?_
    refine m_R_sg (by decide) [(.aload_n 0, 1, 0, 0, 0, 0, 0)] (by decide +kernel) (show m_sgl X _ _ _ _ _ = some (11, [some (.ref 304), none, none, none, none], [.ref 304], (SH, q1.2.1, q1.2.2)) from rfl) ?_
    obtain ⟨q6, hc6, h⟩ := Option.bind_eq_some_iff.mp h
    refine m_R_cV (v := (some (.int q6.1))) (h1 := (SH, q6.2)) (rest := []) (lo' := [some (.ref 304)]) (ml := 1) (k0 := 304) (by decide) (Or.inl rfl) (m_opb_of (ins := .invokevirtual 304) (len := 3) (tag := 5) (a := 238) (b := 0) (c := 0) (q := 1750) (by decide +kernel)) (by decide +kernel) rfl (show m_isO 238 304 (SH, _) = true from m_isO_of (by decide +kernel)) (Nat.le_of_ble_eq_true rfl) rfl rfl (ok_m_opens X (d + 2) F _ _ _ hc6) ?_
    rcases m_ite h with ⟨c374, h⟩ | ⟨c374, h⟩
    · refine m_R_1 (by decide) (m_opb_of (ins := .ifCond .ne 5) (len := 3) (tag := 0) (a := 19) (b := 0) (c := 0) (q := 0) (by decide +kernel)) (if_pos c374) ?_
      refine m_R_sg (by decide) [(.iconst 0, 1, 0, 0, 0, 0, 0)] (by decide +kernel) (show m_sgl X _ _ _ _ _ = some (18, [some (.ref 304), none, none, none, none], [.int (0 : Int32)], (SH, q6.2.1, q6.2.2)) from rfl) ?_
      obtain ⟨rfl, rfl⟩ := m_some h
      exact m_R_iret (by decide) (m_opb_of (ins := .ireturn) (len := 1) (tag := 1) (a := 0) (b := 0) (c := 0) (q := 0) (by decide +kernel)) (Or.inl rfl)
    · refine m_R_1 (by decide) (m_opb_of (ins := .ifCond .ne 5) (len := 3) (tag := 0) (a := 19) (b := 0) (c := 0) (q := 0) (by decide +kernel)) (if_neg c374) ?_
      refine m_R_sg (by decide) [(.aload_n 0, 1, 0, 0, 0, 0, 0)] (by decide +kernel) (show m_sgl X _ _ _ _ _ = some (20, [some (.ref 304), none, none, none, none], [.ref 304], (SH, q6.2.1, q6.2.2)) from rfl) ?_
      obtain ⟨q7, hc7, h⟩ := Option.bind_eq_some_iff.mp h
      refine m_R_cV (v := (some (.int q7.1))) (h1 := (SH, q7.2)) (rest := []) (lo' := [some (.ref 304), none, none, none, none]) (ml := 5) (k0 := 304) (by decide) (Or.inl rfl) (m_opb_of (ins := .invokevirtual 327) (len := 3) (tag := 5) (a := 237) (b := 0) (c := 0) (q := 1745) (by decide +kernel)) (by decide +kernel) rfl (show m_isO 237 304 (SH, _) = true from m_isO_of (by decide +kernel)) (Nat.le_of_ble_eq_true rfl) rfl rfl (hg237 _ _ _ hc7) ?_
      refine m_R_sg (by decide) [(.istore_n 1, 1, 0, 1, 0, 0, 0), (.aload_n 0, 1, 0, 0, 0, 0, 0), (.dup, 1, 0, 0, 0, 0, 0), (.getfield 263, 3, 0, 12, 16, 0, 1508), (.iconst 1, 1, 0, 1, 0, 0, 0), (.isub, 1, 0, 0, 0, 0, 0), (.putfield 263, 3, 0, 12, 16, 0, 1508), (.iload_n 1, 1, 0, 1, 0, 0, 0)] (by decide +kernel) (show m_sgl X _ _ _ _ _ = some (35, [some (.ref 304), some (.int q7.1), none, none, none], [.int q7.1], (SH, (m_up q7.2.1 304 16 ((q7.2.1 304 16) - (1 : Int32))), q7.2.2)) from rfl) ?_
      rcases m_ite h with ⟨c375, h⟩ | ⟨c375, h⟩
      · refine m_R_1 (by decide) (m_opb_of (ins := .ifCond .ne 7) (len := 3) (tag := 0) (a := 42) (b := 0) (c := 0) (q := 0) (by decide +kernel)) (if_pos c375) ?_
        refine m_R_sg (by decide) [(.iconst 1, 1, 0, 1, 0, 0, 0), (.goto 4, 3, 0, 43, 0, 0, 0)] (by decide +kernel) (show m_sgl X _ _ _ _ _ = some (43, [some (.ref 304), some (.int q7.1), none, none, none], [.int (1 : Int32)], (SH, (m_up q7.2.1 304 16 ((q7.2.1 304 16) - (1 : Int32))), q7.2.2)) from rfl) ?_
        exact ok_m_not_43 X d F g hg235 hg236 hg237 hg239 hg240 hg241 _ _ _ _ _ _ _ _ _ h
      · refine m_R_1 (by decide) (m_opb_of (ins := .ifCond .ne 7) (len := 3) (tag := 0) (a := 42) (b := 0) (c := 0) (q := 0) (by decide +kernel)) (if_neg c375) ?_
        refine m_R_sg (by decide) [(.iconst 0, 1, 0, 0, 0, 0, 0)] (by decide +kernel) (show m_sgl X _ _ _ _ _ = some (43, [some (.ref 304), some (.int q7.1), none, none, none], [.int (0 : Int32)], (SH, (m_up q7.2.1 304 16 ((q7.2.1 304 16) - (1 : Int32))), q7.2.2)) from rfl) ?_
        exact ok_m_not_43 X d F g hg235 hg236 hg237 hg239 hg240 hg241 _ _ _ _ _ _ _ _ _ h
def f_m_added_62 (F : Nat) (g : Nat → mM → Option (Int32 × mM)) (k5 : Int32 → mM → Option (Int32 × mM)) (s0 : Int32) (m : mM) : Option (Int32 × mM) := k5 s0 m
theorem ok_m_added_62 (X : mX) (d F : Nat) (g : Nat → mM → Option (Int32 × mM)) (hg235 : ∀  (m : mM) (r : Int32) (m' : mM), g 235  m = some (r, m') → m_R X (d + 4) 235 0 [some (.ref 304), none, none] [] (SH, m) (some (.int r), (SH, m'))) (hg236 : ∀  (m : mM) (r : Int32) (m' : mM), g 236  m = some (r, m') → m_R X (d + 4) 236 0 [some (.ref 304), none, none] [] (SH, m) (some (.int r), (SH, m'))) (hg237 : ∀  (m : mM) (r : Int32) (m' : mM), g 237  m = some (r, m') → m_R X (d + 4) 237 0 [some (.ref 304), none, none, none, none] [] (SH, m) (some (.int r), (SH, m'))) (hg239 : ∀  (m : mM) (r : Int32) (m' : mM), g 239  m = some (r, m') → m_R X (d + 4) 239 0 [some (.ref 304), none, none, none] [] (SH, m) (some (.int r), (SH, m'))) (hg240 : ∀  (m : mM) (r : Int32) (m' : mM), g 240  m = some (r, m') → m_R X (d + 4) 240 0 [some (.ref 304), none, none, none, none] [] (SH, m) (some (.int r), (SH, m'))) (hg241 : ∀  (m : mM) (r : Int32) (m' : mM), g 241  m = some (r, m') → m_R X (d + 4) 241 0 [some (.ref 304), none] [] (SH, m) (some (.int r), (SH, m'))) (k5 : Int32 → mM → Option (Int32 × mM)) (hk5 : ∀ (v1 : Int32) (w2 : Option Value) (w3 : Option Value) (m : mM) (r : Int32) (m' : mM), k5 v1 m = some (r, m') → m_R X (d + 5) 239 5 [some (.ref 304), some (.int v1), w2, w3] [] (SH, m) (some (.int r), (SH, m'))) : ∀ (s0 : Int32) (w1 : Option Value) (w2 : Option Value) (w3 : Option Value) (m : mM) (r : Int32) (m' : mM), f_m_added_62 F g k5 s0 m = some (r, m') → m_R X (d + 5) 239 62 [some (.ref 304), w1, w2, w3] [.int s0] (SH, m) (some (.int r), (SH, m')) := by
  intro s0 w1 w2 w3 m r m' h
  unfold f_m_added_62 at h
  refine m_R_sg (by decide) [(.istore_n 1, 1, 0, 1, 0, 0, 0), (.goto (-58), 3, 0, 5, 0, 0, 0)] (by decide +kernel) (show m_sgl X _ _ _ _ _ = some (5, [some (.ref 304), some (.int s0), w2, w3], [], (SH, m.1, m.2)) from rfl) ?_
  exact hk5 _ _ _ _ _ _ h
def f_m_added_39 (F : Nat) (g : Nat → mM → Option (Int32 × mM)) (k5 : Int32 → mM → Option (Int32 × mM)) (v1 : Int32) (s0 : Int32) (m : mM) : Option (Int32 × mM) := ((f_m_next F m).bind fun q4 => ((g 240 q4.2).bind fun q5 => (if s0 = 0 then f_m_added_62 F g k5 (v1 - q5.1) q5.2 else f_m_added_62 F g k5 (v1 + q5.1) q5.2)))
theorem ok_m_added_39 (X : mX) (d F : Nat) (g : Nat → mM → Option (Int32 × mM)) (hg235 : ∀  (m : mM) (r : Int32) (m' : mM), g 235  m = some (r, m') → m_R X (d + 4) 235 0 [some (.ref 304), none, none] [] (SH, m) (some (.int r), (SH, m'))) (hg236 : ∀  (m : mM) (r : Int32) (m' : mM), g 236  m = some (r, m') → m_R X (d + 4) 236 0 [some (.ref 304), none, none] [] (SH, m) (some (.int r), (SH, m'))) (hg237 : ∀  (m : mM) (r : Int32) (m' : mM), g 237  m = some (r, m') → m_R X (d + 4) 237 0 [some (.ref 304), none, none, none, none] [] (SH, m) (some (.int r), (SH, m'))) (hg239 : ∀  (m : mM) (r : Int32) (m' : mM), g 239  m = some (r, m') → m_R X (d + 4) 239 0 [some (.ref 304), none, none, none] [] (SH, m) (some (.int r), (SH, m'))) (hg240 : ∀  (m : mM) (r : Int32) (m' : mM), g 240  m = some (r, m') → m_R X (d + 4) 240 0 [some (.ref 304), none, none, none, none] [] (SH, m) (some (.int r), (SH, m'))) (hg241 : ∀  (m : mM) (r : Int32) (m' : mM), g 241  m = some (r, m') → m_R X (d + 4) 241 0 [some (.ref 304), none] [] (SH, m) (some (.int r), (SH, m'))) (k5 : Int32 → mM → Option (Int32 × mM)) (hk5 : ∀ (v1 : Int32) (w2 : Option Value) (w3 : Option Value) (m : mM) (r : Int32) (m' : mM), k5 v1 m = some (r, m') → m_R X (d + 5) 239 5 [some (.ref 304), some (.int v1), w2, w3] [] (SH, m) (some (.int r), (SH, m'))) : ∀ (v1 : Int32) (s0 : Int32) (w2 : Option Value) (w3 : Option Value) (m : mM) (r : Int32) (m' : mM), f_m_added_39 F g k5 v1 s0 m = some (r, m') → m_R X (d + 5) 239 39 [some (.ref 304), some (.int v1), w2, w3] [.int s0] (SH, m) (some (.int r), (SH, m')) := by
  intro v1 s0 w2 w3 m r m' h
  unfold f_m_added_39 at h
  refine m_R_sg (by decide) [(.istore_n 2, 1, 0, 2, 0, 0, 0), (.aload_n 0, 1, 0, 0, 0, 0, 0)] (by decide +kernel) (show m_sgl X _ _ _ _ _ = some (41, [some (.ref 304), some (.int v1), some (.int s0), w3], [.ref 304], (SH, m.1, m.2)) from rfl) ?_
  obtain ⟨q4, hc4, h⟩ := Option.bind_eq_some_iff.mp h
  refine m_R_cV (v := none) (h1 := (SH, q4.2)) (rest := []) (lo' := [some (.ref 304), none, none]) (ml := 3) (k0 := 304) (by decide) (Or.inl rfl) (m_opb_of (ins := .invokevirtual 269) (len := 3) (tag := 5) (a := 230) (b := 0) (c := 0) (q := 1705) (by decide +kernel)) (by decide +kernel) rfl (show m_isO 230 304 (SH, _) = true from m_isO_of (by decide +kernel)) (Nat.le_of_ble_eq_true rfl) rfl rfl (ok_m_next X (d + 3) F _ _ _ hc4) ?_
  refine m_R_sg (by decide) [(.aload_n 0, 1, 0, 0, 0, 0, 0)] (by decide +kernel) (show m_sgl X _ _ _ _ _ = some (45, [some (.ref 304), some (.int v1), some (.int s0), w3], [.ref 304], (SH, q4.2.1, q4.2.2)) from rfl) ?_
  obtain ⟨q5, hc5, h⟩ := Option.bind_eq_some_iff.mp h
  refine m_R_cV (v := (some (.int q5.1))) (h1 := (SH, q5.2)) (rest := []) (lo' := [some (.ref 304), none, none, none, none]) (ml := 5) (k0 := 304) (by decide) (Or.inl rfl) (m_opb_of (ins := .invokevirtual 320) (len := 3) (tag := 5) (a := 240) (b := 0) (c := 0) (q := 1758) (by decide +kernel)) (by decide +kernel) rfl (show m_isO 240 304 (SH, _) = true from m_isO_of (by decide +kernel)) (Nat.le_of_ble_eq_true rfl) rfl rfl (hg240 _ _ _ hc5) ?_
  refine m_R_sg (by decide) [(.istore_n 3, 1, 0, 3, 0, 0, 0), (.iload_n 2, 1, 0, 2, 0, 0, 0)] (by decide +kernel) (show m_sgl X _ _ _ _ _ = some (50, [some (.ref 304), some (.int v1), some (.int s0), some (.int q5.1)], [.int s0], (SH, q5.2.1, q5.2.2)) from rfl) ?_
  rcases m_ite h with ⟨c376, h⟩ | ⟨c376, h⟩
  · refine m_R_1 (by decide) (m_opb_of (ins := .ifCond .eq 9) (len := 3) (tag := 0) (a := 59) (b := 0) (c := 0) (q := 0) (by decide +kernel)) (if_pos c376) ?_
    refine m_R_sg (by decide) [(.iload_n 1, 1, 0, 1, 0, 0, 0), (.iload_n 3, 1, 0, 3, 0, 0, 0), (.isub, 1, 0, 0, 0, 0, 0)] (by decide +kernel) (show m_sgl X _ _ _ _ _ = some (62, [some (.ref 304), some (.int v1), some (.int s0), some (.int q5.1)], [.int (v1 - q5.1)], (SH, q5.2.1, q5.2.2)) from rfl) ?_
    exact ok_m_added_62 X d F g hg235 hg236 hg237 hg239 hg240 hg241 _ hk5 _ _ _ _ _ _ _ h
  · refine m_R_1 (by decide) (m_opb_of (ins := .ifCond .eq 9) (len := 3) (tag := 0) (a := 59) (b := 0) (c := 0) (q := 0) (by decide +kernel)) (if_neg c376) ?_
    refine m_R_sg (by decide) [(.iload_n 1, 1, 0, 1, 0, 0, 0), (.iload_n 3, 1, 0, 3, 0, 0, 0), (.iadd, 1, 0, 0, 0, 0, 0), (.goto 6, 3, 0, 62, 0, 0, 0)] (by decide +kernel) (show m_sgl X _ _ _ _ _ = some (62, [some (.ref 304), some (.int v1), some (.int s0), some (.int q5.1)], [.int (v1 + q5.1)], (SH, q5.2.1, q5.2.2)) from rfl) ?_
    exact ok_m_added_62 X d F g hg235 hg236 hg237 hg239 hg240 hg241 _ hk5 _ _ _ _ _ _ _ h
def f_m_added_23 (F : Nat) (g : Nat → mM → Option (Int32 × mM)) (k5 : Int32 → mM → Option (Int32 × mM)) (v1 : Int32) (m : mM) : Option (Int32 × mM) := (if (lg_cmp (m.2 304) (43 : Int64)) = 0 then f_m_added_39 F g k5 v1 (1 : Int32) m else f_m_added_39 F g k5 v1 (0 : Int32) m)
theorem ok_m_added_23 (X : mX) (d F : Nat) (g : Nat → mM → Option (Int32 × mM)) (hg235 : ∀  (m : mM) (r : Int32) (m' : mM), g 235  m = some (r, m') → m_R X (d + 4) 235 0 [some (.ref 304), none, none] [] (SH, m) (some (.int r), (SH, m'))) (hg236 : ∀  (m : mM) (r : Int32) (m' : mM), g 236  m = some (r, m') → m_R X (d + 4) 236 0 [some (.ref 304), none, none] [] (SH, m) (some (.int r), (SH, m'))) (hg237 : ∀  (m : mM) (r : Int32) (m' : mM), g 237  m = some (r, m') → m_R X (d + 4) 237 0 [some (.ref 304), none, none, none, none] [] (SH, m) (some (.int r), (SH, m'))) (hg239 : ∀  (m : mM) (r : Int32) (m' : mM), g 239  m = some (r, m') → m_R X (d + 4) 239 0 [some (.ref 304), none, none, none] [] (SH, m) (some (.int r), (SH, m'))) (hg240 : ∀  (m : mM) (r : Int32) (m' : mM), g 240  m = some (r, m') → m_R X (d + 4) 240 0 [some (.ref 304), none, none, none, none] [] (SH, m) (some (.int r), (SH, m'))) (hg241 : ∀  (m : mM) (r : Int32) (m' : mM), g 241  m = some (r, m') → m_R X (d + 4) 241 0 [some (.ref 304), none] [] (SH, m) (some (.int r), (SH, m'))) (k5 : Int32 → mM → Option (Int32 × mM)) (hk5 : ∀ (v1 : Int32) (w2 : Option Value) (w3 : Option Value) (m : mM) (r : Int32) (m' : mM), k5 v1 m = some (r, m') → m_R X (d + 5) 239 5 [some (.ref 304), some (.int v1), w2, w3] [] (SH, m) (some (.int r), (SH, m'))) : ∀ (v1 : Int32) (w2 : Option Value) (w3 : Option Value) (m : mM) (r : Int32) (m' : mM), f_m_added_23 F g k5 v1 m = some (r, m') → m_R X (d + 5) 239 23 [some (.ref 304), some (.int v1), w2, w3] [] (SH, m) (some (.int r), (SH, m')) := by
  intro v1 w2 w3 m r m' h
  unfold f_m_added_23 at h
  refine m_R_sg (by decide) [(.aload_n 0, 1, 0, 0, 0, 0, 0), (.getfield 242, 3, 0, 12, 14, 2, 1506), (.ldc2_w 323, 3, 0, 43, 0, 0, 1800), (.lcmp, 1, 0, 0, 0, 0, 0)] (by decide +kernel) (show m_sgl X _ _ _ _ _ = some (31, [some (.ref 304), some (.int v1), w2, w3], [.int (lg_cmp (m.2 304) (43 : Int64))], (SH, m.1, m.2)) from rfl) ?_
  rcases m_ite h with ⟨c377, h⟩ | ⟨c377, h⟩
  · refine m_R_1 (by decide) (m_opb_of (ins := .ifCond .ne 7) (len := 3) (tag := 0) (a := 38) (b := 0) (c := 0) (q := 0) (by decide +kernel)) (if_pos c377) ?_
    refine m_R_sg (by decide) [(.iconst 1, 1, 0, 1, 0, 0, 0), (.goto 4, 3, 0, 39, 0, 0, 0)] (by decide +kernel) (show m_sgl X _ _ _ _ _ = some (39, [some (.ref 304), some (.int v1), w2, w3], [.int (1 : Int32)], (SH, m.1, m.2)) from rfl) ?_
    exact ok_m_added_39 X d F g hg235 hg236 hg237 hg239 hg240 hg241 _ hk5 _ _ _ _ _ _ _ h
  · refine m_R_1 (by decide) (m_opb_of (ins := .ifCond .ne 7) (len := 3) (tag := 0) (a := 38) (b := 0) (c := 0) (q := 0) (by decide +kernel)) (if_neg c377) ?_
    refine m_R_sg (by decide) [(.iconst 0, 1, 0, 0, 0, 0, 0)] (by decide +kernel) (show m_sgl X _ _ _ _ _ = some (39, [some (.ref 304), some (.int v1), w2, w3], [.int (0 : Int32)], (SH, m.1, m.2)) from rfl) ?_
    exact ok_m_added_39 X d F g hg235 hg236 hg237 hg239 hg240 hg241 _ hk5 _ _ _ _ _ _ _ h
def f_m_added_5 (F : Nat) (g : Nat → mM → Option (Int32 × mM))  : Nat → Int32 → mM → Option (Int32 × mM)
  | 0, _, _ => none
  | n + 1, v1, m => ((f_m_isSign F (43 : Int32) m).bind fun q2 => (if q2.1 = 0 then ((f_m_isSign F (45 : Int32) q2.2).bind fun q3 => (if q3.1 = 0 then some (v1, q3.2) else f_m_added_23 F g (f_m_added_5 F g n) v1 q3.2)) else f_m_added_23 F g (f_m_added_5 F g n) v1 q2.2))
theorem ok_m_added_5 (X : mX) (d F : Nat) (g : Nat → mM → Option (Int32 × mM)) (hg235 : ∀  (m : mM) (r : Int32) (m' : mM), g 235  m = some (r, m') → m_R X (d + 4) 235 0 [some (.ref 304), none, none] [] (SH, m) (some (.int r), (SH, m'))) (hg236 : ∀  (m : mM) (r : Int32) (m' : mM), g 236  m = some (r, m') → m_R X (d + 4) 236 0 [some (.ref 304), none, none] [] (SH, m) (some (.int r), (SH, m'))) (hg237 : ∀  (m : mM) (r : Int32) (m' : mM), g 237  m = some (r, m') → m_R X (d + 4) 237 0 [some (.ref 304), none, none, none, none] [] (SH, m) (some (.int r), (SH, m'))) (hg239 : ∀  (m : mM) (r : Int32) (m' : mM), g 239  m = some (r, m') → m_R X (d + 4) 239 0 [some (.ref 304), none, none, none] [] (SH, m) (some (.int r), (SH, m'))) (hg240 : ∀  (m : mM) (r : Int32) (m' : mM), g 240  m = some (r, m') → m_R X (d + 4) 240 0 [some (.ref 304), none, none, none, none] [] (SH, m) (some (.int r), (SH, m'))) (hg241 : ∀  (m : mM) (r : Int32) (m' : mM), g 241  m = some (r, m') → m_R X (d + 4) 241 0 [some (.ref 304), none] [] (SH, m) (some (.int r), (SH, m'))) : ∀ (n : Nat) (v1 : Int32) (w2 : Option Value) (w3 : Option Value) (m : mM) (r : Int32) (m' : mM), f_m_added_5 F g n v1 m = some (r, m') → m_R X (d + 5) 239 5 [some (.ref 304), some (.int v1), w2, w3] [] (SH, m) (some (.int r), (SH, m')) := by
  intro n
  induction n with
  | zero => intro v1 w2 w3 m r m' h; cases h
  | succ n ih =>
    intro v1 w2 w3 m r m' h
    simp only [f_m_added_5] at h
    refine m_R_sg (by decide) [(.aload_n 0, 1, 0, 0, 0, 0, 0), (.bipush 43, 2, 0, 43, 0, 0, 0)] (by decide +kernel) (show m_sgl X _ _ _ _ _ = some (8, [some (.ref 304), some (.int v1), w2, w3], [.int (43 : Int32), .ref 304], (SH, m.1, m.2)) from rfl) ?_
    obtain ⟨q2, hc2, h⟩ := Option.bind_eq_some_iff.mp h
    refine m_R_cV (v := (some (.int q2.1))) (h1 := (SH, q2.2)) (rest := []) (lo' := [some (.ref 304), some (.int (43 : Int32))]) (ml := 2) (k0 := 304) (by decide) (Or.inl rfl) (m_opb_of (ins := .invokevirtual 301) (len := 3) (tag := 5) (a := 242) (b := 1) (c := 0) (q := 1766) (by decide +kernel)) (by decide +kernel) rfl (show m_isO 242 304 (SH, _) = true from m_isO_of (by decide +kernel)) (Nat.le_of_ble_eq_true rfl) rfl rfl (ok_m_isSign X (d + 4) F _ _ _ _ hc2) ?_
    rcases m_ite h with ⟨c378, h⟩ | ⟨c378, h⟩
    · refine m_R_1 (by decide) (m_opb_of (ins := .ifCond .ne 12) (len := 3) (tag := 0) (a := 23) (b := 0) (c := 0) (q := 0) (by decide +kernel)) (if_pos c378) ?_
      refine m_R_sg (by decide) [(.aload_n 0, 1, 0, 0, 0, 0, 0), (.bipush 45, 2, 0, 45, 0, 0, 0)] (by decide +kernel) (show m_sgl X _ _ _ _ _ = some (17, [some (.ref 304), some (.int v1), w2, w3], [.int (45 : Int32), .ref 304], (SH, q2.2.1, q2.2.2)) from rfl) ?_
      obtain ⟨q3, hc3, h⟩ := Option.bind_eq_some_iff.mp h
      refine m_R_cV (v := (some (.int q3.1))) (h1 := (SH, q3.2)) (rest := []) (lo' := [some (.ref 304), some (.int (45 : Int32))]) (ml := 2) (k0 := 304) (by decide) (Or.inl rfl) (m_opb_of (ins := .invokevirtual 301) (len := 3) (tag := 5) (a := 242) (b := 1) (c := 0) (q := 1766) (by decide +kernel)) (by decide +kernel) rfl (show m_isO 242 304 (SH, _) = true from m_isO_of (by decide +kernel)) (Nat.le_of_ble_eq_true rfl) rfl rfl (ok_m_isSign X (d + 4) F _ _ _ _ hc3) ?_
      rcases m_ite h with ⟨c379, h⟩ | ⟨c379, h⟩
      · refine m_R_1 (by decide) (m_opb_of (ins := .ifCond .eq 46) (len := 3) (tag := 0) (a := 66) (b := 0) (c := 0) (q := 0) (by decide +kernel)) (if_pos c379) ?_
        refine m_R_sg (by decide) [(.iload_n 1, 1, 0, 1, 0, 0, 0)] (by decide +kernel) (show m_sgl X _ _ _ _ _ = some (67, [some (.ref 304), some (.int v1), w2, w3], [.int v1], (SH, q3.2.1, q3.2.2)) from rfl) ?_
        obtain ⟨rfl, rfl⟩ := m_some h
        exact m_R_iret (by decide) (m_opb_of (ins := .ireturn) (len := 1) (tag := 1) (a := 0) (b := 0) (c := 0) (q := 0) (by decide +kernel)) (Or.inl rfl)
      · refine m_R_1 (by decide) (m_opb_of (ins := .ifCond .eq 46) (len := 3) (tag := 0) (a := 66) (b := 0) (c := 0) (q := 0) (by decide +kernel)) (if_neg c379) ?_
        exact ok_m_added_23 X d F g hg235 hg236 hg237 hg239 hg240 hg241 _ (fun a0 a1 a2 m r m' h => ih a0 a1 a2 m r m' h) _ _ _ _ _ _ h
    · refine m_R_1 (by decide) (m_opb_of (ins := .ifCond .ne 12) (len := 3) (tag := 0) (a := 23) (b := 0) (c := 0) (q := 0) (by decide +kernel)) (if_neg c378) ?_
      exact ok_m_added_23 X d F g hg235 hg236 hg237 hg239 hg240 hg241 _ (fun a0 a1 a2 m r m' h => ih a0 a1 a2 m r m' h) _ _ _ _ _ _ h
def f_m_added (F : Nat) (g : Nat → mM → Option (Int32 × mM))   (m : mM) : Option (Int32 × mM) := ((g 240 m).bind fun q1 => f_m_added_5 F g F q1.1 q1.2)
theorem ok_m_added (X : mX) (d F : Nat) (g : Nat → mM → Option (Int32 × mM)) (hg235 : ∀  (m : mM) (r : Int32) (m' : mM), g 235  m = some (r, m') → m_R X (d + 4) 235 0 [some (.ref 304), none, none] [] (SH, m) (some (.int r), (SH, m'))) (hg236 : ∀  (m : mM) (r : Int32) (m' : mM), g 236  m = some (r, m') → m_R X (d + 4) 236 0 [some (.ref 304), none, none] [] (SH, m) (some (.int r), (SH, m'))) (hg237 : ∀  (m : mM) (r : Int32) (m' : mM), g 237  m = some (r, m') → m_R X (d + 4) 237 0 [some (.ref 304), none, none, none, none] [] (SH, m) (some (.int r), (SH, m'))) (hg239 : ∀  (m : mM) (r : Int32) (m' : mM), g 239  m = some (r, m') → m_R X (d + 4) 239 0 [some (.ref 304), none, none, none] [] (SH, m) (some (.int r), (SH, m'))) (hg240 : ∀  (m : mM) (r : Int32) (m' : mM), g 240  m = some (r, m') → m_R X (d + 4) 240 0 [some (.ref 304), none, none, none, none] [] (SH, m) (some (.int r), (SH, m'))) (hg241 : ∀  (m : mM) (r : Int32) (m' : mM), g 241  m = some (r, m') → m_R X (d + 4) 241 0 [some (.ref 304), none] [] (SH, m) (some (.int r), (SH, m'))) : ∀   (m : mM) (r : Int32) (m' : mM), f_m_added F g  m = some (r, m') → m_R X (d + 5) 239 0 [some (.ref 304), none, none, none] [] (SH, m) (some (.int r), (SH, m')) := by
  intro m r m' h
  unfold f_m_added at h
  refine m_R_sg (by decide) [(.aload_n 0, 1, 0, 0, 0, 0, 0)] (by decide +kernel) (show m_sgl X _ _ _ _ _ = some (1, [some (.ref 304), none, none, none], [.ref 304], (SH, m.1, m.2)) from rfl) ?_
  obtain ⟨q1, hc1, h⟩ := Option.bind_eq_some_iff.mp h
  refine m_R_cV (v := (some (.int q1.1))) (h1 := (SH, q1.2)) (rest := []) (lo' := [some (.ref 304), none, none, none, none]) (ml := 5) (k0 := 304) (by decide) (Or.inl rfl) (m_opb_of (ins := .invokevirtual 320) (len := 3) (tag := 5) (a := 240) (b := 0) (c := 0) (q := 1758) (by decide +kernel)) (by decide +kernel) rfl (show m_isO 240 304 (SH, _) = true from m_isO_of (by decide +kernel)) (Nat.le_of_ble_eq_true rfl) rfl rfl (hg240 _ _ _ hc1) ?_
  refine m_R_sg (by decide) [(.istore_n 1, 1, 0, 1, 0, 0, 0)] (by decide +kernel) (show m_sgl X _ _ _ _ _ = some (5, [some (.ref 304), some (.int q1.1), none, none], [], (SH, q1.2.1, q1.2.2)) from rfl) ?_
  exact ok_m_added_5 X d F g hg235 hg236 hg237 hg239 hg240 hg241 F _ _ _ _ _ _ h
def f_m_term_117 (F : Nat) (g : Nat → mM → Option (Int32 × mM)) (k5 : Int32 → mM → Option (Int32 × mM)) (v1 : Int32) (m : mM) : Option (Int32 × mM) := k5 v1 m
theorem ok_m_term_117 (X : mX) (d F : Nat) (g : Nat → mM → Option (Int32 × mM)) (hg235 : ∀  (m : mM) (r : Int32) (m' : mM), g 235  m = some (r, m') → m_R X (d + 4) 235 0 [some (.ref 304), none, none] [] (SH, m) (some (.int r), (SH, m'))) (hg236 : ∀  (m : mM) (r : Int32) (m' : mM), g 236  m = some (r, m') → m_R X (d + 4) 236 0 [some (.ref 304), none, none] [] (SH, m) (some (.int r), (SH, m'))) (hg237 : ∀  (m : mM) (r : Int32) (m' : mM), g 237  m = some (r, m') → m_R X (d + 4) 237 0 [some (.ref 304), none, none, none, none] [] (SH, m) (some (.int r), (SH, m'))) (hg239 : ∀  (m : mM) (r : Int32) (m' : mM), g 239  m = some (r, m') → m_R X (d + 4) 239 0 [some (.ref 304), none, none, none] [] (SH, m) (some (.int r), (SH, m'))) (hg240 : ∀  (m : mM) (r : Int32) (m' : mM), g 240  m = some (r, m') → m_R X (d + 4) 240 0 [some (.ref 304), none, none, none, none] [] (SH, m) (some (.int r), (SH, m'))) (hg241 : ∀  (m : mM) (r : Int32) (m' : mM), g 241  m = some (r, m') → m_R X (d + 4) 241 0 [some (.ref 304), none] [] (SH, m) (some (.int r), (SH, m'))) (k5 : Int32 → mM → Option (Int32 × mM)) (hk5 : ∀ (v1 : Int32) (w2 : Option Value) (w3 : Option Value) (w4 : Option Value) (m : mM) (r : Int32) (m' : mM), k5 v1 m = some (r, m') → m_R X (d + 5) 240 5 [some (.ref 304), some (.int v1), w2, w3, w4] [] (SH, m) (some (.int r), (SH, m'))) : ∀ (v1 : Int32) (w2 : Option Value) (w3 : Option Value) (w4 : Option Value) (m : mM) (r : Int32) (m' : mM), f_m_term_117 F g k5 v1 m = some (r, m') → m_R X (d + 5) 240 117 [some (.ref 304), some (.int v1), w2, w3, w4] [] (SH, m) (some (.int r), (SH, m')) := by
  intro v1 w2 w3 w4 m r m' h
  unfold f_m_term_117 at h
  refine m_R_sg (by decide) [(.goto (-112), 3, 0, 5, 0, 0, 0)] (by decide +kernel) (show m_sgl X _ _ _ _ _ = some (5, [some (.ref 304), some (.int v1), w2, w3, w4], [], (SH, m.1, m.2)) from rfl) ?_
  exact hk5 _ _ _ _ _ _ _ h
def f_m_term_93 (F : Nat) (g : Nat → mM → Option (Int32 × mM)) (k5 : Int32 → mM → Option (Int32 × mM)) (s0 : Int32) (m : mM) : Option (Int32 × mM) := f_m_term_117 F g k5 s0 m
theorem ok_m_term_93 (X : mX) (d F : Nat) (g : Nat → mM → Option (Int32 × mM)) (hg235 : ∀  (m : mM) (r : Int32) (m' : mM), g 235  m = some (r, m') → m_R X (d + 4) 235 0 [some (.ref 304), none, none] [] (SH, m) (some (.int r), (SH, m'))) (hg236 : ∀  (m : mM) (r : Int32) (m' : mM), g 236  m = some (r, m') → m_R X (d + 4) 236 0 [some (.ref 304), none, none] [] (SH, m) (some (.int r), (SH, m'))) (hg237 : ∀  (m : mM) (r : Int32) (m' : mM), g 237  m = some (r, m') → m_R X (d + 4) 237 0 [some (.ref 304), none, none, none, none] [] (SH, m) (some (.int r), (SH, m'))) (hg239 : ∀  (m : mM) (r : Int32) (m' : mM), g 239  m = some (r, m') → m_R X (d + 4) 239 0 [some (.ref 304), none, none, none] [] (SH, m) (some (.int r), (SH, m'))) (hg240 : ∀  (m : mM) (r : Int32) (m' : mM), g 240  m = some (r, m') → m_R X (d + 4) 240 0 [some (.ref 304), none, none, none, none] [] (SH, m) (some (.int r), (SH, m'))) (hg241 : ∀  (m : mM) (r : Int32) (m' : mM), g 241  m = some (r, m') → m_R X (d + 4) 241 0 [some (.ref 304), none] [] (SH, m) (some (.int r), (SH, m'))) (k5 : Int32 → mM → Option (Int32 × mM)) (hk5 : ∀ (v1 : Int32) (w2 : Option Value) (w3 : Option Value) (w4 : Option Value) (m : mM) (r : Int32) (m' : mM), k5 v1 m = some (r, m') → m_R X (d + 5) 240 5 [some (.ref 304), some (.int v1), w2, w3, w4] [] (SH, m) (some (.int r), (SH, m'))) : ∀ (s0 : Int32) (w1 : Option Value) (w2 : Option Value) (w3 : Option Value) (w4 : Option Value) (m : mM) (r : Int32) (m' : mM), f_m_term_93 F g k5 s0 m = some (r, m') → m_R X (d + 5) 240 93 [some (.ref 304), w1, w2, w3, w4] [.int s0] (SH, m) (some (.int r), (SH, m')) := by
  intro s0 w1 w2 w3 w4 m r m' h
  unfold f_m_term_93 at h
  refine m_R_sg (by decide) [(.istore_n 1, 1, 0, 1, 0, 0, 0), (.goto 23, 3, 0, 117, 0, 0, 0)] (by decide +kernel) (show m_sgl X _ _ _ _ _ = some (117, [some (.ref 304), some (.int s0), w2, w3, w4], [], (SH, m.1, m.2)) from rfl) ?_
  exact ok_m_term_117 X d F g hg235 hg236 hg237 hg239 hg240 hg241 _ hk5 _ _ _ _ _ _ _ h
def f_m_term_116 (F : Nat) (g : Nat → mM → Option (Int32 × mM)) (k5 : Int32 → mM → Option (Int32 × mM)) (s0 : Int32) (m : mM) : Option (Int32 × mM) := f_m_term_117 F g k5 s0 m
theorem ok_m_term_116 (X : mX) (d F : Nat) (g : Nat → mM → Option (Int32 × mM)) (hg235 : ∀  (m : mM) (r : Int32) (m' : mM), g 235  m = some (r, m') → m_R X (d + 4) 235 0 [some (.ref 304), none, none] [] (SH, m) (some (.int r), (SH, m'))) (hg236 : ∀  (m : mM) (r : Int32) (m' : mM), g 236  m = some (r, m') → m_R X (d + 4) 236 0 [some (.ref 304), none, none] [] (SH, m) (some (.int r), (SH, m'))) (hg237 : ∀  (m : mM) (r : Int32) (m' : mM), g 237  m = some (r, m') → m_R X (d + 4) 237 0 [some (.ref 304), none, none, none, none] [] (SH, m) (some (.int r), (SH, m'))) (hg239 : ∀  (m : mM) (r : Int32) (m' : mM), g 239  m = some (r, m') → m_R X (d + 4) 239 0 [some (.ref 304), none, none, none] [] (SH, m) (some (.int r), (SH, m'))) (hg240 : ∀  (m : mM) (r : Int32) (m' : mM), g 240  m = some (r, m') → m_R X (d + 4) 240 0 [some (.ref 304), none, none, none, none] [] (SH, m) (some (.int r), (SH, m'))) (hg241 : ∀  (m : mM) (r : Int32) (m' : mM), g 241  m = some (r, m') → m_R X (d + 4) 241 0 [some (.ref 304), none] [] (SH, m) (some (.int r), (SH, m'))) (k5 : Int32 → mM → Option (Int32 × mM)) (hk5 : ∀ (v1 : Int32) (w2 : Option Value) (w3 : Option Value) (w4 : Option Value) (m : mM) (r : Int32) (m' : mM), k5 v1 m = some (r, m') → m_R X (d + 5) 240 5 [some (.ref 304), some (.int v1), w2, w3, w4] [] (SH, m) (some (.int r), (SH, m'))) : ∀ (s0 : Int32) (w1 : Option Value) (w2 : Option Value) (w3 : Option Value) (w4 : Option Value) (m : mM) (r : Int32) (m' : mM), f_m_term_116 F g k5 s0 m = some (r, m') → m_R X (d + 5) 240 116 [some (.ref 304), w1, w2, w3, w4] [.int s0] (SH, m) (some (.int r), (SH, m')) := by
  intro s0 w1 w2 w3 w4 m r m' h
  unfold f_m_term_116 at h
  refine m_R_sg (by decide) [(.istore_n 1, 1, 0, 1, 0, 0, 0)] (by decide +kernel) (show m_sgl X _ _ _ _ _ = some (117, [some (.ref 304), some (.int s0), w2, w3, w4], [], (SH, m.1, m.2)) from rfl) ?_
  exact ok_m_term_117 X d F g hg235 hg236 hg237 hg239 hg240 hg241 _ hk5 _ _ _ _ _ _ _ h
def f_m_term_32 (F : Nat) (g : Nat → mM → Option (Int32 × mM)) (k5 : Int32 → mM → Option (Int32 × mM)) (v1 : Int32) (m : mM) : Option (Int32 × mM) := ((f_m_next F m).bind fun q5 => ((g 241 q5.2).bind fun q6 => (if (lg_cmp (m.2 304) (42 : Int64)) = 0 then f_m_term_117 F g k5 (v1 * q6.1) q6.2 else (if q6.1 = 0 then f_m_term_117 F g k5 (0 : Int32) q6.2 else (if q6.1 = (-1 : Int32) then (if (lg_cmp (m.2 304) (47 : Int64)) = 0 then f_m_term_93 F g k5 (-v1) q6.2 else f_m_term_93 F g k5 (0 : Int32) q6.2) else (if (lg_cmp (m.2 304) (47 : Int64)) = 0 then f_m_term_116 F g k5 (v1 / q6.1) q6.2 else f_m_term_116 F g k5 (v1 - v1 / q6.1 * q6.1) q6.2))))))
theorem ok_m_term_32 (X : mX) (d F : Nat) (g : Nat → mM → Option (Int32 × mM)) (hg235 : ∀  (m : mM) (r : Int32) (m' : mM), g 235  m = some (r, m') → m_R X (d + 4) 235 0 [some (.ref 304), none, none] [] (SH, m) (some (.int r), (SH, m'))) (hg236 : ∀  (m : mM) (r : Int32) (m' : mM), g 236  m = some (r, m') → m_R X (d + 4) 236 0 [some (.ref 304), none, none] [] (SH, m) (some (.int r), (SH, m'))) (hg237 : ∀  (m : mM) (r : Int32) (m' : mM), g 237  m = some (r, m') → m_R X (d + 4) 237 0 [some (.ref 304), none, none, none, none] [] (SH, m) (some (.int r), (SH, m'))) (hg239 : ∀  (m : mM) (r : Int32) (m' : mM), g 239  m = some (r, m') → m_R X (d + 4) 239 0 [some (.ref 304), none, none, none] [] (SH, m) (some (.int r), (SH, m'))) (hg240 : ∀  (m : mM) (r : Int32) (m' : mM), g 240  m = some (r, m') → m_R X (d + 4) 240 0 [some (.ref 304), none, none, none, none] [] (SH, m) (some (.int r), (SH, m'))) (hg241 : ∀  (m : mM) (r : Int32) (m' : mM), g 241  m = some (r, m') → m_R X (d + 4) 241 0 [some (.ref 304), none] [] (SH, m) (some (.int r), (SH, m'))) (k5 : Int32 → mM → Option (Int32 × mM)) (hk5 : ∀ (v1 : Int32) (w2 : Option Value) (w3 : Option Value) (w4 : Option Value) (m : mM) (r : Int32) (m' : mM), k5 v1 m = some (r, m') → m_R X (d + 5) 240 5 [some (.ref 304), some (.int v1), w2, w3, w4] [] (SH, m) (some (.int r), (SH, m'))) : ∀ (v1 : Int32) (w2 : Option Value) (w3 : Option Value) (w4 : Option Value) (m : mM) (r : Int32) (m' : mM), f_m_term_32 F g k5 v1 m = some (r, m') → m_R X (d + 5) 240 32 [some (.ref 304), some (.int v1), w2, w3, w4] [] (SH, m) (some (.int r), (SH, m')) := by
  intro v1 w2 w3 w4 m r m' h
  unfold f_m_term_32 at h
  refine m_R_sg (by decide) [(.aload_n 0, 1, 0, 0, 0, 0, 0), (.getfield 242, 3, 0, 12, 14, 2, 1506), (.lstore_n 2, 1, 0, 2, 0, 0, 0), (.aload_n 0, 1, 0, 0, 0, 0, 0)] (by decide +kernel) (show m_sgl X _ _ _ _ _ = some (38, [some (.ref 304), some (.int v1), some (.long (m.2 304)), none, w4], [.ref 304], (SH, m.1, m.2)) from rfl) ?_
  obtain ⟨q5, hc5, h⟩ := Option.bind_eq_some_iff.mp h
  refine m_R_cV (v := none) (h1 := (SH, q5.2)) (rest := []) (lo' := [some (.ref 304), none, none]) (ml := 3) (k0 := 304) (by decide) (Or.inl rfl) (m_opb_of (ins := .invokevirtual 269) (len := 3) (tag := 5) (a := 230) (b := 0) (c := 0) (q := 1705) (by decide +kernel)) (by decide +kernel) rfl (show m_isO 230 304 (SH, _) = true from m_isO_of (by decide +kernel)) (Nat.le_of_ble_eq_true rfl) rfl rfl (ok_m_next X (d + 3) F _ _ _ hc5) ?_
  refine m_R_sg (by decide) [(.aload_n 0, 1, 0, 0, 0, 0, 0)] (by decide +kernel) (show m_sgl X _ _ _ _ _ = some (42, [some (.ref 304), some (.int v1), some (.long (m.2 304)), none, w4], [.ref 304], (SH, q5.2.1, q5.2.2)) from rfl) ?_
  obtain ⟨q6, hc6, h⟩ := Option.bind_eq_some_iff.mp h
  refine m_R_cV (v := (some (.int q6.1))) (h1 := (SH, q6.2)) (rest := []) (lo' := [some (.ref 304), none]) (ml := 2) (k0 := 304) (by decide) (Or.inl rfl) (m_opb_of (ins := .invokevirtual 307) (len := 3) (tag := 5) (a := 241) (b := 0) (c := 0) (q := 1762) (by decide +kernel)) (by decide +kernel) rfl (show m_isO 241 304 (SH, _) = true from m_isO_of (by decide +kernel)) (Nat.le_of_ble_eq_true rfl) rfl rfl (hg241 _ _ _ hc6) ?_
  refine m_R_sg (by decide) [(.istore 4, 2, 0, 4, 0, 0, 0), (.lload_n 2, 1, 0, 2, 0, 0, 0), (.ldc2_w 316, 3, 0, 42, 0, 0, 1798), (.lcmp, 1, 0, 0, 0, 0, 0)] (by decide +kernel) (show m_sgl X _ _ _ _ _ = some (52, [some (.ref 304), some (.int v1), some (.long (m.2 304)), none, some (.int q6.1)], [.int (lg_cmp (m.2 304) (42 : Int64))], (SH, q6.2.1, q6.2.2)) from rfl) ?_
  rcases m_ite h with ⟨c380, h⟩ | ⟨c380, h⟩
  · refine m_R_1 (by decide) (m_opb_of (ins := .ifCond .ne 11) (len := 3) (tag := 0) (a := 63) (b := 0) (c := 0) (q := 0) (by decide +kernel)) (if_pos c380) ?_
    refine m_R_sg (by decide) [(.iload_n 1, 1, 0, 1, 0, 0, 0), (.iload 4, 2, 0, 4, 0, 0, 0), (.imul, 1, 0, 0, 0, 0, 0), (.istore_n 1, 1, 0, 1, 0, 0, 0), (.goto 57, 3, 0, 117, 0, 0, 0)] (by decide +kernel) (show m_sgl X _ _ _ _ _ = some (117, [some (.ref 304), some (.int (v1 * q6.1)), some (.long (m.2 304)), none, some (.int q6.1)], [], (SH, q6.2.1, q6.2.2)) from rfl) ?_
    exact ok_m_term_117 X d F g hg235 hg236 hg237 hg239 hg240 hg241 _ hk5 _ _ _ _ _ _ _ h
  · refine m_R_1 (by decide) (m_opb_of (ins := .ifCond .ne 11) (len := 3) (tag := 0) (a := 63) (b := 0) (c := 0) (q := 0) (by decide +kernel)) (if_neg c380) ?_
    refine m_R_sg (by decide) [(.iload 4, 2, 0, 4, 0, 0, 0)] (by decide +kernel) (show m_sgl X _ _ _ _ _ = some (65, [some (.ref 304), some (.int v1), some (.long (m.2 304)), none, some (.int q6.1)], [.int q6.1], (SH, q6.2.1, q6.2.2)) from rfl) ?_
    rcases m_ite h with ⟨c381, h⟩ | ⟨c381, h⟩
    · refine m_R_1 (by decide) (m_opb_of (ins := .ifCond .ne 8) (len := 3) (tag := 0) (a := 73) (b := 0) (c := 0) (q := 0) (by decide +kernel)) (if_pos c381) ?_
      refine m_R_sg (by decide) [(.iconst 0, 1, 0, 0, 0, 0, 0), (.istore_n 1, 1, 0, 1, 0, 0, 0), (.goto 47, 3, 0, 117, 0, 0, 0)] (by decide +kernel) (show m_sgl X _ _ _ _ _ = some (117, [some (.ref 304), some (.int (0 : Int32)), some (.long (m.2 304)), none, some (.int q6.1)], [], (SH, q6.2.1, q6.2.2)) from rfl) ?_
      exact ok_m_term_117 X d F g hg235 hg236 hg237 hg239 hg240 hg241 _ hk5 _ _ _ _ _ _ _ h
    · refine m_R_1 (by decide) (m_opb_of (ins := .ifCond .ne 8) (len := 3) (tag := 0) (a := 73) (b := 0) (c := 0) (q := 0) (by decide +kernel)) (if_neg c381) ?_
      refine m_R_sg (by decide) [(.iload 4, 2, 0, 4, 0, 0, 0), (.iconst (-1), 1, 0, 1, 1, 0, 0)] (by decide +kernel) (show m_sgl X _ _ _ _ _ = some (76, [some (.ref 304), some (.int v1), some (.long (m.2 304)), none, some (.int q6.1)], [.int (-1 : Int32), .int q6.1], (SH, q6.2.1, q6.2.2)) from rfl) ?_
      rcases m_ite h with ⟨c382, h⟩ | ⟨c382, h⟩
      · refine m_R_1 (by decide) (m_opb_of (ins := .if_icmp .ne 21) (len := 3) (tag := 0) (a := 97) (b := 0) (c := 0) (q := 0) (by decide +kernel)) (if_pos c382) ?_
        refine m_R_sg (by decide) [(.lload_n 2, 1, 0, 2, 0, 0, 0), (.ldc2_w 318, 3, 0, 47, 0, 0, 1799), (.lcmp, 1, 0, 0, 0, 0, 0)] (by decide +kernel) (show m_sgl X _ _ _ _ _ = some (84, [some (.ref 304), some (.int v1), some (.long (m.2 304)), none, some (.int q6.1)], [.int (lg_cmp (m.2 304) (47 : Int64))], (SH, q6.2.1, q6.2.2)) from rfl) ?_
        rcases m_ite h with ⟨c383, h⟩ | ⟨c383, h⟩
        · refine m_R_1 (by decide) (m_opb_of (ins := .ifCond .ne 8) (len := 3) (tag := 0) (a := 92) (b := 0) (c := 0) (q := 0) (by decide +kernel)) (if_pos c383) ?_
          refine m_R_sg (by decide) [(.iload_n 1, 1, 0, 1, 0, 0, 0), (.ineg, 1, 0, 0, 0, 0, 0), (.goto 4, 3, 0, 93, 0, 0, 0)] (by decide +kernel) (show m_sgl X _ _ _ _ _ = some (93, [some (.ref 304), some (.int v1), some (.long (m.2 304)), none, some (.int q6.1)], [.int (-v1)], (SH, q6.2.1, q6.2.2)) from rfl) ?_
          exact ok_m_term_93 X d F g hg235 hg236 hg237 hg239 hg240 hg241 _ hk5 _ _ _ _ _ _ _ _ h
        · refine m_R_1 (by decide) (m_opb_of (ins := .ifCond .ne 8) (len := 3) (tag := 0) (a := 92) (b := 0) (c := 0) (q := 0) (by decide +kernel)) (if_neg c383) ?_
          refine m_R_sg (by decide) [(.iconst 0, 1, 0, 0, 0, 0, 0)] (by decide +kernel) (show m_sgl X _ _ _ _ _ = some (93, [some (.ref 304), some (.int v1), some (.long (m.2 304)), none, some (.int q6.1)], [.int (0 : Int32)], (SH, q6.2.1, q6.2.2)) from rfl) ?_
          exact ok_m_term_93 X d F g hg235 hg236 hg237 hg239 hg240 hg241 _ hk5 _ _ _ _ _ _ _ _ h
      · refine m_R_1 (by decide) (m_opb_of (ins := .if_icmp .ne 21) (len := 3) (tag := 0) (a := 97) (b := 0) (c := 0) (q := 0) (by decide +kernel)) (if_neg c382) ?_
        refine m_R_sg (by decide) [(.lload_n 2, 1, 0, 2, 0, 0, 0), (.ldc2_w 318, 3, 0, 47, 0, 0, 1799), (.lcmp, 1, 0, 0, 0, 0, 0)] (by decide +kernel) (show m_sgl X _ _ _ _ _ = some (102, [some (.ref 304), some (.int v1), some (.long (m.2 304)), none, some (.int q6.1)], [.int (lg_cmp (m.2 304) (47 : Int64))], (SH, q6.2.1, q6.2.2)) from rfl) ?_
        rcases m_ite h with ⟨c384, h⟩ | ⟨c384, h⟩
        · refine m_R_1 (by decide) (m_opb_of (ins := .ifCond .ne 10) (len := 3) (tag := 0) (a := 112) (b := 0) (c := 0) (q := 0) (by decide +kernel)) (if_pos c384) ?_
          refine m_R_sg (by decide) [(.iload_n 1, 1, 0, 1, 0, 0, 0), (.iload 4, 2, 0, 4, 0, 0, 0)] (by decide +kernel) (show m_sgl X _ _ _ _ _ = some (108, [some (.ref 304), some (.int v1), some (.long (m.2 304)), none, some (.int q6.1)], [.int q6.1, .int v1], (SH, q6.2.1, q6.2.2)) from rfl) ?_
          refine m_R_1 (by decide) (m_opb_of (ins := .idiv) (len := 1) (tag := 0) (a := 0) (b := 0) (c := 0) (q := 0) (by decide +kernel)) (m_s_idiv c381) ?_
          refine m_R_sg (by decide) [(.goto 7, 3, 0, 116, 0, 0, 0)] (by decide +kernel) (show m_sgl X _ _ _ _ _ = some (116, [some (.ref 304), some (.int v1), some (.long (m.2 304)), none, some (.int q6.1)], [.int (v1 / q6.1)], (SH, q6.2.1, q6.2.2)) from rfl) ?_
          exact ok_m_term_116 X d F g hg235 hg236 hg237 hg239 hg240 hg241 _ hk5 _ _ _ _ _ _ _ _ h
        · refine m_R_1 (by decide) (m_opb_of (ins := .ifCond .ne 10) (len := 3) (tag := 0) (a := 112) (b := 0) (c := 0) (q := 0) (by decide +kernel)) (if_neg c384) ?_
          refine m_R_sg (by decide) [(.iload_n 1, 1, 0, 1, 0, 0, 0), (.iload 4, 2, 0, 4, 0, 0, 0)] (by decide +kernel) (show m_sgl X _ _ _ _ _ = some (115, [some (.ref 304), some (.int v1), some (.long (m.2 304)), none, some (.int q6.1)], [.int q6.1, .int v1], (SH, q6.2.1, q6.2.2)) from rfl) ?_
          refine m_R_1 (by decide) (m_opb_of (ins := .irem) (len := 1) (tag := 0) (a := 0) (b := 0) (c := 0) (q := 0) (by decide +kernel)) (m_s_irem c381) ?_
          exact ok_m_term_116 X d F g hg235 hg236 hg237 hg239 hg240 hg241 _ hk5 _ _ _ _ _ _ _ _ h
def f_m_term_5 (F : Nat) (g : Nat → mM → Option (Int32 × mM))  : Nat → Int32 → mM → Option (Int32 × mM)
  | 0, _, _ => none
  | n + 1, v1, m => ((f_m_isSign F (42 : Int32) m).bind fun q2 => (if q2.1 = 0 then ((f_m_isSign F (47 : Int32) q2.2).bind fun q3 => (if q3.1 = 0 then ((f_m_isSign F (37 : Int32) q3.2).bind fun q4 => (if q4.1 = 0 then some (v1, q4.2) else f_m_term_32 F g (f_m_term_5 F g n) v1 q4.2)) else f_m_term_32 F g (f_m_term_5 F g n) v1 q3.2)) else f_m_term_32 F g (f_m_term_5 F g n) v1 q2.2))
theorem ok_m_term_5 (X : mX) (d F : Nat) (g : Nat → mM → Option (Int32 × mM)) (hg235 : ∀  (m : mM) (r : Int32) (m' : mM), g 235  m = some (r, m') → m_R X (d + 4) 235 0 [some (.ref 304), none, none] [] (SH, m) (some (.int r), (SH, m'))) (hg236 : ∀  (m : mM) (r : Int32) (m' : mM), g 236  m = some (r, m') → m_R X (d + 4) 236 0 [some (.ref 304), none, none] [] (SH, m) (some (.int r), (SH, m'))) (hg237 : ∀  (m : mM) (r : Int32) (m' : mM), g 237  m = some (r, m') → m_R X (d + 4) 237 0 [some (.ref 304), none, none, none, none] [] (SH, m) (some (.int r), (SH, m'))) (hg239 : ∀  (m : mM) (r : Int32) (m' : mM), g 239  m = some (r, m') → m_R X (d + 4) 239 0 [some (.ref 304), none, none, none] [] (SH, m) (some (.int r), (SH, m'))) (hg240 : ∀  (m : mM) (r : Int32) (m' : mM), g 240  m = some (r, m') → m_R X (d + 4) 240 0 [some (.ref 304), none, none, none, none] [] (SH, m) (some (.int r), (SH, m'))) (hg241 : ∀  (m : mM) (r : Int32) (m' : mM), g 241  m = some (r, m') → m_R X (d + 4) 241 0 [some (.ref 304), none] [] (SH, m) (some (.int r), (SH, m'))) : ∀ (n : Nat) (v1 : Int32) (w2 : Option Value) (w3 : Option Value) (w4 : Option Value) (m : mM) (r : Int32) (m' : mM), f_m_term_5 F g n v1 m = some (r, m') → m_R X (d + 5) 240 5 [some (.ref 304), some (.int v1), w2, w3, w4] [] (SH, m) (some (.int r), (SH, m')) := by
  intro n
  induction n with
  | zero => intro v1 w2 w3 w4 m r m' h; cases h
  | succ n ih =>
    intro v1 w2 w3 w4 m r m' h
    simp only [f_m_term_5] at h
    refine m_R_sg (by decide) [(.aload_n 0, 1, 0, 0, 0, 0, 0), (.bipush 42, 2, 0, 42, 0, 0, 0)] (by decide +kernel) (show m_sgl X _ _ _ _ _ = some (8, [some (.ref 304), some (.int v1), w2, w3, w4], [.int (42 : Int32), .ref 304], (SH, m.1, m.2)) from rfl) ?_
    obtain ⟨q2, hc2, h⟩ := Option.bind_eq_some_iff.mp h
    refine m_R_cV (v := (some (.int q2.1))) (h1 := (SH, q2.2)) (rest := []) (lo' := [some (.ref 304), some (.int (42 : Int32))]) (ml := 2) (k0 := 304) (by decide) (Or.inl rfl) (m_opb_of (ins := .invokevirtual 301) (len := 3) (tag := 5) (a := 242) (b := 1) (c := 0) (q := 1766) (by decide +kernel)) (by decide +kernel) rfl (show m_isO 242 304 (SH, _) = true from m_isO_of (by decide +kernel)) (Nat.le_of_ble_eq_true rfl) rfl rfl (ok_m_isSign X (d + 4) F _ _ _ _ hc2) ?_
    rcases m_ite h with ⟨c385, h⟩ | ⟨c385, h⟩
    · refine m_R_1 (by decide) (m_opb_of (ins := .ifCond .ne 21) (len := 3) (tag := 0) (a := 32) (b := 0) (c := 0) (q := 0) (by decide +kernel)) (if_pos c385) ?_
      refine m_R_sg (by decide) [(.aload_n 0, 1, 0, 0, 0, 0, 0), (.bipush 47, 2, 0, 47, 0, 0, 0)] (by decide +kernel) (show m_sgl X _ _ _ _ _ = some (17, [some (.ref 304), some (.int v1), w2, w3, w4], [.int (47 : Int32), .ref 304], (SH, q2.2.1, q2.2.2)) from rfl) ?_
      obtain ⟨q3, hc3, h⟩ := Option.bind_eq_some_iff.mp h
      refine m_R_cV (v := (some (.int q3.1))) (h1 := (SH, q3.2)) (rest := []) (lo' := [some (.ref 304), some (.int (47 : Int32))]) (ml := 2) (k0 := 304) (by decide) (Or.inl rfl) (m_opb_of (ins := .invokevirtual 301) (len := 3) (tag := 5) (a := 242) (b := 1) (c := 0) (q := 1766) (by decide +kernel)) (by decide +kernel) rfl (show m_isO 242 304 (SH, _) = true from m_isO_of (by decide +kernel)) (Nat.le_of_ble_eq_true rfl) rfl rfl (ok_m_isSign X (d + 4) F _ _ _ _ hc3) ?_
      rcases m_ite h with ⟨c386, h⟩ | ⟨c386, h⟩
      · refine m_R_1 (by decide) (m_opb_of (ins := .ifCond .ne 12) (len := 3) (tag := 0) (a := 32) (b := 0) (c := 0) (q := 0) (by decide +kernel)) (if_pos c386) ?_
        refine m_R_sg (by decide) [(.aload_n 0, 1, 0, 0, 0, 0, 0), (.bipush 37, 2, 0, 37, 0, 0, 0)] (by decide +kernel) (show m_sgl X _ _ _ _ _ = some (26, [some (.ref 304), some (.int v1), w2, w3, w4], [.int (37 : Int32), .ref 304], (SH, q3.2.1, q3.2.2)) from rfl) ?_
        obtain ⟨q4, hc4, h⟩ := Option.bind_eq_some_iff.mp h
        refine m_R_cV (v := (some (.int q4.1))) (h1 := (SH, q4.2)) (rest := []) (lo' := [some (.ref 304), some (.int (37 : Int32))]) (ml := 2) (k0 := 304) (by decide) (Or.inl rfl) (m_opb_of (ins := .invokevirtual 301) (len := 3) (tag := 5) (a := 242) (b := 1) (c := 0) (q := 1766) (by decide +kernel)) (by decide +kernel) rfl (show m_isO 242 304 (SH, _) = true from m_isO_of (by decide +kernel)) (Nat.le_of_ble_eq_true rfl) rfl rfl (ok_m_isSign X (d + 4) F _ _ _ _ hc4) ?_
        rcases m_ite h with ⟨c387, h⟩ | ⟨c387, h⟩
        · refine m_R_1 (by decide) (m_opb_of (ins := .ifCond .eq 91) (len := 3) (tag := 0) (a := 120) (b := 0) (c := 0) (q := 0) (by decide +kernel)) (if_pos c387) ?_
          refine m_R_sg (by decide) [(.iload_n 1, 1, 0, 1, 0, 0, 0)] (by decide +kernel) (show m_sgl X _ _ _ _ _ = some (121, [some (.ref 304), some (.int v1), w2, w3, w4], [.int v1], (SH, q4.2.1, q4.2.2)) from rfl) ?_
          obtain ⟨rfl, rfl⟩ := m_some h
          exact m_R_iret (by decide) (m_opb_of (ins := .ireturn) (len := 1) (tag := 1) (a := 0) (b := 0) (c := 0) (q := 0) (by decide +kernel)) (Or.inl rfl)
        · refine m_R_1 (by decide) (m_opb_of (ins := .ifCond .eq 91) (len := 3) (tag := 0) (a := 120) (b := 0) (c := 0) (q := 0) (by decide +kernel)) (if_neg c387) ?_
          exact ok_m_term_32 X d F g hg235 hg236 hg237 hg239 hg240 hg241 _ (fun a0 a1 a2 a3 m r m' h => ih a0 a1 a2 a3 m r m' h) _ _ _ _ _ _ _ h
      · refine m_R_1 (by decide) (m_opb_of (ins := .ifCond .ne 12) (len := 3) (tag := 0) (a := 32) (b := 0) (c := 0) (q := 0) (by decide +kernel)) (if_neg c386) ?_
        exact ok_m_term_32 X d F g hg235 hg236 hg237 hg239 hg240 hg241 _ (fun a0 a1 a2 a3 m r m' h => ih a0 a1 a2 a3 m r m' h) _ _ _ _ _ _ _ h
    · refine m_R_1 (by decide) (m_opb_of (ins := .ifCond .ne 21) (len := 3) (tag := 0) (a := 32) (b := 0) (c := 0) (q := 0) (by decide +kernel)) (if_neg c385) ?_
      exact ok_m_term_32 X d F g hg235 hg236 hg237 hg239 hg240 hg241 _ (fun a0 a1 a2 a3 m r m' h => ih a0 a1 a2 a3 m r m' h) _ _ _ _ _ _ _ h
def f_m_term (F : Nat) (g : Nat → mM → Option (Int32 × mM))   (m : mM) : Option (Int32 × mM) := ((g 241 m).bind fun q1 => f_m_term_5 F g F q1.1 q1.2)
theorem ok_m_term (X : mX) (d F : Nat) (g : Nat → mM → Option (Int32 × mM)) (hg235 : ∀  (m : mM) (r : Int32) (m' : mM), g 235  m = some (r, m') → m_R X (d + 4) 235 0 [some (.ref 304), none, none] [] (SH, m) (some (.int r), (SH, m'))) (hg236 : ∀  (m : mM) (r : Int32) (m' : mM), g 236  m = some (r, m') → m_R X (d + 4) 236 0 [some (.ref 304), none, none] [] (SH, m) (some (.int r), (SH, m'))) (hg237 : ∀  (m : mM) (r : Int32) (m' : mM), g 237  m = some (r, m') → m_R X (d + 4) 237 0 [some (.ref 304), none, none, none, none] [] (SH, m) (some (.int r), (SH, m'))) (hg239 : ∀  (m : mM) (r : Int32) (m' : mM), g 239  m = some (r, m') → m_R X (d + 4) 239 0 [some (.ref 304), none, none, none] [] (SH, m) (some (.int r), (SH, m'))) (hg240 : ∀  (m : mM) (r : Int32) (m' : mM), g 240  m = some (r, m') → m_R X (d + 4) 240 0 [some (.ref 304), none, none, none, none] [] (SH, m) (some (.int r), (SH, m'))) (hg241 : ∀  (m : mM) (r : Int32) (m' : mM), g 241  m = some (r, m') → m_R X (d + 4) 241 0 [some (.ref 304), none] [] (SH, m) (some (.int r), (SH, m'))) : ∀   (m : mM) (r : Int32) (m' : mM), f_m_term F g  m = some (r, m') → m_R X (d + 5) 240 0 [some (.ref 304), none, none, none, none] [] (SH, m) (some (.int r), (SH, m')) := by
  intro m r m' h
  unfold f_m_term at h
  refine m_R_sg (by decide) [(.aload_n 0, 1, 0, 0, 0, 0, 0)] (by decide +kernel) (show m_sgl X _ _ _ _ _ = some (1, [some (.ref 304), none, none, none, none], [.ref 304], (SH, m.1, m.2)) from rfl) ?_
  obtain ⟨q1, hc1, h⟩ := Option.bind_eq_some_iff.mp h
  refine m_R_cV (v := (some (.int q1.1))) (h1 := (SH, q1.2)) (rest := []) (lo' := [some (.ref 304), none]) (ml := 2) (k0 := 304) (by decide) (Or.inl rfl) (m_opb_of (ins := .invokevirtual 307) (len := 3) (tag := 5) (a := 241) (b := 0) (c := 0) (q := 1762) (by decide +kernel)) (by decide +kernel) rfl (show m_isO 241 304 (SH, _) = true from m_isO_of (by decide +kernel)) (Nat.le_of_ble_eq_true rfl) rfl rfl (hg241 _ _ _ hc1) ?_
  refine m_R_sg (by decide) [(.istore_n 1, 1, 0, 1, 0, 0, 0)] (by decide +kernel) (show m_sgl X _ _ _ _ _ = some (5, [some (.ref 304), some (.int q1.1), none, none, none], [], (SH, q1.2.1, q1.2.2)) from rfl) ?_
  exact ok_m_term_5 X d F g hg235 hg236 hg237 hg239 hg240 hg241 F _ _ _ _ _ _ _ h
def f_m_one_161 (F : Nat) (g : Nat → mM → Option (Int32 × mM))  (v1 : Int32) (m : mM) : Option (Int32 × mM) := some (v1, m)
theorem ok_m_one_161 (X : mX) (d F : Nat) (g : Nat → mM → Option (Int32 × mM)) (hg235 : ∀  (m : mM) (r : Int32) (m' : mM), g 235  m = some (r, m') → m_R X (d + 4) 235 0 [some (.ref 304), none, none] [] (SH, m) (some (.int r), (SH, m'))) (hg236 : ∀  (m : mM) (r : Int32) (m' : mM), g 236  m = some (r, m') → m_R X (d + 4) 236 0 [some (.ref 304), none, none] [] (SH, m) (some (.int r), (SH, m'))) (hg237 : ∀  (m : mM) (r : Int32) (m' : mM), g 237  m = some (r, m') → m_R X (d + 4) 237 0 [some (.ref 304), none, none, none, none] [] (SH, m) (some (.int r), (SH, m'))) (hg239 : ∀  (m : mM) (r : Int32) (m' : mM), g 239  m = some (r, m') → m_R X (d + 4) 239 0 [some (.ref 304), none, none, none] [] (SH, m) (some (.int r), (SH, m'))) (hg240 : ∀  (m : mM) (r : Int32) (m' : mM), g 240  m = some (r, m') → m_R X (d + 4) 240 0 [some (.ref 304), none, none, none, none] [] (SH, m) (some (.int r), (SH, m'))) (hg241 : ∀  (m : mM) (r : Int32) (m' : mM), g 241  m = some (r, m') → m_R X (d + 4) 241 0 [some (.ref 304), none] [] (SH, m) (some (.int r), (SH, m'))) : ∀ (v1 : Int32) (w0 : Option Value) (m : mM) (r : Int32) (m' : mM), f_m_one_161 F g v1 m = some (r, m') → m_R X (d + 5) 241 161 [w0, some (.int v1)] [] (SH, m) (some (.int r), (SH, m')) := by
  intro v1 w0 m r m' h
  unfold f_m_one_161 at h
  refine m_R_sg (by decide) [(.iload_n 1, 1, 0, 1, 0, 0, 0)] (by decide +kernel) (show m_sgl X _ _ _ _ _ = some (162, [w0, some (.int v1)], [.int v1], (SH, m.1, m.2)) from rfl) ?_
  obtain ⟨rfl, rfl⟩ := m_some h
  exact m_R_iret (by decide) (m_opb_of (ins := .ireturn) (len := 1) (tag := 1) (a := 0) (b := 0) (c := 0) (q := 0) (by decide +kernel)) (Or.inl rfl)
def f_m_one_71 (F : Nat) (g : Nat → mM → Option (Int32 × mM))  (v1 : Int32) (m : mM) : Option (Int32 × mM) := (if ((m_up m.1 304 16 ((m.1 304 16) - (1 : Int32))) 304 17) = 0 then ((f_m_next F ((m_up m.1 304 16 ((m.1 304 16) - (1 : Int32))), m.2)).bind fun q10 => f_m_one_161 F g v1 q10.2) else f_m_one_161 F g v1 ((m_up m.1 304 16 ((m.1 304 16) - (1 : Int32))), m.2))
theorem ok_m_one_71 (X : mX) (d F : Nat) (g : Nat → mM → Option (Int32 × mM)) (hg235 : ∀  (m : mM) (r : Int32) (m' : mM), g 235  m = some (r, m') → m_R X (d + 4) 235 0 [some (.ref 304), none, none] [] (SH, m) (some (.int r), (SH, m'))) (hg236 : ∀  (m : mM) (r : Int32) (m' : mM), g 236  m = some (r, m') → m_R X (d + 4) 236 0 [some (.ref 304), none, none] [] (SH, m) (some (.int r), (SH, m'))) (hg237 : ∀  (m : mM) (r : Int32) (m' : mM), g 237  m = some (r, m') → m_R X (d + 4) 237 0 [some (.ref 304), none, none, none, none] [] (SH, m) (some (.int r), (SH, m'))) (hg239 : ∀  (m : mM) (r : Int32) (m' : mM), g 239  m = some (r, m') → m_R X (d + 4) 239 0 [some (.ref 304), none, none, none] [] (SH, m) (some (.int r), (SH, m'))) (hg240 : ∀  (m : mM) (r : Int32) (m' : mM), g 240  m = some (r, m') → m_R X (d + 4) 240 0 [some (.ref 304), none, none, none, none] [] (SH, m) (some (.int r), (SH, m'))) (hg241 : ∀  (m : mM) (r : Int32) (m' : mM), g 241  m = some (r, m') → m_R X (d + 4) 241 0 [some (.ref 304), none] [] (SH, m) (some (.int r), (SH, m'))) : ∀ (v1 : Int32)  (m : mM) (r : Int32) (m' : mM), f_m_one_71 F g v1 m = some (r, m') → m_R X (d + 5) 241 71 [some (.ref 304), some (.int v1)] [] (SH, m) (some (.int r), (SH, m')) := by
  intro v1 m r m' h
  unfold f_m_one_71 at h
  refine m_R_sg (by decide) [(.aload_n 0, 1, 0, 0, 0, 0, 0), (.dup, 1, 0, 0, 0, 0, 0), (.getfield 263, 3, 0, 12, 16, 0, 1508), (.iconst 1, 1, 0, 1, 0, 0, 0), (.isub, 1, 0, 0, 0, 0, 0), (.putfield 263, 3, 0, 12, 16, 0, 1508), (.aload_n 0, 1, 0, 0, 0, 0, 0), (.getfield 256, 3, 0, 12, 17, 1, 1509)] (by decide +kernel) (show m_sgl X _ _ _ _ _ = some (85, [some (.ref 304), some (.int v1)], [.int ((m_up m.1 304 16 ((m.1 304 16) - (1 : Int32))) 304 17)], (SH, (m_up m.1 304 16 ((m.1 304 16) - (1 : Int32))), m.2)) from rfl) ?_
  rcases m_ite h with ⟨c388, h⟩ | ⟨c388, h⟩
  · refine m_R_1 (by decide) (m_opb_of (ins := .ifCond .ne 76) (len := 3) (tag := 0) (a := 161) (b := 0) (c := 0) (q := 0) (by decide +kernel)) (if_pos c388) ?_
    refine m_R_sg (by decide) [(.aload_n 0, 1, 0, 0, 0, 0, 0)] (by decide +kernel) (show m_sgl X _ _ _ _ _ = some (89, [some (.ref 304), some (.int v1)], [.ref 304], (SH, (m_up m.1 304 16 ((m.1 304 16) - (1 : Int32))), m.2)) from rfl) ?_
    obtain ⟨q10, hc10, h⟩ := Option.bind_eq_some_iff.mp h
    refine m_R_cV (v := none) (h1 := (SH, q10.2)) (rest := []) (lo' := [some (.ref 304), none, none]) (ml := 3) (k0 := 304) (by decide) (Or.inl rfl) (m_opb_of (ins := .invokevirtual 269) (len := 3) (tag := 5) (a := 230) (b := 0) (c := 0) (q := 1705) (by decide +kernel)) (by decide +kernel) rfl (show m_isO 230 304 (SH, _) = true from m_isO_of (by decide +kernel)) (Nat.le_of_ble_eq_true rfl) rfl rfl (ok_m_next X (d + 3) F _ _ _ hc10) ?_
    refine m_R_sg (by decide) [(.goto 69, 3, 0, 161, 0, 0, 0)] (by decide +kernel) (show m_sgl X _ _ _ _ _ = some (161, [some (.ref 304), some (.int v1)], [], (SH, q10.2.1, q10.2.2)) from rfl) ?_
    exact ok_m_one_161 X d F g hg235 hg236 hg237 hg239 hg240 hg241 _ _ _ _ _ h
  · refine m_R_1 (by decide) (m_opb_of (ins := .ifCond .ne 76) (len := 3) (tag := 0) (a := 161) (b := 0) (c := 0) (q := 0) (by decide +kernel)) (if_neg c388) ?_
    exact ok_m_one_161 X d F g hg235 hg236 hg237 hg239 hg240 hg241 _ _ _ _ _ h
def f_m_one_157 (F : Nat) (g : Nat → mM → Option (Int32 × mM))  (v1 : Int32) (m : mM) : Option (Int32 × mM) := ((f_m_fail F m).bind fun q13 => f_m_one_161 F g v1 q13.2)
theorem ok_m_one_157 (X : mX) (d F : Nat) (g : Nat → mM → Option (Int32 × mM)) (hg235 : ∀  (m : mM) (r : Int32) (m' : mM), g 235  m = some (r, m') → m_R X (d + 4) 235 0 [some (.ref 304), none, none] [] (SH, m) (some (.int r), (SH, m'))) (hg236 : ∀  (m : mM) (r : Int32) (m' : mM), g 236  m = some (r, m') → m_R X (d + 4) 236 0 [some (.ref 304), none, none] [] (SH, m) (some (.int r), (SH, m'))) (hg237 : ∀  (m : mM) (r : Int32) (m' : mM), g 237  m = some (r, m') → m_R X (d + 4) 237 0 [some (.ref 304), none, none, none, none] [] (SH, m) (some (.int r), (SH, m'))) (hg239 : ∀  (m : mM) (r : Int32) (m' : mM), g 239  m = some (r, m') → m_R X (d + 4) 239 0 [some (.ref 304), none, none, none] [] (SH, m) (some (.int r), (SH, m'))) (hg240 : ∀  (m : mM) (r : Int32) (m' : mM), g 240  m = some (r, m') → m_R X (d + 4) 240 0 [some (.ref 304), none, none, none, none] [] (SH, m) (some (.int r), (SH, m'))) (hg241 : ∀  (m : mM) (r : Int32) (m' : mM), g 241  m = some (r, m') → m_R X (d + 4) 241 0 [some (.ref 304), none] [] (SH, m) (some (.int r), (SH, m'))) : ∀ (v1 : Int32)  (m : mM) (r : Int32) (m' : mM), f_m_one_157 F g v1 m = some (r, m') → m_R X (d + 5) 241 157 [some (.ref 304), some (.int v1)] [] (SH, m) (some (.int r), (SH, m')) := by
  intro v1 m r m' h
  unfold f_m_one_157 at h
  refine m_R_sg (by decide) [(.aload_n 0, 1, 0, 0, 0, 0, 0)] (by decide +kernel) (show m_sgl X _ _ _ _ _ = some (158, [some (.ref 304), some (.int v1)], [.ref 304], (SH, m.1, m.2)) from rfl) ?_
  obtain ⟨q13, hc13, h⟩ := Option.bind_eq_some_iff.mp h
  refine m_R_cV (v := none) (h1 := (SH, q13.2)) (rest := []) (lo' := [some (.ref 304)]) (ml := 1) (k0 := 304) (by decide) (Or.inl rfl) (m_opb_of (ins := .invokevirtual 266) (len := 3) (tag := 5) (a := 234) (b := 0) (c := 0) (q := 1733) (by decide +kernel)) (by decide +kernel) rfl (show m_isO 234 304 (SH, _) = true from m_isO_of (by decide +kernel)) (Nat.le_of_ble_eq_true rfl) rfl rfl (ok_m_fail X (d + 4) F _ _ _ hc13) ?_
  exact ok_m_one_161 X d F g hg235 hg236 hg237 hg239 hg240 hg241 _ _ _ _ _ h
def f_m_one_123 (F : Nat) (g : Nat → mM → Option (Int32 × mM))  (v1 : Int32) (m : mM) : Option (Int32 × mM) := (if (m.1 304 17) = 0 then (if (m.1 304 12) = (1 : Int32) then ((f_m_name_ F m).bind fun q11 => (if (q11.2.1 304 17) = 0 then ((f_m_next F q11.2).bind fun q12 => f_m_one_161 F g q11.1 q12.2) else f_m_one_161 F g q11.1 q11.2)) else f_m_one_157 F g v1 m) else f_m_one_157 F g v1 m)
theorem ok_m_one_123 (X : mX) (d F : Nat) (g : Nat → mM → Option (Int32 × mM)) (hg235 : ∀  (m : mM) (r : Int32) (m' : mM), g 235  m = some (r, m') → m_R X (d + 4) 235 0 [some (.ref 304), none, none] [] (SH, m) (some (.int r), (SH, m'))) (hg236 : ∀  (m : mM) (r : Int32) (m' : mM), g 236  m = some (r, m') → m_R X (d + 4) 236 0 [some (.ref 304), none, none] [] (SH, m) (some (.int r), (SH, m'))) (hg237 : ∀  (m : mM) (r : Int32) (m' : mM), g 237  m = some (r, m') → m_R X (d + 4) 237 0 [some (.ref 304), none, none, none, none] [] (SH, m) (some (.int r), (SH, m'))) (hg239 : ∀  (m : mM) (r : Int32) (m' : mM), g 239  m = some (r, m') → m_R X (d + 4) 239 0 [some (.ref 304), none, none, none] [] (SH, m) (some (.int r), (SH, m'))) (hg240 : ∀  (m : mM) (r : Int32) (m' : mM), g 240  m = some (r, m') → m_R X (d + 4) 240 0 [some (.ref 304), none, none, none, none] [] (SH, m) (some (.int r), (SH, m'))) (hg241 : ∀  (m : mM) (r : Int32) (m' : mM), g 241  m = some (r, m') → m_R X (d + 4) 241 0 [some (.ref 304), none] [] (SH, m) (some (.int r), (SH, m'))) : ∀ (v1 : Int32)  (m : mM) (r : Int32) (m' : mM), f_m_one_123 F g v1 m = some (r, m') → m_R X (d + 5) 241 123 [some (.ref 304), some (.int v1)] [] (SH, m) (some (.int r), (SH, m')) := by
  intro v1 m r m' h
  unfold f_m_one_123 at h
  refine m_R_sg (by decide) [(.aload_n 0, 1, 0, 0, 0, 0, 0), (.getfield 256, 3, 0, 12, 17, 1, 1509)] (by decide +kernel) (show m_sgl X _ _ _ _ _ = some (127, [some (.ref 304), some (.int v1)], [.int (m.1 304 17)], (SH, m.1, m.2)) from rfl) ?_
  rcases m_ite h with ⟨c389, h⟩ | ⟨c389, h⟩
  · refine m_R_1 (by decide) (m_opb_of (ins := .ifCond .ne 30) (len := 3) (tag := 0) (a := 157) (b := 0) (c := 0) (q := 0) (by decide +kernel)) (if_pos c389) ?_
    refine m_R_sg (by decide) [(.aload_n 0, 1, 0, 0, 0, 0, 0), (.getfield 239, 3, 0, 12, 12, 0, 1504), (.iconst 1, 1, 0, 1, 0, 0, 0)] (by decide +kernel) (show m_sgl X _ _ _ _ _ = some (135, [some (.ref 304), some (.int v1)], [.int (1 : Int32), .int (m.1 304 12)], (SH, m.1, m.2)) from rfl) ?_
    rcases m_ite h with ⟨c390, h⟩ | ⟨c390, h⟩
    · refine m_R_1 (by decide) (m_opb_of (ins := .if_icmp .ne 22) (len := 3) (tag := 0) (a := 157) (b := 0) (c := 0) (q := 0) (by decide +kernel)) (if_pos c390) ?_
      refine m_R_sg (by decide) [(.aload_n 0, 1, 0, 0, 0, 0, 0)] (by decide +kernel) (show m_sgl X _ _ _ _ _ = some (139, [some (.ref 304), some (.int v1)], [.ref 304], (SH, m.1, m.2)) from rfl) ?_
      obtain ⟨q11, hc11, h⟩ := Option.bind_eq_some_iff.mp h
      refine m_R_cV (v := (some (.int q11.1))) (h1 := (SH, q11.2)) (rest := []) (lo' := [some (.ref 304), none]) (ml := 2) (k0 := 304) (by decide) (Or.inl rfl) (m_opb_of (ins := .invokevirtual 313) (len := 3) (tag := 5) (a := 243) (b := 0) (c := 0) (q := 1770) (by decide +kernel)) (by decide +kernel) rfl (show m_isO 243 304 (SH, _) = true from m_isO_of (by decide +kernel)) (Nat.le_of_ble_eq_true rfl) rfl rfl (ok_m_name_ X (d + 0) F _ _ _ hc11) ?_
      refine m_R_sg (by decide) [(.istore_n 1, 1, 0, 1, 0, 0, 0), (.aload_n 0, 1, 0, 0, 0, 0, 0), (.getfield 256, 3, 0, 12, 17, 1, 1509)] (by decide +kernel) (show m_sgl X _ _ _ _ _ = some (147, [some (.ref 304), some (.int q11.1)], [.int (q11.2.1 304 17)], (SH, q11.2.1, q11.2.2)) from rfl) ?_
      rcases m_ite h with ⟨c391, h⟩ | ⟨c391, h⟩
      · refine m_R_1 (by decide) (m_opb_of (ins := .ifCond .ne 14) (len := 3) (tag := 0) (a := 161) (b := 0) (c := 0) (q := 0) (by decide +kernel)) (if_pos c391) ?_
        refine m_R_sg (by decide) [(.aload_n 0, 1, 0, 0, 0, 0, 0)] (by decide +kernel) (show m_sgl X _ _ _ _ _ = some (151, [some (.ref 304), some (.int q11.1)], [.ref 304], (SH, q11.2.1, q11.2.2)) from rfl) ?_
        obtain ⟨q12, hc12, h⟩ := Option.bind_eq_some_iff.mp h
        refine m_R_cV (v := none) (h1 := (SH, q12.2)) (rest := []) (lo' := [some (.ref 304), none, none]) (ml := 3) (k0 := 304) (by decide) (Or.inl rfl) (m_opb_of (ins := .invokevirtual 269) (len := 3) (tag := 5) (a := 230) (b := 0) (c := 0) (q := 1705) (by decide +kernel)) (by decide +kernel) rfl (show m_isO 230 304 (SH, _) = true from m_isO_of (by decide +kernel)) (Nat.le_of_ble_eq_true rfl) rfl rfl (ok_m_next X (d + 3) F _ _ _ hc12) ?_
        refine m_R_sg (by decide) [(.goto 7, 3, 0, 161, 0, 0, 0)] (by decide +kernel) (show m_sgl X _ _ _ _ _ = some (161, [some (.ref 304), some (.int q11.1)], [], (SH, q12.2.1, q12.2.2)) from rfl) ?_
        exact ok_m_one_161 X d F g hg235 hg236 hg237 hg239 hg240 hg241 _ _ _ _ _ h
      · refine m_R_1 (by decide) (m_opb_of (ins := .ifCond .ne 14) (len := 3) (tag := 0) (a := 161) (b := 0) (c := 0) (q := 0) (by decide +kernel)) (if_neg c391) ?_
        exact ok_m_one_161 X d F g hg235 hg236 hg237 hg239 hg240 hg241 _ _ _ _ _ h
    · refine m_R_1 (by decide) (m_opb_of (ins := .if_icmp .ne 22) (len := 3) (tag := 0) (a := 157) (b := 0) (c := 0) (q := 0) (by decide +kernel)) (if_neg c390) ?_
      exact ok_m_one_157 X d F g hg235 hg236 hg237 hg239 hg240 hg241 _ _ _ _ h
  · refine m_R_1 (by decide) (m_opb_of (ins := .ifCond .ne 30) (len := 3) (tag := 0) (a := 157) (b := 0) (c := 0) (q := 0) (by decide +kernel)) (if_neg c389) ?_
    exact ok_m_one_157 X d F g hg235 hg236 hg237 hg239 hg240 hg241 _ _ _ _ h
def f_m_one (F : Nat) (g : Nat → mM → Option (Int32 × mM))   (m : mM) : Option (Int32 × mM) := ((f_m_isSign F (45 : Int32) m).bind fun q1 => (if q1.1 = 0 then ((f_m_isSign F (40 : Int32) q1.2).bind fun q2 => (if q2.1 = 0 then (if (q2.2.1 304 17) = 0 then (if (q2.2.1 304 12) = (2 : Int32) then ((f_m_next F q2.2).bind fun q3 => f_m_one_161 F g (q2.2.2 304).toInt32 q3.2) else f_m_one_123 F g (0 : Int32) q2.2) else f_m_one_123 F g (0 : Int32) q2.2) else ((f_m_opens F q2.2).bind fun q4 => (if q4.1 = 0 then f_m_one_161 F g (0 : Int32) q4.2 else ((g 235 q4.2).bind fun q5 => ((f_m_isSign F (41 : Int32) q5.2).bind fun q6 => (if q6.1 = 0 then ((f_m_fail F q6.2).bind fun q7 => f_m_one_71 F g q5.1 q7.2) else f_m_one_71 F g q5.1 q6.2))))))) else ((f_m_opens F q1.2).bind fun q8 => (if q8.1 = 0 then f_m_one_161 F g (0 : Int32) q8.2 else ((g 241 q8.2).bind fun q9 => f_m_one_161 F g (-q9.1) ((m_up q9.2.1 304 16 ((q9.2.1 304 16) - (1 : Int32))), q9.2.2))))))
theorem ok_m_one (X : mX) (d F : Nat) (g : Nat → mM → Option (Int32 × mM)) (hg235 : ∀  (m : mM) (r : Int32) (m' : mM), g 235  m = some (r, m') → m_R X (d + 4) 235 0 [some (.ref 304), none, none] [] (SH, m) (some (.int r), (SH, m'))) (hg236 : ∀  (m : mM) (r : Int32) (m' : mM), g 236  m = some (r, m') → m_R X (d + 4) 236 0 [some (.ref 304), none, none] [] (SH, m) (some (.int r), (SH, m'))) (hg237 : ∀  (m : mM) (r : Int32) (m' : mM), g 237  m = some (r, m') → m_R X (d + 4) 237 0 [some (.ref 304), none, none, none, none] [] (SH, m) (some (.int r), (SH, m'))) (hg239 : ∀  (m : mM) (r : Int32) (m' : mM), g 239  m = some (r, m') → m_R X (d + 4) 239 0 [some (.ref 304), none, none, none] [] (SH, m) (some (.int r), (SH, m'))) (hg240 : ∀  (m : mM) (r : Int32) (m' : mM), g 240  m = some (r, m') → m_R X (d + 4) 240 0 [some (.ref 304), none, none, none, none] [] (SH, m) (some (.int r), (SH, m'))) (hg241 : ∀  (m : mM) (r : Int32) (m' : mM), g 241  m = some (r, m') → m_R X (d + 4) 241 0 [some (.ref 304), none] [] (SH, m) (some (.int r), (SH, m'))) : ∀   (m : mM) (r : Int32) (m' : mM), f_m_one F g  m = some (r, m') → m_R X (d + 5) 241 0 [some (.ref 304), none] [] (SH, m) (some (.int r), (SH, m')) := by
  intro m r m' h
  unfold f_m_one at h
  refine m_R_sg (by decide) [(.iconst 0, 1, 0, 0, 0, 0, 0), (.istore_n 1, 1, 0, 1, 0, 0, 0), (.aload_n 0, 1, 0, 0, 0, 0, 0), (.bipush 45, 2, 0, 45, 0, 0, 0)] (by decide +kernel) (show m_sgl X _ _ _ _ _ = some (5, [some (.ref 304), some (.int (0 : Int32))], [.int (45 : Int32), .ref 304], (SH, m.1, m.2)) from rfl) ?_
  obtain ⟨q1, hc1, h⟩ := Option.bind_eq_some_iff.mp h
  refine m_R_cV (v := (some (.int q1.1))) (h1 := (SH, q1.2)) (rest := []) (lo' := [some (.ref 304), some (.int (45 : Int32))]) (ml := 2) (k0 := 304) (by decide) (Or.inl rfl) (m_opb_of (ins := .invokevirtual 301) (len := 3) (tag := 5) (a := 242) (b := 1) (c := 0) (q := 1766) (by decide +kernel)) (by decide +kernel) rfl (show m_isO 242 304 (SH, _) = true from m_isO_of (by decide +kernel)) (Nat.le_of_ble_eq_true rfl) rfl rfl (ok_m_isSign X (d + 4) F _ _ _ _ hc1) ?_
  rcases m_ite h with ⟨c392, h⟩ | ⟨c392, h⟩
  · refine m_R_1 (by decide) (m_opb_of (ins := .ifCond .eq 29) (len := 3) (tag := 0) (a := 37) (b := 0) (c := 0) (q := 0) (by decide +kernel)) (if_pos c392) ?_
    refine m_R_sg (by decide) [(.aload_n 0, 1, 0, 0, 0, 0, 0), (.bipush 40, 2, 0, 40, 0, 0, 0)] (by decide +kernel) (show m_sgl X _ _ _ _ _ = some (40, [some (.ref 304), some (.int (0 : Int32))], [.int (40 : Int32), .ref 304], (SH, q1.2.1, q1.2.2)) from rfl) ?_
    obtain ⟨q2, hc2, h⟩ := Option.bind_eq_some_iff.mp h
    refine m_R_cV (v := (some (.int q2.1))) (h1 := (SH, q2.2)) (rest := []) (lo' := [some (.ref 304), some (.int (40 : Int32))]) (ml := 2) (k0 := 304) (by decide) (Or.inl rfl) (m_opb_of (ins := .invokevirtual 301) (len := 3) (tag := 5) (a := 242) (b := 1) (c := 0) (q := 1766) (by decide +kernel)) (by decide +kernel) rfl (show m_isO 242 304 (SH, _) = true from m_isO_of (by decide +kernel)) (Nat.le_of_ble_eq_true rfl) rfl rfl (ok_m_isSign X (d + 4) F _ _ _ _ hc2) ?_
    rcases m_ite h with ⟨c393, h⟩ | ⟨c393, h⟩
    · refine m_R_1 (by decide) (m_opb_of (ins := .ifCond .eq 52) (len := 3) (tag := 0) (a := 95) (b := 0) (c := 0) (q := 0) (by decide +kernel)) (if_pos c393) ?_
      refine m_R_sg (by decide) [(.aload_n 0, 1, 0, 0, 0, 0, 0), (.getfield 256, 3, 0, 12, 17, 1, 1509)] (by decide +kernel) (show m_sgl X _ _ _ _ _ = some (99, [some (.ref 304), some (.int (0 : Int32))], [.int (q2.2.1 304 17)], (SH, q2.2.1, q2.2.2)) from rfl) ?_
      rcases m_ite h with ⟨c394, h⟩ | ⟨c394, h⟩
      · refine m_R_1 (by decide) (m_opb_of (ins := .ifCond .ne 24) (len := 3) (tag := 0) (a := 123) (b := 0) (c := 0) (q := 0) (by decide +kernel)) (if_pos c394) ?_
        refine m_R_sg (by decide) [(.aload_n 0, 1, 0, 0, 0, 0, 0), (.getfield 239, 3, 0, 12, 12, 0, 1504), (.iconst 2, 1, 0, 2, 0, 0, 0)] (by decide +kernel) (show m_sgl X _ _ _ _ _ = some (107, [some (.ref 304), some (.int (0 : Int32))], [.int (2 : Int32), .int (q2.2.1 304 12)], (SH, q2.2.1, q2.2.2)) from rfl) ?_
        rcases m_ite h with ⟨c395, h⟩ | ⟨c395, h⟩
        · refine m_R_1 (by decide) (m_opb_of (ins := .if_icmp .ne 16) (len := 3) (tag := 0) (a := 123) (b := 0) (c := 0) (q := 0) (by decide +kernel)) (if_pos c395) ?_
          refine m_R_sg (by decide) [(.aload_n 0, 1, 0, 0, 0, 0, 0), (.getfield 242, 3, 0, 12, 14, 2, 1506), (.l2i, 1, 0, 0, 0, 0, 0), (.istore_n 1, 1, 0, 1, 0, 0, 0), (.aload_n 0, 1, 0, 0, 0, 0, 0)] (by decide +kernel) (show m_sgl X _ _ _ _ _ = some (117, [some (.ref 304), some (.int (q2.2.2 304).toInt32)], [.ref 304], (SH, q2.2.1, q2.2.2)) from rfl) ?_
          obtain ⟨q3, hc3, h⟩ := Option.bind_eq_some_iff.mp h
          refine m_R_cV (v := none) (h1 := (SH, q3.2)) (rest := []) (lo' := [some (.ref 304), none, none]) (ml := 3) (k0 := 304) (by decide) (Or.inl rfl) (m_opb_of (ins := .invokevirtual 269) (len := 3) (tag := 5) (a := 230) (b := 0) (c := 0) (q := 1705) (by decide +kernel)) (by decide +kernel) rfl (show m_isO 230 304 (SH, _) = true from m_isO_of (by decide +kernel)) (Nat.le_of_ble_eq_true rfl) rfl rfl (ok_m_next X (d + 3) F _ _ _ hc3) ?_
          refine m_R_sg (by decide) [(.goto 41, 3, 0, 161, 0, 0, 0)] (by decide +kernel) (show m_sgl X _ _ _ _ _ = some (161, [some (.ref 304), some (.int (q2.2.2 304).toInt32)], [], (SH, q3.2.1, q3.2.2)) from rfl) ?_
          exact ok_m_one_161 X d F g hg235 hg236 hg237 hg239 hg240 hg241 _ _ _ _ _ h
        · refine m_R_1 (by decide) (m_opb_of (ins := .if_icmp .ne 16) (len := 3) (tag := 0) (a := 123) (b := 0) (c := 0) (q := 0) (by decide +kernel)) (if_neg c395) ?_
          exact ok_m_one_123 X d F g hg235 hg236 hg237 hg239 hg240 hg241 _ _ _ _ h
      · refine m_R_1 (by decide) (m_opb_of (ins := .ifCond .ne 24) (len := 3) (tag := 0) (a := 123) (b := 0) (c := 0) (q := 0) (by decide +kernel)) (if_neg c394) ?_
        exact ok_m_one_123 X d F g hg235 hg236 hg237 hg239 hg240 hg241 _ _ _ _ h
    · refine m_R_1 (by decide) (m_opb_of (ins := .ifCond .eq 52) (len := 3) (tag := 0) (a := 95) (b := 0) (c := 0) (q := 0) (by decide +kernel)) (if_neg c393) ?_
      refine m_R_sg (by decide) [(.aload_n 0, 1, 0, 0, 0, 0, 0)] (by decide +kernel) (show m_sgl X _ _ _ _ _ = some (47, [some (.ref 304), some (.int (0 : Int32))], [.ref 304], (SH, q2.2.1, q2.2.2)) from rfl) ?_
      obtain ⟨q4, hc4, h⟩ := Option.bind_eq_some_iff.mp h
      refine m_R_cV (v := (some (.int q4.1))) (h1 := (SH, q4.2)) (rest := []) (lo' := [some (.ref 304)]) (ml := 1) (k0 := 304) (by decide) (Or.inl rfl) (m_opb_of (ins := .invokevirtual 304) (len := 3) (tag := 5) (a := 238) (b := 0) (c := 0) (q := 1750) (by decide +kernel)) (by decide +kernel) rfl (show m_isO 238 304 (SH, _) = true from m_isO_of (by decide +kernel)) (Nat.le_of_ble_eq_true rfl) rfl rfl (ok_m_opens X (d + 2) F _ _ _ hc4) ?_
      rcases m_ite h with ⟨c396, h⟩ | ⟨c396, h⟩
      · refine m_R_1 (by decide) (m_opb_of (ins := .ifCond .eq 111) (len := 3) (tag := 0) (a := 161) (b := 0) (c := 0) (q := 0) (by decide +kernel)) (if_pos c396) ?_
        exact ok_m_one_161 X d F g hg235 hg236 hg237 hg239 hg240 hg241 _ _ _ _ _ h
      · refine m_R_1 (by decide) (m_opb_of (ins := .ifCond .eq 111) (len := 3) (tag := 0) (a := 161) (b := 0) (c := 0) (q := 0) (by decide +kernel)) (if_neg c396) ?_
        refine m_R_sg (by decide) [(.aload_n 0, 1, 0, 0, 0, 0, 0)] (by decide +kernel) (show m_sgl X _ _ _ _ _ = some (54, [some (.ref 304), some (.int (0 : Int32))], [.ref 304], (SH, q4.2.1, q4.2.2)) from rfl) ?_
        obtain ⟨q5, hc5, h⟩ := Option.bind_eq_some_iff.mp h
        refine m_R_cV (v := (some (.int q5.1))) (h1 := (SH, q5.2)) (rest := []) (lo' := [some (.ref 304), none, none]) (ml := 3) (k0 := 304) (by decide) (Or.inl rfl) (m_opb_of (ins := .invokevirtual 310) (len := 3) (tag := 5) (a := 235) (b := 0) (c := 0) (q := 1737) (by decide +kernel)) (by decide +kernel) rfl (show m_isO 235 304 (SH, _) = true from m_isO_of (by decide +kernel)) (Nat.le_of_ble_eq_true rfl) rfl rfl (hg235 _ _ _ hc5) ?_
        refine m_R_sg (by decide) [(.istore_n 1, 1, 0, 1, 0, 0, 0), (.aload_n 0, 1, 0, 0, 0, 0, 0), (.bipush 41, 2, 0, 41, 0, 0, 0)] (by decide +kernel) (show m_sgl X _ _ _ _ _ = some (61, [some (.ref 304), some (.int q5.1)], [.int (41 : Int32), .ref 304], (SH, q5.2.1, q5.2.2)) from rfl) ?_
        obtain ⟨q6, hc6, h⟩ := Option.bind_eq_some_iff.mp h
        refine m_R_cV (v := (some (.int q6.1))) (h1 := (SH, q6.2)) (rest := []) (lo' := [some (.ref 304), some (.int (41 : Int32))]) (ml := 2) (k0 := 304) (by decide) (Or.inl rfl) (m_opb_of (ins := .invokevirtual 301) (len := 3) (tag := 5) (a := 242) (b := 1) (c := 0) (q := 1766) (by decide +kernel)) (by decide +kernel) rfl (show m_isO 242 304 (SH, _) = true from m_isO_of (by decide +kernel)) (Nat.le_of_ble_eq_true rfl) rfl rfl (ok_m_isSign X (d + 4) F _ _ _ _ hc6) ?_
        rcases m_ite h with ⟨c397, h⟩ | ⟨c397, h⟩
        · refine m_R_1 (by decide) (m_opb_of (ins := .ifCond .ne 7) (len := 3) (tag := 0) (a := 71) (b := 0) (c := 0) (q := 0) (by decide +kernel)) (if_pos c397) ?_
          refine m_R_sg (by decide) [(.aload_n 0, 1, 0, 0, 0, 0, 0)] (by decide +kernel) (show m_sgl X _ _ _ _ _ = some (68, [some (.ref 304), some (.int q5.1)], [.ref 304], (SH, q6.2.1, q6.2.2)) from rfl) ?_
          obtain ⟨q7, hc7, h⟩ := Option.bind_eq_some_iff.mp h
          refine m_R_cV (v := none) (h1 := (SH, q7.2)) (rest := []) (lo' := [some (.ref 304)]) (ml := 1) (k0 := 304) (by decide) (Or.inl rfl) (m_opb_of (ins := .invokevirtual 266) (len := 3) (tag := 5) (a := 234) (b := 0) (c := 0) (q := 1733) (by decide +kernel)) (by decide +kernel) rfl (show m_isO 234 304 (SH, _) = true from m_isO_of (by decide +kernel)) (Nat.le_of_ble_eq_true rfl) rfl rfl (ok_m_fail X (d + 4) F _ _ _ hc7) ?_
          exact ok_m_one_71 X d F g hg235 hg236 hg237 hg239 hg240 hg241 _ _ _ _ h
        · refine m_R_1 (by decide) (m_opb_of (ins := .ifCond .ne 7) (len := 3) (tag := 0) (a := 71) (b := 0) (c := 0) (q := 0) (by decide +kernel)) (if_neg c397) ?_
          exact ok_m_one_71 X d F g hg235 hg236 hg237 hg239 hg240 hg241 _ _ _ _ h
  · refine m_R_1 (by decide) (m_opb_of (ins := .ifCond .eq 29) (len := 3) (tag := 0) (a := 37) (b := 0) (c := 0) (q := 0) (by decide +kernel)) (if_neg c392) ?_
    refine m_R_sg (by decide) [(.aload_n 0, 1, 0, 0, 0, 0, 0)] (by decide +kernel) (show m_sgl X _ _ _ _ _ = some (12, [some (.ref 304), some (.int (0 : Int32))], [.ref 304], (SH, q1.2.1, q1.2.2)) from rfl) ?_
    obtain ⟨q8, hc8, h⟩ := Option.bind_eq_some_iff.mp h
    refine m_R_cV (v := (some (.int q8.1))) (h1 := (SH, q8.2)) (rest := []) (lo' := [some (.ref 304)]) (ml := 1) (k0 := 304) (by decide) (Or.inl rfl) (m_opb_of (ins := .invokevirtual 304) (len := 3) (tag := 5) (a := 238) (b := 0) (c := 0) (q := 1750) (by decide +kernel)) (by decide +kernel) rfl (show m_isO 238 304 (SH, _) = true from m_isO_of (by decide +kernel)) (Nat.le_of_ble_eq_true rfl) rfl rfl (ok_m_opens X (d + 2) F _ _ _ hc8) ?_
    rcases m_ite h with ⟨c398, h⟩ | ⟨c398, h⟩
    · refine m_R_1 (by decide) (m_opb_of (ins := .ifCond .eq 146) (len := 3) (tag := 0) (a := 161) (b := 0) (c := 0) (q := 0) (by decide +kernel)) (if_pos c398) ?_
      exact ok_m_one_161 X d F g hg235 hg236 hg237 hg239 hg240 hg241 _ _ _ _ _ h
    · refine m_R_1 (by decide) (m_opb_of (ins := .ifCond .eq 146) (len := 3) (tag := 0) (a := 161) (b := 0) (c := 0) (q := 0) (by decide +kernel)) (if_neg c398) ?_
      refine m_R_sg (by decide) [(.aload_n 0, 1, 0, 0, 0, 0, 0)] (by decide +kernel) (show m_sgl X _ _ _ _ _ = some (19, [some (.ref 304), some (.int (0 : Int32))], [.ref 304], (SH, q8.2.1, q8.2.2)) from rfl) ?_
      obtain ⟨q9, hc9, h⟩ := Option.bind_eq_some_iff.mp h
      refine m_R_cV (v := (some (.int q9.1))) (h1 := (SH, q9.2)) (rest := []) (lo' := [some (.ref 304), none]) (ml := 2) (k0 := 304) (by decide) (Or.inl rfl) (m_opb_of (ins := .invokevirtual 307) (len := 3) (tag := 5) (a := 241) (b := 0) (c := 0) (q := 1762) (by decide +kernel)) (by decide +kernel) rfl (show m_isO 241 304 (SH, _) = true from m_isO_of (by decide +kernel)) (Nat.le_of_ble_eq_true rfl) rfl rfl (hg241 _ _ _ hc9) ?_
      refine m_R_sg (by decide) [(.ineg, 1, 0, 0, 0, 0, 0), (.istore_n 1, 1, 0, 1, 0, 0, 0), (.aload_n 0, 1, 0, 0, 0, 0, 0), (.dup, 1, 0, 0, 0, 0, 0), (.getfield 263, 3, 0, 12, 16, 0, 1508), (.iconst 1, 1, 0, 1, 0, 0, 0), (.isub, 1, 0, 0, 0, 0, 0), (.putfield 263, 3, 0, 12, 16, 0, 1508), (.goto 127, 3, 0, 161, 0, 0, 0)] (by decide +kernel) (show m_sgl X _ _ _ _ _ = some (161, [some (.ref 304), some (.int (-q9.1))], [], (SH, (m_up q9.2.1 304 16 ((q9.2.1 304 16) - (1 : Int32))), q9.2.2)) from rfl) ?_
      exact ok_m_one_161 X d F g hg235 hg236 hg237 hg239 hg240 hg241 _ _ _ _ _ h
def f_grp_M (F : Nat) : Nat → Nat → mM → Option (Int32 × mM)
  | 0, _, _ => none
  | n + 1, t, m => (if t = 235 then f_m_either F (f_grp_M F n) m else (if t = 236 then f_m_both F (f_grp_M F n) m else (if t = 237 then f_m_not F (f_grp_M F n) m else (if t = 239 then f_m_added F (f_grp_M F n) m else (if t = 240 then f_m_term F (f_grp_M F n) m else (if t = 241 then f_m_one F (f_grp_M F n) m else none))))))
theorem ok_grp_M (X : mX) (F : Nat) : ∀ (n d : Nat), (∀  (m : mM) (r : Int32) (m' : mM), f_grp_M F n 235  m = some (r, m') → m_R X (d + n + 4) 235 0 [some (.ref 304), none, none] [] (SH, m) (some (.int r), (SH, m'))) ∧ (∀  (m : mM) (r : Int32) (m' : mM), f_grp_M F n 236  m = some (r, m') → m_R X (d + n + 4) 236 0 [some (.ref 304), none, none] [] (SH, m) (some (.int r), (SH, m'))) ∧ (∀  (m : mM) (r : Int32) (m' : mM), f_grp_M F n 237  m = some (r, m') → m_R X (d + n + 4) 237 0 [some (.ref 304), none, none, none, none] [] (SH, m) (some (.int r), (SH, m'))) ∧ (∀  (m : mM) (r : Int32) (m' : mM), f_grp_M F n 239  m = some (r, m') → m_R X (d + n + 4) 239 0 [some (.ref 304), none, none, none] [] (SH, m) (some (.int r), (SH, m'))) ∧ (∀  (m : mM) (r : Int32) (m' : mM), f_grp_M F n 240  m = some (r, m') → m_R X (d + n + 4) 240 0 [some (.ref 304), none, none, none, none] [] (SH, m) (some (.int r), (SH, m'))) ∧ (∀  (m : mM) (r : Int32) (m' : mM), f_grp_M F n 241  m = some (r, m') → m_R X (d + n + 4) 241 0 [some (.ref 304), none] [] (SH, m) (some (.int r), (SH, m'))) := by
  intro n
  induction n with
  | zero => intro d; exact ⟨(by intro m r m' h; cases h), (by intro m r m' h; cases h), (by intro m r m' h; cases h), (by intro m r m' h; cases h), (by intro m r m' h; cases h), (by intro m r m' h; cases h)⟩
  | succ n ih =>
    intro d
    obtain ⟨i235, i236, i237, i239, i240, i241⟩ := ih d
    refine ⟨?_, ?_, ?_, ?_, ?_, ?_⟩
    · intro m r m' h
      rcases m_ite h with ⟨_, h⟩ | ⟨z, _⟩
      · exact ok_m_either X (d + n) F _ i235 i236 i237 i239 i240 i241 m r m' h
      · exact absurd rfl z
    · intro m r m' h
      rcases m_ite h with ⟨z, _⟩ | ⟨_, h⟩; exact absurd z (by decide)
      rcases m_ite h with ⟨_, h⟩ | ⟨z, _⟩
      · exact ok_m_both X (d + n) F _ i235 i236 i237 i239 i240 i241 m r m' h
      · exact absurd rfl z
    · intro m r m' h
      rcases m_ite h with ⟨z, _⟩ | ⟨_, h⟩; exact absurd z (by decide)
      rcases m_ite h with ⟨z, _⟩ | ⟨_, h⟩; exact absurd z (by decide)
      rcases m_ite h with ⟨_, h⟩ | ⟨z, _⟩
      · exact ok_m_not X (d + n) F _ i235 i236 i237 i239 i240 i241 m r m' h
      · exact absurd rfl z
    · intro m r m' h
      rcases m_ite h with ⟨z, _⟩ | ⟨_, h⟩; exact absurd z (by decide)
      rcases m_ite h with ⟨z, _⟩ | ⟨_, h⟩; exact absurd z (by decide)
      rcases m_ite h with ⟨z, _⟩ | ⟨_, h⟩; exact absurd z (by decide)
      rcases m_ite h with ⟨_, h⟩ | ⟨z, _⟩
      · exact ok_m_added X (d + n) F _ i235 i236 i237 i239 i240 i241 m r m' h
      · exact absurd rfl z
    · intro m r m' h
      rcases m_ite h with ⟨z, _⟩ | ⟨_, h⟩; exact absurd z (by decide)
      rcases m_ite h with ⟨z, _⟩ | ⟨_, h⟩; exact absurd z (by decide)
      rcases m_ite h with ⟨z, _⟩ | ⟨_, h⟩; exact absurd z (by decide)
      rcases m_ite h with ⟨z, _⟩ | ⟨_, h⟩; exact absurd z (by decide)
      rcases m_ite h with ⟨_, h⟩ | ⟨z, _⟩
      · exact ok_m_term X (d + n) F _ i235 i236 i237 i239 i240 i241 m r m' h
      · exact absurd rfl z
    · intro m r m' h
      rcases m_ite h with ⟨z, _⟩ | ⟨_, h⟩; exact absurd z (by decide)
      rcases m_ite h with ⟨z, _⟩ | ⟨_, h⟩; exact absurd z (by decide)
      rcases m_ite h with ⟨z, _⟩ | ⟨_, h⟩; exact absurd z (by decide)
      rcases m_ite h with ⟨z, _⟩ | ⟨_, h⟩; exact absurd z (by decide)
      rcases m_ite h with ⟨z, _⟩ | ⟨_, h⟩; exact absurd z (by decide)
      rcases m_ite h with ⟨_, h⟩ | ⟨z, _⟩
      · exact ok_m_one X (d + n) F _ i235 i236 i237 i239 i240 i241 m r m' h
      · exact absurd rfl z
def f_m_either_w (F : Nat)  (m : mM) : Option (Int32 × mM) := f_grp_M F 60 235  m
theorem ok_m_either_w (X : mX) (d F : Nat) : ∀  (m : mM) (r : Int32) (m' : mM), f_m_either_w F  m = some (r, m') → m_R X (d + 64) 235 0 [some (.ref 304), none, none] [] (SH, m) (some (.int r), (SH, m')) := by
  obtain ⟨j235, j236, j237, j239, j240, j241⟩ := ok_grp_M X F 60 d
  exact j235
def f_m_both_w (F : Nat)  (m : mM) : Option (Int32 × mM) := f_grp_M F 60 236  m
theorem ok_m_both_w (X : mX) (d F : Nat) : ∀  (m : mM) (r : Int32) (m' : mM), f_m_both_w F  m = some (r, m') → m_R X (d + 64) 236 0 [some (.ref 304), none, none] [] (SH, m) (some (.int r), (SH, m')) := by
  obtain ⟨j235, j236, j237, j239, j240, j241⟩ := ok_grp_M X F 60 d
  exact j236
def f_m_not_w (F : Nat)  (m : mM) : Option (Int32 × mM) := f_grp_M F 60 237  m
theorem ok_m_not_w (X : mX) (d F : Nat) : ∀  (m : mM) (r : Int32) (m' : mM), f_m_not_w F  m = some (r, m') → m_R X (d + 64) 237 0 [some (.ref 304), none, none, none, none] [] (SH, m) (some (.int r), (SH, m')) := by
  obtain ⟨j235, j236, j237, j239, j240, j241⟩ := ok_grp_M X F 60 d
  exact j237
def f_m_added_w (F : Nat)  (m : mM) : Option (Int32 × mM) := f_grp_M F 60 239  m
theorem ok_m_added_w (X : mX) (d F : Nat) : ∀  (m : mM) (r : Int32) (m' : mM), f_m_added_w F  m = some (r, m') → m_R X (d + 64) 239 0 [some (.ref 304), none, none, none] [] (SH, m) (some (.int r), (SH, m')) := by
  obtain ⟨j235, j236, j237, j239, j240, j241⟩ := ok_grp_M X F 60 d
  exact j239
def f_m_term_w (F : Nat)  (m : mM) : Option (Int32 × mM) := f_grp_M F 60 240  m
theorem ok_m_term_w (X : mX) (d F : Nat) : ∀  (m : mM) (r : Int32) (m' : mM), f_m_term_w F  m = some (r, m') → m_R X (d + 64) 240 0 [some (.ref 304), none, none, none, none] [] (SH, m) (some (.int r), (SH, m')) := by
  obtain ⟨j235, j236, j237, j239, j240, j241⟩ := ok_grp_M X F 60 d
  exact j240
def f_m_one_w (F : Nat)  (m : mM) : Option (Int32 × mM) := f_grp_M F 60 241  m
theorem ok_m_one_w (X : mX) (d F : Nat) : ∀  (m : mM) (r : Int32) (m' : mM), f_m_one_w F  m = some (r, m') → m_R X (d + 64) 241 0 [some (.ref 304), none] [] (SH, m) (some (.int r), (SH, m')) := by
  obtain ⟨j235, j236, j237, j239, j240, j241⟩ := ok_grp_M X F 60 d
  exact j241
def f_m_readText_123 (F : Nat)    (m : mM) : Option (Unit × mM) := some ((), m)
theorem ok_m_readText_123 (X : mX) (d F : Nat) : ∀  (w0 : Option Value) (w1 : Option Value) (m : mM) (r : Unit) (m' : mM), f_m_readText_123 F  m = some (r, m') → m_R X (d + 65) 229 123 [w0, w1] [] (SH, m) (none, (SH, m')) := by
  intro w0 w1 m r m' h
  unfold f_m_readText_123 at h
  obtain ⟨rfl, rfl⟩ := m_some h
  exact m_R_vret (by decide) (m_opb_of (ins := .return_) (len := 1) (tag := 3) (a := 0) (b := 0) (c := 0) (q := 0) (by decide +kernel))
def f_m_readText_105 (F : Nat)    (m : mM) : Option (Unit × mM) := (if (m.1 304 17) = 0 then (if (m.1 304 12) = 0 then f_m_readText_123 F m else ((f_m_fail F m).bind fun q9 => f_m_readText_123 F q9.2)) else f_m_readText_123 F m)
theorem ok_m_readText_105 (X : mX) (d F : Nat) : ∀  (w1 : Option Value) (m : mM) (r : Unit) (m' : mM), f_m_readText_105 F  m = some (r, m') → m_R X (d + 65) 229 105 [some (.ref 304), w1] [] (SH, m) (none, (SH, m')) := by
  intro w1 m r m' h
  unfold f_m_readText_105 at h
  refine m_R_sg (by decide) [(.aload_n 0, 1, 0, 0, 0, 0, 0), (.getfield 256, 3, 0, 12, 17, 1, 1509)] (by decide +kernel) (show m_sgl X _ _ _ _ _ = some (109, [some (.ref 304), w1], [.int (m.1 304 17)], (SH, m.1, m.2)) from rfl) ?_
  rcases m_ite h with ⟨c399, h⟩ | ⟨c399, h⟩
  · refine m_R_1 (by decide) (m_opb_of (ins := .ifCond .ne 14) (len := 3) (tag := 0) (a := 123) (b := 0) (c := 0) (q := 0) (by decide +kernel)) (if_pos c399) ?_
    refine m_R_sg (by decide) [(.aload_n 0, 1, 0, 0, 0, 0, 0), (.getfield 239, 3, 0, 12, 12, 0, 1504)] (by decide +kernel) (show m_sgl X _ _ _ _ _ = some (116, [some (.ref 304), w1], [.int (m.1 304 12)], (SH, m.1, m.2)) from rfl) ?_
    rcases m_ite h with ⟨c400, h⟩ | ⟨c400, h⟩
    · refine m_R_1 (by decide) (m_opb_of (ins := .ifCond .eq 7) (len := 3) (tag := 0) (a := 123) (b := 0) (c := 0) (q := 0) (by decide +kernel)) (if_pos c400) ?_
      exact ok_m_readText_123 X d F _ _ _ _ _ h
    · refine m_R_1 (by decide) (m_opb_of (ins := .ifCond .eq 7) (len := 3) (tag := 0) (a := 123) (b := 0) (c := 0) (q := 0) (by decide +kernel)) (if_neg c400) ?_
      refine m_R_sg (by decide) [(.aload_n 0, 1, 0, 0, 0, 0, 0)] (by decide +kernel) (show m_sgl X _ _ _ _ _ = some (120, [some (.ref 304), w1], [.ref 304], (SH, m.1, m.2)) from rfl) ?_
      obtain ⟨q9, hc9, h⟩ := Option.bind_eq_some_iff.mp h
      refine m_R_cV (v := none) (h1 := (SH, q9.2)) (rest := []) (lo' := [some (.ref 304)]) (ml := 1) (k0 := 304) (by decide) (Or.inl rfl) (m_opb_of (ins := .invokevirtual 266) (len := 3) (tag := 5) (a := 234) (b := 0) (c := 0) (q := 1733) (by decide +kernel)) (by decide +kernel) rfl (show m_isO 234 304 (SH, _) = true from m_isO_of (by decide +kernel)) (Nat.le_of_ble_eq_true rfl) rfl rfl (ok_m_fail X (d + 64) F _ _ _ hc9) ?_
      exact ok_m_readText_123 X d F _ _ _ _ _ h
  · refine m_R_1 (by decide) (m_opb_of (ins := .ifCond .ne 14) (len := 3) (tag := 0) (a := 123) (b := 0) (c := 0) (q := 0) (by decide +kernel)) (if_neg c399) ?_
    exact ok_m_readText_123 X d F _ _ _ _ _ h
def f_m_readText_102 (F : Nat)   (s1 : Int32) (m : mM) : Option (Unit × mM) := (if s1 = 0 ∨ s1 = 1 then f_m_readText_105 F ((m_up m.1 304 22 s1), m.2) else none)
theorem ok_m_readText_102 (X : mX) (d F : Nat) : ∀ (s1 : Int32) (w1 : Option Value) (m : mM) (r : Unit) (m' : mM), f_m_readText_102 F s1 m = some (r, m') → m_R X (d + 65) 229 102 [some (.ref 304), w1] [.int s1, .ref 304] (SH, m) (none, (SH, m')) := by
  intro s1 w1 m r m' h
  unfold f_m_readText_102 at h
  obtain ⟨c401, h⟩ := m_ite_p h
  refine m_R_1 (by decide) (m_opb_of (ins := .putfield 367) (len := 3) (tag := 0) (a := 12) (b := 22) (c := 1) (q := 1514) (by decide +kernel)) (m_s_putz sh_304 (Nat.le_of_ble_eq_true rfl) (Or.inr ⟨rfl, c401⟩)) ?_
  exact ok_m_readText_105 X d F _ _ _ _ h
def f_m_readText_67 (F : Nat)   (s1 : Int32) (m : mM) : Option (Unit × mM) := ((f_m_isWord F (249 : Int64) ((m_up (m_up m.1 304 21 s1) 304 22 (1 : Int32)), m.2)).bind fun q6 => (if q6.1 = 0 then f_m_readText_105 F q6.2 else ((f_m_next F q6.2).bind fun q7 => ((f_m_either_w F q7.2).bind fun q8 => (if q8.1 = 0 then f_m_readText_102 F (0 : Int32) q8.2 else f_m_readText_102 F (1 : Int32) q8.2)))))
theorem ok_m_readText_67 (X : mX) (d F : Nat) : ∀ (s1 : Int32) (w1 : Option Value) (m : mM) (r : Unit) (m' : mM), f_m_readText_67 F s1 m = some (r, m') → m_R X (d + 65) 229 67 [some (.ref 304), w1] [.int s1, .ref 304] (SH, m) (none, (SH, m')) := by
  intro s1 w1 m r m' h
  unfold f_m_readText_67 at h
  refine m_R_sg (by decide) [(.putfield 364, 3, 0, 12, 21, 0, 1513), (.aload_n 0, 1, 0, 0, 0, 0, 0), (.iconst 1, 1, 0, 1, 0, 0, 0), (.putfield 367, 3, 0, 12, 22, 1, 1514), (.aload_n 0, 1, 0, 0, 0, 0, 0), (.ldc2_w 370, 3, 0, 249, 0, 0, 1805)] (by decide +kernel) (show m_sgl X _ _ _ _ _ = some (79, [some (.ref 304), w1], [.long (249 : Int64), .ref 304], (SH, (m_up (m_up m.1 304 21 s1) 304 22 (1 : Int32)), m.2)) from rfl) ?_
  obtain ⟨q6, hc6, h⟩ := Option.bind_eq_some_iff.mp h
  refine m_R_cV (v := (some (.int q6.1))) (h1 := (SH, q6.2)) (rest := []) (lo' := [some (.ref 304), some (.long (249 : Int64)), none]) (ml := 3) (k0 := 304) (by decide) (Or.inl rfl) (m_opb_of (ins := .invokevirtual 273) (len := 3) (tag := 5) (a := 233) (b := 1) (c := 0) (q := 1723) (by decide +kernel)) (by decide +kernel) rfl (show m_isO 233 304 (SH, _) = true from m_isO_of (by decide +kernel)) (Nat.le_of_ble_eq_true rfl) rfl rfl (ok_m_isWord X (d + 64) F _ _ _ _ hc6) ?_
  rcases m_ite h with ⟨c402, h⟩ | ⟨c402, h⟩
  · refine m_R_1 (by decide) (m_opb_of (ins := .ifCond .eq 23) (len := 3) (tag := 0) (a := 105) (b := 0) (c := 0) (q := 0) (by decide +kernel)) (if_pos c402) ?_
    exact ok_m_readText_105 X d F _ _ _ _ h
  · refine m_R_1 (by decide) (m_opb_of (ins := .ifCond .eq 23) (len := 3) (tag := 0) (a := 105) (b := 0) (c := 0) (q := 0) (by decide +kernel)) (if_neg c402) ?_
    refine m_R_sg (by decide) [(.aload_n 0, 1, 0, 0, 0, 0, 0)] (by decide +kernel) (show m_sgl X _ _ _ _ _ = some (86, [some (.ref 304), w1], [.ref 304], (SH, q6.2.1, q6.2.2)) from rfl) ?_
    obtain ⟨q7, hc7, h⟩ := Option.bind_eq_some_iff.mp h
    refine m_R_cV (v := none) (h1 := (SH, q7.2)) (rest := []) (lo' := [some (.ref 304), none, none]) (ml := 3) (k0 := 304) (by decide) (Or.inl rfl) (m_opb_of (ins := .invokevirtual 269) (len := 3) (tag := 5) (a := 230) (b := 0) (c := 0) (q := 1705) (by decide +kernel)) (by decide +kernel) rfl (show m_isO 230 304 (SH, _) = true from m_isO_of (by decide +kernel)) (Nat.le_of_ble_eq_true rfl) rfl rfl (ok_m_next X (d + 63) F _ _ _ hc7) ?_
    refine m_R_sg (by decide) [(.aload_n 0, 1, 0, 0, 0, 0, 0), (.aload_n 0, 1, 0, 0, 0, 0, 0)] (by decide +kernel) (show m_sgl X _ _ _ _ _ = some (91, [some (.ref 304), w1], [.ref 304, .ref 304], (SH, q7.2.1, q7.2.2)) from rfl) ?_
    obtain ⟨q8, hc8, h⟩ := Option.bind_eq_some_iff.mp h
    refine m_R_cV (v := (some (.int q8.1))) (h1 := (SH, q8.2)) (rest := [.ref 304]) (lo' := [some (.ref 304), none, none]) (ml := 3) (k0 := 304) (by decide) (Or.inl rfl) (m_opb_of (ins := .invokevirtual 310) (len := 3) (tag := 5) (a := 235) (b := 0) (c := 0) (q := 1737) (by decide +kernel)) (by decide +kernel) rfl (show m_isO 235 304 (SH, _) = true from m_isO_of (by decide +kernel)) (Nat.le_of_ble_eq_true rfl) rfl rfl (ok_m_either_w X (d + 0) F _ _ _ hc8) ?_
    rcases m_ite h with ⟨c403, h⟩ | ⟨c403, h⟩
    · refine m_R_1 (by decide) (m_opb_of (ins := .ifCond .eq 7) (len := 3) (tag := 0) (a := 101) (b := 0) (c := 0) (q := 0) (by decide +kernel)) (if_pos c403) ?_
      refine m_R_sg (by decide) [(.iconst 0, 1, 0, 0, 0, 0, 0)] (by decide +kernel) (show m_sgl X _ _ _ _ _ = some (102, [some (.ref 304), w1], [.int (0 : Int32), .ref 304], (SH, q8.2.1, q8.2.2)) from rfl) ?_
      exact ok_m_readText_102 X d F _ _ _ _ _ h
    · refine m_R_1 (by decide) (m_opb_of (ins := .ifCond .eq 7) (len := 3) (tag := 0) (a := 101) (b := 0) (c := 0) (q := 0) (by decide +kernel)) (if_neg c403) ?_
      refine m_R_sg (by decide) [(.iconst 1, 1, 0, 1, 0, 0, 0), (.goto 4, 3, 0, 102, 0, 0, 0)] (by decide +kernel) (show m_sgl X _ _ _ _ _ = some (102, [some (.ref 304), w1], [.int (1 : Int32), .ref 304], (SH, q8.2.1, q8.2.2)) from rfl) ?_
      exact ok_m_readText_102 X d F _ _ _ _ _ h
def f_m_readText_51 (F : Nat)    (m : mM) : Option (Unit × mM) := (if (m.1 304 17) = 0 then ((f_m_either_w F m).bind fun q5 => f_m_readText_67 F q5.1 q5.2) else f_m_readText_67 F (0 : Int32) m)
theorem ok_m_readText_51 (X : mX) (d F : Nat) : ∀  (w1 : Option Value) (m : mM) (r : Unit) (m' : mM), f_m_readText_51 F  m = some (r, m') → m_R X (d + 65) 229 51 [some (.ref 304), w1] [] (SH, m) (none, (SH, m')) := by
  intro w1 m r m' h
  unfold f_m_readText_51 at h
  refine m_R_sg (by decide) [(.aload_n 0, 1, 0, 0, 0, 0, 0), (.aload_n 0, 1, 0, 0, 0, 0, 0), (.getfield 256, 3, 0, 12, 17, 1, 1509)] (by decide +kernel) (show m_sgl X _ _ _ _ _ = some (56, [some (.ref 304), w1], [.int (m.1 304 17), .ref 304], (SH, m.1, m.2)) from rfl) ?_
  rcases m_ite h with ⟨c404, h⟩ | ⟨c404, h⟩
  · refine m_R_1 (by decide) (m_opb_of (ins := .ifCond .eq 7) (len := 3) (tag := 0) (a := 63) (b := 0) (c := 0) (q := 0) (by decide +kernel)) (if_pos c404) ?_
    refine m_R_sg (by decide) [(.aload_n 0, 1, 0, 0, 0, 0, 0)] (by decide +kernel) (show m_sgl X _ _ _ _ _ = some (64, [some (.ref 304), w1], [.ref 304, .ref 304], (SH, m.1, m.2)) from rfl) ?_
    obtain ⟨q5, hc5, h⟩ := Option.bind_eq_some_iff.mp h
    refine m_R_cV (v := (some (.int q5.1))) (h1 := (SH, q5.2)) (rest := [.ref 304]) (lo' := [some (.ref 304), none, none]) (ml := 3) (k0 := 304) (by decide) (Or.inl rfl) (m_opb_of (ins := .invokevirtual 310) (len := 3) (tag := 5) (a := 235) (b := 0) (c := 0) (q := 1737) (by decide +kernel)) (by decide +kernel) rfl (show m_isO 235 304 (SH, _) = true from m_isO_of (by decide +kernel)) (Nat.le_of_ble_eq_true rfl) rfl rfl (ok_m_either_w X (d + 0) F _ _ _ hc5) ?_
    exact ok_m_readText_67 X d F _ _ _ _ _ h
  · refine m_R_1 (by decide) (m_opb_of (ins := .ifCond .eq 7) (len := 3) (tag := 0) (a := 63) (b := 0) (c := 0) (q := 0) (by decide +kernel)) (if_neg c404) ?_
    refine m_R_sg (by decide) [(.iconst 0, 1, 0, 0, 0, 0, 0), (.goto 7, 3, 0, 67, 0, 0, 0)] (by decide +kernel) (show m_sgl X _ _ _ _ _ = some (67, [some (.ref 304), w1], [.int (0 : Int32), .ref 304], (SH, m.1, m.2)) from rfl) ?_
    exact ok_m_readText_67 X d F _ _ _ _ _ h
def f_m_readText (F : Nat)   (v1 : Int32) (m : mM) : Option (Unit × mM) := ((f_m_next F ((m_up (m_up (m_up (m_up m.1 304 19 v1) 304 15 (0 : Int32)) 304 16 (0 : Int32)) 304 17 (0 : Int32)), m.2)).bind fun q1 => ((f_m_keyHere F q1.2).bind fun q2 => (if ((m_up q2.2.1 304 20 q2.1) 304 20) = (-1 : Int32) then ((f_m_fail F ((m_up q2.2.1 304 20 q2.1), q2.2.2)).bind fun q3 => f_m_readText_51 F q3.2) else ((f_m_next F ((m_up q2.2.1 304 20 q2.1), q2.2.2)).bind fun q4 => f_m_readText_51 F q4.2))))
theorem ok_m_readText (X : mX) (d F : Nat) : ∀ (v1 : Int32)  (m : mM) (r : Unit) (m' : mM), f_m_readText F v1 m = some (r, m') → m_R X (d + 65) 229 0 [some (.ref 304), some (.int v1)] [] (SH, m) (none, (SH, m')) := by
  intro v1 m r m' h
  unfold f_m_readText at h
  refine m_R_sg (by decide) [(.aload_n 0, 1, 0, 0, 0, 0, 0), (.iload_n 1, 1, 0, 1, 0, 0, 0), (.putfield 290, 3, 0, 12, 19, 0, 1511), (.aload_n 0, 1, 0, 0, 0, 0, 0), (.iconst 0, 1, 0, 0, 0, 0, 0), (.putfield 230, 3, 0, 12, 15, 0, 1507), (.aload_n 0, 1, 0, 0, 0, 0, 0), (.iconst 0, 1, 0, 0, 0, 0, 0), (.putfield 263, 3, 0, 12, 16, 0, 1508), (.aload_n 0, 1, 0, 0, 0, 0, 0), (.iconst 0, 1, 0, 0, 0, 0, 0), (.putfield 256, 3, 0, 12, 17, 1, 1509), (.aload_n 0, 1, 0, 0, 0, 0, 0)] (by decide +kernel) (show m_sgl X _ _ _ _ _ = some (21, [some (.ref 304), some (.int v1)], [.ref 304], (SH, (m_up (m_up (m_up (m_up m.1 304 19 v1) 304 15 (0 : Int32)) 304 16 (0 : Int32)) 304 17 (0 : Int32)), m.2)) from rfl) ?_
  obtain ⟨q1, hc1, h⟩ := Option.bind_eq_some_iff.mp h
  refine m_R_cV (v := none) (h1 := (SH, q1.2)) (rest := []) (lo' := [some (.ref 304), none, none]) (ml := 3) (k0 := 304) (by decide) (Or.inl rfl) (m_opb_of (ins := .invokevirtual 269) (len := 3) (tag := 5) (a := 230) (b := 0) (c := 0) (q := 1705) (by decide +kernel)) (by decide +kernel) rfl (show m_isO 230 304 (SH, _) = true from m_isO_of (by decide +kernel)) (Nat.le_of_ble_eq_true rfl) rfl rfl (ok_m_next X (d + 63) F _ _ _ hc1) ?_
  refine m_R_sg (by decide) [(.aload_n 0, 1, 0, 0, 0, 0, 0), (.aload_n 0, 1, 0, 0, 0, 0, 0)] (by decide +kernel) (show m_sgl X _ _ _ _ _ = some (26, [some (.ref 304), some (.int v1)], [.ref 304, .ref 304], (SH, q1.2.1, q1.2.2)) from rfl) ?_
  obtain ⟨q2, hc2, h⟩ := Option.bind_eq_some_iff.mp h
  refine m_R_cV (v := (some (.int q2.1))) (h1 := (SH, q2.2)) (rest := [.ref 304]) (lo' := [some (.ref 304)]) (ml := 1) (k0 := 304) (by decide) (Or.inl rfl) (m_opb_of (ins := .invokevirtual 358) (len := 3) (tag := 5) (a := 232) (b := 0) (c := 0) (q := 1718) (by decide +kernel)) (by decide +kernel) rfl (show m_isO 232 304 (SH, _) = true from m_isO_of (by decide +kernel)) (Nat.le_of_ble_eq_true rfl) rfl rfl (ok_m_keyHere X (d + 63) F _ _ _ hc2) ?_
  refine m_R_sg (by decide) [(.putfield 361, 3, 0, 12, 20, 0, 1512), (.aload_n 0, 1, 0, 0, 0, 0, 0), (.getfield 361, 3, 0, 12, 20, 0, 1512), (.iconst (-1), 1, 0, 1, 1, 0, 0)] (by decide +kernel) (show m_sgl X _ _ _ _ _ = some (37, [some (.ref 304), some (.int v1)], [.int (-1 : Int32), .int ((m_up q2.2.1 304 20 q2.1) 304 20)], (SH, (m_up q2.2.1 304 20 q2.1), q2.2.2)) from rfl) ?_
  rcases m_ite h with ⟨c405, h⟩ | ⟨c405, h⟩
  · refine m_R_1 (by decide) (m_opb_of (ins := .if_icmp .ne 10) (len := 3) (tag := 0) (a := 47) (b := 0) (c := 0) (q := 0) (by decide +kernel)) (if_pos c405) ?_
    refine m_R_sg (by decide) [(.aload_n 0, 1, 0, 0, 0, 0, 0)] (by decide +kernel) (show m_sgl X _ _ _ _ _ = some (41, [some (.ref 304), some (.int v1)], [.ref 304], (SH, (m_up q2.2.1 304 20 q2.1), q2.2.2)) from rfl) ?_
    obtain ⟨q3, hc3, h⟩ := Option.bind_eq_some_iff.mp h
    refine m_R_cV (v := none) (h1 := (SH, q3.2)) (rest := []) (lo' := [some (.ref 304)]) (ml := 1) (k0 := 304) (by decide) (Or.inl rfl) (m_opb_of (ins := .invokevirtual 266) (len := 3) (tag := 5) (a := 234) (b := 0) (c := 0) (q := 1733) (by decide +kernel)) (by decide +kernel) rfl (show m_isO 234 304 (SH, _) = true from m_isO_of (by decide +kernel)) (Nat.le_of_ble_eq_true rfl) rfl rfl (ok_m_fail X (d + 64) F _ _ _ hc3) ?_
    refine m_R_sg (by decide) [(.goto 7, 3, 0, 51, 0, 0, 0)] (by decide +kernel) (show m_sgl X _ _ _ _ _ = some (51, [some (.ref 304), some (.int v1)], [], (SH, q3.2.1, q3.2.2)) from rfl) ?_
    exact ok_m_readText_51 X d F _ _ _ _ h
  · refine m_R_1 (by decide) (m_opb_of (ins := .if_icmp .ne 10) (len := 3) (tag := 0) (a := 47) (b := 0) (c := 0) (q := 0) (by decide +kernel)) (if_neg c405) ?_
    refine m_R_sg (by decide) [(.aload_n 0, 1, 0, 0, 0, 0, 0)] (by decide +kernel) (show m_sgl X _ _ _ _ _ = some (48, [some (.ref 304), some (.int v1)], [.ref 304], (SH, (m_up q2.2.1 304 20 q2.1), q2.2.2)) from rfl) ?_
    obtain ⟨q4, hc4, h⟩ := Option.bind_eq_some_iff.mp h
    refine m_R_cV (v := none) (h1 := (SH, q4.2)) (rest := []) (lo' := [some (.ref 304), none, none]) (ml := 3) (k0 := 304) (by decide) (Or.inl rfl) (m_opb_of (ins := .invokevirtual 269) (len := 3) (tag := 5) (a := 230) (b := 0) (c := 0) (q := 1705) (by decide +kernel)) (by decide +kernel) rfl (show m_isO 230 304 (SH, _) = true from m_isO_of (by decide +kernel)) (Nat.le_of_ble_eq_true rfl) rfl rfl (ok_m_next X (d + 63) F _ _ _ hc4) ?_
    exact ok_m_readText_51 X d F _ _ _ _ h
