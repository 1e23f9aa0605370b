/-! METHODS AS FUNCTIONS, on (written by program: wip/whole/gen/emit.py) -/
def f_x_copyAll_36_82 (F : Nat)    (m : mM) : Option (Unit × mM) := ((f_Math_min_II F (Int32.ofNat 60) (Int32.ofNat 60) m).bind fun q1 => (if (0 : Int32) < 0 ∨ (0 : Int32) < 0 ∨ q1.1 < 0 ∨ 60 < (0 : Int32).toNatClampNeg + q1.1.toNatClampNeg ∨ 60 < (0 : Int32).toNatClampNeg + q1.1.toNatClampNeg then none else some ((), ((m_row q1.2.1 82 (va_cpy (q1.2.1 36) (q1.2.1 82) (0 : Int32).toNatClampNeg (0 : Int32).toNatClampNeg q1.1.toNatClampNeg)), q1.2.2))))
theorem ok_x_copyAll_36_82 (X : mX) (d F : Nat) : ∀   (m : mM) (r : Unit) (m' : mM), f_x_copyAll_36_82 F  m = some (r, m') → m_R X (d + 1) 176 0 [some (.ref 36), some (.ref 82)] [] (SH, m) (none, (SH, m')) := by
  intro m r m' h
  unfold f_x_copyAll_36_82 at h
  refine m_R_sg (by decide) [(.aload_n 0, 1, 0, 0, 0, 0, 0), (.iconst 0, 1, 0, 0, 0, 0, 0), (.aload_n 1, 1, 0, 1, 0, 0, 0), (.iconst 0, 1, 0, 0, 0, 0, 0), (.aload_n 0, 1, 0, 0, 0, 0, 0), (.arraylength, 1, 0, 0, 0, 0, 0), (.aload_n 1, 1, 0, 1, 0, 0, 0), (.arraylength, 1, 0, 0, 0, 0, 0)] (by decide +kernel) (show m_sgl X _ _ _ _ _ = some (8, [some (.ref 36), some (.ref 82)], [.int (Int32.ofNat 60), .int (Int32.ofNat 60), .int (0 : Int32), .ref 82, .int (0 : Int32), .ref 36], (SH, m.1, m.2)) from rfl) ?_
  obtain ⟨q1, hc1, h⟩ := Option.bind_eq_some_iff.mp h
  refine m_R_cS (v := (some (.int q1.1))) (h1 := (SH, q1.2)) (rest := [.int (0 : Int32), .ref 82, .int (0 : Int32), .ref 36]) (lo' := [some (.int (Int32.ofNat 60)), some (.int (Int32.ofNat 60))]) (ml := 2) (by decide) (m_opb_of (ins := .invokestatic 219) (len := 3) (tag := 4) (a := 50) (b := 2) (c := 0) (q := 893) (by decide +kernel)) (by decide +kernel) (Nat.le_of_ble_eq_true rfl) rfl (Nat.le_of_ble_eq_true rfl) rfl rfl (ok_Math_min_II X (d + 0) F _ _ _ _ _ hc1) ?_
  obtain ⟨c0, h⟩ := m_ite_n h
  refine m_R_cpy (by decide) (m_opb_of (ins := .invokestatic 452) (len := 3) (tag := 8) (a := 0) (b := 0) (c := 0) (q := 1391) (by decide +kernel)) (Nat.le_of_ble_eq_true rfl) (m_cpy_of sh_36 sh_82 c0) ?_
  obtain ⟨rfl, rfl⟩ := m_some h
  exact m_R_vret (by decide) (m_opb_of (ins := .return_) (len := 1) (tag := 3) (a := 0) (b := 0) (c := 0) (q := 0) (by decide +kernel))
def f_x_copyAll_37_83 (F : Nat)    (m : mM) : Option (Unit × mM) := ((f_Math_min_II F (Int32.ofNat 60) (Int32.ofNat 60) m).bind fun q1 => (if (0 : Int32) < 0 ∨ (0 : Int32) < 0 ∨ q1.1 < 0 ∨ 60 < (0 : Int32).toNatClampNeg + q1.1.toNatClampNeg ∨ 60 < (0 : Int32).toNatClampNeg + q1.1.toNatClampNeg then none else some ((), ((m_row q1.2.1 83 (va_cpy (q1.2.1 37) (q1.2.1 83) (0 : Int32).toNatClampNeg (0 : Int32).toNatClampNeg q1.1.toNatClampNeg)), q1.2.2))))
theorem ok_x_copyAll_37_83 (X : mX) (d F : Nat) : ∀   (m : mM) (r : Unit) (m' : mM), f_x_copyAll_37_83 F  m = some (r, m') → m_R X (d + 1) 176 0 [some (.ref 37), some (.ref 83)] [] (SH, m) (none, (SH, m')) := by
  intro m r m' h
  unfold f_x_copyAll_37_83 at h
  refine m_R_sg (by decide) [(.aload_n 0, 1, 0, 0, 0, 0, 0), (.iconst 0, 1, 0, 0, 0, 0, 0), (.aload_n 1, 1, 0, 1, 0, 0, 0), (.iconst 0, 1, 0, 0, 0, 0, 0), (.aload_n 0, 1, 0, 0, 0, 0, 0), (.arraylength, 1, 0, 0, 0, 0, 0), (.aload_n 1, 1, 0, 1, 0, 0, 0), (.arraylength, 1, 0, 0, 0, 0, 0)] (by decide +kernel) (show m_sgl X _ _ _ _ _ = some (8, [some (.ref 37), some (.ref 83)], [.int (Int32.ofNat 60), .int (Int32.ofNat 60), .int (0 : Int32), .ref 83, .int (0 : Int32), .ref 37], (SH, m.1, m.2)) from rfl) ?_
  obtain ⟨q1, hc1, h⟩ := Option.bind_eq_some_iff.mp h
  refine m_R_cS (v := (some (.int q1.1))) (h1 := (SH, q1.2)) (rest := [.int (0 : Int32), .ref 83, .int (0 : Int32), .ref 37]) (lo' := [some (.int (Int32.ofNat 60)), some (.int (Int32.ofNat 60))]) (ml := 2) (by decide) (m_opb_of (ins := .invokestatic 219) (len := 3) (tag := 4) (a := 50) (b := 2) (c := 0) (q := 893) (by decide +kernel)) (by decide +kernel) (Nat.le_of_ble_eq_true rfl) rfl (Nat.le_of_ble_eq_true rfl) rfl rfl (ok_Math_min_II X (d + 0) F _ _ _ _ _ hc1) ?_
  obtain ⟨c0, h⟩ := m_ite_n h
  refine m_R_cpy (by decide) (m_opb_of (ins := .invokestatic 452) (len := 3) (tag := 8) (a := 0) (b := 0) (c := 0) (q := 1391) (by decide +kernel)) (Nat.le_of_ble_eq_true rfl) (m_cpy_of sh_37 sh_83 c0) ?_
  obtain ⟨rfl, rfl⟩ := m_some h
  exact m_R_vret (by decide) (m_opb_of (ins := .return_) (len := 1) (tag := 3) (a := 0) (b := 0) (c := 0) (q := 0) (by decide +kernel))
def f_x_copyAll_38_84 (F : Nat)    (m : mM) : Option (Unit × mM) := ((f_Math_min_II F (Int32.ofNat 360) (Int32.ofNat 360) m).bind fun q1 => (if (0 : Int32) < 0 ∨ (0 : Int32) < 0 ∨ q1.1 < 0 ∨ 360 < (0 : Int32).toNatClampNeg + q1.1.toNatClampNeg ∨ 360 < (0 : Int32).toNatClampNeg + q1.1.toNatClampNeg then none else some ((), ((m_row q1.2.1 84 (va_cpy (q1.2.1 38) (q1.2.1 84) (0 : Int32).toNatClampNeg (0 : Int32).toNatClampNeg q1.1.toNatClampNeg)), q1.2.2))))
theorem ok_x_copyAll_38_84 (X : mX) (d F : Nat) : ∀   (m : mM) (r : Unit) (m' : mM), f_x_copyAll_38_84 F  m = some (r, m') → m_R X (d + 1) 176 0 [some (.ref 38), some (.ref 84)] [] (SH, m) (none, (SH, m')) := by
  intro m r m' h
  unfold f_x_copyAll_38_84 at h
  refine m_R_sg (by decide) [(.aload_n 0, 1, 0, 0, 0, 0, 0), (.iconst 0, 1, 0, 0, 0, 0, 0), (.aload_n 1, 1, 0, 1, 0, 0, 0), (.iconst 0, 1, 0, 0, 0, 0, 0), (.aload_n 0, 1, 0, 0, 0, 0, 0), (.arraylength, 1, 0, 0, 0, 0, 0), (.aload_n 1, 1, 0, 1, 0, 0, 0), (.arraylength, 1, 0, 0, 0, 0, 0)] (by decide +kernel) (show m_sgl X _ _ _ _ _ = some (8, [some (.ref 38), some (.ref 84)], [.int (Int32.ofNat 360), .int (Int32.ofNat 360), .int (0 : Int32), .ref 84, .int (0 : Int32), .ref 38], (SH, m.1, m.2)) from rfl) ?_
  obtain ⟨q1, hc1, h⟩ := Option.bind_eq_some_iff.mp h
  refine m_R_cS (v := (some (.int q1.1))) (h1 := (SH, q1.2)) (rest := [.int (0 : Int32), .ref 84, .int (0 : Int32), .ref 38]) (lo' := [some (.int (Int32.ofNat 360)), some (.int (Int32.ofNat 360))]) (ml := 2) (by decide) (m_opb_of (ins := .invokestatic 219) (len := 3) (tag := 4) (a := 50) (b := 2) (c := 0) (q := 893) (by decide +kernel)) (by decide +kernel) (Nat.le_of_ble_eq_true rfl) rfl (Nat.le_of_ble_eq_true rfl) rfl rfl (ok_Math_min_II X (d + 0) F _ _ _ _ _ hc1) ?_
  obtain ⟨c0, h⟩ := m_ite_n h
  refine m_R_cpy (by decide) (m_opb_of (ins := .invokestatic 452) (len := 3) (tag := 8) (a := 0) (b := 0) (c := 0) (q := 1391) (by decide +kernel)) (Nat.le_of_ble_eq_true rfl) (m_cpy_of sh_38 sh_84 c0) ?_
  obtain ⟨rfl, rfl⟩ := m_some h
  exact m_R_vret (by decide) (m_opb_of (ins := .return_) (len := 1) (tag := 3) (a := 0) (b := 0) (c := 0) (q := 0) (by decide +kernel))
def f_x_copyAll_39_85 (F : Nat)    (m : mM) : Option (Unit × mM) := ((f_Math_min_II F (Int32.ofNat 60) (Int32.ofNat 60) m).bind fun q1 => (if (0 : Int32) < 0 ∨ (0 : Int32) < 0 ∨ q1.1 < 0 ∨ 60 < (0 : Int32).toNatClampNeg + q1.1.toNatClampNeg ∨ 60 < (0 : Int32).toNatClampNeg + q1.1.toNatClampNeg then none else some ((), ((m_row q1.2.1 85 (va_cpy (q1.2.1 39) (q1.2.1 85) (0 : Int32).toNatClampNeg (0 : Int32).toNatClampNeg q1.1.toNatClampNeg)), q1.2.2))))
theorem ok_x_copyAll_39_85 (X : mX) (d F : Nat) : ∀   (m : mM) (r : Unit) (m' : mM), f_x_copyAll_39_85 F  m = some (r, m') → m_R X (d + 1) 176 0 [some (.ref 39), some (.ref 85)] [] (SH, m) (none, (SH, m')) := by
  intro m r m' h
  unfold f_x_copyAll_39_85 at h
  refine m_R_sg (by decide) [(.aload_n 0, 1, 0, 0, 0, 0, 0), (.iconst 0, 1, 0, 0, 0, 0, 0), (.aload_n 1, 1, 0, 1, 0, 0, 0), (.iconst 0, 1, 0, 0, 0, 0, 0), (.aload_n 0, 1, 0, 0, 0, 0, 0), (.arraylength, 1, 0, 0, 0, 0, 0), (.aload_n 1, 1, 0, 1, 0, 0, 0), (.arraylength, 1, 0, 0, 0, 0, 0)] (by decide +kernel) (show m_sgl X _ _ _ _ _ = some (8, [some (.ref 39), some (.ref 85)], [.int (Int32.ofNat 60), .int (Int32.ofNat 60), .int (0 : Int32), .ref 85, .int (0 : Int32), .ref 39], (SH, m.1, m.2)) from rfl) ?_
  obtain ⟨q1, hc1, h⟩ := Option.bind_eq_some_iff.mp h
  refine m_R_cS (v := (some (.int q1.1))) (h1 := (SH, q1.2)) (rest := [.int (0 : Int32), .ref 85, .int (0 : Int32), .ref 39]) (lo' := [some (.int (Int32.ofNat 60)), some (.int (Int32.ofNat 60))]) (ml := 2) (by decide) (m_opb_of (ins := .invokestatic 219) (len := 3) (tag := 4) (a := 50) (b := 2) (c := 0) (q := 893) (by decide +kernel)) (by decide +kernel) (Nat.le_of_ble_eq_true rfl) rfl (Nat.le_of_ble_eq_true rfl) rfl rfl (ok_Math_min_II X (d + 0) F _ _ _ _ _ hc1) ?_
  obtain ⟨c0, h⟩ := m_ite_n h
  refine m_R_cpy (by decide) (m_opb_of (ins := .invokestatic 452) (len := 3) (tag := 8) (a := 0) (b := 0) (c := 0) (q := 1391) (by decide +kernel)) (Nat.le_of_ble_eq_true rfl) (m_cpy_of sh_39 sh_85 c0) ?_
  obtain ⟨rfl, rfl⟩ := m_some h
  exact m_R_vret (by decide) (m_opb_of (ins := .return_) (len := 1) (tag := 3) (a := 0) (b := 0) (c := 0) (q := 0) (by decide +kernel))
def f_x_copyAll_40_86 (F : Nat)    (m : mM) : Option (Unit × mM) := ((f_Math_min_II F (Int32.ofNat 60) (Int32.ofNat 60) m).bind fun q1 => (if (0 : Int32) < 0 ∨ (0 : Int32) < 0 ∨ q1.1 < 0 ∨ 60 < (0 : Int32).toNatClampNeg + q1.1.toNatClampNeg ∨ 60 < (0 : Int32).toNatClampNeg + q1.1.toNatClampNeg then none else some ((), ((m_row q1.2.1 86 (va_cpy (q1.2.1 40) (q1.2.1 86) (0 : Int32).toNatClampNeg (0 : Int32).toNatClampNeg q1.1.toNatClampNeg)), q1.2.2))))
theorem ok_x_copyAll_40_86 (X : mX) (d F : Nat) : ∀   (m : mM) (r : Unit) (m' : mM), f_x_copyAll_40_86 F  m = some (r, m') → m_R X (d + 1) 176 0 [some (.ref 40), some (.ref 86)] [] (SH, m) (none, (SH, m')) := by
  intro m r m' h
  unfold f_x_copyAll_40_86 at h
  refine m_R_sg (by decide) [(.aload_n 0, 1, 0, 0, 0, 0, 0), (.iconst 0, 1, 0, 0, 0, 0, 0), (.aload_n 1, 1, 0, 1, 0, 0, 0), (.iconst 0, 1, 0, 0, 0, 0, 0), (.aload_n 0, 1, 0, 0, 0, 0, 0), (.arraylength, 1, 0, 0, 0, 0, 0), (.aload_n 1, 1, 0, 1, 0, 0, 0), (.arraylength, 1, 0, 0, 0, 0, 0)] (by decide +kernel) (show m_sgl X _ _ _ _ _ = some (8, [some (.ref 40), some (.ref 86)], [.int (Int32.ofNat 60), .int (Int32.ofNat 60), .int (0 : Int32), .ref 86, .int (0 : Int32), .ref 40], (SH, m.1, m.2)) from rfl) ?_
  obtain ⟨q1, hc1, h⟩ := Option.bind_eq_some_iff.mp h
  refine m_R_cS (v := (some (.int q1.1))) (h1 := (SH, q1.2)) (rest := [.int (0 : Int32), .ref 86, .int (0 : Int32), .ref 40]) (lo' := [some (.int (Int32.ofNat 60)), some (.int (Int32.ofNat 60))]) (ml := 2) (by decide) (m_opb_of (ins := .invokestatic 219) (len := 3) (tag := 4) (a := 50) (b := 2) (c := 0) (q := 893) (by decide +kernel)) (by decide +kernel) (Nat.le_of_ble_eq_true rfl) rfl (Nat.le_of_ble_eq_true rfl) rfl rfl (ok_Math_min_II X (d + 0) F _ _ _ _ _ hc1) ?_
  obtain ⟨c0, h⟩ := m_ite_n h
  refine m_R_cpy (by decide) (m_opb_of (ins := .invokestatic 452) (len := 3) (tag := 8) (a := 0) (b := 0) (c := 0) (q := 1391) (by decide +kernel)) (Nat.le_of_ble_eq_true rfl) (m_cpy_of sh_40 sh_86 c0) ?_
  obtain ⟨rfl, rfl⟩ := m_some h
  exact m_R_vret (by decide) (m_opb_of (ins := .return_) (len := 1) (tag := 3) (a := 0) (b := 0) (c := 0) (q := 0) (by decide +kernel))
def f_x_copyAll_41_87 (F : Nat)    (m : mM) : Option (Unit × mM) := ((f_Math_min_II F (Int32.ofNat 60) (Int32.ofNat 60) m).bind fun q1 => (if (0 : Int32) < 0 ∨ (0 : Int32) < 0 ∨ q1.1 < 0 ∨ 60 < (0 : Int32).toNatClampNeg + q1.1.toNatClampNeg ∨ 60 < (0 : Int32).toNatClampNeg + q1.1.toNatClampNeg then none else some ((), ((m_row q1.2.1 87 (va_cpy (q1.2.1 41) (q1.2.1 87) (0 : Int32).toNatClampNeg (0 : Int32).toNatClampNeg q1.1.toNatClampNeg)), q1.2.2))))
theorem ok_x_copyAll_41_87 (X : mX) (d F : Nat) : ∀   (m : mM) (r : Unit) (m' : mM), f_x_copyAll_41_87 F  m = some (r, m') → m_R X (d + 1) 176 0 [some (.ref 41), some (.ref 87)] [] (SH, m) (none, (SH, m')) := by
  intro m r m' h
  unfold f_x_copyAll_41_87 at h
  refine m_R_sg (by decide) [(.aload_n 0, 1, 0, 0, 0, 0, 0), (.iconst 0, 1, 0, 0, 0, 0, 0), (.aload_n 1, 1, 0, 1, 0, 0, 0), (.iconst 0, 1, 0, 0, 0, 0, 0), (.aload_n 0, 1, 0, 0, 0, 0, 0), (.arraylength, 1, 0, 0, 0, 0, 0), (.aload_n 1, 1, 0, 1, 0, 0, 0), (.arraylength, 1, 0, 0, 0, 0, 0)] (by decide +kernel) (show m_sgl X _ _ _ _ _ = some (8, [some (.ref 41), some (.ref 87)], [.int (Int32.ofNat 60), .int (Int32.ofNat 60), .int (0 : Int32), .ref 87, .int (0 : Int32), .ref 41], (SH, m.1, m.2)) from rfl) ?_
  obtain ⟨q1, hc1, h⟩ := Option.bind_eq_some_iff.mp h
  refine m_R_cS (v := (some (.int q1.1))) (h1 := (SH, q1.2)) (rest := [.int (0 : Int32), .ref 87, .int (0 : Int32), .ref 41]) (lo' := [some (.int (Int32.ofNat 60)), some (.int (Int32.ofNat 60))]) (ml := 2) (by decide) (m_opb_of (ins := .invokestatic 219) (len := 3) (tag := 4) (a := 50) (b := 2) (c := 0) (q := 893) (by decide +kernel)) (by decide +kernel) (Nat.le_of_ble_eq_true rfl) rfl (Nat.le_of_ble_eq_true rfl) rfl rfl (ok_Math_min_II X (d + 0) F _ _ _ _ _ hc1) ?_
  obtain ⟨c0, h⟩ := m_ite_n h
  refine m_R_cpy (by decide) (m_opb_of (ins := .invokestatic 452) (len := 3) (tag := 8) (a := 0) (b := 0) (c := 0) (q := 1391) (by decide +kernel)) (Nat.le_of_ble_eq_true rfl) (m_cpy_of sh_41 sh_87 c0) ?_
  obtain ⟨rfl, rfl⟩ := m_some h
  exact m_R_vret (by decide) (m_opb_of (ins := .return_) (len := 1) (tag := 3) (a := 0) (b := 0) (c := 0) (q := 0) (by decide +kernel))
def f_x_copyAll_42_88 (F : Nat)    (m : mM) : Option (Unit × mM) := ((f_Math_min_II F (Int32.ofNat 60) (Int32.ofNat 60) m).bind fun q1 => (if (0 : Int32) < 0 ∨ (0 : Int32) < 0 ∨ q1.1 < 0 ∨ 60 < (0 : Int32).toNatClampNeg + q1.1.toNatClampNeg ∨ 60 < (0 : Int32).toNatClampNeg + q1.1.toNatClampNeg then none else some ((), ((m_row q1.2.1 88 (va_cpy (q1.2.1 42) (q1.2.1 88) (0 : Int32).toNatClampNeg (0 : Int32).toNatClampNeg q1.1.toNatClampNeg)), q1.2.2))))
theorem ok_x_copyAll_42_88 (X : mX) (d F : Nat) : ∀   (m : mM) (r : Unit) (m' : mM), f_x_copyAll_42_88 F  m = some (r, m') → m_R X (d + 1) 176 0 [some (.ref 42), some (.ref 88)] [] (SH, m) (none, (SH, m')) := by
  intro m r m' h
  unfold f_x_copyAll_42_88 at h
  refine m_R_sg (by decide) [(.aload_n 0, 1, 0, 0, 0, 0, 0), (.iconst 0, 1, 0, 0, 0, 0, 0), (.aload_n 1, 1, 0, 1, 0, 0, 0), (.iconst 0, 1, 0, 0, 0, 0, 0), (.aload_n 0, 1, 0, 0, 0, 0, 0), (.arraylength, 1, 0, 0, 0, 0, 0), (.aload_n 1, 1, 0, 1, 0, 0, 0), (.arraylength, 1, 0, 0, 0, 0, 0)] (by decide +kernel) (show m_sgl X _ _ _ _ _ = some (8, [some (.ref 42), some (.ref 88)], [.int (Int32.ofNat 60), .int (Int32.ofNat 60), .int (0 : Int32), .ref 88, .int (0 : Int32), .ref 42], (SH, m.1, m.2)) from rfl) ?_
  obtain ⟨q1, hc1, h⟩ := Option.bind_eq_some_iff.mp h
  refine m_R_cS (v := (some (.int q1.1))) (h1 := (SH, q1.2)) (rest := [.int (0 : Int32), .ref 88, .int (0 : Int32), .ref 42]) (lo' := [some (.int (Int32.ofNat 60)), some (.int (Int32.ofNat 60))]) (ml := 2) (by decide) (m_opb_of (ins := .invokestatic 219) (len := 3) (tag := 4) (a := 50) (b := 2) (c := 0) (q := 893) (by decide +kernel)) (by decide +kernel) (Nat.le_of_ble_eq_true rfl) rfl (Nat.le_of_ble_eq_true rfl) rfl rfl (ok_Math_min_II X (d + 0) F _ _ _ _ _ hc1) ?_
  obtain ⟨c0, h⟩ := m_ite_n h
  refine m_R_cpy (by decide) (m_opb_of (ins := .invokestatic 452) (len := 3) (tag := 8) (a := 0) (b := 0) (c := 0) (q := 1391) (by decide +kernel)) (Nat.le_of_ble_eq_true rfl) (m_cpy_of sh_42 sh_88 c0) ?_
  obtain ⟨rfl, rfl⟩ := m_some h
  exact m_R_vret (by decide) (m_opb_of (ins := .return_) (len := 1) (tag := 3) (a := 0) (b := 0) (c := 0) (q := 0) (by decide +kernel))
def f_x_copyAll_43_89 (F : Nat)    (m : mM) : Option (Unit × mM) := ((f_Math_min_II F (Int32.ofNat 60) (Int32.ofNat 60) m).bind fun q1 => (if (0 : Int32) < 0 ∨ (0 : Int32) < 0 ∨ q1.1 < 0 ∨ 60 < (0 : Int32).toNatClampNeg + q1.1.toNatClampNeg ∨ 60 < (0 : Int32).toNatClampNeg + q1.1.toNatClampNeg then none else some ((), ((m_row q1.2.1 89 (va_cpy (q1.2.1 43) (q1.2.1 89) (0 : Int32).toNatClampNeg (0 : Int32).toNatClampNeg q1.1.toNatClampNeg)), q1.2.2))))
theorem ok_x_copyAll_43_89 (X : mX) (d F : Nat) : ∀   (m : mM) (r : Unit) (m' : mM), f_x_copyAll_43_89 F  m = some (r, m') → m_R X (d + 1) 176 0 [some (.ref 43), some (.ref 89)] [] (SH, m) (none, (SH, m')) := by
  intro m r m' h
  unfold f_x_copyAll_43_89 at h
  refine m_R_sg (by decide) [(.aload_n 0, 1, 0, 0, 0, 0, 0), (.iconst 0, 1, 0, 0, 0, 0, 0), (.aload_n 1, 1, 0, 1, 0, 0, 0), (.iconst 0, 1, 0, 0, 0, 0, 0), (.aload_n 0, 1, 0, 0, 0, 0, 0), (.arraylength, 1, 0, 0, 0, 0, 0), (.aload_n 1, 1, 0, 1, 0, 0, 0), (.arraylength, 1, 0, 0, 0, 0, 0)] (by decide +kernel) (show m_sgl X _ _ _ _ _ = some (8, [some (.ref 43), some (.ref 89)], [.int (Int32.ofNat 60), .int (Int32.ofNat 60), .int (0 : Int32), .ref 89, .int (0 : Int32), .ref 43], (SH, m.1, m.2)) from rfl) ?_
  obtain ⟨q1, hc1, h⟩ := Option.bind_eq_some_iff.mp h
  refine m_R_cS (v := (some (.int q1.1))) (h1 := (SH, q1.2)) (rest := [.int (0 : Int32), .ref 89, .int (0 : Int32), .ref 43]) (lo' := [some (.int (Int32.ofNat 60)), some (.int (Int32.ofNat 60))]) (ml := 2) (by decide) (m_opb_of (ins := .invokestatic 219) (len := 3) (tag := 4) (a := 50) (b := 2) (c := 0) (q := 893) (by decide +kernel)) (by decide +kernel) (Nat.le_of_ble_eq_true rfl) rfl (Nat.le_of_ble_eq_true rfl) rfl rfl (ok_Math_min_II X (d + 0) F _ _ _ _ _ hc1) ?_
  obtain ⟨c0, h⟩ := m_ite_n h
  refine m_R_cpy (by decide) (m_opb_of (ins := .invokestatic 452) (len := 3) (tag := 8) (a := 0) (b := 0) (c := 0) (q := 1391) (by decide +kernel)) (Nat.le_of_ble_eq_true rfl) (m_cpy_of sh_43 sh_89 c0) ?_
  obtain ⟨rfl, rfl⟩ := m_some h
  exact m_R_vret (by decide) (m_opb_of (ins := .return_) (len := 1) (tag := 3) (a := 0) (b := 0) (c := 0) (q := 0) (by decide +kernel))
def f_x_copyAll_44_90 (F : Nat)    (m : mM) : Option (Unit × mM) := ((f_Math_min_II F (Int32.ofNat 60) (Int32.ofNat 60) m).bind fun q1 => (if (0 : Int32) < 0 ∨ (0 : Int32) < 0 ∨ q1.1 < 0 ∨ 60 < (0 : Int32).toNatClampNeg + q1.1.toNatClampNeg ∨ 60 < (0 : Int32).toNatClampNeg + q1.1.toNatClampNeg then none else some ((), ((m_row q1.2.1 90 (va_cpy (q1.2.1 44) (q1.2.1 90) (0 : Int32).toNatClampNeg (0 : Int32).toNatClampNeg q1.1.toNatClampNeg)), q1.2.2))))
theorem ok_x_copyAll_44_90 (X : mX) (d F : Nat) : ∀   (m : mM) (r : Unit) (m' : mM), f_x_copyAll_44_90 F  m = some (r, m') → m_R X (d + 1) 176 0 [some (.ref 44), some (.ref 90)] [] (SH, m) (none, (SH, m')) := by
  intro m r m' h
  unfold f_x_copyAll_44_90 at h
  refine m_R_sg (by decide) [(.aload_n 0, 1, 0, 0, 0, 0, 0), (.iconst 0, 1, 0, 0, 0, 0, 0), (.aload_n 1, 1, 0, 1, 0, 0, 0), (.iconst 0, 1, 0, 0, 0, 0, 0), (.aload_n 0, 1, 0, 0, 0, 0, 0), (.arraylength, 1, 0, 0, 0, 0, 0), (.aload_n 1, 1, 0, 1, 0, 0, 0), (.arraylength, 1, 0, 0, 0, 0, 0)] (by decide +kernel) (show m_sgl X _ _ _ _ _ = some (8, [some (.ref 44), some (.ref 90)], [.int (Int32.ofNat 60), .int (Int32.ofNat 60), .int (0 : Int32), .ref 90, .int (0 : Int32), .ref 44], (SH, m.1, m.2)) from rfl) ?_
  obtain ⟨q1, hc1, h⟩ := Option.bind_eq_some_iff.mp h
  refine m_R_cS (v := (some (.int q1.1))) (h1 := (SH, q1.2)) (rest := [.int (0 : Int32), .ref 90, .int (0 : Int32), .ref 44]) (lo' := [some (.int (Int32.ofNat 60)), some (.int (Int32.ofNat 60))]) (ml := 2) (by decide) (m_opb_of (ins := .invokestatic 219) (len := 3) (tag := 4) (a := 50) (b := 2) (c := 0) (q := 893) (by decide +kernel)) (by decide +kernel) (Nat.le_of_ble_eq_true rfl) rfl (Nat.le_of_ble_eq_true rfl) rfl rfl (ok_Math_min_II X (d + 0) F _ _ _ _ _ hc1) ?_
  obtain ⟨c0, h⟩ := m_ite_n h
  refine m_R_cpy (by decide) (m_opb_of (ins := .invokestatic 452) (len := 3) (tag := 8) (a := 0) (b := 0) (c := 0) (q := 1391) (by decide +kernel)) (Nat.le_of_ble_eq_true rfl) (m_cpy_of sh_44 sh_90 c0) ?_
  obtain ⟨rfl, rfl⟩ := m_some h
  exact m_R_vret (by decide) (m_opb_of (ins := .return_) (len := 1) (tag := 3) (a := 0) (b := 0) (c := 0) (q := 0) (by decide +kernel))
def f_Papers_become_77_31 (F : Nat)    (m : mM) : Option (Unit × mM) := ((f_x_copyAll_32_78 F m).bind fun q1 => ((f_x_copyAll_33_79 F q1.2).bind fun q2 => ((f_x_copyAll_34_80 F q2.2).bind fun q3 => ((f_x_copyAll_35_81 F q3.2).bind fun q4 => ((f_x_copyAll_36_82 F q4.2).bind fun q5 => ((f_x_copyAll_37_83 F q5.2).bind fun q6 => ((f_x_copyAll_38_84 F q6.2).bind fun q7 => ((f_x_copyAll_39_85 F q7.2).bind fun q8 => ((f_x_copyAll_40_86 F q8.2).bind fun q9 => ((f_x_copyAll_41_87 F q9.2).bind fun q10 => ((f_x_copyAll_42_88 F q10.2).bind fun q11 => ((f_x_copyAll_43_89 F q11.2).bind fun q12 => ((f_x_copyAll_44_90 F q12.2).bind fun q13 => some ((), ((m_up (m_up q13.2.1 77 14 (q13.2.1 31 14)) 77 15 ((m_up q13.2.1 77 14 (q13.2.1 31 14)) 31 15)), q13.2.2)))))))))))))))
theorem ok_Papers_become_77_31 (X : mX) (d F : Nat) : ∀   (m : mM) (r : Unit) (m' : mM), f_Papers_become_77_31 F  m = some (r, m') → m_R X (d + 2) 178 0 [some (.ref 77), some (.ref 31)] [] (SH, m) (none, (SH, m')) := by
  intro m r m' h
  unfold f_Papers_become_77_31 at h
  refine m_R_sg (by decide) [(.aload_n 1, 1, 0, 1, 0, 0, 0), (.getfield 9, 3, 0, 4, 0, 3, 317), (.aload_n 0, 1, 0, 0, 0, 0, 0), (.getfield 9, 3, 0, 4, 0, 3, 317)] (by decide +kernel) (show m_sgl X _ _ _ _ _ = some (8, [some (.ref 77), some (.ref 31)], [.ref 78, .ref 32], (SH, m.1, m.2)) from rfl) ?_
  obtain ⟨q1, hc1, h⟩ := Option.bind_eq_some_iff.mp h
  refine m_R_cS (v := none) (h1 := (SH, q1.2)) (rest := []) (lo' := [some (.ref 32), some (.ref 78)]) (ml := 2) (by decide) (m_opb_of (ins := .invokestatic 55) (len := 3) (tag := 4) (a := 176) (b := 2) (c := 1) (q := 1401) (by decide +kernel)) (by decide +kernel) (Nat.le_of_ble_eq_true rfl) rfl (Nat.le_of_ble_eq_true rfl) rfl rfl (ok_x_copyAll_32_78 X (d + 0) F _ _ _ hc1) ?_
  refine m_R_sg (by decide) [(.aload_n 1, 1, 0, 1, 0, 0, 0), (.getfield 15, 3, 0, 4, 1, 3, 321), (.aload_n 0, 1, 0, 0, 0, 0, 0), (.getfield 15, 3, 0, 4, 1, 3, 321)] (by decide +kernel) (show m_sgl X _ _ _ _ _ = some (19, [some (.ref 77), some (.ref 31)], [.ref 79, .ref 33], (SH, q1.2.1, q1.2.2)) from rfl) ?_
  obtain ⟨q2, hc2, h⟩ := Option.bind_eq_some_iff.mp h
  refine m_R_cS (v := none) (h1 := (SH, q2.2)) (rest := []) (lo' := [some (.ref 33), some (.ref 79)]) (ml := 2) (by decide) (m_opb_of (ins := .invokestatic 55) (len := 3) (tag := 4) (a := 176) (b := 2) (c := 1) (q := 1401) (by decide +kernel)) (by decide +kernel) (Nat.le_of_ble_eq_true rfl) rfl (Nat.le_of_ble_eq_true rfl) rfl rfl (ok_x_copyAll_33_79 X (d + 0) F _ _ _ hc2) ?_
  refine m_R_sg (by decide) [(.aload_n 1, 1, 0, 1, 0, 0, 0), (.getfield 18, 3, 0, 4, 2, 3, 325), (.aload_n 0, 1, 0, 0, 0, 0, 0), (.getfield 18, 3, 0, 4, 2, 3, 325)] (by decide +kernel) (show m_sgl X _ _ _ _ _ = some (30, [some (.ref 77), some (.ref 31)], [.ref 80, .ref 34], (SH, q2.2.1, q2.2.2)) from rfl) ?_
  obtain ⟨q3, hc3, h⟩ := Option.bind_eq_some_iff.mp h
  refine m_R_cS (v := none) (h1 := (SH, q3.2)) (rest := []) (lo' := [some (.ref 34), some (.ref 80)]) (ml := 2) (by decide) (m_opb_of (ins := .invokestatic 55) (len := 3) (tag := 4) (a := 176) (b := 2) (c := 1) (q := 1401) (by decide +kernel)) (by decide +kernel) (Nat.le_of_ble_eq_true rfl) rfl (Nat.le_of_ble_eq_true rfl) rfl rfl (ok_x_copyAll_34_80 X (d + 0) F _ _ _ hc3) ?_
  refine m_R_sg (by decide) [(.aload_n 1, 1, 0, 1, 0, 0, 0), (.getfield 21, 3, 0, 4, 3, 3, 329), (.aload_n 0, 1, 0, 0, 0, 0, 0), (.getfield 21, 3, 0, 4, 3, 3, 329)] (by decide +kernel) (show m_sgl X _ _ _ _ _ = some (41, [some (.ref 77), some (.ref 31)], [.ref 81, .ref 35], (SH, q3.2.1, q3.2.2)) from rfl) ?_
  obtain ⟨q4, hc4, h⟩ := Option.bind_eq_some_iff.mp h
  refine m_R_cS (v := none) (h1 := (SH, q4.2)) (rest := []) (lo' := [some (.ref 35), some (.ref 81)]) (ml := 2) (by decide) (m_opb_of (ins := .invokestatic 55) (len := 3) (tag := 4) (a := 176) (b := 2) (c := 1) (q := 1401) (by decide +kernel)) (by decide +kernel) (Nat.le_of_ble_eq_true rfl) rfl (Nat.le_of_ble_eq_true rfl) rfl rfl (ok_x_copyAll_35_81 X (d + 0) F _ _ _ hc4) ?_
  refine m_R_sg (by decide) [(.aload_n 1, 1, 0, 1, 0, 0, 0), (.getfield 24, 3, 0, 4, 4, 3, 333), (.aload_n 0, 1, 0, 0, 0, 0, 0), (.getfield 24, 3, 0, 4, 4, 3, 333)] (by decide +kernel) (show m_sgl X _ _ _ _ _ = some (52, [some (.ref 77), some (.ref 31)], [.ref 82, .ref 36], (SH, q4.2.1, q4.2.2)) from rfl) ?_
  obtain ⟨q5, hc5, h⟩ := Option.bind_eq_some_iff.mp h
  refine m_R_cS (v := none) (h1 := (SH, q5.2)) (rest := []) (lo' := [some (.ref 36), some (.ref 82)]) (ml := 2) (by decide) (m_opb_of (ins := .invokestatic 55) (len := 3) (tag := 4) (a := 176) (b := 2) (c := 1) (q := 1401) (by decide +kernel)) (by decide +kernel) (Nat.le_of_ble_eq_true rfl) rfl (Nat.le_of_ble_eq_true rfl) rfl rfl (ok_x_copyAll_36_82 X (d + 0) F _ _ _ hc5) ?_
  refine m_R_sg (by decide) [(.aload_n 1, 1, 0, 1, 0, 0, 0), (.getfield 27, 3, 0, 4, 5, 3, 336), (.aload_n 0, 1, 0, 0, 0, 0, 0), (.getfield 27, 3, 0, 4, 5, 3, 336)] (by decide +kernel) (show m_sgl X _ _ _ _ _ = some (63, [some (.ref 77), some (.ref 31)], [.ref 83, .ref 37], (SH, q5.2.1, q5.2.2)) from rfl) ?_
  obtain ⟨q6, hc6, h⟩ := Option.bind_eq_some_iff.mp h
  refine m_R_cS (v := none) (h1 := (SH, q6.2)) (rest := []) (lo' := [some (.ref 37), some (.ref 83)]) (ml := 2) (by decide) (m_opb_of (ins := .invokestatic 55) (len := 3) (tag := 4) (a := 176) (b := 2) (c := 1) (q := 1401) (by decide +kernel)) (by decide +kernel) (Nat.le_of_ble_eq_true rfl) rfl (Nat.le_of_ble_eq_true rfl) rfl rfl (ok_x_copyAll_37_83 X (d + 0) F _ _ _ hc6) ?_
  refine m_R_sg (by decide) [(.aload_n 1, 1, 0, 1, 0, 0, 0), (.getfield 30, 3, 0, 4, 6, 3, 339), (.aload_n 0, 1, 0, 0, 0, 0, 0), (.getfield 30, 3, 0, 4, 6, 3, 339)] (by decide +kernel) (show m_sgl X _ _ _ _ _ = some (74, [some (.ref 77), some (.ref 31)], [.ref 84, .ref 38], (SH, q6.2.1, q6.2.2)) from rfl) ?_
  obtain ⟨q7, hc7, h⟩ := Option.bind_eq_some_iff.mp h
  refine m_R_cS (v := none) (h1 := (SH, q7.2)) (rest := []) (lo' := [some (.ref 38), some (.ref 84)]) (ml := 2) (by decide) (m_opb_of (ins := .invokestatic 55) (len := 3) (tag := 4) (a := 176) (b := 2) (c := 1) (q := 1401) (by decide +kernel)) (by decide +kernel) (Nat.le_of_ble_eq_true rfl) rfl (Nat.le_of_ble_eq_true rfl) rfl rfl (ok_x_copyAll_38_84 X (d + 0) F _ _ _ hc7) ?_
  refine m_R_sg (by decide) [(.aload_n 1, 1, 0, 1, 0, 0, 0), (.getfield 33, 3, 0, 4, 7, 3, 342), (.aload_n 0, 1, 0, 0, 0, 0, 0), (.getfield 33, 3, 0, 4, 7, 3, 342)] (by decide +kernel) (show m_sgl X _ _ _ _ _ = some (85, [some (.ref 77), some (.ref 31)], [.ref 85, .ref 39], (SH, q7.2.1, q7.2.2)) from rfl) ?_
  obtain ⟨q8, hc8, h⟩ := Option.bind_eq_some_iff.mp h
  refine m_R_cS (v := none) (h1 := (SH, q8.2)) (rest := []) (lo' := [some (.ref 39), some (.ref 85)]) (ml := 2) (by decide) (m_opb_of (ins := .invokestatic 55) (len := 3) (tag := 4) (a := 176) (b := 2) (c := 1) (q := 1401) (by decide +kernel)) (by decide +kernel) (Nat.le_of_ble_eq_true rfl) rfl (Nat.le_of_ble_eq_true rfl) rfl rfl (ok_x_copyAll_39_85 X (d + 0) F _ _ _ hc8) ?_
  refine m_R_sg (by decide) [(.aload_n 1, 1, 0, 1, 0, 0, 0), (.getfield 36, 3, 0, 4, 8, 3, 345), (.aload_n 0, 1, 0, 0, 0, 0, 0), (.getfield 36, 3, 0, 4, 8, 3, 345)] (by decide +kernel) (show m_sgl X _ _ _ _ _ = some (96, [some (.ref 77), some (.ref 31)], [.ref 86, .ref 40], (SH, q8.2.1, q8.2.2)) from rfl) ?_
  obtain ⟨q9, hc9, h⟩ := Option.bind_eq_some_iff.mp h
  refine m_R_cS (v := none) (h1 := (SH, q9.2)) (rest := []) (lo' := [some (.ref 40), some (.ref 86)]) (ml := 2) (by decide) (m_opb_of (ins := .invokestatic 55) (len := 3) (tag := 4) (a := 176) (b := 2) (c := 1) (q := 1401) (by decide +kernel)) (by decide +kernel) (Nat.le_of_ble_eq_true rfl) rfl (Nat.le_of_ble_eq_true rfl) rfl rfl (ok_x_copyAll_40_86 X (d + 0) F _ _ _ hc9) ?_
  refine m_R_sg (by decide) [(.aload_n 1, 1, 0, 1, 0, 0, 0), (.getfield 39, 3, 0, 4, 9, 3, 348), (.aload_n 0, 1, 0, 0, 0, 0, 0), (.getfield 39, 3, 0, 4, 9, 3, 348)] (by decide +kernel) (show m_sgl X _ _ _ _ _ = some (107, [some (.ref 77), some (.ref 31)], [.ref 87, .ref 41], (SH, q9.2.1, q9.2.2)) from rfl) ?_
  obtain ⟨q10, hc10, h⟩ := Option.bind_eq_some_iff.mp h
  refine m_R_cS (v := none) (h1 := (SH, q10.2)) (rest := []) (lo' := [some (.ref 41), some (.ref 87)]) (ml := 2) (by decide) (m_opb_of (ins := .invokestatic 55) (len := 3) (tag := 4) (a := 176) (b := 2) (c := 1) (q := 1401) (by decide +kernel)) (by decide +kernel) (Nat.le_of_ble_eq_true rfl) rfl (Nat.le_of_ble_eq_true rfl) rfl rfl (ok_x_copyAll_41_87 X (d + 0) F _ _ _ hc10) ?_
  refine m_R_sg (by decide) [(.aload_n 1, 1, 0, 1, 0, 0, 0), (.getfield 42, 3, 0, 4, 10, 3, 351), (.aload_n 0, 1, 0, 0, 0, 0, 0), (.getfield 42, 3, 0, 4, 10, 3, 351)] (by decide +kernel) (show m_sgl X _ _ _ _ _ = some (118, [some (.ref 77), some (.ref 31)], [.ref 88, .ref 42], (SH, q10.2.1, q10.2.2)) from rfl) ?_
  obtain ⟨q11, hc11, h⟩ := Option.bind_eq_some_iff.mp h
  refine m_R_cS (v := none) (h1 := (SH, q11.2)) (rest := []) (lo' := [some (.ref 42), some (.ref 88)]) (ml := 2) (by decide) (m_opb_of (ins := .invokestatic 55) (len := 3) (tag := 4) (a := 176) (b := 2) (c := 1) (q := 1401) (by decide +kernel)) (by decide +kernel) (Nat.le_of_ble_eq_true rfl) rfl (Nat.le_of_ble_eq_true rfl) rfl rfl (ok_x_copyAll_42_88 X (d + 0) F _ _ _ hc11) ?_
  refine m_R_sg (by decide) [(.aload_n 1, 1, 0, 1, 0, 0, 0), (.getfield 45, 3, 0, 4, 11, 3, 354), (.aload_n 0, 1, 0, 0, 0, 0, 0), (.getfield 45, 3, 0, 4, 11, 3, 354)] (by decide +kernel) (show m_sgl X _ _ _ _ _ = some (129, [some (.ref 77), some (.ref 31)], [.ref 89, .ref 43], (SH, q11.2.1, q11.2.2)) from rfl) ?_
  obtain ⟨q12, hc12, h⟩ := Option.bind_eq_some_iff.mp h
  refine m_R_cS (v := none) (h1 := (SH, q12.2)) (rest := []) (lo' := [some (.ref 43), some (.ref 89)]) (ml := 2) (by decide) (m_opb_of (ins := .invokestatic 55) (len := 3) (tag := 4) (a := 176) (b := 2) (c := 1) (q := 1401) (by decide +kernel)) (by decide +kernel) (Nat.le_of_ble_eq_true rfl) rfl (Nat.le_of_ble_eq_true rfl) rfl rfl (ok_x_copyAll_43_89 X (d + 0) F _ _ _ hc12) ?_
  refine m_R_sg (by decide) [(.aload_n 1, 1, 0, 1, 0, 0, 0), (.getfield 48, 3, 0, 4, 12, 3, 357), (.aload_n 0, 1, 0, 0, 0, 0, 0), (.getfield 48, 3, 0, 4, 12, 3, 357)] (by decide +kernel) (show m_sgl X _ _ _ _ _ = some (140, [some (.ref 77), some (.ref 31)], [.ref 90, .ref 44], (SH, q12.2.1, q12.2.2)) from rfl) ?_
  obtain ⟨q13, hc13, h⟩ := Option.bind_eq_some_iff.mp h
  refine m_R_cS (v := none) (h1 := (SH, q13.2)) (rest := []) (lo' := [some (.ref 44), some (.ref 90)]) (ml := 2) (by decide) (m_opb_of (ins := .invokestatic 55) (len := 3) (tag := 4) (a := 176) (b := 2) (c := 1) (q := 1401) (by decide +kernel)) (by decide +kernel) (Nat.le_of_ble_eq_true rfl) rfl (Nat.le_of_ble_eq_true rfl) rfl rfl (ok_x_copyAll_44_90 X (d + 0) F _ _ _ hc13) ?_
  refine m_R_sg (by decide) [(.aload_n 0, 1, 0, 0, 0, 0, 0), (.aload_n 1, 1, 0, 1, 0, 0, 0), (.getfield 59, 3, 0, 4, 14, 0, 361), (.putfield 59, 3, 0, 4, 14, 0, 361), (.aload_n 0, 1, 0, 0, 0, 0, 0), (.aload_n 1, 1, 0, 1, 0, 0, 0), (.getfield 63, 3, 0, 4, 15, 0, 363), (.putfield 63, 3, 0, 4, 15, 0, 363)] (by decide +kernel) (show m_sgl X _ _ _ _ _ = some (159, [some (.ref 77), some (.ref 31)], [], (SH, (m_up (m_up q13.2.1 77 14 (q13.2.1 31 14)) 77 15 ((m_up q13.2.1 77 14 (q13.2.1 31 14)) 31 15)), q13.2.2)) from rfl) ?_
  obtain ⟨rfl, rfl⟩ := m_some h
  exact m_R_vret (by decide) (m_opb_of (ins := .return_) (len := 1) (tag := 3) (a := 0) (b := 0) (c := 0) (q := 0) (by decide +kernel))
def f_x_copyAll_47_93 (F : Nat)    (m : mM) : Option (Unit × mM) := ((f_Math_min_II F (Int32.ofNat 8) (Int32.ofNat 8) m).bind fun q1 => (if (0 : Int32) < 0 ∨ (0 : Int32) < 0 ∨ q1.1 < 0 ∨ 8 < (0 : Int32).toNatClampNeg + q1.1.toNatClampNeg ∨ 8 < (0 : Int32).toNatClampNeg + q1.1.toNatClampNeg then none else some ((), ((m_row q1.2.1 93 (va_cpy (q1.2.1 47) (q1.2.1 93) (0 : Int32).toNatClampNeg (0 : Int32).toNatClampNeg q1.1.toNatClampNeg)), q1.2.2))))
theorem ok_x_copyAll_47_93 (X : mX) (d F : Nat) : ∀   (m : mM) (r : Unit) (m' : mM), f_x_copyAll_47_93 F  m = some (r, m') → m_R X (d + 1) 176 0 [some (.ref 47), some (.ref 93)] [] (SH, m) (none, (SH, m')) := by
  intro m r m' h
  unfold f_x_copyAll_47_93 at h
  refine m_R_sg (by decide) [(.aload_n 0, 1, 0, 0, 0, 0, 0), (.iconst 0, 1, 0, 0, 0, 0, 0), (.aload_n 1, 1, 0, 1, 0, 0, 0), (.iconst 0, 1, 0, 0, 0, 0, 0), (.aload_n 0, 1, 0, 0, 0, 0, 0), (.arraylength, 1, 0, 0, 0, 0, 0), (.aload_n 1, 1, 0, 1, 0, 0, 0), (.arraylength, 1, 0, 0, 0, 0, 0)] (by decide +kernel) (show m_sgl X _ _ _ _ _ = some (8, [some (.ref 47), some (.ref 93)], [.int (Int32.ofNat 8), .int (Int32.ofNat 8), .int (0 : Int32), .ref 93, .int (0 : Int32), .ref 47], (SH, m.1, m.2)) from rfl) ?_
  obtain ⟨q1, hc1, h⟩ := Option.bind_eq_some_iff.mp h
  refine m_R_cS (v := (some (.int q1.1))) (h1 := (SH, q1.2)) (rest := [.int (0 : Int32), .ref 93, .int (0 : Int32), .ref 47]) (lo' := [some (.int (Int32.ofNat 8)), some (.int (Int32.ofNat 8))]) (ml := 2) (by decide) (m_opb_of (ins := .invokestatic 219) (len := 3) (tag := 4) (a := 50) (b := 2) (c := 0) (q := 893) (by decide +kernel)) (by decide +kernel) (Nat.le_of_ble_eq_true rfl) rfl (Nat.le_of_ble_eq_true rfl) rfl rfl (ok_Math_min_II X (d + 0) F _ _ _ _ _ hc1) ?_
  obtain ⟨c0, h⟩ := m_ite_n h
  refine m_R_cpy (by decide) (m_opb_of (ins := .invokestatic 452) (len := 3) (tag := 8) (a := 0) (b := 0) (c := 0) (q := 1391) (by decide +kernel)) (Nat.le_of_ble_eq_true rfl) (m_cpy_of sh_47 sh_93 c0) ?_
  obtain ⟨rfl, rfl⟩ := m_some h
  exact m_R_vret (by decide) (m_opb_of (ins := .return_) (len := 1) (tag := 3) (a := 0) (b := 0) (c := 0) (q := 0) (by decide +kernel))
def f_x_copyAll_48_94 (F : Nat)    (m : mM) : Option (Unit × mM) := ((f_Math_min_II F (Int32.ofNat 8) (Int32.ofNat 8) m).bind fun q1 => (if (0 : Int32) < 0 ∨ (0 : Int32) < 0 ∨ q1.1 < 0 ∨ 8 < (0 : Int32).toNatClampNeg + q1.1.toNatClampNeg ∨ 8 < (0 : Int32).toNatClampNeg + q1.1.toNatClampNeg then none else some ((), ((m_row q1.2.1 94 (va_cpy (q1.2.1 48) (q1.2.1 94) (0 : Int32).toNatClampNeg (0 : Int32).toNatClampNeg q1.1.toNatClampNeg)), q1.2.2))))
theorem ok_x_copyAll_48_94 (X : mX) (d F : Nat) : ∀   (m : mM) (r : Unit) (m' : mM), f_x_copyAll_48_94 F  m = some (r, m') → m_R X (d + 1) 176 0 [some (.ref 48), some (.ref 94)] [] (SH, m) (none, (SH, m')) := by
  intro m r m' h
  unfold f_x_copyAll_48_94 at h
  refine m_R_sg (by decide) [(.aload_n 0, 1, 0, 0, 0, 0, 0), (.iconst 0, 1, 0, 0, 0, 0, 0), (.aload_n 1, 1, 0, 1, 0, 0, 0), (.iconst 0, 1, 0, 0, 0, 0, 0), (.aload_n 0, 1, 0, 0, 0, 0, 0), (.arraylength, 1, 0, 0, 0, 0, 0), (.aload_n 1, 1, 0, 1, 0, 0, 0), (.arraylength, 1, 0, 0, 0, 0, 0)] (by decide +kernel) (show m_sgl X _ _ _ _ _ = some (8, [some (.ref 48), some (.ref 94)], [.int (Int32.ofNat 8), .int (Int32.ofNat 8), .int (0 : Int32), .ref 94, .int (0 : Int32), .ref 48], (SH, m.1, m.2)) from rfl) ?_
  obtain ⟨q1, hc1, h⟩ := Option.bind_eq_some_iff.mp h
  refine m_R_cS (v := (some (.int q1.1))) (h1 := (SH, q1.2)) (rest := [.int (0 : Int32), .ref 94, .int (0 : Int32), .ref 48]) (lo' := [some (.int (Int32.ofNat 8)), some (.int (Int32.ofNat 8))]) (ml := 2) (by decide) (m_opb_of (ins := .invokestatic 219) (len := 3) (tag := 4) (a := 50) (b := 2) (c := 0) (q := 893) (by decide +kernel)) (by decide +kernel) (Nat.le_of_ble_eq_true rfl) rfl (Nat.le_of_ble_eq_true rfl) rfl rfl (ok_Math_min_II X (d + 0) F _ _ _ _ _ hc1) ?_
  obtain ⟨c0, h⟩ := m_ite_n h
  refine m_R_cpy (by decide) (m_opb_of (ins := .invokestatic 452) (len := 3) (tag := 8) (a := 0) (b := 0) (c := 0) (q := 1391) (by decide +kernel)) (Nat.le_of_ble_eq_true rfl) (m_cpy_of sh_48 sh_94 c0) ?_
  obtain ⟨rfl, rfl⟩ := m_some h
  exact m_R_vret (by decide) (m_opb_of (ins := .return_) (len := 1) (tag := 3) (a := 0) (b := 0) (c := 0) (q := 0) (by decide +kernel))
def f_x_copyAll_49_95 (F : Nat)    (m : mM) : Option (Unit × mM) := ((f_Math_min_II F (Int32.ofNat 8) (Int32.ofNat 8) m).bind fun q1 => (if (0 : Int32) < 0 ∨ (0 : Int32) < 0 ∨ q1.1 < 0 ∨ 8 < (0 : Int32).toNatClampNeg + q1.1.toNatClampNeg ∨ 8 < (0 : Int32).toNatClampNeg + q1.1.toNatClampNeg then none else some ((), ((m_row q1.2.1 95 (va_cpy (q1.2.1 49) (q1.2.1 95) (0 : Int32).toNatClampNeg (0 : Int32).toNatClampNeg q1.1.toNatClampNeg)), q1.2.2))))
theorem ok_x_copyAll_49_95 (X : mX) (d F : Nat) : ∀   (m : mM) (r : Unit) (m' : mM), f_x_copyAll_49_95 F  m = some (r, m') → m_R X (d + 1) 176 0 [some (.ref 49), some (.ref 95)] [] (SH, m) (none, (SH, m')) := by
  intro m r m' h
  unfold f_x_copyAll_49_95 at h
  refine m_R_sg (by decide) [(.aload_n 0, 1, 0, 0, 0, 0, 0), (.iconst 0, 1, 0, 0, 0, 0, 0), (.aload_n 1, 1, 0, 1, 0, 0, 0), (.iconst 0, 1, 0, 0, 0, 0, 0), (.aload_n 0, 1, 0, 0, 0, 0, 0), (.arraylength, 1, 0, 0, 0, 0, 0), (.aload_n 1, 1, 0, 1, 0, 0, 0), (.arraylength, 1, 0, 0, 0, 0, 0)] (by decide +kernel) (show m_sgl X _ _ _ _ _ = some (8, [some (.ref 49), some (.ref 95)], [.int (Int32.ofNat 8), .int (Int32.ofNat 8), .int (0 : Int32), .ref 95, .int (0 : Int32), .ref 49], (SH, m.1, m.2)) from rfl) ?_
  obtain ⟨q1, hc1, h⟩ := Option.bind_eq_some_iff.mp h
  refine m_R_cS (v := (some (.int q1.1))) (h1 := (SH, q1.2)) (rest := [.int (0 : Int32), .ref 95, .int (0 : Int32), .ref 49]) (lo' := [some (.int (Int32.ofNat 8)), some (.int (Int32.ofNat 8))]) (ml := 2) (by decide) (m_opb_of (ins := .invokestatic 219) (len := 3) (tag := 4) (a := 50) (b := 2) (c := 0) (q := 893) (by decide +kernel)) (by decide +kernel) (Nat.le_of_ble_eq_true rfl) rfl (Nat.le_of_ble_eq_true rfl) rfl rfl (ok_Math_min_II X (d + 0) F _ _ _ _ _ hc1) ?_
  obtain ⟨c0, h⟩ := m_ite_n h
  refine m_R_cpy (by decide) (m_opb_of (ins := .invokestatic 452) (len := 3) (tag := 8) (a := 0) (b := 0) (c := 0) (q := 1391) (by decide +kernel)) (Nat.le_of_ble_eq_true rfl) (m_cpy_of sh_49 sh_95 c0) ?_
  obtain ⟨rfl, rfl⟩ := m_some h
  exact m_R_vret (by decide) (m_opb_of (ins := .return_) (len := 1) (tag := 3) (a := 0) (b := 0) (c := 0) (q := 0) (by decide +kernel))
def f_x_copyAll_50_96 (F : Nat)    (m : mM) : Option (Unit × mM) := ((f_Math_min_II F (Int32.ofNat 8) (Int32.ofNat 8) m).bind fun q1 => (if (0 : Int32) < 0 ∨ (0 : Int32) < 0 ∨ q1.1 < 0 ∨ 8 < (0 : Int32).toNatClampNeg + q1.1.toNatClampNeg ∨ 8 < (0 : Int32).toNatClampNeg + q1.1.toNatClampNeg then none else some ((), ((m_row q1.2.1 96 (va_cpy (q1.2.1 50) (q1.2.1 96) (0 : Int32).toNatClampNeg (0 : Int32).toNatClampNeg q1.1.toNatClampNeg)), q1.2.2))))
theorem ok_x_copyAll_50_96 (X : mX) (d F : Nat) : ∀   (m : mM) (r : Unit) (m' : mM), f_x_copyAll_50_96 F  m = some (r, m') → m_R X (d + 1) 176 0 [some (.ref 50), some (.ref 96)] [] (SH, m) (none, (SH, m')) := by
  intro m r m' h
  unfold f_x_copyAll_50_96 at h
  refine m_R_sg (by decide) [(.aload_n 0, 1, 0, 0, 0, 0, 0), (.iconst 0, 1, 0, 0, 0, 0, 0), (.aload_n 1, 1, 0, 1, 0, 0, 0), (.iconst 0, 1, 0, 0, 0, 0, 0), (.aload_n 0, 1, 0, 0, 0, 0, 0), (.arraylength, 1, 0, 0, 0, 0, 0), (.aload_n 1, 1, 0, 1, 0, 0, 0), (.arraylength, 1, 0, 0, 0, 0, 0)] (by decide +kernel) (show m_sgl X _ _ _ _ _ = some (8, [some (.ref 50), some (.ref 96)], [.int (Int32.ofNat 8), .int (Int32.ofNat 8), .int (0 : Int32), .ref 96, .int (0 : Int32), .ref 50], (SH, m.1, m.2)) from rfl) ?_
  obtain ⟨q1, hc1, h⟩ := Option.bind_eq_some_iff.mp h
  refine m_R_cS (v := (some (.int q1.1))) (h1 := (SH, q1.2)) (rest := [.int (0 : Int32), .ref 96, .int (0 : Int32), .ref 50]) (lo' := [some (.int (Int32.ofNat 8)), some (.int (Int32.ofNat 8))]) (ml := 2) (by decide) (m_opb_of (ins := .invokestatic 219) (len := 3) (tag := 4) (a := 50) (b := 2) (c := 0) (q := 893) (by decide +kernel)) (by decide +kernel) (Nat.le_of_ble_eq_true rfl) rfl (Nat.le_of_ble_eq_true rfl) rfl rfl (ok_Math_min_II X (d + 0) F _ _ _ _ _ hc1) ?_
  obtain ⟨c0, h⟩ := m_ite_n h
  refine m_R_cpy (by decide) (m_opb_of (ins := .invokestatic 452) (len := 3) (tag := 8) (a := 0) (b := 0) (c := 0) (q := 1391) (by decide +kernel)) (Nat.le_of_ble_eq_true rfl) (m_cpy_of sh_50 sh_96 c0) ?_
  obtain ⟨rfl, rfl⟩ := m_some h
  exact m_R_vret (by decide) (m_opb_of (ins := .return_) (len := 1) (tag := 3) (a := 0) (b := 0) (c := 0) (q := 0) (by decide +kernel))
def f_x_copyAll_51_97 (F : Nat)    (m : mM) : Option (Unit × mM) := ((f_Math_min_II F (Int32.ofNat 8) (Int32.ofNat 8) m).bind fun q1 => (if (0 : Int32) < 0 ∨ (0 : Int32) < 0 ∨ q1.1 < 0 ∨ 8 < (0 : Int32).toNatClampNeg + q1.1.toNatClampNeg ∨ 8 < (0 : Int32).toNatClampNeg + q1.1.toNatClampNeg then none else some ((), ((m_row q1.2.1 97 (va_cpy (q1.2.1 51) (q1.2.1 97) (0 : Int32).toNatClampNeg (0 : Int32).toNatClampNeg q1.1.toNatClampNeg)), q1.2.2))))
theorem ok_x_copyAll_51_97 (X : mX) (d F : Nat) : ∀   (m : mM) (r : Unit) (m' : mM), f_x_copyAll_51_97 F  m = some (r, m') → m_R X (d + 1) 176 0 [some (.ref 51), some (.ref 97)] [] (SH, m) (none, (SH, m')) := by
  intro m r m' h
  unfold f_x_copyAll_51_97 at h
  refine m_R_sg (by decide) [(.aload_n 0, 1, 0, 0, 0, 0, 0), (.iconst 0, 1, 0, 0, 0, 0, 0), (.aload_n 1, 1, 0, 1, 0, 0, 0), (.iconst 0, 1, 0, 0, 0, 0, 0), (.aload_n 0, 1, 0, 0, 0, 0, 0), (.arraylength, 1, 0, 0, 0, 0, 0), (.aload_n 1, 1, 0, 1, 0, 0, 0), (.arraylength, 1, 0, 0, 0, 0, 0)] (by decide +kernel) (show m_sgl X _ _ _ _ _ = some (8, [some (.ref 51), some (.ref 97)], [.int (Int32.ofNat 8), .int (Int32.ofNat 8), .int (0 : Int32), .ref 97, .int (0 : Int32), .ref 51], (SH, m.1, m.2)) from rfl) ?_
  obtain ⟨q1, hc1, h⟩ := Option.bind_eq_some_iff.mp h
  refine m_R_cS (v := (some (.int q1.1))) (h1 := (SH, q1.2)) (rest := [.int (0 : Int32), .ref 97, .int (0 : Int32), .ref 51]) (lo' := [some (.int (Int32.ofNat 8)), some (.int (Int32.ofNat 8))]) (ml := 2) (by decide) (m_opb_of (ins := .invokestatic 219) (len := 3) (tag := 4) (a := 50) (b := 2) (c := 0) (q := 893) (by decide +kernel)) (by decide +kernel) (Nat.le_of_ble_eq_true rfl) rfl (Nat.le_of_ble_eq_true rfl) rfl rfl (ok_Math_min_II X (d + 0) F _ _ _ _ _ hc1) ?_
  obtain ⟨c0, h⟩ := m_ite_n h
  refine m_R_cpy (by decide) (m_opb_of (ins := .invokestatic 452) (len := 3) (tag := 8) (a := 0) (b := 0) (c := 0) (q := 1391) (by decide +kernel)) (Nat.le_of_ble_eq_true rfl) (m_cpy_of sh_51 sh_97 c0) ?_
  obtain ⟨rfl, rfl⟩ := m_some h
  exact m_R_vret (by decide) (m_opb_of (ins := .return_) (len := 1) (tag := 3) (a := 0) (b := 0) (c := 0) (q := 0) (by decide +kernel))
def f_Trades_become_92_46 (F : Nat)    (m : mM) : Option (Unit × mM) := ((f_x_copyAll_47_93 F m).bind fun q1 => ((f_x_copyAll_48_94 F q1.2).bind fun q2 => ((f_x_copyAll_49_95 F q2.2).bind fun q3 => ((f_x_copyAll_50_96 F q3.2).bind fun q4 => ((f_x_copyAll_51_97 F q4.2).bind fun q5 => some ((), ((m_up q5.2.1 92 5 (q5.2.1 46 5)), q5.2.2)))))))
theorem ok_Trades_become_92_46 (X : mX) (d F : Nat) : ∀   (m : mM) (r : Unit) (m' : mM), f_Trades_become_92_46 F  m = some (r, m') → m_R X (d + 2) 179 0 [some (.ref 92), some (.ref 46)] [] (SH, m) (none, (SH, m')) := by
  intro m r m' h
  unfold f_Trades_become_92_46 at h
  refine m_R_sg (by decide) [(.aload_n 1, 1, 0, 1, 0, 0, 0), (.getfield 9, 3, 0, 9, 0, 3, 406), (.aload_n 0, 1, 0, 0, 0, 0, 0), (.getfield 9, 3, 0, 9, 0, 3, 406)] (by decide +kernel) (show m_sgl X _ _ _ _ _ = some (8, [some (.ref 92), some (.ref 46)], [.ref 93, .ref 47], (SH, m.1, m.2)) from rfl) ?_
  obtain ⟨q1, hc1, h⟩ := Option.bind_eq_some_iff.mp h
  refine m_R_cS (v := none) (h1 := (SH, q1.2)) (rest := []) (lo' := [some (.ref 47), some (.ref 93)]) (ml := 2) (by decide) (m_opb_of (ins := .invokestatic 27) (len := 3) (tag := 4) (a := 176) (b := 2) (c := 1) (q := 1406) (by decide +kernel)) (by decide +kernel) (Nat.le_of_ble_eq_true rfl) rfl (Nat.le_of_ble_eq_true rfl) rfl rfl (ok_x_copyAll_47_93 X (d + 0) F _ _ _ hc1) ?_
  refine m_R_sg (by decide) [(.aload_n 1, 1, 0, 1, 0, 0, 0), (.getfield 15, 3, 0, 9, 1, 3, 408), (.aload_n 0, 1, 0, 0, 0, 0, 0), (.getfield 15, 3, 0, 9, 1, 3, 408)] (by decide +kernel) (show m_sgl X _ _ _ _ _ = some (19, [some (.ref 92), some (.ref 46)], [.ref 94, .ref 48], (SH, q1.2.1, q1.2.2)) from rfl) ?_
  obtain ⟨q2, hc2, h⟩ := Option.bind_eq_some_iff.mp h
  refine m_R_cS (v := none) (h1 := (SH, q2.2)) (rest := []) (lo' := [some (.ref 48), some (.ref 94)]) (ml := 2) (by decide) (m_opb_of (ins := .invokestatic 27) (len := 3) (tag := 4) (a := 176) (b := 2) (c := 1) (q := 1406) (by decide +kernel)) (by decide +kernel) (Nat.le_of_ble_eq_true rfl) rfl (Nat.le_of_ble_eq_true rfl) rfl rfl (ok_x_copyAll_48_94 X (d + 0) F _ _ _ hc2) ?_
  refine m_R_sg (by decide) [(.aload_n 1, 1, 0, 1, 0, 0, 0), (.getfield 18, 3, 0, 9, 2, 3, 410), (.aload_n 0, 1, 0, 0, 0, 0, 0), (.getfield 18, 3, 0, 9, 2, 3, 410)] (by decide +kernel) (show m_sgl X _ _ _ _ _ = some (30, [some (.ref 92), some (.ref 46)], [.ref 95, .ref 49], (SH, q2.2.1, q2.2.2)) from rfl) ?_
  obtain ⟨q3, hc3, h⟩ := Option.bind_eq_some_iff.mp h
  refine m_R_cS (v := none) (h1 := (SH, q3.2)) (rest := []) (lo' := [some (.ref 49), some (.ref 95)]) (ml := 2) (by decide) (m_opb_of (ins := .invokestatic 27) (len := 3) (tag := 4) (a := 176) (b := 2) (c := 1) (q := 1406) (by decide +kernel)) (by decide +kernel) (Nat.le_of_ble_eq_true rfl) rfl (Nat.le_of_ble_eq_true rfl) rfl rfl (ok_x_copyAll_49_95 X (d + 0) F _ _ _ hc3) ?_
  refine m_R_sg (by decide) [(.aload_n 1, 1, 0, 1, 0, 0, 0), (.getfield 21, 3, 0, 9, 3, 3, 412), (.aload_n 0, 1, 0, 0, 0, 0, 0), (.getfield 21, 3, 0, 9, 3, 3, 412)] (by decide +kernel) (show m_sgl X _ _ _ _ _ = some (41, [some (.ref 92), some (.ref 46)], [.ref 96, .ref 50], (SH, q3.2.1, q3.2.2)) from rfl) ?_
  obtain ⟨q4, hc4, h⟩ := Option.bind_eq_some_iff.mp h
  refine m_R_cS (v := none) (h1 := (SH, q4.2)) (rest := []) (lo' := [some (.ref 50), some (.ref 96)]) (ml := 2) (by decide) (m_opb_of (ins := .invokestatic 27) (len := 3) (tag := 4) (a := 176) (b := 2) (c := 1) (q := 1406) (by decide +kernel)) (by decide +kernel) (Nat.le_of_ble_eq_true rfl) rfl (Nat.le_of_ble_eq_true rfl) rfl rfl (ok_x_copyAll_50_96 X (d + 0) F _ _ _ hc4) ?_
  refine m_R_sg (by decide) [(.aload_n 1, 1, 0, 1, 0, 0, 0), (.getfield 24, 3, 0, 9, 4, 3, 414), (.aload_n 0, 1, 0, 0, 0, 0, 0), (.getfield 24, 3, 0, 9, 4, 3, 414)] (by decide +kernel) (show m_sgl X _ _ _ _ _ = some (52, [some (.ref 92), some (.ref 46)], [.ref 97, .ref 51], (SH, q4.2.1, q4.2.2)) from rfl) ?_
  obtain ⟨q5, hc5, h⟩ := Option.bind_eq_some_iff.mp h
  refine m_R_cS (v := none) (h1 := (SH, q5.2)) (rest := []) (lo' := [some (.ref 51), some (.ref 97)]) (ml := 2) (by decide) (m_opb_of (ins := .invokestatic 27) (len := 3) (tag := 4) (a := 176) (b := 2) (c := 1) (q := 1406) (by decide +kernel)) (by decide +kernel) (Nat.le_of_ble_eq_true rfl) rfl (Nat.le_of_ble_eq_true rfl) rfl rfl (ok_x_copyAll_51_97 X (d + 0) F _ _ _ hc5) ?_
  refine m_R_sg (by decide) [(.aload_n 0, 1, 0, 0, 0, 0, 0), (.aload_n 1, 1, 0, 1, 0, 0, 0), (.getfield 31, 3, 0, 9, 5, 0, 417), (.putfield 31, 3, 0, 9, 5, 0, 417)] (by decide +kernel) (show m_sgl X _ _ _ _ _ = some (63, [some (.ref 92), some (.ref 46)], [], (SH, (m_up q5.2.1 92 5 (q5.2.1 46 5)), q5.2.2)) from rfl) ?_
  obtain ⟨rfl, rfl⟩ := m_some h
  exact m_R_vret (by decide) (m_opb_of (ins := .return_) (len := 1) (tag := 3) (a := 0) (b := 0) (c := 0) (q := 0) (by decide +kernel))
def f_x_copyAll_53_99 (F : Nat)    (m : mM) : Option (Unit × mM) := ((f_Math_min_II F (Int32.ofNat 104) (Int32.ofNat 104) m).bind fun q1 => (if (0 : Int32) < 0 ∨ (0 : Int32) < 0 ∨ q1.1 < 0 ∨ 104 < (0 : Int32).toNatClampNeg + q1.1.toNatClampNeg ∨ 104 < (0 : Int32).toNatClampNeg + q1.1.toNatClampNeg then none else some ((), ((m_row q1.2.1 99 (va_cpy (q1.2.1 53) (q1.2.1 99) (0 : Int32).toNatClampNeg (0 : Int32).toNatClampNeg q1.1.toNatClampNeg)), q1.2.2))))
theorem ok_x_copyAll_53_99 (X : mX) (d F : Nat) : ∀   (m : mM) (r : Unit) (m' : mM), f_x_copyAll_53_99 F  m = some (r, m') → m_R X (d + 1) 176 0 [some (.ref 53), some (.ref 99)] [] (SH, m) (none, (SH, m')) := by
  intro m r m' h
  unfold f_x_copyAll_53_99 at h
  refine m_R_sg (by decide) [(.aload_n 0, 1, 0, 0, 0, 0, 0), (.iconst 0, 1, 0, 0, 0, 0, 0), (.aload_n 1, 1, 0, 1, 0, 0, 0), (.iconst 0, 1, 0, 0, 0, 0, 0), (.aload_n 0, 1, 0, 0, 0, 0, 0), (.arraylength, 1, 0, 0, 0, 0, 0), (.aload_n 1, 1, 0, 1, 0, 0, 0), (.arraylength, 1, 0, 0, 0, 0, 0)] (by decide +kernel) (show m_sgl X _ _ _ _ _ = some (8, [some (.ref 53), some (.ref 99)], [.int (Int32.ofNat 104), .int (Int32.ofNat 104), .int (0 : Int32), .ref 99, .int (0 : Int32), .ref 53], (SH, m.1, m.2)) from rfl) ?_
  obtain ⟨q1, hc1, h⟩ := Option.bind_eq_some_iff.mp h
  refine m_R_cS (v := (some (.int q1.1))) (h1 := (SH, q1.2)) (rest := [.int (0 : Int32), .ref 99, .int (0 : Int32), .ref 53]) (lo' := [some (.int (Int32.ofNat 104)), some (.int (Int32.ofNat 104))]) (ml := 2) (by decide) (m_opb_of (ins := .invokestatic 219) (len := 3) (tag := 4) (a := 50) (b := 2) (c := 0) (q := 893) (by decide +kernel)) (by decide +kernel) (Nat.le_of_ble_eq_true rfl) rfl (Nat.le_of_ble_eq_true rfl) rfl rfl (ok_Math_min_II X (d + 0) F _ _ _ _ _ hc1) ?_
  obtain ⟨c0, h⟩ := m_ite_n h
  refine m_R_cpy (by decide) (m_opb_of (ins := .invokestatic 452) (len := 3) (tag := 8) (a := 0) (b := 0) (c := 0) (q := 1391) (by decide +kernel)) (Nat.le_of_ble_eq_true rfl) (m_cpy_of sh_53 sh_99 c0) ?_
  obtain ⟨rfl, rfl⟩ := m_some h
  exact m_R_vret (by decide) (m_opb_of (ins := .return_) (len := 1) (tag := 3) (a := 0) (b := 0) (c := 0) (q := 0) (by decide +kernel))
def f_Seasons_become_98_52 (F : Nat)    (m : mM) : Option (Unit × mM) := ((f_x_copyAll_53_99 F m).bind fun q1 => some ((), q1.2))
theorem ok_Seasons_become_98_52 (X : mX) (d F : Nat) : ∀   (m : mM) (r : Unit) (m' : mM), f_Seasons_become_98_52 F  m = some (r, m') → m_R X (d + 2) 180 0 [some (.ref 98), some (.ref 52)] [] (SH, m) (none, (SH, m')) := by
  intro m r m' h
  unfold f_Seasons_become_98_52 at h
  refine m_R_sg (by decide) [(.aload_n 1, 1, 0, 1, 0, 0, 0), (.getfield 9, 3, 0, 7, 0, 3, 439), (.aload_n 0, 1, 0, 0, 0, 0, 0), (.getfield 9, 3, 0, 7, 0, 3, 439)] (by decide +kernel) (show m_sgl X _ _ _ _ _ = some (8, [some (.ref 98), some (.ref 52)], [.ref 99, .ref 53], (SH, m.1, m.2)) from rfl) ?_
  obtain ⟨q1, hc1, h⟩ := Option.bind_eq_some_iff.mp h
  refine m_R_cS (v := none) (h1 := (SH, q1.2)) (rest := []) (lo' := [some (.ref 53), some (.ref 99)]) (ml := 2) (by decide) (m_opb_of (ins := .invokestatic 15) (len := 3) (tag := 4) (a := 176) (b := 2) (c := 1) (q := 1411) (by decide +kernel)) (by decide +kernel) (Nat.le_of_ble_eq_true rfl) rfl (Nat.le_of_ble_eq_true rfl) rfl rfl (ok_x_copyAll_53_99 X (d + 0) F _ _ _ hc1) ?_
  obtain ⟨rfl, rfl⟩ := m_some h
  exact m_R_vret (by decide) (m_opb_of (ins := .return_) (len := 1) (tag := 3) (a := 0) (b := 0) (c := 0) (q := 0) (by decide +kernel))
def f_x_copyAll_56_102 (F : Nat)    (m : mM) : Option (Unit × mM) := ((f_Math_min_II F (Int32.ofNat 300) (Int32.ofNat 300) m).bind fun q1 => (if (0 : Int32) < 0 ∨ (0 : Int32) < 0 ∨ q1.1 < 0 ∨ 300 < (0 : Int32).toNatClampNeg + q1.1.toNatClampNeg ∨ 300 < (0 : Int32).toNatClampNeg + q1.1.toNatClampNeg then none else some ((), ((m_row q1.2.1 102 (va_cpy (q1.2.1 56) (q1.2.1 102) (0 : Int32).toNatClampNeg (0 : Int32).toNatClampNeg q1.1.toNatClampNeg)), q1.2.2))))
theorem ok_x_copyAll_56_102 (X : mX) (d F : Nat) : ∀   (m : mM) (r : Unit) (m' : mM), f_x_copyAll_56_102 F  m = some (r, m') → m_R X (d + 1) 176 0 [some (.ref 56), some (.ref 102)] [] (SH, m) (none, (SH, m')) := by
  intro m r m' h
  unfold f_x_copyAll_56_102 at h
  refine m_R_sg (by decide) [(.aload_n 0, 1, 0, 0, 0, 0, 0), (.iconst 0, 1, 0, 0, 0, 0, 0), (.aload_n 1, 1, 0, 1, 0, 0, 0), (.iconst 0, 1, 0, 0, 0, 0, 0), (.aload_n 0, 1, 0, 0, 0, 0, 0), (.arraylength, 1, 0, 0, 0, 0, 0), (.aload_n 1, 1, 0, 1, 0, 0, 0), (.arraylength, 1, 0, 0, 0, 0, 0)] (by decide +kernel) (show m_sgl X _ _ _ _ _ = some (8, [some (.ref 56), some (.ref 102)], [.int (Int32.ofNat 300), .int (Int32.ofNat 300), .int (0 : Int32), .ref 102, .int (0 : Int32), .ref 56], (SH, m.1, m.2)) from rfl) ?_
  obtain ⟨q1, hc1, h⟩ := Option.bind_eq_some_iff.mp h
  refine m_R_cS (v := (some (.int q1.1))) (h1 := (SH, q1.2)) (rest := [.int (0 : Int32), .ref 102, .int (0 : Int32), .ref 56]) (lo' := [some (.int (Int32.ofNat 300)), some (.int (Int32.ofNat 300))]) (ml := 2) (by decide) (m_opb_of (ins := .invokestatic 219) (len := 3) (tag := 4) (a := 50) (b := 2) (c := 0) (q := 893) (by decide +kernel)) (by decide +kernel) (Nat.le_of_ble_eq_true rfl) rfl (Nat.le_of_ble_eq_true rfl) rfl rfl (ok_Math_min_II X (d + 0) F _ _ _ _ _ hc1) ?_
  obtain ⟨c0, h⟩ := m_ite_n h
  refine m_R_cpy (by decide) (m_opb_of (ins := .invokestatic 452) (len := 3) (tag := 8) (a := 0) (b := 0) (c := 0) (q := 1391) (by decide +kernel)) (Nat.le_of_ble_eq_true rfl) (m_cpy_of sh_56 sh_102 c0) ?_
  obtain ⟨rfl, rfl⟩ := m_some h
  exact m_R_vret (by decide) (m_opb_of (ins := .return_) (len := 1) (tag := 3) (a := 0) (b := 0) (c := 0) (q := 0) (by decide +kernel))
def f_x_copyAll_57_103 (F : Nat)    (m : mM) : Option (Unit × mM) := ((f_Math_min_II F (Int32.ofNat 300) (Int32.ofNat 300) m).bind fun q1 => (if (0 : Int32) < 0 ∨ (0 : Int32) < 0 ∨ q1.1 < 0 ∨ 300 < (0 : Int32).toNatClampNeg + q1.1.toNatClampNeg ∨ 300 < (0 : Int32).toNatClampNeg + q1.1.toNatClampNeg then none else some ((), ((m_row q1.2.1 103 (va_cpy (q1.2.1 57) (q1.2.1 103) (0 : Int32).toNatClampNeg (0 : Int32).toNatClampNeg q1.1.toNatClampNeg)), q1.2.2))))
theorem ok_x_copyAll_57_103 (X : mX) (d F : Nat) : ∀   (m : mM) (r : Unit) (m' : mM), f_x_copyAll_57_103 F  m = some (r, m') → m_R X (d + 1) 176 0 [some (.ref 57), some (.ref 103)] [] (SH, m) (none, (SH, m')) := by
  intro m r m' h
  unfold f_x_copyAll_57_103 at h
  refine m_R_sg (by decide) [(.aload_n 0, 1, 0, 0, 0, 0, 0), (.iconst 0, 1, 0, 0, 0, 0, 0), (.aload_n 1, 1, 0, 1, 0, 0, 0), (.iconst 0, 1, 0, 0, 0, 0, 0), (.aload_n 0, 1, 0, 0, 0, 0, 0), (.arraylength, 1, 0, 0, 0, 0, 0), (.aload_n 1, 1, 0, 1, 0, 0, 0), (.arraylength, 1, 0, 0, 0, 0, 0)] (by decide +kernel) (show m_sgl X _ _ _ _ _ = some (8, [some (.ref 57), some (.ref 103)], [.int (Int32.ofNat 300), .int (Int32.ofNat 300), .int (0 : Int32), .ref 103, .int (0 : Int32), .ref 57], (SH, m.1, m.2)) from rfl) ?_
  obtain ⟨q1, hc1, h⟩ := Option.bind_eq_some_iff.mp h
  refine m_R_cS (v := (some (.int q1.1))) (h1 := (SH, q1.2)) (rest := [.int (0 : Int32), .ref 103, .int (0 : Int32), .ref 57]) (lo' := [some (.int (Int32.ofNat 300)), some (.int (Int32.ofNat 300))]) (ml := 2) (by decide) (m_opb_of (ins := .invokestatic 219) (len := 3) (tag := 4) (a := 50) (b := 2) (c := 0) (q := 893) (by decide +kernel)) (by decide +kernel) (Nat.le_of_ble_eq_true rfl) rfl (Nat.le_of_ble_eq_true rfl) rfl rfl (ok_Math_min_II X (d + 0) F _ _ _ _ _ hc1) ?_
  obtain ⟨c0, h⟩ := m_ite_n h
  refine m_R_cpy (by decide) (m_opb_of (ins := .invokestatic 452) (len := 3) (tag := 8) (a := 0) (b := 0) (c := 0) (q := 1391) (by decide +kernel)) (Nat.le_of_ble_eq_true rfl) (m_cpy_of sh_57 sh_103 c0) ?_
  obtain ⟨rfl, rfl⟩ := m_some h
  exact m_R_vret (by decide) (m_opb_of (ins := .return_) (len := 1) (tag := 3) (a := 0) (b := 0) (c := 0) (q := 0) (by decide +kernel))
def f_x_copyAll_58_104 (F : Nat)    (m : mM) : Option (Unit × mM) := ((f_Math_min_II F (Int32.ofNat 400) (Int32.ofNat 400) m).bind fun q1 => (if (0 : Int32) < 0 ∨ (0 : Int32) < 0 ∨ q1.1 < 0 ∨ 400 < (0 : Int32).toNatClampNeg + q1.1.toNatClampNeg ∨ 400 < (0 : Int32).toNatClampNeg + q1.1.toNatClampNeg then none else some ((), ((m_row q1.2.1 104 (va_cpy (q1.2.1 58) (q1.2.1 104) (0 : Int32).toNatClampNeg (0 : Int32).toNatClampNeg q1.1.toNatClampNeg)), q1.2.2))))
theorem ok_x_copyAll_58_104 (X : mX) (d F : Nat) : ∀   (m : mM) (r : Unit) (m' : mM), f_x_copyAll_58_104 F  m = some (r, m') → m_R X (d + 1) 176 0 [some (.ref 58), some (.ref 104)] [] (SH, m) (none, (SH, m')) := by
  intro m r m' h
  unfold f_x_copyAll_58_104 at h
  refine m_R_sg (by decide) [(.aload_n 0, 1, 0, 0, 0, 0, 0), (.iconst 0, 1, 0, 0, 0, 0, 0), (.aload_n 1, 1, 0, 1, 0, 0, 0), (.iconst 0, 1, 0, 0, 0, 0, 0), (.aload_n 0, 1, 0, 0, 0, 0, 0), (.arraylength, 1, 0, 0, 0, 0, 0), (.aload_n 1, 1, 0, 1, 0, 0, 0), (.arraylength, 1, 0, 0, 0, 0, 0)] (by decide +kernel) (show m_sgl X _ _ _ _ _ = some (8, [some (.ref 58), some (.ref 104)], [.int (Int32.ofNat 400), .int (Int32.ofNat 400), .int (0 : Int32), .ref 104, .int (0 : Int32), .ref 58], (SH, m.1, m.2)) from rfl) ?_
  obtain ⟨q1, hc1, h⟩ := Option.bind_eq_some_iff.mp h
  refine m_R_cS (v := (some (.int q1.1))) (h1 := (SH, q1.2)) (rest := [.int (0 : Int32), .ref 104, .int (0 : Int32), .ref 58]) (lo' := [some (.int (Int32.ofNat 400)), some (.int (Int32.ofNat 400))]) (ml := 2) (by decide) (m_opb_of (ins := .invokestatic 219) (len := 3) (tag := 4) (a := 50) (b := 2) (c := 0) (q := 893) (by decide +kernel)) (by decide +kernel) (Nat.le_of_ble_eq_true rfl) rfl (Nat.le_of_ble_eq_true rfl) rfl rfl (ok_Math_min_II X (d + 0) F _ _ _ _ _ hc1) ?_
  obtain ⟨c0, h⟩ := m_ite_n h
  refine m_R_cpy (by decide) (m_opb_of (ins := .invokestatic 452) (len := 3) (tag := 8) (a := 0) (b := 0) (c := 0) (q := 1391) (by decide +kernel)) (Nat.le_of_ble_eq_true rfl) (m_cpy_of sh_58 sh_104 c0) ?_
  obtain ⟨rfl, rfl⟩ := m_some h
  exact m_R_vret (by decide) (m_opb_of (ins := .return_) (len := 1) (tag := 3) (a := 0) (b := 0) (c := 0) (q := 0) (by decide +kernel))
def f_x_copyAll_59_105 (F : Nat)    (m : mM) : Option (Unit × mM) := ((f_Math_min_II F (Int32.ofNat 400) (Int32.ofNat 400) m).bind fun q1 => (if (0 : Int32) < 0 ∨ (0 : Int32) < 0 ∨ q1.1 < 0 ∨ 400 < (0 : Int32).toNatClampNeg + q1.1.toNatClampNeg ∨ 400 < (0 : Int32).toNatClampNeg + q1.1.toNatClampNeg then none else some ((), ((m_row q1.2.1 105 (va_cpy (q1.2.1 59) (q1.2.1 105) (0 : Int32).toNatClampNeg (0 : Int32).toNatClampNeg q1.1.toNatClampNeg)), q1.2.2))))
theorem ok_x_copyAll_59_105 (X : mX) (d F : Nat) : ∀   (m : mM) (r : Unit) (m' : mM), f_x_copyAll_59_105 F  m = some (r, m') → m_R X (d + 1) 176 0 [some (.ref 59), some (.ref 105)] [] (SH, m) (none, (SH, m')) := by
  intro m r m' h
  unfold f_x_copyAll_59_105 at h
  refine m_R_sg (by decide) [(.aload_n 0, 1, 0, 0, 0, 0, 0), (.iconst 0, 1, 0, 0, 0, 0, 0), (.aload_n 1, 1, 0, 1, 0, 0, 0), (.iconst 0, 1, 0, 0, 0, 0, 0), (.aload_n 0, 1, 0, 0, 0, 0, 0), (.arraylength, 1, 0, 0, 0, 0, 0), (.aload_n 1, 1, 0, 1, 0, 0, 0), (.arraylength, 1, 0, 0, 0, 0, 0)] (by decide +kernel) (show m_sgl X _ _ _ _ _ = some (8, [some (.ref 59), some (.ref 105)], [.int (Int32.ofNat 400), .int (Int32.ofNat 400), .int (0 : Int32), .ref 105, .int (0 : Int32), .ref 59], (SH, m.1, m.2)) from rfl) ?_
  obtain ⟨q1, hc1, h⟩ := Option.bind_eq_some_iff.mp h
  refine m_R_cS (v := (some (.int q1.1))) (h1 := (SH, q1.2)) (rest := [.int (0 : Int32), .ref 105, .int (0 : Int32), .ref 59]) (lo' := [some (.int (Int32.ofNat 400)), some (.int (Int32.ofNat 400))]) (ml := 2) (by decide) (m_opb_of (ins := .invokestatic 219) (len := 3) (tag := 4) (a := 50) (b := 2) (c := 0) (q := 893) (by decide +kernel)) (by decide +kernel) (Nat.le_of_ble_eq_true rfl) rfl (Nat.le_of_ble_eq_true rfl) rfl rfl (ok_Math_min_II X (d + 0) F _ _ _ _ _ hc1) ?_
  obtain ⟨c0, h⟩ := m_ite_n h
  refine m_R_cpy (by decide) (m_opb_of (ins := .invokestatic 452) (len := 3) (tag := 8) (a := 0) (b := 0) (c := 0) (q := 1391) (by decide +kernel)) (Nat.le_of_ble_eq_true rfl) (m_cpy_of sh_59 sh_105 c0) ?_
  obtain ⟨rfl, rfl⟩ := m_some h
  exact m_R_vret (by decide) (m_opb_of (ins := .return_) (len := 1) (tag := 3) (a := 0) (b := 0) (c := 0) (q := 0) (by decide +kernel))
def f_x_copyAll_60_106 (F : Nat)    (m : mM) : Option (Unit × mM) := ((f_Math_min_II F (Int32.ofNat 400) (Int32.ofNat 400) m).bind fun q1 => (if (0 : Int32) < 0 ∨ (0 : Int32) < 0 ∨ q1.1 < 0 ∨ 400 < (0 : Int32).toNatClampNeg + q1.1.toNatClampNeg ∨ 400 < (0 : Int32).toNatClampNeg + q1.1.toNatClampNeg then none else some ((), ((m_row q1.2.1 106 (va_cpy (q1.2.1 60) (q1.2.1 106) (0 : Int32).toNatClampNeg (0 : Int32).toNatClampNeg q1.1.toNatClampNeg)), q1.2.2))))
theorem ok_x_copyAll_60_106 (X : mX) (d F : Nat) : ∀   (m : mM) (r : Unit) (m' : mM), f_x_copyAll_60_106 F  m = some (r, m') → m_R X (d + 1) 176 0 [some (.ref 60), some (.ref 106)] [] (SH, m) (none, (SH, m')) := by
  intro m r m' h
  unfold f_x_copyAll_60_106 at h
  refine m_R_sg (by decide) [(.aload_n 0, 1, 0, 0, 0, 0, 0), (.iconst 0, 1, 0, 0, 0, 0, 0), (.aload_n 1, 1, 0, 1, 0, 0, 0), (.iconst 0, 1, 0, 0, 0, 0, 0), (.aload_n 0, 1, 0, 0, 0, 0, 0), (.arraylength, 1, 0, 0, 0, 0, 0), (.aload_n 1, 1, 0, 1, 0, 0, 0), (.arraylength, 1, 0, 0, 0, 0, 0)] (by decide +kernel) (show m_sgl X _ _ _ _ _ = some (8, [some (.ref 60), some (.ref 106)], [.int (Int32.ofNat 400), .int (Int32.ofNat 400), .int (0 : Int32), .ref 106, .int (0 : Int32), .ref 60], (SH, m.1, m.2)) from rfl) ?_
  obtain ⟨q1, hc1, h⟩ := Option.bind_eq_some_iff.mp h
  refine m_R_cS (v := (some (.int q1.1))) (h1 := (SH, q1.2)) (rest := [.int (0 : Int32), .ref 106, .int (0 : Int32), .ref 60]) (lo' := [some (.int (Int32.ofNat 400)), some (.int (Int32.ofNat 400))]) (ml := 2) (by decide) (m_opb_of (ins := .invokestatic 219) (len := 3) (tag := 4) (a := 50) (b := 2) (c := 0) (q := 893) (by decide +kernel)) (by decide +kernel) (Nat.le_of_ble_eq_true rfl) rfl (Nat.le_of_ble_eq_true rfl) rfl rfl (ok_Math_min_II X (d + 0) F _ _ _ _ _ hc1) ?_
  obtain ⟨c0, h⟩ := m_ite_n h
  refine m_R_cpy (by decide) (m_opb_of (ins := .invokestatic 452) (len := 3) (tag := 8) (a := 0) (b := 0) (c := 0) (q := 1391) (by decide +kernel)) (Nat.le_of_ble_eq_true rfl) (m_cpy_of sh_60 sh_106 c0) ?_
  obtain ⟨rfl, rfl⟩ := m_some h
  exact m_R_vret (by decide) (m_opb_of (ins := .return_) (len := 1) (tag := 3) (a := 0) (b := 0) (c := 0) (q := 0) (by decide +kernel))
def f_x_copyAll_61_107 (F : Nat)    (m : mM) : Option (Unit × mM) := ((f_Math_min_II F (Int32.ofNat 16) (Int32.ofNat 16) m).bind fun q1 => (if (0 : Int32) < 0 ∨ (0 : Int32) < 0 ∨ q1.1 < 0 ∨ 16 < (0 : Int32).toNatClampNeg + q1.1.toNatClampNeg ∨ 16 < (0 : Int32).toNatClampNeg + q1.1.toNatClampNeg then none else some ((), ((m_row q1.2.1 107 (va_cpy (q1.2.1 61) (q1.2.1 107) (0 : Int32).toNatClampNeg (0 : Int32).toNatClampNeg q1.1.toNatClampNeg)), q1.2.2))))
theorem ok_x_copyAll_61_107 (X : mX) (d F : Nat) : ∀   (m : mM) (r : Unit) (m' : mM), f_x_copyAll_61_107 F  m = some (r, m') → m_R X (d + 1) 176 0 [some (.ref 61), some (.ref 107)] [] (SH, m) (none, (SH, m')) := by
  intro m r m' h
  unfold f_x_copyAll_61_107 at h
  refine m_R_sg (by decide) [(.aload_n 0, 1, 0, 0, 0, 0, 0), (.iconst 0, 1, 0, 0, 0, 0, 0), (.aload_n 1, 1, 0, 1, 0, 0, 0), (.iconst 0, 1, 0, 0, 0, 0, 0), (.aload_n 0, 1, 0, 0, 0, 0, 0), (.arraylength, 1, 0, 0, 0, 0, 0), (.aload_n 1, 1, 0, 1, 0, 0, 0), (.arraylength, 1, 0, 0, 0, 0, 0)] (by decide +kernel) (show m_sgl X _ _ _ _ _ = some (8, [some (.ref 61), some (.ref 107)], [.int (Int32.ofNat 16), .int (Int32.ofNat 16), .int (0 : Int32), .ref 107, .int (0 : Int32), .ref 61], (SH, m.1, m.2)) from rfl) ?_
  obtain ⟨q1, hc1, h⟩ := Option.bind_eq_some_iff.mp h
  refine m_R_cS (v := (some (.int q1.1))) (h1 := (SH, q1.2)) (rest := [.int (0 : Int32), .ref 107, .int (0 : Int32), .ref 61]) (lo' := [some (.int (Int32.ofNat 16)), some (.int (Int32.ofNat 16))]) (ml := 2) (by decide) (m_opb_of (ins := .invokestatic 219) (len := 3) (tag := 4) (a := 50) (b := 2) (c := 0) (q := 893) (by decide +kernel)) (by decide +kernel) (Nat.le_of_ble_eq_true rfl) rfl (Nat.le_of_ble_eq_true rfl) rfl rfl (ok_Math_min_II X (d + 0) F _ _ _ _ _ hc1) ?_
  obtain ⟨c0, h⟩ := m_ite_n h
  refine m_R_cpy (by decide) (m_opb_of (ins := .invokestatic 452) (len := 3) (tag := 8) (a := 0) (b := 0) (c := 0) (q := 1391) (by decide +kernel)) (Nat.le_of_ble_eq_true rfl) (m_cpy_of sh_61 sh_107 c0) ?_
  obtain ⟨rfl, rfl⟩ := m_some h
  exact m_R_vret (by decide) (m_opb_of (ins := .return_) (len := 1) (tag := 3) (a := 0) (b := 0) (c := 0) (q := 0) (by decide +kernel))
def f_Notes_become_101_55_90 (F : Nat)    (m : mM) : Option (Unit × mM) := some ((), ((m_up (m_up (m_up m.1 101 10 (m.1 55 10)) 101 11 ((m_up m.1 101 10 (m.1 55 10)) 55 11)) 101 12 ((m_up (m_up m.1 101 10 (m.1 55 10)) 101 11 ((m_up m.1 101 10 (m.1 55 10)) 55 11)) 55 12)), m.2))
theorem ok_Notes_become_101_55_90 (X : mX) (d F : Nat) : ∀   (m : mM) (r : Unit) (m' : mM), f_Notes_become_101_55_90 F  m = some (r, m') → m_R X (d + 2) 181 90 [some (.ref 101), some (.ref 55)] [] (SH, m) (none, (SH, m')) := by
  intro m r m' h
  unfold f_Notes_become_101_55_90 at h
  refine m_R_sg (by decide) [(.aload_n 0, 1, 0, 0, 0, 0, 0), (.aload_n 1, 1, 0, 1, 0, 0, 0), (.getfield 48, 3, 0, 3, 10, 0, 470), (.putfield 48, 3, 0, 3, 10, 0, 470), (.aload_n 0, 1, 0, 0, 0, 0, 0), (.aload_n 1, 1, 0, 1, 0, 0, 0), (.getfield 51, 3, 0, 3, 11, 0, 472), (.putfield 51, 3, 0, 3, 11, 0, 472), (.aload_n 0, 1, 0, 0, 0, 0, 0), (.aload_n 1, 1, 0, 1, 0, 0, 0), (.getfield 54, 3, 0, 3, 12, 0, 474), (.putfield 54, 3, 0, 3, 12, 0, 474)] (by decide +kernel) (show m_sgl X _ _ _ _ _ = some (114, [some (.ref 101), some (.ref 55)], [], (SH, (m_up (m_up (m_up m.1 101 10 (m.1 55 10)) 101 11 ((m_up m.1 101 10 (m.1 55 10)) 55 11)) 101 12 ((m_up (m_up m.1 101 10 (m.1 55 10)) 101 11 ((m_up m.1 101 10 (m.1 55 10)) 55 11)) 55 12)), m.2)) from rfl) ?_
  obtain ⟨rfl, rfl⟩ := m_some h
  exact m_R_vret (by decide) (m_opb_of (ins := .return_) (len := 1) (tag := 3) (a := 0) (b := 0) (c := 0) (q := 0) (by decide +kernel))
def f_Notes_become_101_55 (F : Nat)    (m : mM) : Option (Unit × mM) := ((f_x_copyAll_56_102 F m).bind fun q1 => ((f_x_copyAll_57_103 F q1.2).bind fun q2 => ((f_x_copyAll_58_104 F q2.2).bind fun q3 => ((f_x_copyAll_59_105 F q3.2).bind fun q4 => ((f_x_copyAll_60_106 F q4.2).bind fun q5 => ((f_x_copyAll_61_107 F q5.2).bind fun q6 => f_Notes_become_101_55_90 F ((m_up (m_up (m_up q6.2.1 101 7 (q6.2.1 55 7)) 101 8 ((m_up q6.2.1 101 7 (q6.2.1 55 7)) 55 8)) 101 9 ((m_up (m_up q6.2.1 101 7 (q6.2.1 55 7)) 101 8 ((m_up q6.2.1 101 7 (q6.2.1 55 7)) 55 8)) 55 9)), q6.2.2)))))))
theorem ok_Notes_become_101_55 (X : mX) (d F : Nat) : ∀   (m : mM) (r : Unit) (m' : mM), f_Notes_become_101_55 F  m = some (r, m') → m_R X (d + 2) 181 0 [some (.ref 101), some (.ref 55)] [] (SH, m) (none, (SH, m')) := by
  intro m r m' h
  unfold f_Notes_become_101_55 at h
  refine m_R_sg (by decide) [(.aload_n 1, 1, 0, 1, 0, 0, 0), (.getfield 9, 3, 0, 3, 1, 3, 450), (.aload_n 0, 1, 0, 0, 0, 0, 0), (.getfield 9, 3, 0, 3, 1, 3, 450)] (by decide +kernel) (show m_sgl X _ _ _ _ _ = some (8, [some (.ref 101), some (.ref 55)], [.ref 102, .ref 56], (SH, m.1, m.2)) from rfl) ?_
  obtain ⟨q1, hc1, h⟩ := Option.bind_eq_some_iff.mp h
  refine m_R_cS (v := none) (h1 := (SH, q1.2)) (rest := []) (lo' := [some (.ref 56), some (.ref 102)]) (ml := 2) (by decide) (m_opb_of (ins := .invokestatic 34) (len := 3) (tag := 4) (a := 176) (b := 2) (c := 1) (q := 1416) (by decide +kernel)) (by decide +kernel) (Nat.le_of_ble_eq_true rfl) rfl (Nat.le_of_ble_eq_true rfl) rfl rfl (ok_x_copyAll_56_102 X (d + 0) F _ _ _ hc1) ?_
  refine m_R_sg (by decide) [(.aload_n 1, 1, 0, 1, 0, 0, 0), (.getfield 15, 3, 0, 3, 2, 3, 452), (.aload_n 0, 1, 0, 0, 0, 0, 0), (.getfield 15, 3, 0, 3, 2, 3, 452)] (by decide +kernel) (show m_sgl X _ _ _ _ _ = some (19, [some (.ref 101), some (.ref 55)], [.ref 103, .ref 57], (SH, q1.2.1, q1.2.2)) from rfl) ?_
  obtain ⟨q2, hc2, h⟩ := Option.bind_eq_some_iff.mp h
  refine m_R_cS (v := none) (h1 := (SH, q2.2)) (rest := []) (lo' := [some (.ref 57), some (.ref 103)]) (ml := 2) (by decide) (m_opb_of (ins := .invokestatic 34) (len := 3) (tag := 4) (a := 176) (b := 2) (c := 1) (q := 1416) (by decide +kernel)) (by decide +kernel) (Nat.le_of_ble_eq_true rfl) rfl (Nat.le_of_ble_eq_true rfl) rfl rfl (ok_x_copyAll_57_103 X (d + 0) F _ _ _ hc2) ?_
  refine m_R_sg (by decide) [(.aload_n 1, 1, 0, 1, 0, 0, 0), (.getfield 18, 3, 0, 3, 3, 3, 453), (.aload_n 0, 1, 0, 0, 0, 0, 0), (.getfield 18, 3, 0, 3, 3, 3, 453)] (by decide +kernel) (show m_sgl X _ _ _ _ _ = some (30, [some (.ref 101), some (.ref 55)], [.ref 104, .ref 58], (SH, q2.2.1, q2.2.2)) from rfl) ?_
  obtain ⟨q3, hc3, h⟩ := Option.bind_eq_some_iff.mp h
  refine m_R_cS (v := none) (h1 := (SH, q3.2)) (rest := []) (lo' := [some (.ref 58), some (.ref 104)]) (ml := 2) (by decide) (m_opb_of (ins := .invokestatic 34) (len := 3) (tag := 4) (a := 176) (b := 2) (c := 1) (q := 1416) (by decide +kernel)) (by decide +kernel) (Nat.le_of_ble_eq_true rfl) rfl (Nat.le_of_ble_eq_true rfl) rfl rfl (ok_x_copyAll_58_104 X (d + 0) F _ _ _ hc3) ?_
  refine m_R_sg (by decide) [(.aload_n 1, 1, 0, 1, 0, 0, 0), (.getfield 21, 3, 0, 3, 4, 3, 456), (.aload_n 0, 1, 0, 0, 0, 0, 0), (.getfield 21, 3, 0, 3, 4, 3, 456)] (by decide +kernel) (show m_sgl X _ _ _ _ _ = some (41, [some (.ref 101), some (.ref 55)], [.ref 105, .ref 59], (SH, q3.2.1, q3.2.2)) from rfl) ?_
  obtain ⟨q4, hc4, h⟩ := Option.bind_eq_some_iff.mp h
  refine m_R_cS (v := none) (h1 := (SH, q4.2)) (rest := []) (lo' := [some (.ref 59), some (.ref 105)]) (ml := 2) (by decide) (m_opb_of (ins := .invokestatic 34) (len := 3) (tag := 4) (a := 176) (b := 2) (c := 1) (q := 1416) (by decide +kernel)) (by decide +kernel) (Nat.le_of_ble_eq_true rfl) rfl (Nat.le_of_ble_eq_true rfl) rfl rfl (ok_x_copyAll_59_105 X (d + 0) F _ _ _ hc4) ?_
  refine m_R_sg (by decide) [(.aload_n 1, 1, 0, 1, 0, 0, 0), (.getfield 24, 3, 0, 3, 5, 3, 458), (.aload_n 0, 1, 0, 0, 0, 0, 0), (.getfield 24, 3, 0, 3, 5, 3, 458)] (by decide +kernel) (show m_sgl X _ _ _ _ _ = some (52, [some (.ref 101), some (.ref 55)], [.ref 106, .ref 60], (SH, q4.2.1, q4.2.2)) from rfl) ?_
  obtain ⟨q5, hc5, h⟩ := Option.bind_eq_some_iff.mp h
  refine m_R_cS (v := none) (h1 := (SH, q5.2)) (rest := []) (lo' := [some (.ref 60), some (.ref 106)]) (ml := 2) (by decide) (m_opb_of (ins := .invokestatic 34) (len := 3) (tag := 4) (a := 176) (b := 2) (c := 1) (q := 1416) (by decide +kernel)) (by decide +kernel) (Nat.le_of_ble_eq_true rfl) rfl (Nat.le_of_ble_eq_true rfl) rfl rfl (ok_x_copyAll_60_106 X (d + 0) F _ _ _ hc5) ?_
  refine m_R_sg (by decide) [(.aload_n 1, 1, 0, 1, 0, 0, 0), (.getfield 27, 3, 0, 3, 6, 3, 460), (.aload_n 0, 1, 0, 0, 0, 0, 0), (.getfield 27, 3, 0, 3, 6, 3, 460)] (by decide +kernel) (show m_sgl X _ _ _ _ _ = some (63, [some (.ref 101), some (.ref 55)], [.ref 107, .ref 61], (SH, q5.2.1, q5.2.2)) from rfl) ?_
  obtain ⟨q6, hc6, h⟩ := Option.bind_eq_some_iff.mp h
  refine m_R_cS (v := none) (h1 := (SH, q6.2)) (rest := []) (lo' := [some (.ref 61), some (.ref 107)]) (ml := 2) (by decide) (m_opb_of (ins := .invokestatic 34) (len := 3) (tag := 4) (a := 176) (b := 2) (c := 1) (q := 1416) (by decide +kernel)) (by decide +kernel) (Nat.le_of_ble_eq_true rfl) rfl (Nat.le_of_ble_eq_true rfl) rfl rfl (ok_x_copyAll_61_107 X (d + 0) F _ _ _ hc6) ?_
  refine m_R_sg (by decide) [(.aload_n 0, 1, 0, 0, 0, 0, 0), (.aload_n 1, 1, 0, 1, 0, 0, 0), (.getfield 38, 3, 0, 3, 7, 0, 463), (.putfield 38, 3, 0, 3, 7, 0, 463), (.aload_n 0, 1, 0, 0, 0, 0, 0), (.aload_n 1, 1, 0, 1, 0, 0, 0), (.getfield 42, 3, 0, 3, 8, 0, 466), (.putfield 42, 3, 0, 3, 8, 0, 466), (.aload_n 0, 1, 0, 0, 0, 0, 0), (.aload_n 1, 1, 0, 1, 0, 0, 0), (.getfield 45, 3, 0, 3, 9, 0, 467), (.putfield 45, 3, 0, 3, 9, 0, 467)] (by decide +kernel) (show m_sgl X _ _ _ _ _ = some (90, [some (.ref 101), some (.ref 55)], [], (SH, (m_up (m_up (m_up q6.2.1 101 7 (q6.2.1 55 7)) 101 8 ((m_up q6.2.1 101 7 (q6.2.1 55 7)) 55 8)) 101 9 ((m_up (m_up q6.2.1 101 7 (q6.2.1 55 7)) 101 8 ((m_up q6.2.1 101 7 (q6.2.1 55 7)) 55 8)) 55 9)), q6.2.2)) from rfl) ?_
  exact ok_Notes_become_101_55_90 X d F _ _ _ h
def f_World_become_62_16_90 (F : Nat)    (m : mM) : Option (Unit × mM) := some ((), ((m_up (m_up (m_up m.1 62 12 (m.1 16 12)) 62 13 ((m_up m.1 62 12 (m.1 16 12)) 16 13)) 62 14 ((m_up (m_up m.1 62 12 (m.1 16 12)) 62 13 ((m_up m.1 62 12 (m.1 16 12)) 16 13)) 16 14)), m.2))
theorem ok_World_become_62_16_90 (X : mX) (d F : Nat) : ∀   (m : mM) (r : Unit) (m' : mM), f_World_become_62_16_90 F  m = some (r, m') → m_R X (d + 3) 174 90 [some (.ref 62), some (.ref 16)] [] (SH, m) (none, (SH, m')) := by
  intro m r m' h
  unfold f_World_become_62_16_90 at h
  refine m_R_sg (by decide) [(.aload_n 0, 1, 0, 0, 0, 0, 0), (.aload_n 1, 1, 0, 1, 0, 0, 0), (.getfield 101, 3, 0, 10, 12, 0, 526), (.putfield 101, 3, 0, 10, 12, 0, 526), (.aload_n 0, 1, 0, 0, 0, 0, 0), (.aload_n 1, 1, 0, 1, 0, 0, 0), (.getfield 56, 3, 0, 10, 13, 0, 528), (.putfield 56, 3, 0, 10, 13, 0, 528), (.aload_n 0, 1, 0, 0, 0, 0, 0), (.aload_n 1, 1, 0, 1, 0, 0, 0), (.getfield 104, 3, 0, 10, 14, 0, 530), (.putfield 104, 3, 0, 10, 14, 0, 530)] (by decide +kernel) (show m_sgl X _ _ _ _ _ = some (114, [some (.ref 62), some (.ref 16)], [], (SH, (m_up (m_up (m_up m.1 62 12 (m.1 16 12)) 62 13 ((m_up m.1 62 12 (m.1 16 12)) 16 13)) 62 14 ((m_up (m_up m.1 62 12 (m.1 16 12)) 62 13 ((m_up m.1 62 12 (m.1 16 12)) 16 13)) 16 14)), m.2)) from rfl) ?_
  obtain ⟨rfl, rfl⟩ := m_some h
  exact m_R_vret (by decide) (m_opb_of (ins := .return_) (len := 1) (tag := 3) (a := 0) (b := 0) (c := 0) (q := 0) (by decide +kernel))
def f_World_become_62_16 (F : Nat)    (m : mM) : Option (Unit × mM) := ((f_Land_become_63_17 F m).bind fun q1 => ((f_Houses_become_65_19 F q1.2).bind fun q2 => ((f_Papers_become_77_31 F q2.2).bind fun q3 => ((f_Trades_become_92_46 F q3.2).bind fun q4 => ((f_Seasons_become_98_52 F q4.2).bind fun q5 => ((f_Notes_become_101_55 F q5.2).bind fun q6 => f_World_become_62_16_90 F ((m_up (m_up (m_up q6.2.1 62 9 (q6.2.1 16 9)) 62 10 ((m_up q6.2.1 62 9 (q6.2.1 16 9)) 16 10)) 62 11 ((m_up (m_up q6.2.1 62 9 (q6.2.1 16 9)) 62 10 ((m_up q6.2.1 62 9 (q6.2.1 16 9)) 16 10)) 16 11)), q6.2.2)))))))
theorem ok_World_become_62_16 (X : mX) (d F : Nat) : ∀   (m : mM) (r : Unit) (m' : mM), f_World_become_62_16 F  m = some (r, m') → m_R X (d + 3) 174 0 [some (.ref 62), some (.ref 16)] [] (SH, m) (none, (SH, m')) := by
  intro m r m' h
  unfold f_World_become_62_16 at h
  refine m_R_sg (by decide) [(.aload_n 0, 1, 0, 0, 0, 0, 0), (.getfield 12, 3, 0, 10, 0, 3, 503), (.aload_n 1, 1, 0, 1, 0, 0, 0), (.getfield 12, 3, 0, 10, 0, 3, 503)] (by decide +kernel) (show m_sgl X _ _ _ _ _ = some (8, [some (.ref 62), some (.ref 16)], [.ref 17, .ref 63], (SH, m.1, m.2)) from rfl) ?_
  obtain ⟨q1, hc1, h⟩ := Option.bind_eq_some_iff.mp h
  refine m_R_cV (v := none) (h1 := (SH, q1.2)) (rest := []) (lo' := [some (.ref 63), some (.ref 17)]) (ml := 2) (k0 := 63) (by decide) (Or.inl rfl) (m_opb_of (ins := .invokevirtual 76) (len := 3) (tag := 5) (a := 175) (b := 1) (c := 0) (q := 1384) (by decide +kernel)) (by decide +kernel) rfl (show m_isO 175 63 (SH, _) = true from m_isO_of (by decide +kernel)) (Nat.le_of_ble_eq_true rfl) rfl rfl (ok_Land_become_63_17 X (d + 0) F _ _ _ hc1) ?_
  refine m_R_sg (by decide) [(.aload_n 0, 1, 0, 0, 0, 0, 0), (.getfield 21, 3, 0, 10, 1, 3, 505), (.aload_n 1, 1, 0, 1, 0, 0, 0), (.getfield 21, 3, 0, 10, 1, 3, 505)] (by decide +kernel) (show m_sgl X _ _ _ _ _ = some (19, [some (.ref 62), some (.ref 16)], [.ref 19, .ref 65], (SH, q1.2.1, q1.2.2)) from rfl) ?_
  obtain ⟨q2, hc2, h⟩ := Option.bind_eq_some_iff.mp h
  refine m_R_cV (v := none) (h1 := (SH, q2.2)) (rest := []) (lo' := [some (.ref 65), some (.ref 19)]) (ml := 2) (k0 := 65) (by decide) (Or.inl rfl) (m_opb_of (ins := .invokevirtual 80) (len := 3) (tag := 5) (a := 177) (b := 1) (c := 0) (q := 1392) (by decide +kernel)) (by decide +kernel) rfl (show m_isO 177 65 (SH, _) = true from m_isO_of (by decide +kernel)) (Nat.le_of_ble_eq_true rfl) rfl rfl (ok_Houses_become_65_19 X (d + 0) F _ _ _ hc2) ?_
  refine m_R_sg (by decide) [(.aload_n 0, 1, 0, 0, 0, 0, 0), (.getfield 28, 3, 0, 10, 2, 3, 508), (.aload_n 1, 1, 0, 1, 0, 0, 0), (.getfield 28, 3, 0, 10, 2, 3, 508)] (by decide +kernel) (show m_sgl X _ _ _ _ _ = some (30, [some (.ref 62), some (.ref 16)], [.ref 31, .ref 77], (SH, q2.2.1, q2.2.2)) from rfl) ?_
  obtain ⟨q3, hc3, h⟩ := Option.bind_eq_some_iff.mp h
  refine m_R_cV (v := none) (h1 := (SH, q3.2)) (rest := []) (lo' := [some (.ref 77), some (.ref 31)]) (ml := 2) (k0 := 77) (by decide) (Or.inl rfl) (m_opb_of (ins := .invokevirtual 83) (len := 3) (tag := 5) (a := 178) (b := 1) (c := 0) (q := 1397) (by decide +kernel)) (by decide +kernel) rfl (show m_isO 178 77 (SH, _) = true from m_isO_of (by decide +kernel)) (Nat.le_of_ble_eq_true rfl) rfl rfl (ok_Papers_become_77_31 X (d + 0) F _ _ _ hc3) ?_
  refine m_R_sg (by decide) [(.aload_n 0, 1, 0, 0, 0, 0, 0), (.getfield 35, 3, 0, 10, 3, 3, 511), (.aload_n 1, 1, 0, 1, 0, 0, 0), (.getfield 35, 3, 0, 10, 3, 3, 511)] (by decide +kernel) (show m_sgl X _ _ _ _ _ = some (41, [some (.ref 62), some (.ref 16)], [.ref 46, .ref 92], (SH, q3.2.1, q3.2.2)) from rfl) ?_
  obtain ⟨q4, hc4, h⟩ := Option.bind_eq_some_iff.mp h
  refine m_R_cV (v := none) (h1 := (SH, q4.2)) (rest := []) (lo' := [some (.ref 92), some (.ref 46)]) (ml := 2) (k0 := 92) (by decide) (Or.inl rfl) (m_opb_of (ins := .invokevirtual 86) (len := 3) (tag := 5) (a := 179) (b := 1) (c := 0) (q := 1402) (by decide +kernel)) (by decide +kernel) rfl (show m_isO 179 92 (SH, _) = true from m_isO_of (by decide +kernel)) (Nat.le_of_ble_eq_true rfl) rfl rfl (ok_Trades_become_92_46 X (d + 0) F _ _ _ hc4) ?_
  refine m_R_sg (by decide) [(.aload_n 0, 1, 0, 0, 0, 0, 0), (.getfield 42, 3, 0, 10, 4, 3, 513), (.aload_n 1, 1, 0, 1, 0, 0, 0), (.getfield 42, 3, 0, 10, 4, 3, 513)] (by decide +kernel) (show m_sgl X _ _ _ _ _ = some (52, [some (.ref 62), some (.ref 16)], [.ref 52, .ref 98], (SH, q4.2.1, q4.2.2)) from rfl) ?_
  obtain ⟨q5, hc5, h⟩ := Option.bind_eq_some_iff.mp h
  refine m_R_cV (v := none) (h1 := (SH, q5.2)) (rest := []) (lo' := [some (.ref 98), some (.ref 52)]) (ml := 2) (k0 := 98) (by decide) (Or.inl rfl) (m_opb_of (ins := .invokevirtual 89) (len := 3) (tag := 5) (a := 180) (b := 1) (c := 0) (q := 1407) (by decide +kernel)) (by decide +kernel) rfl (show m_isO 180 98 (SH, _) = true from m_isO_of (by decide +kernel)) (Nat.le_of_ble_eq_true rfl) rfl rfl (ok_Seasons_become_98_52 X (d + 0) F _ _ _ hc5) ?_
  refine m_R_sg (by decide) [(.aload_n 0, 1, 0, 0, 0, 0, 0), (.getfield 72, 3, 0, 10, 8, 3, 518), (.aload_n 1, 1, 0, 1, 0, 0, 0), (.getfield 72, 3, 0, 10, 8, 3, 518)] (by decide +kernel) (show m_sgl X _ _ _ _ _ = some (63, [some (.ref 62), some (.ref 16)], [.ref 55, .ref 101], (SH, q5.2.1, q5.2.2)) from rfl) ?_
  obtain ⟨q6, hc6, h⟩ := Option.bind_eq_some_iff.mp h
  refine m_R_cV (v := none) (h1 := (SH, q6.2)) (rest := []) (lo' := [some (.ref 101), some (.ref 55)]) (ml := 2) (k0 := 101) (by decide) (Or.inl rfl) (m_opb_of (ins := .invokevirtual 92) (len := 3) (tag := 5) (a := 181) (b := 1) (c := 0) (q := 1412) (by decide +kernel)) (by decide +kernel) rfl (show m_isO 181 101 (SH, _) = true from m_isO_of (by decide +kernel)) (Nat.le_of_ble_eq_true rfl) rfl rfl (ok_Notes_become_101_55 X (d + 0) F _ _ _ hc6) ?_
  refine m_R_sg (by decide) [(.aload_n 0, 1, 0, 0, 0, 0, 0), (.aload_n 1, 1, 0, 1, 0, 0, 0), (.getfield 95, 3, 0, 10, 9, 0, 520), (.putfield 95, 3, 0, 10, 9, 0, 520), (.aload_n 0, 1, 0, 0, 0, 0, 0), (.aload_n 1, 1, 0, 1, 0, 0, 0), (.getfield 52, 3, 0, 10, 10, 0, 522), (.putfield 52, 3, 0, 10, 10, 0, 522), (.aload_n 0, 1, 0, 0, 0, 0, 0), (.aload_n 1, 1, 0, 1, 0, 0, 0), (.getfield 98, 3, 0, 10, 11, 0, 524), (.putfield 98, 3, 0, 10, 11, 0, 524)] (by decide +kernel) (show m_sgl X _ _ _ _ _ = some (90, [some (.ref 62), some (.ref 16)], [], (SH, (m_up (m_up (m_up q6.2.1 62 9 (q6.2.1 16 9)) 62 10 ((m_up q6.2.1 62 9 (q6.2.1 16 9)) 16 10)) 62 11 ((m_up (m_up q6.2.1 62 9 (q6.2.1 16 9)) 62 10 ((m_up q6.2.1 62 9 (q6.2.1 16 9)) 16 10)) 16 11)), q6.2.2)) from rfl) ?_
  exact ok_World_become_62_16_90 X d F _ _ _ h
def f_x_image (F : Nat)    (m : mM) : Option (Int32 × mM) := ((f_World_become_62_16 F m).bind fun q1 => some (((m_up q1.2.1 0 11 (1 : Int32)) 16 9), ((m_up q1.2.1 0 11 (1 : Int32)), q1.2.2)))
theorem ok_x_image (X : mX) (d F : Nat) : ∀   (m : mM) (r : Int32) (m' : mM), f_x_image F  m = some (r, m') → m_R X (d + 4) 190 0 [some (.ref 0)] [] (SH, m) (some (.int r), (SH, m')) := by
  intro m r m' h
  unfold f_x_image at h
  refine m_R_sg (by decide) [(.aload_n 0, 1, 0, 0, 0, 0, 0), (.getfield 32, 3, 0, 11, 3, 3, 633), (.aload_n 0, 1, 0, 0, 0, 0, 0), (.getfield 28, 3, 0, 11, 2, 3, 632)] (by decide +kernel) (show m_sgl X _ _ _ _ _ = some (8, [some (.ref 0)], [.ref 16, .ref 62], (SH, m.1, m.2)) from rfl) ?_
  obtain ⟨q1, hc1, h⟩ := Option.bind_eq_some_iff.mp h
  refine m_R_cV (v := none) (h1 := (SH, q1.2)) (rest := []) (lo' := [some (.ref 62), some (.ref 16)]) (ml := 2) (k0 := 62) (by decide) (Or.inl rfl) (m_opb_of (ins := .invokevirtual 432) (len := 3) (tag := 5) (a := 174) (b := 1) (c := 0) (q := 1380) (by decide +kernel)) (by decide +kernel) rfl (show m_isO 174 62 (SH, _) = true from m_isO_of (by decide +kernel)) (Nat.le_of_ble_eq_true rfl) rfl rfl (ok_World_become_62_16 X (d + 0) F _ _ _ hc1) ?_
  refine m_R_sg (by decide) [(.aload_n 0, 1, 0, 0, 0, 0, 0), (.iconst 1, 1, 0, 1, 0, 0, 0), (.putfield 461, 3, 0, 11, 11, 1, 641), (.aload_n 0, 1, 0, 0, 0, 0, 0), (.getfield 28, 3, 0, 11, 2, 3, 632), (.getfield 255, 3, 0, 10, 9, 0, 521)] (by decide +kernel) (show m_sgl X _ _ _ _ _ = some (23, [some (.ref 0)], [.int ((m_up q1.2.1 0 11 (1 : Int32)) 16 9)], (SH, (m_up q1.2.1 0 11 (1 : Int32)), q1.2.2)) from rfl) ?_
  obtain ⟨rfl, rfl⟩ := m_some h
  exact m_R_iret (by decide) (m_opb_of (ins := .ireturn) (len := 1) (tag := 1) (a := 0) (b := 0) (c := 0) (q := 0) (by decide +kernel)) (Or.inl rfl)
def f_m_image_2 (F : Nat)   : Nat → Int32 → mM → Option (Int32 × mM)
  | 0, _, _ => none
  | n + 1, v1, m => (if (9732 : Int32) ≤ v1 then some (((m_up m.1 304 24 (1 : Int32)) 305 (0 : Int32).toNatClampNeg), ((m_up m.1 304 24 (1 : Int32)), m.2)) else (if v1 < 0 ∨ 9732 ≤ v1.toNatClampNeg then none else f_m_image_2 F n (v1 + (1 : Int32)) ((m_up m.1 313 v1.toNatClampNeg (m.1 305 v1.toNatClampNeg)), m.2)))
theorem ok_m_image_2 (X : mX) (d F : Nat) : ∀ (n : Nat) (v1 : Int32)  (m : mM) (r : Int32) (m' : mM), f_m_image_2 F n v1 m = some (r, m') → m_R X (d + 0) 334 2 [some (.ref 304), some (.int v1)] [] (SH, m) (some (.int r), (SH, m')) := by
  intro n
  induction n with
  | zero => intro v1 m r m' h; cases h
  | succ n ih =>
    intro v1 m r m' h
    simp only [f_m_image_2] at h
    refine m_R_sg (by decide) [(.iload_n 1, 1, 0, 1, 0, 0, 0), (.sipush 9732, 3, 0, 9732, 0, 0, 0)] (by decide +kernel) (show m_sgl X _ _ _ _ _ = some (6, [some (.ref 304), some (.int v1)], [.int (9732 : Int32), .int v1], (SH, m.1, m.2)) from rfl) ?_
    rcases m_ite h with ⟨c1478, h⟩ | ⟨c1478, h⟩
    · refine m_R_1 (by decide) (m_opb_of (ins := .if_icmp .ge 21) (len := 3) (tag := 0) (a := 27) (b := 0) (c := 0) (q := 0) (by decide +kernel)) (if_pos c1478) ?_
      refine m_R_sg (by decide) [(.aload_n 0, 1, 0, 0, 0, 0, 0), (.iconst 1, 1, 0, 1, 0, 0, 0), (.putfield 451, 3, 0, 12, 24, 1, 1516), (.aload_n 0, 1, 0, 0, 0, 0, 0), (.getfield 13, 3, 0, 12, 1, 3, 1493), (.iconst 0, 1, 0, 0, 0, 0, 0)] (by decide +kernel) (show m_sgl X _ _ _ _ _ = some (37, [some (.ref 304), some (.int v1)], [.int (0 : Int32), .ref 305], (SH, (m_up m.1 304 24 (1 : Int32)), m.2)) from rfl) ?_
      refine m_R_1 (by decide) (m_opb_of (ins := .iaload) (len := 1) (tag := 0) (a := 0) (b := 0) (c := 0) (q := 0) (by decide +kernel)) (m_s_iald sh_305 (by decide) (show ¬ ((0 : Int32) < 0 ∨ 9732 ≤ (0 : Int32).toNatClampNeg) by decide)) ?_
      obtain ⟨rfl, rfl⟩ := m_some h
      exact m_R_iret (by decide) (m_opb_of (ins := .ireturn) (len := 1) (tag := 1) (a := 0) (b := 0) (c := 0) (q := 0) (by decide +kernel)) (Or.inl rfl)
    · refine m_R_1 (by decide) (m_opb_of (ins := .if_icmp .ge 21) (len := 3) (tag := 0) (a := 27) (b := 0) (c := 0) (q := 0) (by decide +kernel)) (if_neg c1478) ?_
      refine m_R_sg (by decide) [(.aload_n 0, 1, 0, 0, 0, 0, 0), (.getfield 39, 3, 0, 12, 23, 3, 1515), (.iload_n 1, 1, 0, 1, 0, 0, 0), (.aload_n 0, 1, 0, 0, 0, 0, 0), (.getfield 13, 3, 0, 12, 1, 3, 1493), (.iload_n 1, 1, 0, 1, 0, 0, 0)] (by decide +kernel) (show m_sgl X _ _ _ _ _ = some (19, [some (.ref 304), some (.int v1)], [.int v1, .ref 305, .int v1, .ref 313], (SH, m.1, m.2)) from rfl) ?_
      obtain ⟨c1479, h⟩ := m_ite_n h
      refine m_R_1 (by decide) (m_opb_of (ins := .iaload) (len := 1) (tag := 0) (a := 0) (b := 0) (c := 0) (q := 0) (by decide +kernel)) (m_s_iald sh_305 (by decide) c1479) ?_
      refine m_R_1 (by decide) (m_opb_of (ins := .iastore) (len := 1) (tag := 0) (a := 0) (b := 0) (c := 0) (q := 0) (by decide +kernel)) (m_s_iast sh_313 c1479) ?_
      refine m_R_sg (by decide) [(.iinc 1 1, 3, 0, 1, 1, 0, 0), (.goto (-22), 3, 0, 2, 0, 0, 0)] (by decide +kernel) (show m_sgl X _ _ _ _ _ = some (2, [some (.ref 304), some (.int (v1 + (1 : Int32)))], [], (SH, (m_up m.1 313 v1.toNatClampNeg (m.1 305 v1.toNatClampNeg)), m.2)) from rfl) ?_
      exact ih _ _ _ _ h
def f_m_image (F : Nat)    (m : mM) : Option (Int32 × mM) := f_m_image_2 F F (0 : Int32) m
theorem ok_m_image (X : mX) (d F : Nat) : ∀   (m : mM) (r : Int32) (m' : mM), f_m_image F  m = some (r, m') → m_R X (d + 0) 334 0 [some (.ref 304), none] [] (SH, m) (some (.int r), (SH, m')) := by
  intro m r m' h
  unfold f_m_image at h
  refine m_R_sg (by decide) [(.iconst 0, 1, 0, 0, 0, 0, 0), (.istore_n 1, 1, 0, 1, 0, 0, 0)] (by decide +kernel) (show m_sgl X _ _ _ _ _ = some (2, [some (.ref 304), some (.int (0 : Int32))], [], (SH, m.1, m.2)) from rfl) ?_
  exact ok_m_image_2 X d F F _ _ _ _ h
def f_x_copyAll_64_18 (F : Nat)    (m : mM) : Option (Unit × mM) := ((f_Math_min_II F (Int32.ofNat 64) (Int32.ofNat 64) m).bind fun q1 => (if (0 : Int32) < 0 ∨ (0 : Int32) < 0 ∨ q1.1 < 0 ∨ 64 < (0 : Int32).toNatClampNeg + q1.1.toNatClampNeg ∨ 64 < (0 : Int32).toNatClampNeg + q1.1.toNatClampNeg then none else some ((), ((m_row q1.2.1 18 (va_cpy (q1.2.1 64) (q1.2.1 18) (0 : Int32).toNatClampNeg (0 : Int32).toNatClampNeg q1.1.toNatClampNeg)), q1.2.2))))
theorem ok_x_copyAll_64_18 (X : mX) (d F : Nat) : ∀   (m : mM) (r : Unit) (m' : mM), f_x_copyAll_64_18 F  m = some (r, m') → m_R X (d + 1) 176 0 [some (.ref 64), some (.ref 18)] [] (SH, m) (none, (SH, m')) := by
  intro m r m' h
  unfold f_x_copyAll_64_18 at h
  refine m_R_sg (by decide) [(.aload_n 0, 1, 0, 0, 0, 0, 0), (.iconst 0, 1, 0, 0, 0, 0, 0), (.aload_n 1, 1, 0, 1, 0, 0, 0), (.iconst 0, 1, 0, 0, 0, 0, 0), (.aload_n 0, 1, 0, 0, 0, 0, 0), (.arraylength, 1, 0, 0, 0, 0, 0), (.aload_n 1, 1, 0, 1, 0, 0, 0), (.arraylength, 1, 0, 0, 0, 0, 0)] (by decide +kernel) (show m_sgl X _ _ _ _ _ = some (8, [some (.ref 64), some (.ref 18)], [.int (Int32.ofNat 64), .int (Int32.ofNat 64), .int (0 : Int32), .ref 18, .int (0 : Int32), .ref 64], (SH, m.1, m.2)) from rfl) ?_
  obtain ⟨q1, hc1, h⟩ := Option.bind_eq_some_iff.mp h
  refine m_R_cS (v := (some (.int q1.1))) (h1 := (SH, q1.2)) (rest := [.int (0 : Int32), .ref 18, .int (0 : Int32), .ref 64]) (lo' := [some (.int (Int32.ofNat 64)), some (.int (Int32.ofNat 64))]) (ml := 2) (by decide) (m_opb_of (ins := .invokestatic 219) (len := 3) (tag := 4) (a := 50) (b := 2) (c := 0) (q := 893) (by decide +kernel)) (by decide +kernel) (Nat.le_of_ble_eq_true rfl) rfl (Nat.le_of_ble_eq_true rfl) rfl rfl (ok_Math_min_II X (d + 0) F _ _ _ _ _ hc1) ?_
  obtain ⟨c0, h⟩ := m_ite_n h
  refine m_R_cpy (by decide) (m_opb_of (ins := .invokestatic 452) (len := 3) (tag := 8) (a := 0) (b := 0) (c := 0) (q := 1391) (by decide +kernel)) (Nat.le_of_ble_eq_true rfl) (m_cpy_of sh_64 sh_18 c0) ?_
  obtain ⟨rfl, rfl⟩ := m_some h
  exact m_R_vret (by decide) (m_opb_of (ins := .return_) (len := 1) (tag := 3) (a := 0) (b := 0) (c := 0) (q := 0) (by decide +kernel))
def f_Land_become_17_63 (F : Nat)    (m : mM) : Option (Unit × mM) := ((f_x_copyAll_64_18 F m).bind fun q1 => some ((), ((m_up (m_up q1.2.1 17 1 (q1.2.1 63 1)) 17 2 ((m_up q1.2.1 17 1 (q1.2.1 63 1)) 63 2)), q1.2.2)))
theorem ok_Land_become_17_63 (X : mX) (d F : Nat) : ∀   (m : mM) (r : Unit) (m' : mM), f_Land_become_17_63 F  m = some (r, m') → m_R X (d + 2) 175 0 [some (.ref 17), some (.ref 63)] [] (SH, m) (none, (SH, m')) := by
  intro m r m' h
  unfold f_Land_become_17_63 at h
  refine m_R_sg (by decide) [(.aload_n 1, 1, 0, 1, 0, 0, 0), (.getfield 9, 3, 0, 2, 0, 3, 231), (.aload_n 0, 1, 0, 0, 0, 0, 0), (.getfield 9, 3, 0, 2, 0, 3, 231)] (by decide +kernel) (show m_sgl X _ _ _ _ _ = some (8, [some (.ref 17), some (.ref 63)], [.ref 18, .ref 64], (SH, m.1, m.2)) from rfl) ?_
  obtain ⟨q1, hc1, h⟩ := Option.bind_eq_some_iff.mp h
  refine m_R_cS (v := none) (h1 := (SH, q1.2)) (rest := []) (lo' := [some (.ref 64), some (.ref 18)]) (ml := 2) (by decide) (m_opb_of (ins := .invokestatic 19) (len := 3) (tag := 4) (a := 176) (b := 2) (c := 1) (q := 1388) (by decide +kernel)) (by decide +kernel) (Nat.le_of_ble_eq_true rfl) rfl (Nat.le_of_ble_eq_true rfl) rfl rfl (ok_x_copyAll_64_18 X (d + 0) F _ _ _ hc1) ?_
  refine m_R_sg (by decide) [(.aload_n 0, 1, 0, 0, 0, 0, 0), (.aload_n 1, 1, 0, 1, 0, 0, 0), (.getfield 15, 3, 0, 2, 1, 0, 232), (.putfield 15, 3, 0, 2, 1, 0, 232), (.aload_n 0, 1, 0, 0, 0, 0, 0), (.aload_n 1, 1, 0, 1, 0, 0, 0), (.getfield 23, 3, 0, 2, 2, 0, 234), (.putfield 23, 3, 0, 2, 2, 0, 234)] (by decide +kernel) (show m_sgl X _ _ _ _ _ = some (27, [some (.ref 17), some (.ref 63)], [], (SH, (m_up (m_up q1.2.1 17 1 (q1.2.1 63 1)) 17 2 ((m_up q1.2.1 17 1 (q1.2.1 63 1)) 63 2)), q1.2.2)) from rfl) ?_
  obtain ⟨rfl, rfl⟩ := m_some h
  exact m_R_vret (by decide) (m_opb_of (ins := .return_) (len := 1) (tag := 3) (a := 0) (b := 0) (c := 0) (q := 0) (by decide +kernel))
def f_x_copyAll_66_20 (F : Nat)    (m : mM) : Option (Unit × mM) := ((f_Math_min_II F (Int32.ofNat 16) (Int32.ofNat 16) m).bind fun q1 => (if (0 : Int32) < 0 ∨ (0 : Int32) < 0 ∨ q1.1 < 0 ∨ 16 < (0 : Int32).toNatClampNeg + q1.1.toNatClampNeg ∨ 16 < (0 : Int32).toNatClampNeg + q1.1.toNatClampNeg then none else some ((), ((m_row q1.2.1 20 (va_cpy (q1.2.1 66) (q1.2.1 20) (0 : Int32).toNatClampNeg (0 : Int32).toNatClampNeg q1.1.toNatClampNeg)), q1.2.2))))
theorem ok_x_copyAll_66_20 (X : mX) (d F : Nat) : ∀   (m : mM) (r : Unit) (m' : mM), f_x_copyAll_66_20 F  m = some (r, m') → m_R X (d + 1) 176 0 [some (.ref 66), some (.ref 20)] [] (SH, m) (none, (SH, m')) := by
  intro m r m' h
  unfold f_x_copyAll_66_20 at h
  refine m_R_sg (by decide) [(.aload_n 0, 1, 0, 0, 0, 0, 0), (.iconst 0, 1, 0, 0, 0, 0, 0), (.aload_n 1, 1, 0, 1, 0, 0, 0), (.iconst 0, 1, 0, 0, 0, 0, 0), (.aload_n 0, 1, 0, 0, 0, 0, 0), (.arraylength, 1, 0, 0, 0, 0, 0), (.aload_n 1, 1, 0, 1, 0, 0, 0), (.arraylength, 1, 0, 0, 0, 0, 0)] (by decide +kernel) (show m_sgl X _ _ _ _ _ = some (8, [some (.ref 66), some (.ref 20)], [.int (Int32.ofNat 16), .int (Int32.ofNat 16), .int (0 : Int32), .ref 20, .int (0 : Int32), .ref 66], (SH, m.1, m.2)) from rfl) ?_
  obtain ⟨q1, hc1, h⟩ := Option.bind_eq_some_iff.mp h
  refine m_R_cS (v := (some (.int q1.1))) (h1 := (SH, q1.2)) (rest := [.int (0 : Int32), .ref 20, .int (0 : Int32), .ref 66]) (lo' := [some (.int (Int32.ofNat 16)), some (.int (Int32.ofNat 16))]) (ml := 2) (by decide) (m_opb_of (ins := .invokestatic 219) (len := 3) (tag := 4) (a := 50) (b := 2) (c := 0) (q := 893) (by decide +kernel)) (by decide +kernel) (Nat.le_of_ble_eq_true rfl) rfl (Nat.le_of_ble_eq_true rfl) rfl rfl (ok_Math_min_II X (d + 0) F _ _ _ _ _ hc1) ?_
  obtain ⟨c0, h⟩ := m_ite_n h
  refine m_R_cpy (by decide) (m_opb_of (ins := .invokestatic 452) (len := 3) (tag := 8) (a := 0) (b := 0) (c := 0) (q := 1391) (by decide +kernel)) (Nat.le_of_ble_eq_true rfl) (m_cpy_of sh_66 sh_20 c0) ?_
  obtain ⟨rfl, rfl⟩ := m_some h
  exact m_R_vret (by decide) (m_opb_of (ins := .return_) (len := 1) (tag := 3) (a := 0) (b := 0) (c := 0) (q := 0) (by decide +kernel))
def f_x_copyAll_67_21 (F : Nat)    (m : mM) : Option (Unit × mM) := ((f_Math_min_II F (Int32.ofNat 16) (Int32.ofNat 16) m).bind fun q1 => (if (0 : Int32) < 0 ∨ (0 : Int32) < 0 ∨ q1.1 < 0 ∨ 16 < (0 : Int32).toNatClampNeg + q1.1.toNatClampNeg ∨ 16 < (0 : Int32).toNatClampNeg + q1.1.toNatClampNeg then none else some ((), ((m_row q1.2.1 21 (va_cpy (q1.2.1 67) (q1.2.1 21) (0 : Int32).toNatClampNeg (0 : Int32).toNatClampNeg q1.1.toNatClampNeg)), q1.2.2))))
theorem ok_x_copyAll_67_21 (X : mX) (d F : Nat) : ∀   (m : mM) (r : Unit) (m' : mM), f_x_copyAll_67_21 F  m = some (r, m') → m_R X (d + 1) 176 0 [some (.ref 67), some (.ref 21)] [] (SH, m) (none, (SH, m')) := by
  intro m r m' h
  unfold f_x_copyAll_67_21 at h
  refine m_R_sg (by decide) [(.aload_n 0, 1, 0, 0, 0, 0, 0), (.iconst 0, 1, 0, 0, 0, 0, 0), (.aload_n 1, 1, 0, 1, 0, 0, 0), (.iconst 0, 1, 0, 0, 0, 0, 0), (.aload_n 0, 1, 0, 0, 0, 0, 0), (.arraylength, 1, 0, 0, 0, 0, 0), (.aload_n 1, 1, 0, 1, 0, 0, 0), (.arraylength, 1, 0, 0, 0, 0, 0)] (by decide +kernel) (show m_sgl X _ _ _ _ _ = some (8, [some (.ref 67), some (.ref 21)], [.int (Int32.ofNat 16), .int (Int32.ofNat 16), .int (0 : Int32), .ref 21, .int (0 : Int32), .ref 67], (SH, m.1, m.2)) from rfl) ?_
  obtain ⟨q1, hc1, h⟩ := Option.bind_eq_some_iff.mp h
  refine m_R_cS (v := (some (.int q1.1))) (h1 := (SH, q1.2)) (rest := [.int (0 : Int32), .ref 21, .int (0 : Int32), .ref 67]) (lo' := [some (.int (Int32.ofNat 16)), some (.int (Int32.ofNat 16))]) (ml := 2) (by decide) (m_opb_of (ins := .invokestatic 219) (len := 3) (tag := 4) (a := 50) (b := 2) (c := 0) (q := 893) (by decide +kernel)) (by decide +kernel) (Nat.le_of_ble_eq_true rfl) rfl (Nat.le_of_ble_eq_true rfl) rfl rfl (ok_Math_min_II X (d + 0) F _ _ _ _ _ hc1) ?_
  obtain ⟨c0, h⟩ := m_ite_n h
  refine m_R_cpy (by decide) (m_opb_of (ins := .invokestatic 452) (len := 3) (tag := 8) (a := 0) (b := 0) (c := 0) (q := 1391) (by decide +kernel)) (Nat.le_of_ble_eq_true rfl) (m_cpy_of sh_67 sh_21 c0) ?_
  obtain ⟨rfl, rfl⟩ := m_some h
  exact m_R_vret (by decide) (m_opb_of (ins := .return_) (len := 1) (tag := 3) (a := 0) (b := 0) (c := 0) (q := 0) (by decide +kernel))
def f_x_copyAll_68_22 (F : Nat)    (m : mM) : Option (Unit × mM) := ((f_Math_min_II F (Int32.ofNat 16) (Int32.ofNat 16) m).bind fun q1 => (if (0 : Int32) < 0 ∨ (0 : Int32) < 0 ∨ q1.1 < 0 ∨ 16 < (0 : Int32).toNatClampNeg + q1.1.toNatClampNeg ∨ 16 < (0 : Int32).toNatClampNeg + q1.1.toNatClampNeg then none else some ((), ((m_row q1.2.1 22 (va_cpy (q1.2.1 68) (q1.2.1 22) (0 : Int32).toNatClampNeg (0 : Int32).toNatClampNeg q1.1.toNatClampNeg)), q1.2.2))))
theorem ok_x_copyAll_68_22 (X : mX) (d F : Nat) : ∀   (m : mM) (r : Unit) (m' : mM), f_x_copyAll_68_22 F  m = some (r, m') → m_R X (d + 1) 176 0 [some (.ref 68), some (.ref 22)] [] (SH, m) (none, (SH, m')) := by
  intro m r m' h
  unfold f_x_copyAll_68_22 at h
  refine m_R_sg (by decide) [(.aload_n 0, 1, 0, 0, 0, 0, 0), (.iconst 0, 1, 0, 0, 0, 0, 0), (.aload_n 1, 1, 0, 1, 0, 0, 0), (.iconst 0, 1, 0, 0, 0, 0, 0), (.aload_n 0, 1, 0, 0, 0, 0, 0), (.arraylength, 1, 0, 0, 0, 0, 0), (.aload_n 1, 1, 0, 1, 0, 0, 0), (.arraylength, 1, 0, 0, 0, 0, 0)] (by decide +kernel) (show m_sgl X _ _ _ _ _ = some (8, [some (.ref 68), some (.ref 22)], [.int (Int32.ofNat 16), .int (Int32.ofNat 16), .int (0 : Int32), .ref 22, .int (0 : Int32), .ref 68], (SH, m.1, m.2)) from rfl) ?_
  obtain ⟨q1, hc1, h⟩ := Option.bind_eq_some_iff.mp h
  refine m_R_cS (v := (some (.int q1.1))) (h1 := (SH, q1.2)) (rest := [.int (0 : Int32), .ref 22, .int (0 : Int32), .ref 68]) (lo' := [some (.int (Int32.ofNat 16)), some (.int (Int32.ofNat 16))]) (ml := 2) (by decide) (m_opb_of (ins := .invokestatic 219) (len := 3) (tag := 4) (a := 50) (b := 2) (c := 0) (q := 893) (by decide +kernel)) (by decide +kernel) (Nat.le_of_ble_eq_true rfl) rfl (Nat.le_of_ble_eq_true rfl) rfl rfl (ok_Math_min_II X (d + 0) F _ _ _ _ _ hc1) ?_
  obtain ⟨c0, h⟩ := m_ite_n h
  refine m_R_cpy (by decide) (m_opb_of (ins := .invokestatic 452) (len := 3) (tag := 8) (a := 0) (b := 0) (c := 0) (q := 1391) (by decide +kernel)) (Nat.le_of_ble_eq_true rfl) (m_cpy_of sh_68 sh_22 c0) ?_
  obtain ⟨rfl, rfl⟩ := m_some h
  exact m_R_vret (by decide) (m_opb_of (ins := .return_) (len := 1) (tag := 3) (a := 0) (b := 0) (c := 0) (q := 0) (by decide +kernel))
def f_x_copyAll_69_23 (F : Nat)    (m : mM) : Option (Unit × mM) := ((f_Math_min_II F (Int32.ofNat 16) (Int32.ofNat 16) m).bind fun q1 => (if (0 : Int32) < 0 ∨ (0 : Int32) < 0 ∨ q1.1 < 0 ∨ 16 < (0 : Int32).toNatClampNeg + q1.1.toNatClampNeg ∨ 16 < (0 : Int32).toNatClampNeg + q1.1.toNatClampNeg then none else some ((), ((m_row q1.2.1 23 (va_cpy (q1.2.1 69) (q1.2.1 23) (0 : Int32).toNatClampNeg (0 : Int32).toNatClampNeg q1.1.toNatClampNeg)), q1.2.2))))
theorem ok_x_copyAll_69_23 (X : mX) (d F : Nat) : ∀   (m : mM) (r : Unit) (m' : mM), f_x_copyAll_69_23 F  m = some (r, m') → m_R X (d + 1) 176 0 [some (.ref 69), some (.ref 23)] [] (SH, m) (none, (SH, m')) := by
  intro m r m' h
  unfold f_x_copyAll_69_23 at h
  refine m_R_sg (by decide) [(.aload_n 0, 1, 0, 0, 0, 0, 0), (.iconst 0, 1, 0, 0, 0, 0, 0), (.aload_n 1, 1, 0, 1, 0, 0, 0), (.iconst 0, 1, 0, 0, 0, 0, 0), (.aload_n 0, 1, 0, 0, 0, 0, 0), (.arraylength, 1, 0, 0, 0, 0, 0), (.aload_n 1, 1, 0, 1, 0, 0, 0), (.arraylength, 1, 0, 0, 0, 0, 0)] (by decide +kernel) (show m_sgl X _ _ _ _ _ = some (8, [some (.ref 69), some (.ref 23)], [.int (Int32.ofNat 16), .int (Int32.ofNat 16), .int (0 : Int32), .ref 23, .int (0 : Int32), .ref 69], (SH, m.1, m.2)) from rfl) ?_
  obtain ⟨q1, hc1, h⟩ := Option.bind_eq_some_iff.mp h
  refine m_R_cS (v := (some (.int q1.1))) (h1 := (SH, q1.2)) (rest := [.int (0 : Int32), .ref 23, .int (0 : Int32), .ref 69]) (lo' := [some (.int (Int32.ofNat 16)), some (.int (Int32.ofNat 16))]) (ml := 2) (by decide) (m_opb_of (ins := .invokestatic 219) (len := 3) (tag := 4) (a := 50) (b := 2) (c := 0) (q := 893) (by decide +kernel)) (by decide +kernel) (Nat.le_of_ble_eq_true rfl) rfl (Nat.le_of_ble_eq_true rfl) rfl rfl (ok_Math_min_II X (d + 0) F _ _ _ _ _ hc1) ?_
  obtain ⟨c0, h⟩ := m_ite_n h
  refine m_R_cpy (by decide) (m_opb_of (ins := .invokestatic 452) (len := 3) (tag := 8) (a := 0) (b := 0) (c := 0) (q := 1391) (by decide +kernel)) (Nat.le_of_ble_eq_true rfl) (m_cpy_of sh_69 sh_23 c0) ?_
  obtain ⟨rfl, rfl⟩ := m_some h
  exact m_R_vret (by decide) (m_opb_of (ins := .return_) (len := 1) (tag := 3) (a := 0) (b := 0) (c := 0) (q := 0) (by decide +kernel))
def f_x_copyAll_70_24 (F : Nat)    (m : mM) : Option (Unit × mM) := ((f_Math_min_II F (Int32.ofNat 16) (Int32.ofNat 16) m).bind fun q1 => (if (0 : Int32) < 0 ∨ (0 : Int32) < 0 ∨ q1.1 < 0 ∨ 16 < (0 : Int32).toNatClampNeg + q1.1.toNatClampNeg ∨ 16 < (0 : Int32).toNatClampNeg + q1.1.toNatClampNeg then none else some ((), ((m_row q1.2.1 24 (va_cpy (q1.2.1 70) (q1.2.1 24) (0 : Int32).toNatClampNeg (0 : Int32).toNatClampNeg q1.1.toNatClampNeg)), q1.2.2))))
theorem ok_x_copyAll_70_24 (X : mX) (d F : Nat) : ∀   (m : mM) (r : Unit) (m' : mM), f_x_copyAll_70_24 F  m = some (r, m') → m_R X (d + 1) 176 0 [some (.ref 70), some (.ref 24)] [] (SH, m) (none, (SH, m')) := by
  intro m r m' h
  unfold f_x_copyAll_70_24 at h
  refine m_R_sg (by decide) [(.aload_n 0, 1, 0, 0, 0, 0, 0), (.iconst 0, 1, 0, 0, 0, 0, 0), (.aload_n 1, 1, 0, 1, 0, 0, 0), (.iconst 0, 1, 0, 0, 0, 0, 0), (.aload_n 0, 1, 0, 0, 0, 0, 0), (.arraylength, 1, 0, 0, 0, 0, 0), (.aload_n 1, 1, 0, 1, 0, 0, 0), (.arraylength, 1, 0, 0, 0, 0, 0)] (by decide +kernel) (show m_sgl X _ _ _ _ _ = some (8, [some (.ref 70), some (.ref 24)], [.int (Int32.ofNat 16), .int (Int32.ofNat 16), .int (0 : Int32), .ref 24, .int (0 : Int32), .ref 70], (SH, m.1, m.2)) from rfl) ?_
  obtain ⟨q1, hc1, h⟩ := Option.bind_eq_some_iff.mp h
  refine m_R_cS (v := (some (.int q1.1))) (h1 := (SH, q1.2)) (rest := [.int (0 : Int32), .ref 24, .int (0 : Int32), .ref 70]) (lo' := [some (.int (Int32.ofNat 16)), some (.int (Int32.ofNat 16))]) (ml := 2) (by decide) (m_opb_of (ins := .invokestatic 219) (len := 3) (tag := 4) (a := 50) (b := 2) (c := 0) (q := 893) (by decide +kernel)) (by decide +kernel) (Nat.le_of_ble_eq_true rfl) rfl (Nat.le_of_ble_eq_true rfl) rfl rfl (ok_Math_min_II X (d + 0) F _ _ _ _ _ hc1) ?_
  obtain ⟨c0, h⟩ := m_ite_n h
  refine m_R_cpy (by decide) (m_opb_of (ins := .invokestatic 452) (len := 3) (tag := 8) (a := 0) (b := 0) (c := 0) (q := 1391) (by decide +kernel)) (Nat.le_of_ble_eq_true rfl) (m_cpy_of sh_70 sh_24 c0) ?_
  obtain ⟨rfl, rfl⟩ := m_some h
  exact m_R_vret (by decide) (m_opb_of (ins := .return_) (len := 1) (tag := 3) (a := 0) (b := 0) (c := 0) (q := 0) (by decide +kernel))
def f_x_copyAll_71_25 (F : Nat)    (m : mM) : Option (Unit × mM) := ((f_Math_min_II F (Int32.ofNat 16) (Int32.ofNat 16) m).bind fun q1 => (if (0 : Int32) < 0 ∨ (0 : Int32) < 0 ∨ q1.1 < 0 ∨ 16 < (0 : Int32).toNatClampNeg + q1.1.toNatClampNeg ∨ 16 < (0 : Int32).toNatClampNeg + q1.1.toNatClampNeg then none else some ((), ((m_row q1.2.1 25 (va_cpy (q1.2.1 71) (q1.2.1 25) (0 : Int32).toNatClampNeg (0 : Int32).toNatClampNeg q1.1.toNatClampNeg)), q1.2.2))))
theorem ok_x_copyAll_71_25 (X : mX) (d F : Nat) : ∀   (m : mM) (r : Unit) (m' : mM), f_x_copyAll_71_25 F  m = some (r, m') → m_R X (d + 1) 176 0 [some (.ref 71), some (.ref 25)] [] (SH, m) (none, (SH, m')) := by
  intro m r m' h
  unfold f_x_copyAll_71_25 at h
  refine m_R_sg (by decide) [(.aload_n 0, 1, 0, 0, 0, 0, 0), (.iconst 0, 1, 0, 0, 0, 0, 0), (.aload_n 1, 1, 0, 1, 0, 0, 0), (.iconst 0, 1, 0, 0, 0, 0, 0), (.aload_n 0, 1, 0, 0, 0, 0, 0), (.arraylength, 1, 0, 0, 0, 0, 0), (.aload_n 1, 1, 0, 1, 0, 0, 0), (.arraylength, 1, 0, 0, 0, 0, 0)] (by decide +kernel) (show m_sgl X _ _ _ _ _ = some (8, [some (.ref 71), some (.ref 25)], [.int (Int32.ofNat 16), .int (Int32.ofNat 16), .int (0 : Int32), .ref 25, .int (0 : Int32), .ref 71], (SH, m.1, m.2)) from rfl) ?_
  obtain ⟨q1, hc1, h⟩ := Option.bind_eq_some_iff.mp h
  refine m_R_cS (v := (some (.int q1.1))) (h1 := (SH, q1.2)) (rest := [.int (0 : Int32), .ref 25, .int (0 : Int32), .ref 71]) (lo' := [some (.int (Int32.ofNat 16)), some (.int (Int32.ofNat 16))]) (ml := 2) (by decide) (m_opb_of (ins := .invokestatic 219) (len := 3) (tag := 4) (a := 50) (b := 2) (c := 0) (q := 893) (by decide +kernel)) (by decide +kernel) (Nat.le_of_ble_eq_true rfl) rfl (Nat.le_of_ble_eq_true rfl) rfl rfl (ok_Math_min_II X (d + 0) F _ _ _ _ _ hc1) ?_
  obtain ⟨c0, h⟩ := m_ite_n h
  refine m_R_cpy (by decide) (m_opb_of (ins := .invokestatic 452) (len := 3) (tag := 8) (a := 0) (b := 0) (c := 0) (q := 1391) (by decide +kernel)) (Nat.le_of_ble_eq_true rfl) (m_cpy_of sh_71 sh_25 c0) ?_
  obtain ⟨rfl, rfl⟩ := m_some h
  exact m_R_vret (by decide) (m_opb_of (ins := .return_) (len := 1) (tag := 3) (a := 0) (b := 0) (c := 0) (q := 0) (by decide +kernel))
def f_x_copyAll_72_26 (F : Nat)    (m : mM) : Option (Unit × mM) := ((f_Math_min_II F (Int32.ofNat 16) (Int32.ofNat 16) m).bind fun q1 => (if (0 : Int32) < 0 ∨ (0 : Int32) < 0 ∨ q1.1 < 0 ∨ 16 < (0 : Int32).toNatClampNeg + q1.1.toNatClampNeg ∨ 16 < (0 : Int32).toNatClampNeg + q1.1.toNatClampNeg then none else some ((), ((m_row q1.2.1 26 (va_cpy (q1.2.1 72) (q1.2.1 26) (0 : Int32).toNatClampNeg (0 : Int32).toNatClampNeg q1.1.toNatClampNeg)), q1.2.2))))
theorem ok_x_copyAll_72_26 (X : mX) (d F : Nat) : ∀   (m : mM) (r : Unit) (m' : mM), f_x_copyAll_72_26 F  m = some (r, m') → m_R X (d + 1) 176 0 [some (.ref 72), some (.ref 26)] [] (SH, m) (none, (SH, m')) := by
  intro m r m' h
  unfold f_x_copyAll_72_26 at h
  refine m_R_sg (by decide) [(.aload_n 0, 1, 0, 0, 0, 0, 0), (.iconst 0, 1, 0, 0, 0, 0, 0), (.aload_n 1, 1, 0, 1, 0, 0, 0), (.iconst 0, 1, 0, 0, 0, 0, 0), (.aload_n 0, 1, 0, 0, 0, 0, 0), (.arraylength, 1, 0, 0, 0, 0, 0), (.aload_n 1, 1, 0, 1, 0, 0, 0), (.arraylength, 1, 0, 0, 0, 0, 0)] (by decide +kernel) (show m_sgl X _ _ _ _ _ = some (8, [some (.ref 72), some (.ref 26)], [.int (Int32.ofNat 16), .int (Int32.ofNat 16), .int (0 : Int32), .ref 26, .int (0 : Int32), .ref 72], (SH, m.1, m.2)) from rfl) ?_
  obtain ⟨q1, hc1, h⟩ := Option.bind_eq_some_iff.mp h
  refine m_R_cS (v := (some (.int q1.1))) (h1 := (SH, q1.2)) (rest := [.int (0 : Int32), .ref 26, .int (0 : Int32), .ref 72]) (lo' := [some (.int (Int32.ofNat 16)), some (.int (Int32.ofNat 16))]) (ml := 2) (by decide) (m_opb_of (ins := .invokestatic 219) (len := 3) (tag := 4) (a := 50) (b := 2) (c := 0) (q := 893) (by decide +kernel)) (by decide +kernel) (Nat.le_of_ble_eq_true rfl) rfl (Nat.le_of_ble_eq_true rfl) rfl rfl (ok_Math_min_II X (d + 0) F _ _ _ _ _ hc1) ?_
  obtain ⟨c0, h⟩ := m_ite_n h
  refine m_R_cpy (by decide) (m_opb_of (ins := .invokestatic 452) (len := 3) (tag := 8) (a := 0) (b := 0) (c := 0) (q := 1391) (by decide +kernel)) (Nat.le_of_ble_eq_true rfl) (m_cpy_of sh_72 sh_26 c0) ?_
  obtain ⟨rfl, rfl⟩ := m_some h
  exact m_R_vret (by decide) (m_opb_of (ins := .return_) (len := 1) (tag := 3) (a := 0) (b := 0) (c := 0) (q := 0) (by decide +kernel))
def f_x_copyAll_73_27 (F : Nat)    (m : mM) : Option (Unit × mM) := ((f_Math_min_II F (Int32.ofNat 16) (Int32.ofNat 16) m).bind fun q1 => (if (0 : Int32) < 0 ∨ (0 : Int32) < 0 ∨ q1.1 < 0 ∨ 16 < (0 : Int32).toNatClampNeg + q1.1.toNatClampNeg ∨ 16 < (0 : Int32).toNatClampNeg + q1.1.toNatClampNeg then none else some ((), ((m_row q1.2.1 27 (va_cpy (q1.2.1 73) (q1.2.1 27) (0 : Int32).toNatClampNeg (0 : Int32).toNatClampNeg q1.1.toNatClampNeg)), q1.2.2))))
theorem ok_x_copyAll_73_27 (X : mX) (d F : Nat) : ∀   (m : mM) (r : Unit) (m' : mM), f_x_copyAll_73_27 F  m = some (r, m') → m_R X (d + 1) 176 0 [some (.ref 73), some (.ref 27)] [] (SH, m) (none, (SH, m')) := by
  intro m r m' h
  unfold f_x_copyAll_73_27 at h
  refine m_R_sg (by decide) [(.aload_n 0, 1, 0, 0, 0, 0, 0), (.iconst 0, 1, 0, 0, 0, 0, 0), (.aload_n 1, 1, 0, 1, 0, 0, 0), (.iconst 0, 1, 0, 0, 0, 0, 0), (.aload_n 0, 1, 0, 0, 0, 0, 0), (.arraylength, 1, 0, 0, 0, 0, 0), (.aload_n 1, 1, 0, 1, 0, 0, 0), (.arraylength, 1, 0, 0, 0, 0, 0)] (by decide +kernel) (show m_sgl X _ _ _ _ _ = some (8, [some (.ref 73), some (.ref 27)], [.int (Int32.ofNat 16), .int (Int32.ofNat 16), .int (0 : Int32), .ref 27, .int (0 : Int32), .ref 73], (SH, m.1, m.2)) from rfl) ?_
  obtain ⟨q1, hc1, h⟩ := Option.bind_eq_some_iff.mp h
  refine m_R_cS (v := (some (.int q1.1))) (h1 := (SH, q1.2)) (rest := [.int (0 : Int32), .ref 27, .int (0 : Int32), .ref 73]) (lo' := [some (.int (Int32.ofNat 16)), some (.int (Int32.ofNat 16))]) (ml := 2) (by decide) (m_opb_of (ins := .invokestatic 219) (len := 3) (tag := 4) (a := 50) (b := 2) (c := 0) (q := 893) (by decide +kernel)) (by decide +kernel) (Nat.le_of_ble_eq_true rfl) rfl (Nat.le_of_ble_eq_true rfl) rfl rfl (ok_Math_min_II X (d + 0) F _ _ _ _ _ hc1) ?_
  obtain ⟨c0, h⟩ := m_ite_n h
  refine m_R_cpy (by decide) (m_opb_of (ins := .invokestatic 452) (len := 3) (tag := 8) (a := 0) (b := 0) (c := 0) (q := 1391) (by decide +kernel)) (Nat.le_of_ble_eq_true rfl) (m_cpy_of sh_73 sh_27 c0) ?_
  obtain ⟨rfl, rfl⟩ := m_some h
  exact m_R_vret (by decide) (m_opb_of (ins := .return_) (len := 1) (tag := 3) (a := 0) (b := 0) (c := 0) (q := 0) (by decide +kernel))
def f_x_copyAll_74_28 (F : Nat)    (m : mM) : Option (Unit × mM) := ((f_Math_min_II F (Int32.ofNat 16) (Int32.ofNat 16) m).bind fun q1 => (if (0 : Int32) < 0 ∨ (0 : Int32) < 0 ∨ q1.1 < 0 ∨ 16 < (0 : Int32).toNatClampNeg + q1.1.toNatClampNeg ∨ 16 < (0 : Int32).toNatClampNeg + q1.1.toNatClampNeg then none else some ((), ((m_row q1.2.1 28 (va_cpy (q1.2.1 74) (q1.2.1 28) (0 : Int32).toNatClampNeg (0 : Int32).toNatClampNeg q1.1.toNatClampNeg)), q1.2.2))))
theorem ok_x_copyAll_74_28 (X : mX) (d F : Nat) : ∀   (m : mM) (r : Unit) (m' : mM), f_x_copyAll_74_28 F  m = some (r, m') → m_R X (d + 1) 176 0 [some (.ref 74), some (.ref 28)] [] (SH, m) (none, (SH, m')) := by
  intro m r m' h
  unfold f_x_copyAll_74_28 at h
  refine m_R_sg (by decide) [(.aload_n 0, 1, 0, 0, 0, 0, 0), (.iconst 0, 1, 0, 0, 0, 0, 0), (.aload_n 1, 1, 0, 1, 0, 0, 0), (.iconst 0, 1, 0, 0, 0, 0, 0), (.aload_n 0, 1, 0, 0, 0, 0, 0), (.arraylength, 1, 0, 0, 0, 0, 0), (.aload_n 1, 1, 0, 1, 0, 0, 0), (.arraylength, 1, 0, 0, 0, 0, 0)] (by decide +kernel) (show m_sgl X _ _ _ _ _ = some (8, [some (.ref 74), some (.ref 28)], [.int (Int32.ofNat 16), .int (Int32.ofNat 16), .int (0 : Int32), .ref 28, .int (0 : Int32), .ref 74], (SH, m.1, m.2)) from rfl) ?_
  obtain ⟨q1, hc1, h⟩ := Option.bind_eq_some_iff.mp h
  refine m_R_cS (v := (some (.int q1.1))) (h1 := (SH, q1.2)) (rest := [.int (0 : Int32), .ref 28, .int (0 : Int32), .ref 74]) (lo' := [some (.int (Int32.ofNat 16)), some (.int (Int32.ofNat 16))]) (ml := 2) (by decide) (m_opb_of (ins := .invokestatic 219) (len := 3) (tag := 4) (a := 50) (b := 2) (c := 0) (q := 893) (by decide +kernel)) (by decide +kernel) (Nat.le_of_ble_eq_true rfl) rfl (Nat.le_of_ble_eq_true rfl) rfl rfl (ok_Math_min_II X (d + 0) F _ _ _ _ _ hc1) ?_
  obtain ⟨c0, h⟩ := m_ite_n h
  refine m_R_cpy (by decide) (m_opb_of (ins := .invokestatic 452) (len := 3) (tag := 8) (a := 0) (b := 0) (c := 0) (q := 1391) (by decide +kernel)) (Nat.le_of_ble_eq_true rfl) (m_cpy_of sh_74 sh_28 c0) ?_
  obtain ⟨rfl, rfl⟩ := m_some h
  exact m_R_vret (by decide) (m_opb_of (ins := .return_) (len := 1) (tag := 3) (a := 0) (b := 0) (c := 0) (q := 0) (by decide +kernel))
def f_x_copyAll_75_29 (F : Nat)    (m : mM) : Option (Unit × mM) := ((f_Math_min_II F (Int32.ofNat 16) (Int32.ofNat 16) m).bind fun q1 => (if (0 : Int32) < 0 ∨ (0 : Int32) < 0 ∨ q1.1 < 0 ∨ 16 < (0 : Int32).toNatClampNeg + q1.1.toNatClampNeg ∨ 16 < (0 : Int32).toNatClampNeg + q1.1.toNatClampNeg then none else some ((), ((m_row q1.2.1 29 (va_cpy (q1.2.1 75) (q1.2.1 29) (0 : Int32).toNatClampNeg (0 : Int32).toNatClampNeg q1.1.toNatClampNeg)), q1.2.2))))
theorem ok_x_copyAll_75_29 (X : mX) (d F : Nat) : ∀   (m : mM) (r : Unit) (m' : mM), f_x_copyAll_75_29 F  m = some (r, m') → m_R X (d + 1) 176 0 [some (.ref 75), some (.ref 29)] [] (SH, m) (none, (SH, m')) := by
  intro m r m' h
  unfold f_x_copyAll_75_29 at h
  refine m_R_sg (by decide) [(.aload_n 0, 1, 0, 0, 0, 0, 0), (.iconst 0, 1, 0, 0, 0, 0, 0), (.aload_n 1, 1, 0, 1, 0, 0, 0), (.iconst 0, 1, 0, 0, 0, 0, 0), (.aload_n 0, 1, 0, 0, 0, 0, 0), (.arraylength, 1, 0, 0, 0, 0, 0), (.aload_n 1, 1, 0, 1, 0, 0, 0), (.arraylength, 1, 0, 0, 0, 0, 0)] (by decide +kernel) (show m_sgl X _ _ _ _ _ = some (8, [some (.ref 75), some (.ref 29)], [.int (Int32.ofNat 16), .int (Int32.ofNat 16), .int (0 : Int32), .ref 29, .int (0 : Int32), .ref 75], (SH, m.1, m.2)) from rfl) ?_
  obtain ⟨q1, hc1, h⟩ := Option.bind_eq_some_iff.mp h
  refine m_R_cS (v := (some (.int q1.1))) (h1 := (SH, q1.2)) (rest := [.int (0 : Int32), .ref 29, .int (0 : Int32), .ref 75]) (lo' := [some (.int (Int32.ofNat 16)), some (.int (Int32.ofNat 16))]) (ml := 2) (by decide) (m_opb_of (ins := .invokestatic 219) (len := 3) (tag := 4) (a := 50) (b := 2) (c := 0) (q := 893) (by decide +kernel)) (by decide +kernel) (Nat.le_of_ble_eq_true rfl) rfl (Nat.le_of_ble_eq_true rfl) rfl rfl (ok_Math_min_II X (d + 0) F _ _ _ _ _ hc1) ?_
  obtain ⟨c0, h⟩ := m_ite_n h
  refine m_R_cpy (by decide) (m_opb_of (ins := .invokestatic 452) (len := 3) (tag := 8) (a := 0) (b := 0) (c := 0) (q := 1391) (by decide +kernel)) (Nat.le_of_ble_eq_true rfl) (m_cpy_of sh_75 sh_29 c0) ?_
  obtain ⟨rfl, rfl⟩ := m_some h
  exact m_R_vret (by decide) (m_opb_of (ins := .return_) (len := 1) (tag := 3) (a := 0) (b := 0) (c := 0) (q := 0) (by decide +kernel))
def f_x_copyAll_76_30 (F : Nat)    (m : mM) : Option (Unit × mM) := ((f_Math_min_II F (Int32.ofNat 16) (Int32.ofNat 16) m).bind fun q1 => (if (0 : Int32) < 0 ∨ (0 : Int32) < 0 ∨ q1.1 < 0 ∨ 16 < (0 : Int32).toNatClampNeg + q1.1.toNatClampNeg ∨ 16 < (0 : Int32).toNatClampNeg + q1.1.toNatClampNeg then none else some ((), ((m_row q1.2.1 30 (va_cpy (q1.2.1 76) (q1.2.1 30) (0 : Int32).toNatClampNeg (0 : Int32).toNatClampNeg q1.1.toNatClampNeg)), q1.2.2))))
theorem ok_x_copyAll_76_30 (X : mX) (d F : Nat) : ∀   (m : mM) (r : Unit) (m' : mM), f_x_copyAll_76_30 F  m = some (r, m') → m_R X (d + 1) 176 0 [some (.ref 76), some (.ref 30)] [] (SH, m) (none, (SH, m')) := by
  intro m r m' h
  unfold f_x_copyAll_76_30 at h
  refine m_R_sg (by decide) [(.aload_n 0, 1, 0, 0, 0, 0, 0), (.iconst 0, 1, 0, 0, 0, 0, 0), (.aload_n 1, 1, 0, 1, 0, 0, 0), (.iconst 0, 1, 0, 0, 0, 0, 0), (.aload_n 0, 1, 0, 0, 0, 0, 0), (.arraylength, 1, 0, 0, 0, 0, 0), (.aload_n 1, 1, 0, 1, 0, 0, 0), (.arraylength, 1, 0, 0, 0, 0, 0)] (by decide +kernel) (show m_sgl X _ _ _ _ _ = some (8, [some (.ref 76), some (.ref 30)], [.int (Int32.ofNat 16), .int (Int32.ofNat 16), .int (0 : Int32), .ref 30, .int (0 : Int32), .ref 76], (SH, m.1, m.2)) from rfl) ?_
  obtain ⟨q1, hc1, h⟩ := Option.bind_eq_some_iff.mp h
  refine m_R_cS (v := (some (.int q1.1))) (h1 := (SH, q1.2)) (rest := [.int (0 : Int32), .ref 30, .int (0 : Int32), .ref 76]) (lo' := [some (.int (Int32.ofNat 16)), some (.int (Int32.ofNat 16))]) (ml := 2) (by decide) (m_opb_of (ins := .invokestatic 219) (len := 3) (tag := 4) (a := 50) (b := 2) (c := 0) (q := 893) (by decide +kernel)) (by decide +kernel) (Nat.le_of_ble_eq_true rfl) rfl (Nat.le_of_ble_eq_true rfl) rfl rfl (ok_Math_min_II X (d + 0) F _ _ _ _ _ hc1) ?_
  obtain ⟨c0, h⟩ := m_ite_n h
  refine m_R_cpy (by decide) (m_opb_of (ins := .invokestatic 452) (len := 3) (tag := 8) (a := 0) (b := 0) (c := 0) (q := 1391) (by decide +kernel)) (Nat.le_of_ble_eq_true rfl) (m_cpy_of sh_76 sh_30 c0) ?_
  obtain ⟨rfl, rfl⟩ := m_some h
  exact m_R_vret (by decide) (m_opb_of (ins := .return_) (len := 1) (tag := 3) (a := 0) (b := 0) (c := 0) (q := 0) (by decide +kernel))
def f_Houses_become_19_65 (F : Nat)    (m : mM) : Option (Unit × mM) := ((f_x_copyAll_66_20 F m).bind fun q1 => ((f_x_copyAll_67_21 F q1.2).bind fun q2 => ((f_x_copyAll_68_22 F q2.2).bind fun q3 => ((f_x_copyAll_69_23 F q3.2).bind fun q4 => ((f_x_copyAll_70_24 F q4.2).bind fun q5 => ((f_x_copyAll_71_25 F q5.2).bind fun q6 => ((f_x_copyAll_72_26 F q6.2).bind fun q7 => ((f_x_copyAll_73_27 F q7.2).bind fun q8 => ((f_x_copyAll_74_28 F q8.2).bind fun q9 => ((f_x_copyAll_75_29 F q9.2).bind fun q10 => ((f_x_copyAll_76_30 F q10.2).bind fun q11 => some ((), ((m_up (m_up q11.2.1 19 11 (q11.2.1 65 11)) 19 12 ((m_up q11.2.1 19 11 (q11.2.1 65 11)) 65 12)), q11.2.2)))))))))))))
theorem ok_Houses_become_19_65 (X : mX) (d F : Nat) : ∀   (m : mM) (r : Unit) (m' : mM), f_Houses_become_19_65 F  m = some (r, m') → m_R X (d + 2) 177 0 [some (.ref 19), some (.ref 65)] [] (SH, m) (none, (SH, m')) := by
  intro m r m' h
  unfold f_Houses_become_19_65 at h
  refine m_R_sg (by decide) [(.aload_n 1, 1, 0, 1, 0, 0, 0), (.getfield 9, 3, 0, 1, 0, 3, 249), (.aload_n 0, 1, 0, 0, 0, 0, 0), (.getfield 9, 3, 0, 1, 0, 3, 249)] (by decide +kernel) (show m_sgl X _ _ _ _ _ = some (8, [some (.ref 19), some (.ref 65)], [.ref 20, .ref 66], (SH, m.1, m.2)) from rfl) ?_
  obtain ⟨q1, hc1, h⟩ := Option.bind_eq_some_iff.mp h
  refine m_R_cS (v := none) (h1 := (SH, q1.2)) (rest := []) (lo' := [some (.ref 66), some (.ref 20)]) (ml := 2) (by decide) (m_opb_of (ins := .invokestatic 49) (len := 3) (tag := 4) (a := 176) (b := 2) (c := 1) (q := 1396) (by decide +kernel)) (by decide +kernel) (Nat.le_of_ble_eq_true rfl) rfl (Nat.le_of_ble_eq_true rfl) rfl rfl (ok_x_copyAll_66_20 X (d + 0) F _ _ _ hc1) ?_
  refine m_R_sg (by decide) [(.aload_n 1, 1, 0, 1, 0, 0, 0), (.getfield 15, 3, 0, 1, 1, 3, 251), (.aload_n 0, 1, 0, 0, 0, 0, 0), (.getfield 15, 3, 0, 1, 1, 3, 251)] (by decide +kernel) (show m_sgl X _ _ _ _ _ = some (19, [some (.ref 19), some (.ref 65)], [.ref 21, .ref 67], (SH, q1.2.1, q1.2.2)) from rfl) ?_
  obtain ⟨q2, hc2, h⟩ := Option.bind_eq_some_iff.mp h
  refine m_R_cS (v := none) (h1 := (SH, q2.2)) (rest := []) (lo' := [some (.ref 67), some (.ref 21)]) (ml := 2) (by decide) (m_opb_of (ins := .invokestatic 49) (len := 3) (tag := 4) (a := 176) (b := 2) (c := 1) (q := 1396) (by decide +kernel)) (by decide +kernel) (Nat.le_of_ble_eq_true rfl) rfl (Nat.le_of_ble_eq_true rfl) rfl rfl (ok_x_copyAll_67_21 X (d + 0) F _ _ _ hc2) ?_
  refine m_R_sg (by decide) [(.aload_n 1, 1, 0, 1, 0, 0, 0), (.getfield 18, 3, 0, 1, 2, 3, 254), (.aload_n 0, 1, 0, 0, 0, 0, 0), (.getfield 18, 3, 0, 1, 2, 3, 254)] (by decide +kernel) (show m_sgl X _ _ _ _ _ = some (30, [some (.ref 19), some (.ref 65)], [.ref 22, .ref 68], (SH, q2.2.1, q2.2.2)) from rfl) ?_
  obtain ⟨q3, hc3, h⟩ := Option.bind_eq_some_iff.mp h
  refine m_R_cS (v := none) (h1 := (SH, q3.2)) (rest := []) (lo' := [some (.ref 68), some (.ref 22)]) (ml := 2) (by decide) (m_opb_of (ins := .invokestatic 49) (len := 3) (tag := 4) (a := 176) (b := 2) (c := 1) (q := 1396) (by decide +kernel)) (by decide +kernel) (Nat.le_of_ble_eq_true rfl) rfl (Nat.le_of_ble_eq_true rfl) rfl rfl (ok_x_copyAll_68_22 X (d + 0) F _ _ _ hc3) ?_
  refine m_R_sg (by decide) [(.aload_n 1, 1, 0, 1, 0, 0, 0), (.getfield 21, 3, 0, 1, 3, 3, 257), (.aload_n 0, 1, 0, 0, 0, 0, 0), (.getfield 21, 3, 0, 1, 3, 3, 257)] (by decide +kernel) (show m_sgl X _ _ _ _ _ = some (41, [some (.ref 19), some (.ref 65)], [.ref 23, .ref 69], (SH, q3.2.1, q3.2.2)) from rfl) ?_
  obtain ⟨q4, hc4, h⟩ := Option.bind_eq_some_iff.mp h
  refine m_R_cS (v := none) (h1 := (SH, q4.2)) (rest := []) (lo' := [some (.ref 69), some (.ref 23)]) (ml := 2) (by decide) (m_opb_of (ins := .invokestatic 49) (len := 3) (tag := 4) (a := 176) (b := 2) (c := 1) (q := 1396) (by decide +kernel)) (by decide +kernel) (Nat.le_of_ble_eq_true rfl) rfl (Nat.le_of_ble_eq_true rfl) rfl rfl (ok_x_copyAll_69_23 X (d + 0) F _ _ _ hc4) ?_
  refine m_R_sg (by decide) [(.aload_n 1, 1, 0, 1, 0, 0, 0), (.getfield 24, 3, 0, 1, 4, 3, 260), (.aload_n 0, 1, 0, 0, 0, 0, 0), (.getfield 24, 3, 0, 1, 4, 3, 260)] (by decide +kernel) (show m_sgl X _ _ _ _ _ = some (52, [some (.ref 19), some (.ref 65)], [.ref 24, .ref 70], (SH, q4.2.1, q4.2.2)) from rfl) ?_
  obtain ⟨q5, hc5, h⟩ := Option.bind_eq_some_iff.mp h
  refine m_R_cS (v := none) (h1 := (SH, q5.2)) (rest := []) (lo' := [some (.ref 70), some (.ref 24)]) (ml := 2) (by decide) (m_opb_of (ins := .invokestatic 49) (len := 3) (tag := 4) (a := 176) (b := 2) (c := 1) (q := 1396) (by decide +kernel)) (by decide +kernel) (Nat.le_of_ble_eq_true rfl) rfl (Nat.le_of_ble_eq_true rfl) rfl rfl (ok_x_copyAll_70_24 X (d + 0) F _ _ _ hc5) ?_
  refine m_R_sg (by decide) [(.aload_n 1, 1, 0, 1, 0, 0, 0), (.getfield 27, 3, 0, 1, 5, 3, 263), (.aload_n 0, 1, 0, 0, 0, 0, 0), (.getfield 27, 3, 0, 1, 5, 3, 263)] (by decide +kernel) (show m_sgl X _ _ _ _ _ = some (63, [some (.ref 19), some (.ref 65)], [.ref 25, .ref 71], (SH, q5.2.1, q5.2.2)) from rfl) ?_
  obtain ⟨q6, hc6, h⟩ := Option.bind_eq_some_iff.mp h
  refine m_R_cS (v := none) (h1 := (SH, q6.2)) (rest := []) (lo' := [some (.ref 71), some (.ref 25)]) (ml := 2) (by decide) (m_opb_of (ins := .invokestatic 49) (len := 3) (tag := 4) (a := 176) (b := 2) (c := 1) (q := 1396) (by decide +kernel)) (by decide +kernel) (Nat.le_of_ble_eq_true rfl) rfl (Nat.le_of_ble_eq_true rfl) rfl rfl (ok_x_copyAll_71_25 X (d + 0) F _ _ _ hc6) ?_
  refine m_R_sg (by decide) [(.aload_n 1, 1, 0, 1, 0, 0, 0), (.getfield 30, 3, 0, 1, 6, 3, 266), (.aload_n 0, 1, 0, 0, 0, 0, 0), (.getfield 30, 3, 0, 1, 6, 3, 266)] (by decide +kernel) (show m_sgl X _ _ _ _ _ = some (74, [some (.ref 19), some (.ref 65)], [.ref 26, .ref 72], (SH, q6.2.1, q6.2.2)) from rfl) ?_
  obtain ⟨q7, hc7, h⟩ := Option.bind_eq_some_iff.mp h
  refine m_R_cS (v := none) (h1 := (SH, q7.2)) (rest := []) (lo' := [some (.ref 72), some (.ref 26)]) (ml := 2) (by decide) (m_opb_of (ins := .invokestatic 49) (len := 3) (tag := 4) (a := 176) (b := 2) (c := 1) (q := 1396) (by decide +kernel)) (by decide +kernel) (Nat.le_of_ble_eq_true rfl) rfl (Nat.le_of_ble_eq_true rfl) rfl rfl (ok_x_copyAll_72_26 X (d + 0) F _ _ _ hc7) ?_
  refine m_R_sg (by decide) [(.aload_n 1, 1, 0, 1, 0, 0, 0), (.getfield 33, 3, 0, 1, 7, 3, 269), (.aload_n 0, 1, 0, 0, 0, 0, 0), (.getfield 33, 3, 0, 1, 7, 3, 269)] (by decide +kernel) (show m_sgl X _ _ _ _ _ = some (85, [some (.ref 19), some (.ref 65)], [.ref 27, .ref 73], (SH, q7.2.1, q7.2.2)) from rfl) ?_
  obtain ⟨q8, hc8, h⟩ := Option.bind_eq_some_iff.mp h
  refine m_R_cS (v := none) (h1 := (SH, q8.2)) (rest := []) (lo' := [some (.ref 73), some (.ref 27)]) (ml := 2) (by decide) (m_opb_of (ins := .invokestatic 49) (len := 3) (tag := 4) (a := 176) (b := 2) (c := 1) (q := 1396) (by decide +kernel)) (by decide +kernel) (Nat.le_of_ble_eq_true rfl) rfl (Nat.le_of_ble_eq_true rfl) rfl rfl (ok_x_copyAll_73_27 X (d + 0) F _ _ _ hc8) ?_
  refine m_R_sg (by decide) [(.aload_n 1, 1, 0, 1, 0, 0, 0), (.getfield 36, 3, 0, 1, 8, 3, 272), (.aload_n 0, 1, 0, 0, 0, 0, 0), (.getfield 36, 3, 0, 1, 8, 3, 272)] (by decide +kernel) (show m_sgl X _ _ _ _ _ = some (96, [some (.ref 19), some (.ref 65)], [.ref 28, .ref 74], (SH, q8.2.1, q8.2.2)) from rfl) ?_
  obtain ⟨q9, hc9, h⟩ := Option.bind_eq_some_iff.mp h
  refine m_R_cS (v := none) (h1 := (SH, q9.2)) (rest := []) (lo' := [some (.ref 74), some (.ref 28)]) (ml := 2) (by decide) (m_opb_of (ins := .invokestatic 49) (len := 3) (tag := 4) (a := 176) (b := 2) (c := 1) (q := 1396) (by decide +kernel)) (by decide +kernel) (Nat.le_of_ble_eq_true rfl) rfl (Nat.le_of_ble_eq_true rfl) rfl rfl (ok_x_copyAll_74_28 X (d + 0) F _ _ _ hc9) ?_
  refine m_R_sg (by decide) [(.aload_n 1, 1, 0, 1, 0, 0, 0), (.getfield 39, 3, 0, 1, 9, 3, 274), (.aload_n 0, 1, 0, 0, 0, 0, 0), (.getfield 39, 3, 0, 1, 9, 3, 274)] (by decide +kernel) (show m_sgl X _ _ _ _ _ = some (107, [some (.ref 19), some (.ref 65)], [.ref 29, .ref 75], (SH, q9.2.1, q9.2.2)) from rfl) ?_
  obtain ⟨q10, hc10, h⟩ := Option.bind_eq_some_iff.mp h
  refine m_R_cS (v := none) (h1 := (SH, q10.2)) (rest := []) (lo' := [some (.ref 75), some (.ref 29)]) (ml := 2) (by decide) (m_opb_of (ins := .invokestatic 49) (len := 3) (tag := 4) (a := 176) (b := 2) (c := 1) (q := 1396) (by decide +kernel)) (by decide +kernel) (Nat.le_of_ble_eq_true rfl) rfl (Nat.le_of_ble_eq_true rfl) rfl rfl (ok_x_copyAll_75_29 X (d + 0) F _ _ _ hc10) ?_
  refine m_R_sg (by decide) [(.aload_n 1, 1, 0, 1, 0, 0, 0), (.getfield 42, 3, 0, 1, 10, 3, 276), (.aload_n 0, 1, 0, 0, 0, 0, 0), (.getfield 42, 3, 0, 1, 10, 3, 276)] (by decide +kernel) (show m_sgl X _ _ _ _ _ = some (118, [some (.ref 19), some (.ref 65)], [.ref 30, .ref 76], (SH, q10.2.1, q10.2.2)) from rfl) ?_
  obtain ⟨q11, hc11, h⟩ := Option.bind_eq_some_iff.mp h
  refine m_R_cS (v := none) (h1 := (SH, q11.2)) (rest := []) (lo' := [some (.ref 76), some (.ref 30)]) (ml := 2) (by decide) (m_opb_of (ins := .invokestatic 49) (len := 3) (tag := 4) (a := 176) (b := 2) (c := 1) (q := 1396) (by decide +kernel)) (by decide +kernel) (Nat.le_of_ble_eq_true rfl) rfl (Nat.le_of_ble_eq_true rfl) rfl rfl (ok_x_copyAll_76_30 X (d + 0) F _ _ _ hc11) ?_
  refine m_R_sg (by decide) [(.aload_n 0, 1, 0, 0, 0, 0, 0), (.aload_n 1, 1, 0, 1, 0, 0, 0), (.getfield 45, 3, 0, 1, 11, 0, 278), (.putfield 45, 3, 0, 1, 11, 0, 278), (.aload_n 0, 1, 0, 0, 0, 0, 0), (.aload_n 1, 1, 0, 1, 0, 0, 0), (.getfield 53, 3, 0, 1, 12, 0, 281), (.putfield 53, 3, 0, 1, 12, 0, 281)] (by decide +kernel) (show m_sgl X _ _ _ _ _ = some (137, [some (.ref 19), some (.ref 65)], [], (SH, (m_up (m_up q11.2.1 19 11 (q11.2.1 65 11)) 19 12 ((m_up q11.2.1 19 11 (q11.2.1 65 11)) 65 12)), q11.2.2)) from rfl) ?_
  obtain ⟨rfl, rfl⟩ := m_some h
  exact m_R_vret (by decide) (m_opb_of (ins := .return_) (len := 1) (tag := 3) (a := 0) (b := 0) (c := 0) (q := 0) (by decide +kernel))
def f_x_copyAll_78_32 (F : Nat)    (m : mM) : Option (Unit × mM) := ((f_Math_min_II F (Int32.ofNat 60) (Int32.ofNat 60) m).bind fun q1 => (if (0 : Int32) < 0 ∨ (0 : Int32) < 0 ∨ q1.1 < 0 ∨ 60 < (0 : Int32).toNatClampNeg + q1.1.toNatClampNeg ∨ 60 < (0 : Int32).toNatClampNeg + q1.1.toNatClampNeg then none else some ((), ((m_row q1.2.1 32 (va_cpy (q1.2.1 78) (q1.2.1 32) (0 : Int32).toNatClampNeg (0 : Int32).toNatClampNeg q1.1.toNatClampNeg)), q1.2.2))))
theorem ok_x_copyAll_78_32 (X : mX) (d F : Nat) : ∀   (m : mM) (r : Unit) (m' : mM), f_x_copyAll_78_32 F  m = some (r, m') → m_R X (d + 1) 176 0 [some (.ref 78), some (.ref 32)] [] (SH, m) (none, (SH, m')) := by
  intro m r m' h
  unfold f_x_copyAll_78_32 at h
  refine m_R_sg (by decide) [(.aload_n 0, 1, 0, 0, 0, 0, 0), (.iconst 0, 1, 0, 0, 0, 0, 0), (.aload_n 1, 1, 0, 1, 0, 0, 0), (.iconst 0, 1, 0, 0, 0, 0, 0), (.aload_n 0, 1, 0, 0, 0, 0, 0), (.arraylength, 1, 0, 0, 0, 0, 0), (.aload_n 1, 1, 0, 1, 0, 0, 0), (.arraylength, 1, 0, 0, 0, 0, 0)] (by decide +kernel) (show m_sgl X _ _ _ _ _ = some (8, [some (.ref 78), some (.ref 32)], [.int (Int32.ofNat 60), .int (Int32.ofNat 60), .int (0 : Int32), .ref 32, .int (0 : Int32), .ref 78], (SH, m.1, m.2)) from rfl) ?_
  obtain ⟨q1, hc1, h⟩ := Option.bind_eq_some_iff.mp h
  refine m_R_cS (v := (some (.int q1.1))) (h1 := (SH, q1.2)) (rest := [.int (0 : Int32), .ref 32, .int (0 : Int32), .ref 78]) (lo' := [some (.int (Int32.ofNat 60)), some (.int (Int32.ofNat 60))]) (ml := 2) (by decide) (m_opb_of (ins := .invokestatic 219) (len := 3) (tag := 4) (a := 50) (b := 2) (c := 0) (q := 893) (by decide +kernel)) (by decide +kernel) (Nat.le_of_ble_eq_true rfl) rfl (Nat.le_of_ble_eq_true rfl) rfl rfl (ok_Math_min_II X (d + 0) F _ _ _ _ _ hc1) ?_
  obtain ⟨c0, h⟩ := m_ite_n h
  refine m_R_cpy (by decide) (m_opb_of (ins := .invokestatic 452) (len := 3) (tag := 8) (a := 0) (b := 0) (c := 0) (q := 1391) (by decide +kernel)) (Nat.le_of_ble_eq_true rfl) (m_cpy_of sh_78 sh_32 c0) ?_
  obtain ⟨rfl, rfl⟩ := m_some h
  exact m_R_vret (by decide) (m_opb_of (ins := .return_) (len := 1) (tag := 3) (a := 0) (b := 0) (c := 0) (q := 0) (by decide +kernel))
def f_x_copyAll_79_33 (F : Nat)    (m : mM) : Option (Unit × mM) := ((f_Math_min_II F (Int32.ofNat 60) (Int32.ofNat 60) m).bind fun q1 => (if (0 : Int32) < 0 ∨ (0 : Int32) < 0 ∨ q1.1 < 0 ∨ 60 < (0 : Int32).toNatClampNeg + q1.1.toNatClampNeg ∨ 60 < (0 : Int32).toNatClampNeg + q1.1.toNatClampNeg then none else some ((), ((m_row q1.2.1 33 (va_cpy (q1.2.1 79) (q1.2.1 33) (0 : Int32).toNatClampNeg (0 : Int32).toNatClampNeg q1.1.toNatClampNeg)), q1.2.2))))
theorem ok_x_copyAll_79_33 (X : mX) (d F : Nat) : ∀   (m : mM) (r : Unit) (m' : mM), f_x_copyAll_79_33 F  m = some (r, m') → m_R X (d + 1) 176 0 [some (.ref 79), some (.ref 33)] [] (SH, m) (none, (SH, m')) := by
  intro m r m' h
  unfold f_x_copyAll_79_33 at h
  refine m_R_sg (by decide) [(.aload_n 0, 1, 0, 0, 0, 0, 0), (.iconst 0, 1, 0, 0, 0, 0, 0), (.aload_n 1, 1, 0, 1, 0, 0, 0), (.iconst 0, 1, 0, 0, 0, 0, 0), (.aload_n 0, 1, 0, 0, 0, 0, 0), (.arraylength, 1, 0, 0, 0, 0, 0), (.aload_n 1, 1, 0, 1, 0, 0, 0), (.arraylength, 1, 0, 0, 0, 0, 0)] (by decide +kernel) (show m_sgl X _ _ _ _ _ = some (8, [some (.ref 79), some (.ref 33)], [.int (Int32.ofNat 60), .int (Int32.ofNat 60), .int (0 : Int32), .ref 33, .int (0 : Int32), .ref 79], (SH, m.1, m.2)) from rfl) ?_
  obtain ⟨q1, hc1, h⟩ := Option.bind_eq_some_iff.mp h
  refine m_R_cS (v := (some (.int q1.1))) (h1 := (SH, q1.2)) (rest := [.int (0 : Int32), .ref 33, .int (0 : Int32), .ref 79]) (lo' := [some (.int (Int32.ofNat 60)), some (.int (Int32.ofNat 60))]) (ml := 2) (by decide) (m_opb_of (ins := .invokestatic 219) (len := 3) (tag := 4) (a := 50) (b := 2) (c := 0) (q := 893) (by decide +kernel)) (by decide +kernel) (Nat.le_of_ble_eq_true rfl) rfl (Nat.le_of_ble_eq_true rfl) rfl rfl (ok_Math_min_II X (d + 0) F _ _ _ _ _ hc1) ?_
  obtain ⟨c0, h⟩ := m_ite_n h
  refine m_R_cpy (by decide) (m_opb_of (ins := .invokestatic 452) (len := 3) (tag := 8) (a := 0) (b := 0) (c := 0) (q := 1391) (by decide +kernel)) (Nat.le_of_ble_eq_true rfl) (m_cpy_of sh_79 sh_33 c0) ?_
  obtain ⟨rfl, rfl⟩ := m_some h
  exact m_R_vret (by decide) (m_opb_of (ins := .return_) (len := 1) (tag := 3) (a := 0) (b := 0) (c := 0) (q := 0) (by decide +kernel))
def f_x_copyAll_80_34 (F : Nat)    (m : mM) : Option (Unit × mM) := ((f_Math_min_II F (Int32.ofNat 60) (Int32.ofNat 60) m).bind fun q1 => (if (0 : Int32) < 0 ∨ (0 : Int32) < 0 ∨ q1.1 < 0 ∨ 60 < (0 : Int32).toNatClampNeg + q1.1.toNatClampNeg ∨ 60 < (0 : Int32).toNatClampNeg + q1.1.toNatClampNeg then none else some ((), ((m_row q1.2.1 34 (va_cpy (q1.2.1 80) (q1.2.1 34) (0 : Int32).toNatClampNeg (0 : Int32).toNatClampNeg q1.1.toNatClampNeg)), q1.2.2))))
theorem ok_x_copyAll_80_34 (X : mX) (d F : Nat) : ∀   (m : mM) (r : Unit) (m' : mM), f_x_copyAll_80_34 F  m = some (r, m') → m_R X (d + 1) 176 0 [some (.ref 80), some (.ref 34)] [] (SH, m) (none, (SH, m')) := by
  intro m r m' h
  unfold f_x_copyAll_80_34 at h
  refine m_R_sg (by decide) [(.aload_n 0, 1, 0, 0, 0, 0, 0), (.iconst 0, 1, 0, 0, 0, 0, 0), (.aload_n 1, 1, 0, 1, 0, 0, 0), (.iconst 0, 1, 0, 0, 0, 0, 0), (.aload_n 0, 1, 0, 0, 0, 0, 0), (.arraylength, 1, 0, 0, 0, 0, 0), (.aload_n 1, 1, 0, 1, 0, 0, 0), (.arraylength, 1, 0, 0, 0, 0, 0)] (by decide +kernel) (show m_sgl X _ _ _ _ _ = some (8, [some (.ref 80), some (.ref 34)], [.int (Int32.ofNat 60), .int (Int32.ofNat 60), .int (0 : Int32), .ref 34, .int (0 : Int32), .ref 80], (SH, m.1, m.2)) from rfl) ?_
  obtain ⟨q1, hc1, h⟩ := Option.bind_eq_some_iff.mp h
  refine m_R_cS (v := (some (.int q1.1))) (h1 := (SH, q1.2)) (rest := [.int (0 : Int32), .ref 34, .int (0 : Int32), .ref 80]) (lo' := [some (.int (Int32.ofNat 60)), some (.int (Int32.ofNat 60))]) (ml := 2) (by decide) (m_opb_of (ins := .invokestatic 219) (len := 3) (tag := 4) (a := 50) (b := 2) (c := 0) (q := 893) (by decide +kernel)) (by decide +kernel) (Nat.le_of_ble_eq_true rfl) rfl (Nat.le_of_ble_eq_true rfl) rfl rfl (ok_Math_min_II X (d + 0) F _ _ _ _ _ hc1) ?_
  obtain ⟨c0, h⟩ := m_ite_n h
  refine m_R_cpy (by decide) (m_opb_of (ins := .invokestatic 452) (len := 3) (tag := 8) (a := 0) (b := 0) (c := 0) (q := 1391) (by decide +kernel)) (Nat.le_of_ble_eq_true rfl) (m_cpy_of sh_80 sh_34 c0) ?_
  obtain ⟨rfl, rfl⟩ := m_some h
  exact m_R_vret (by decide) (m_opb_of (ins := .return_) (len := 1) (tag := 3) (a := 0) (b := 0) (c := 0) (q := 0) (by decide +kernel))
def f_x_copyAll_81_35 (F : Nat)    (m : mM) : Option (Unit × mM) := ((f_Math_min_II F (Int32.ofNat 60) (Int32.ofNat 60) m).bind fun q1 => (if (0 : Int32) < 0 ∨ (0 : Int32) < 0 ∨ q1.1 < 0 ∨ 60 < (0 : Int32).toNatClampNeg + q1.1.toNatClampNeg ∨ 60 < (0 : Int32).toNatClampNeg + q1.1.toNatClampNeg then none else some ((), ((m_row q1.2.1 35 (va_cpy (q1.2.1 81) (q1.2.1 35) (0 : Int32).toNatClampNeg (0 : Int32).toNatClampNeg q1.1.toNatClampNeg)), q1.2.2))))
theorem ok_x_copyAll_81_35 (X : mX) (d F : Nat) : ∀   (m : mM) (r : Unit) (m' : mM), f_x_copyAll_81_35 F  m = some (r, m') → m_R X (d + 1) 176 0 [some (.ref 81), some (.ref 35)] [] (SH, m) (none, (SH, m')) := by
  intro m r m' h
  unfold f_x_copyAll_81_35 at h
  refine m_R_sg (by decide) [(.aload_n 0, 1, 0, 0, 0, 0, 0), (.iconst 0, 1, 0, 0, 0, 0, 0), (.aload_n 1, 1, 0, 1, 0, 0, 0), (.iconst 0, 1, 0, 0, 0, 0, 0), (.aload_n 0, 1, 0, 0, 0, 0, 0), (.arraylength, 1, 0, 0, 0, 0, 0), (.aload_n 1, 1, 0, 1, 0, 0, 0), (.arraylength, 1, 0, 0, 0, 0, 0)] (by decide +kernel) (show m_sgl X _ _ _ _ _ = some (8, [some (.ref 81), some (.ref 35)], [.int (Int32.ofNat 60), .int (Int32.ofNat 60), .int (0 : Int32), .ref 35, .int (0 : Int32), .ref 81], (SH, m.1, m.2)) from rfl) ?_
  obtain ⟨q1, hc1, h⟩ := Option.bind_eq_some_iff.mp h
  refine m_R_cS (v := (some (.int q1.1))) (h1 := (SH, q1.2)) (rest := [.int (0 : Int32), .ref 35, .int (0 : Int32), .ref 81]) (lo' := [some (.int (Int32.ofNat 60)), some (.int (Int32.ofNat 60))]) (ml := 2) (by decide) (m_opb_of (ins := .invokestatic 219) (len := 3) (tag := 4) (a := 50) (b := 2) (c := 0) (q := 893) (by decide +kernel)) (by decide +kernel) (Nat.le_of_ble_eq_true rfl) rfl (Nat.le_of_ble_eq_true rfl) rfl rfl (ok_Math_min_II X (d + 0) F _ _ _ _ _ hc1) ?_
  obtain ⟨c0, h⟩ := m_ite_n h
  refine m_R_cpy (by decide) (m_opb_of (ins := .invokestatic 452) (len := 3) (tag := 8) (a := 0) (b := 0) (c := 0) (q := 1391) (by decide +kernel)) (Nat.le_of_ble_eq_true rfl) (m_cpy_of sh_81 sh_35 c0) ?_
  obtain ⟨rfl, rfl⟩ := m_some h
  exact m_R_vret (by decide) (m_opb_of (ins := .return_) (len := 1) (tag := 3) (a := 0) (b := 0) (c := 0) (q := 0) (by decide +kernel))
def f_x_copyAll_82_36 (F : Nat)    (m : mM) : Option (Unit × mM) := ((f_Math_min_II F (Int32.ofNat 60) (Int32.ofNat 60) m).bind fun q1 => (if (0 : Int32) < 0 ∨ (0 : Int32) < 0 ∨ q1.1 < 0 ∨ 60 < (0 : Int32).toNatClampNeg + q1.1.toNatClampNeg ∨ 60 < (0 : Int32).toNatClampNeg + q1.1.toNatClampNeg then none else some ((), ((m_row q1.2.1 36 (va_cpy (q1.2.1 82) (q1.2.1 36) (0 : Int32).toNatClampNeg (0 : Int32).toNatClampNeg q1.1.toNatClampNeg)), q1.2.2))))
theorem ok_x_copyAll_82_36 (X : mX) (d F : Nat) : ∀   (m : mM) (r : Unit) (m' : mM), f_x_copyAll_82_36 F  m = some (r, m') → m_R X (d + 1) 176 0 [some (.ref 82), some (.ref 36)] [] (SH, m) (none, (SH, m')) := by
  intro m r m' h
  unfold f_x_copyAll_82_36 at h
  refine m_R_sg (by decide) [(.aload_n 0, 1, 0, 0, 0, 0, 0), (.iconst 0, 1, 0, 0, 0, 0, 0), (.aload_n 1, 1, 0, 1, 0, 0, 0), (.iconst 0, 1, 0, 0, 0, 0, 0), (.aload_n 0, 1, 0, 0, 0, 0, 0), (.arraylength, 1, 0, 0, 0, 0, 0), (.aload_n 1, 1, 0, 1, 0, 0, 0), (.arraylength, 1, 0, 0, 0, 0, 0)] (by decide +kernel) (show m_sgl X _ _ _ _ _ = some (8, [some (.ref 82), some (.ref 36)], [.int (Int32.ofNat 60), .int (Int32.ofNat 60), .int (0 : Int32), .ref 36, .int (0 : Int32), .ref 82], (SH, m.1, m.2)) from rfl) ?_
  obtain ⟨q1, hc1, h⟩ := Option.bind_eq_some_iff.mp h
  refine m_R_cS (v := (some (.int q1.1))) (h1 := (SH, q1.2)) (rest := [.int (0 : Int32), .ref 36, .int (0 : Int32), .ref 82]) (lo' := [some (.int (Int32.ofNat 60)), some (.int (Int32.ofNat 60))]) (ml := 2) (by decide) (m_opb_of (ins := .invokestatic 219) (len := 3) (tag := 4) (a := 50) (b := 2) (c := 0) (q := 893) (by decide +kernel)) (by decide +kernel) (Nat.le_of_ble_eq_true rfl) rfl (Nat.le_of_ble_eq_true rfl) rfl rfl (ok_Math_min_II X (d + 0) F _ _ _ _ _ hc1) ?_
  obtain ⟨c0, h⟩ := m_ite_n h
  refine m_R_cpy (by decide) (m_opb_of (ins := .invokestatic 452) (len := 3) (tag := 8) (a := 0) (b := 0) (c := 0) (q := 1391) (by decide +kernel)) (Nat.le_of_ble_eq_true rfl) (m_cpy_of sh_82 sh_36 c0) ?_
  obtain ⟨rfl, rfl⟩ := m_some h
  exact m_R_vret (by decide) (m_opb_of (ins := .return_) (len := 1) (tag := 3) (a := 0) (b := 0) (c := 0) (q := 0) (by decide +kernel))
def f_x_copyAll_83_37 (F : Nat)    (m : mM) : Option (Unit × mM) := ((f_Math_min_II F (Int32.ofNat 60) (Int32.ofNat 60) m).bind fun q1 => (if (0 : Int32) < 0 ∨ (0 : Int32) < 0 ∨ q1.1 < 0 ∨ 60 < (0 : Int32).toNatClampNeg + q1.1.toNatClampNeg ∨ 60 < (0 : Int32).toNatClampNeg + q1.1.toNatClampNeg then none else some ((), ((m_row q1.2.1 37 (va_cpy (q1.2.1 83) (q1.2.1 37) (0 : Int32).toNatClampNeg (0 : Int32).toNatClampNeg q1.1.toNatClampNeg)), q1.2.2))))
theorem ok_x_copyAll_83_37 (X : mX) (d F : Nat) : ∀   (m : mM) (r : Unit) (m' : mM), f_x_copyAll_83_37 F  m = some (r, m') → m_R X (d + 1) 176 0 [some (.ref 83), some (.ref 37)] [] (SH, m) (none, (SH, m')) := by
  intro m r m' h
  unfold f_x_copyAll_83_37 at h
  refine m_R_sg (by decide) [(.aload_n 0, 1, 0, 0, 0, 0, 0), (.iconst 0, 1, 0, 0, 0, 0, 0), (.aload_n 1, 1, 0, 1, 0, 0, 0), (.iconst 0, 1, 0, 0, 0, 0, 0), (.aload_n 0, 1, 0, 0, 0, 0, 0), (.arraylength, 1, 0, 0, 0, 0, 0), (.aload_n 1, 1, 0, 1, 0, 0, 0), (.arraylength, 1, 0, 0, 0, 0, 0)] (by decide +kernel) (show m_sgl X _ _ _ _ _ = some (8, [some (.ref 83), some (.ref 37)], [.int (Int32.ofNat 60), .int (Int32.ofNat 60), .int (0 : Int32), .ref 37, .int (0 : Int32), .ref 83], (SH, m.1, m.2)) from rfl) ?_
  obtain ⟨q1, hc1, h⟩ := Option.bind_eq_some_iff.mp h
  refine m_R_cS (v := (some (.int q1.1))) (h1 := (SH, q1.2)) (rest := [.int (0 : Int32), .ref 37, .int (0 : Int32), .ref 83]) (lo' := [some (.int (Int32.ofNat 60)), some (.int (Int32.ofNat 60))]) (ml := 2) (by decide) (m_opb_of (ins := .invokestatic 219) (len := 3) (tag := 4) (a := 50) (b := 2) (c := 0) (q := 893) (by decide +kernel)) (by decide +kernel) (Nat.le_of_ble_eq_true rfl) rfl (Nat.le_of_ble_eq_true rfl) rfl rfl (ok_Math_min_II X (d + 0) F _ _ _ _ _ hc1) ?_
  obtain ⟨c0, h⟩ := m_ite_n h
  refine m_R_cpy (by decide) (m_opb_of (ins := .invokestatic 452) (len := 3) (tag := 8) (a := 0) (b := 0) (c := 0) (q := 1391) (by decide +kernel)) (Nat.le_of_ble_eq_true rfl) (m_cpy_of sh_83 sh_37 c0) ?_
  obtain ⟨rfl, rfl⟩ := m_some h
  exact m_R_vret (by decide) (m_opb_of (ins := .return_) (len := 1) (tag := 3) (a := 0) (b := 0) (c := 0) (q := 0) (by decide +kernel))
def f_x_copyAll_84_38 (F : Nat)    (m : mM) : Option (Unit × mM) := ((f_Math_min_II F (Int32.ofNat 360) (Int32.ofNat 360) m).bind fun q1 => (if (0 : Int32) < 0 ∨ (0 : Int32) < 0 ∨ q1.1 < 0 ∨ 360 < (0 : Int32).toNatClampNeg + q1.1.toNatClampNeg ∨ 360 < (0 : Int32).toNatClampNeg + q1.1.toNatClampNeg then none else some ((), ((m_row q1.2.1 38 (va_cpy (q1.2.1 84) (q1.2.1 38) (0 : Int32).toNatClampNeg (0 : Int32).toNatClampNeg q1.1.toNatClampNeg)), q1.2.2))))
theorem ok_x_copyAll_84_38 (X : mX) (d F : Nat) : ∀   (m : mM) (r : Unit) (m' : mM), f_x_copyAll_84_38 F  m = some (r, m') → m_R X (d + 1) 176 0 [some (.ref 84), some (.ref 38)] [] (SH, m) (none, (SH, m')) := by
  intro m r m' h
  unfold f_x_copyAll_84_38 at h
  refine m_R_sg (by decide) [(.aload_n 0, 1, 0, 0, 0, 0, 0), (.iconst 0, 1, 0, 0, 0, 0, 0), (.aload_n 1, 1, 0, 1, 0, 0, 0), (.iconst 0, 1, 0, 0, 0, 0, 0), (.aload_n 0, 1, 0, 0, 0, 0, 0), (.arraylength, 1, 0, 0, 0, 0, 0), (.aload_n 1, 1, 0, 1, 0, 0, 0), (.arraylength, 1, 0, 0, 0, 0, 0)] (by decide +kernel) (show m_sgl X _ _ _ _ _ = some (8, [some (.ref 84), some (.ref 38)], [.int (Int32.ofNat 360), .int (Int32.ofNat 360), .int (0 : Int32), .ref 38, .int (0 : Int32), .ref 84], (SH, m.1, m.2)) from rfl) ?_
  obtain ⟨q1, hc1, h⟩ := Option.bind_eq_some_iff.mp h
  refine m_R_cS (v := (some (.int q1.1))) (h1 := (SH, q1.2)) (rest := [.int (0 : Int32), .ref 38, .int (0 : Int32), .ref 84]) (lo' := [some (.int (Int32.ofNat 360)), some (.int (Int32.ofNat 360))]) (ml := 2) (by decide) (m_opb_of (ins := .invokestatic 219) (len := 3) (tag := 4) (a := 50) (b := 2) (c := 0) (q := 893) (by decide +kernel)) (by decide +kernel) (Nat.le_of_ble_eq_true rfl) rfl (Nat.le_of_ble_eq_true rfl) rfl rfl (ok_Math_min_II X (d + 0) F _ _ _ _ _ hc1) ?_
  obtain ⟨c0, h⟩ := m_ite_n h
  refine m_R_cpy (by decide) (m_opb_of (ins := .invokestatic 452) (len := 3) (tag := 8) (a := 0) (b := 0) (c := 0) (q := 1391) (by decide +kernel)) (Nat.le_of_ble_eq_true rfl) (m_cpy_of sh_84 sh_38 c0) ?_
  obtain ⟨rfl, rfl⟩ := m_some h
  exact m_R_vret (by decide) (m_opb_of (ins := .return_) (len := 1) (tag := 3) (a := 0) (b := 0) (c := 0) (q := 0) (by decide +kernel))
def f_x_copyAll_85_39 (F : Nat)    (m : mM) : Option (Unit × mM) := ((f_Math_min_II F (Int32.ofNat 60) (Int32.ofNat 60) m).bind fun q1 => (if (0 : Int32) < 0 ∨ (0 : Int32) < 0 ∨ q1.1 < 0 ∨ 60 < (0 : Int32).toNatClampNeg + q1.1.toNatClampNeg ∨ 60 < (0 : Int32).toNatClampNeg + q1.1.toNatClampNeg then none else some ((), ((m_row q1.2.1 39 (va_cpy (q1.2.1 85) (q1.2.1 39) (0 : Int32).toNatClampNeg (0 : Int32).toNatClampNeg q1.1.toNatClampNeg)), q1.2.2))))
theorem ok_x_copyAll_85_39 (X : mX) (d F : Nat) : ∀   (m : mM) (r : Unit) (m' : mM), f_x_copyAll_85_39 F  m = some (r, m') → m_R X (d + 1) 176 0 [some (.ref 85), some (.ref 39)] [] (SH, m) (none, (SH, m')) := by
  intro m r m' h
  unfold f_x_copyAll_85_39 at h
  refine m_R_sg (by decide) [(.aload_n 0, 1, 0, 0, 0, 0, 0), (.iconst 0, 1, 0, 0, 0, 0, 0), (.aload_n 1, 1, 0, 1, 0, 0, 0), (.iconst 0, 1, 0, 0, 0, 0, 0), (.aload_n 0, 1, 0, 0, 0, 0, 0), (.arraylength, 1, 0, 0, 0, 0, 0), (.aload_n 1, 1, 0, 1, 0, 0, 0), (.arraylength, 1, 0, 0, 0, 0, 0)] (by decide +kernel) (show m_sgl X _ _ _ _ _ = some (8, [some (.ref 85), some (.ref 39)], [.int (Int32.ofNat 60), .int (Int32.ofNat 60), .int (0 : Int32), .ref 39, .int (0 : Int32), .ref 85], (SH, m.1, m.2)) from rfl) ?_
  obtain ⟨q1, hc1, h⟩ := Option.bind_eq_some_iff.mp h
  refine m_R_cS (v := (some (.int q1.1))) (h1 := (SH, q1.2)) (rest := [.int (0 : Int32), .ref 39, .int (0 : Int32), .ref 85]) (lo' := [some (.int (Int32.ofNat 60)), some (.int (Int32.ofNat 60))]) (ml := 2) (by decide) (m_opb_of (ins := .invokestatic 219) (len := 3) (tag := 4) (a := 50) (b := 2) (c := 0) (q := 893) (by decide +kernel)) (by decide +kernel) (Nat.le_of_ble_eq_true rfl) rfl (Nat.le_of_ble_eq_true rfl) rfl rfl (ok_Math_min_II X (d + 0) F _ _ _ _ _ hc1) ?_
  obtain ⟨c0, h⟩ := m_ite_n h
  refine m_R_cpy (by decide) (m_opb_of (ins := .invokestatic 452) (len := 3) (tag := 8) (a := 0) (b := 0) (c := 0) (q := 1391) (by decide +kernel)) (Nat.le_of_ble_eq_true rfl) (m_cpy_of sh_85 sh_39 c0) ?_
  obtain ⟨rfl, rfl⟩ := m_some h
  exact m_R_vret (by decide) (m_opb_of (ins := .return_) (len := 1) (tag := 3) (a := 0) (b := 0) (c := 0) (q := 0) (by decide +kernel))
def f_x_copyAll_86_40 (F : Nat)    (m : mM) : Option (Unit × mM) := ((f_Math_min_II F (Int32.ofNat 60) (Int32.ofNat 60) m).bind fun q1 => (if (0 : Int32) < 0 ∨ (0 : Int32) < 0 ∨ q1.1 < 0 ∨ 60 < (0 : Int32).toNatClampNeg + q1.1.toNatClampNeg ∨ 60 < (0 : Int32).toNatClampNeg + q1.1.toNatClampNeg then none else some ((), ((m_row q1.2.1 40 (va_cpy (q1.2.1 86) (q1.2.1 40) (0 : Int32).toNatClampNeg (0 : Int32).toNatClampNeg q1.1.toNatClampNeg)), q1.2.2))))
theorem ok_x_copyAll_86_40 (X : mX) (d F : Nat) : ∀   (m : mM) (r : Unit) (m' : mM), f_x_copyAll_86_40 F  m = some (r, m') → m_R X (d + 1) 176 0 [some (.ref 86), some (.ref 40)] [] (SH, m) (none, (SH, m')) := by
  intro m r m' h
  unfold f_x_copyAll_86_40 at h
  refine m_R_sg (by decide) [(.aload_n 0, 1, 0, 0, 0, 0, 0), (.iconst 0, 1, 0, 0, 0, 0, 0), (.aload_n 1, 1, 0, 1, 0, 0, 0), (.iconst 0, 1, 0, 0, 0, 0, 0), (.aload_n 0, 1, 0, 0, 0, 0, 0), (.arraylength, 1, 0, 0, 0, 0, 0), (.aload_n 1, 1, 0, 1, 0, 0, 0), (.arraylength, 1, 0, 0, 0, 0, 0)] (by decide +kernel) (show m_sgl X _ _ _ _ _ = some (8, [some (.ref 86), some (.ref 40)], [.int (Int32.ofNat 60), .int (Int32.ofNat 60), .int (0 : Int32), .ref 40, .int (0 : Int32), .ref 86], (SH, m.1, m.2)) from rfl) ?_
  obtain ⟨q1, hc1, h⟩ := Option.bind_eq_some_iff.mp h
  refine m_R_cS (v := (some (.int q1.1))) (h1 := (SH, q1.2)) (rest := [.int (0 : Int32), .ref 40, .int (0 : Int32), .ref 86]) (lo' := [some (.int (Int32.ofNat 60)), some (.int (Int32.ofNat 60))]) (ml := 2) (by decide) (m_opb_of (ins := .invokestatic 219) (len := 3) (tag := 4) (a := 50) (b := 2) (c := 0) (q := 893) (by decide +kernel)) (by decide +kernel) (Nat.le_of_ble_eq_true rfl) rfl (Nat.le_of_ble_eq_true rfl) rfl rfl (ok_Math_min_II X (d + 0) F _ _ _ _ _ hc1) ?_
  obtain ⟨c0, h⟩ := m_ite_n h
  refine m_R_cpy (by decide) (m_opb_of (ins := .invokestatic 452) (len := 3) (tag := 8) (a := 0) (b := 0) (c := 0) (q := 1391) (by decide +kernel)) (Nat.le_of_ble_eq_true rfl) (m_cpy_of sh_86 sh_40 c0) ?_
  obtain ⟨rfl, rfl⟩ := m_some h
  exact m_R_vret (by decide) (m_opb_of (ins := .return_) (len := 1) (tag := 3) (a := 0) (b := 0) (c := 0) (q := 0) (by decide +kernel))
def f_x_copyAll_87_41 (F : Nat)    (m : mM) : Option (Unit × mM) := ((f_Math_min_II F (Int32.ofNat 60) (Int32.ofNat 60) m).bind fun q1 => (if (0 : Int32) < 0 ∨ (0 : Int32) < 0 ∨ q1.1 < 0 ∨ 60 < (0 : Int32).toNatClampNeg + q1.1.toNatClampNeg ∨ 60 < (0 : Int32).toNatClampNeg + q1.1.toNatClampNeg then none else some ((), ((m_row q1.2.1 41 (va_cpy (q1.2.1 87) (q1.2.1 41) (0 : Int32).toNatClampNeg (0 : Int32).toNatClampNeg q1.1.toNatClampNeg)), q1.2.2))))
theorem ok_x_copyAll_87_41 (X : mX) (d F : Nat) : ∀   (m : mM) (r : Unit) (m' : mM), f_x_copyAll_87_41 F  m = some (r, m') → m_R X (d + 1) 176 0 [some (.ref 87), some (.ref 41)] [] (SH, m) (none, (SH, m')) := by
  intro m r m' h
  unfold f_x_copyAll_87_41 at h
  refine m_R_sg (by decide) [(.aload_n 0, 1, 0, 0, 0, 0, 0), (.iconst 0, 1, 0, 0, 0, 0, 0), (.aload_n 1, 1, 0, 1, 0, 0, 0), (.iconst 0, 1, 0, 0, 0, 0, 0), (.aload_n 0, 1, 0, 0, 0, 0, 0), (.arraylength, 1, 0, 0, 0, 0, 0), (.aload_n 1, 1, 0, 1, 0, 0, 0), (.arraylength, 1, 0, 0, 0, 0, 0)] (by decide +kernel) (show m_sgl X _ _ _ _ _ = some (8, [some (.ref 87), some (.ref 41)], [.int (Int32.ofNat 60), .int (Int32.ofNat 60), .int (0 : Int32), .ref 41, .int (0 : Int32), .ref 87], (SH, m.1, m.2)) from rfl) ?_
  obtain ⟨q1, hc1, h⟩ := Option.bind_eq_some_iff.mp h
  refine m_R_cS (v := (some (.int q1.1))) (h1 := (SH, q1.2)) (rest := [.int (0 : Int32), .ref 41, .int (0 : Int32), .ref 87]) (lo' := [some (.int (Int32.ofNat 60)), some (.int (Int32.ofNat 60))]) (ml := 2) (by decide) (m_opb_of (ins := .invokestatic 219) (len := 3) (tag := 4) (a := 50) (b := 2) (c := 0) (q := 893) (by decide +kernel)) (by decide +kernel) (Nat.le_of_ble_eq_true rfl) rfl (Nat.le_of_ble_eq_true rfl) rfl rfl (ok_Math_min_II X (d + 0) F _ _ _ _ _ hc1) ?_
  obtain ⟨c0, h⟩ := m_ite_n h
  refine m_R_cpy (by decide) (m_opb_of (ins := .invokestatic 452) (len := 3) (tag := 8) (a := 0) (b := 0) (c := 0) (q := 1391) (by decide +kernel)) (Nat.le_of_ble_eq_true rfl) (m_cpy_of sh_87 sh_41 c0) ?_
  obtain ⟨rfl, rfl⟩ := m_some h
  exact m_R_vret (by decide) (m_opb_of (ins := .return_) (len := 1) (tag := 3) (a := 0) (b := 0) (c := 0) (q := 0) (by decide +kernel))
def f_x_copyAll_88_42 (F : Nat)    (m : mM) : Option (Unit × mM) := ((f_Math_min_II F (Int32.ofNat 60) (Int32.ofNat 60) m).bind fun q1 => (if (0 : Int32) < 0 ∨ (0 : Int32) < 0 ∨ q1.1 < 0 ∨ 60 < (0 : Int32).toNatClampNeg + q1.1.toNatClampNeg ∨ 60 < (0 : Int32).toNatClampNeg + q1.1.toNatClampNeg then none else some ((), ((m_row q1.2.1 42 (va_cpy (q1.2.1 88) (q1.2.1 42) (0 : Int32).toNatClampNeg (0 : Int32).toNatClampNeg q1.1.toNatClampNeg)), q1.2.2))))
theorem ok_x_copyAll_88_42 (X : mX) (d F : Nat) : ∀   (m : mM) (r : Unit) (m' : mM), f_x_copyAll_88_42 F  m = some (r, m') → m_R X (d + 1) 176 0 [some (.ref 88), some (.ref 42)] [] (SH, m) (none, (SH, m')) := by
  intro m r m' h
  unfold f_x_copyAll_88_42 at h
  refine m_R_sg (by decide) [(.aload_n 0, 1, 0, 0, 0, 0, 0), (.iconst 0, 1, 0, 0, 0, 0, 0), (.aload_n 1, 1, 0, 1, 0, 0, 0), (.iconst 0, 1, 0, 0, 0, 0, 0), (.aload_n 0, 1, 0, 0, 0, 0, 0), (.arraylength, 1, 0, 0, 0, 0, 0), (.aload_n 1, 1, 0, 1, 0, 0, 0), (.arraylength, 1, 0, 0, 0, 0, 0)] (by decide +kernel) (show m_sgl X _ _ _ _ _ = some (8, [some (.ref 88), some (.ref 42)], [.int (Int32.ofNat 60), .int (Int32.ofNat 60), .int (0 : Int32), .ref 42, .int (0 : Int32), .ref 88], (SH, m.1, m.2)) from rfl) ?_
  obtain ⟨q1, hc1, h⟩ := Option.bind_eq_some_iff.mp h
  refine m_R_cS (v := (some (.int q1.1))) (h1 := (SH, q1.2)) (rest := [.int (0 : Int32), .ref 42, .int (0 : Int32), .ref 88]) (lo' := [some (.int (Int32.ofNat 60)), some (.int (Int32.ofNat 60))]) (ml := 2) (by decide) (m_opb_of (ins := .invokestatic 219) (len := 3) (tag := 4) (a := 50) (b := 2) (c := 0) (q := 893) (by decide +kernel)) (by decide +kernel) (Nat.le_of_ble_eq_true rfl) rfl (Nat.le_of_ble_eq_true rfl) rfl rfl (ok_Math_min_II X (d + 0) F _ _ _ _ _ hc1) ?_
  obtain ⟨c0, h⟩ := m_ite_n h
  refine m_R_cpy (by decide) (m_opb_of (ins := .invokestatic 452) (len := 3) (tag := 8) (a := 0) (b := 0) (c := 0) (q := 1391) (by decide +kernel)) (Nat.le_of_ble_eq_true rfl) (m_cpy_of sh_88 sh_42 c0) ?_
  obtain ⟨rfl, rfl⟩ := m_some h
  exact m_R_vret (by decide) (m_opb_of (ins := .return_) (len := 1) (tag := 3) (a := 0) (b := 0) (c := 0) (q := 0) (by decide +kernel))
def f_x_copyAll_89_43 (F : Nat)    (m : mM) : Option (Unit × mM) := ((f_Math_min_II F (Int32.ofNat 60) (Int32.ofNat 60) m).bind fun q1 => (if (0 : Int32) < 0 ∨ (0 : Int32) < 0 ∨ q1.1 < 0 ∨ 60 < (0 : Int32).toNatClampNeg + q1.1.toNatClampNeg ∨ 60 < (0 : Int32).toNatClampNeg + q1.1.toNatClampNeg then none else some ((), ((m_row q1.2.1 43 (va_cpy (q1.2.1 89) (q1.2.1 43) (0 : Int32).toNatClampNeg (0 : Int32).toNatClampNeg q1.1.toNatClampNeg)), q1.2.2))))
theorem ok_x_copyAll_89_43 (X : mX) (d F : Nat) : ∀   (m : mM) (r : Unit) (m' : mM), f_x_copyAll_89_43 F  m = some (r, m') → m_R X (d + 1) 176 0 [some (.ref 89), some (.ref 43)] [] (SH, m) (none, (SH, m')) := by
  intro m r m' h
  unfold f_x_copyAll_89_43 at h
  refine m_R_sg (by decide) [(.aload_n 0, 1, 0, 0, 0, 0, 0), (.iconst 0, 1, 0, 0, 0, 0, 0), (.aload_n 1, 1, 0, 1, 0, 0, 0), (.iconst 0, 1, 0, 0, 0, 0, 0), (.aload_n 0, 1, 0, 0, 0, 0, 0), (.arraylength, 1, 0, 0, 0, 0, 0), (.aload_n 1, 1, 0, 1, 0, 0, 0), (.arraylength, 1, 0, 0, 0, 0, 0)] (by decide +kernel) (show m_sgl X _ _ _ _ _ = some (8, [some (.ref 89), some (.ref 43)], [.int (Int32.ofNat 60), .int (Int32.ofNat 60), .int (0 : Int32), .ref 43, .int (0 : Int32), .ref 89], (SH, m.1, m.2)) from rfl) ?_
  obtain ⟨q1, hc1, h⟩ := Option.bind_eq_some_iff.mp h
  refine m_R_cS (v := (some (.int q1.1))) (h1 := (SH, q1.2)) (rest := [.int (0 : Int32), .ref 43, .int (0 : Int32), .ref 89]) (lo' := [some (.int (Int32.ofNat 60)), some (.int (Int32.ofNat 60))]) (ml := 2) (by decide) (m_opb_of (ins := .invokestatic 219) (len := 3) (tag := 4) (a := 50) (b := 2) (c := 0) (q := 893) (by decide +kernel)) (by decide +kernel) (Nat.le_of_ble_eq_true rfl) rfl (Nat.le_of_ble_eq_true rfl) rfl rfl (ok_Math_min_II X (d + 0) F _ _ _ _ _ hc1) ?_
  obtain ⟨c0, h⟩ := m_ite_n h
  refine m_R_cpy (by decide) (m_opb_of (ins := .invokestatic 452) (len := 3) (tag := 8) (a := 0) (b := 0) (c := 0) (q := 1391) (by decide +kernel)) (Nat.le_of_ble_eq_true rfl) (m_cpy_of sh_89 sh_43 c0) ?_
  obtain ⟨rfl, rfl⟩ := m_some h
  exact m_R_vret (by decide) (m_opb_of (ins := .return_) (len := 1) (tag := 3) (a := 0) (b := 0) (c := 0) (q := 0) (by decide +kernel))
def f_x_copyAll_90_44 (F : Nat)    (m : mM) : Option (Unit × mM) := ((f_Math_min_II F (Int32.ofNat 60) (Int32.ofNat 60) m).bind fun q1 => (if (0 : Int32) < 0 ∨ (0 : Int32) < 0 ∨ q1.1 < 0 ∨ 60 < (0 : Int32).toNatClampNeg + q1.1.toNatClampNeg ∨ 60 < (0 : Int32).toNatClampNeg + q1.1.toNatClampNeg then none else some ((), ((m_row q1.2.1 44 (va_cpy (q1.2.1 90) (q1.2.1 44) (0 : Int32).toNatClampNeg (0 : Int32).toNatClampNeg q1.1.toNatClampNeg)), q1.2.2))))
theorem ok_x_copyAll_90_44 (X : mX) (d F : Nat) : ∀   (m : mM) (r : Unit) (m' : mM), f_x_copyAll_90_44 F  m = some (r, m') → m_R X (d + 1) 176 0 [some (.ref 90), some (.ref 44)] [] (SH, m) (none, (SH, m')) := by
  intro m r m' h
  unfold f_x_copyAll_90_44 at h
  refine m_R_sg (by decide) [(.aload_n 0, 1, 0, 0, 0, 0, 0), (.iconst 0, 1, 0, 0, 0, 0, 0), (.aload_n 1, 1, 0, 1, 0, 0, 0), (.iconst 0, 1, 0, 0, 0, 0, 0), (.aload_n 0, 1, 0, 0, 0, 0, 0), (.arraylength, 1, 0, 0, 0, 0, 0), (.aload_n 1, 1, 0, 1, 0, 0, 0), (.arraylength, 1, 0, 0, 0, 0, 0)] (by decide +kernel) (show m_sgl X _ _ _ _ _ = some (8, [some (.ref 90), some (.ref 44)], [.int (Int32.ofNat 60), .int (Int32.ofNat 60), .int (0 : Int32), .ref 44, .int (0 : Int32), .ref 90], (SH, m.1, m.2)) from rfl) ?_
  obtain ⟨q1, hc1, h⟩ := Option.bind_eq_some_iff.mp h
  refine m_R_cS (v := (some (.int q1.1))) (h1 := (SH, q1.2)) (rest := [.int (0 : Int32), .ref 44, .int (0 : Int32), .ref 90]) (lo' := [some (.int (Int32.ofNat 60)), some (.int (Int32.ofNat 60))]) (ml := 2) (by decide) (m_opb_of (ins := .invokestatic 219) (len := 3) (tag := 4) (a := 50) (b := 2) (c := 0) (q := 893) (by decide +kernel)) (by decide +kernel) (Nat.le_of_ble_eq_true rfl) rfl (Nat.le_of_ble_eq_true rfl) rfl rfl (ok_Math_min_II X (d + 0) F _ _ _ _ _ hc1) ?_
  obtain ⟨c0, h⟩ := m_ite_n h
  refine m_R_cpy (by decide) (m_opb_of (ins := .invokestatic 452) (len := 3) (tag := 8) (a := 0) (b := 0) (c := 0) (q := 1391) (by decide +kernel)) (Nat.le_of_ble_eq_true rfl) (m_cpy_of sh_90 sh_44 c0) ?_
  obtain ⟨rfl, rfl⟩ := m_some h
  exact m_R_vret (by decide) (m_opb_of (ins := .return_) (len := 1) (tag := 3) (a := 0) (b := 0) (c := 0) (q := 0) (by decide +kernel))
def f_Papers_become_31_77 (F : Nat)    (m : mM) : Option (Unit × mM) := ((f_x_copyAll_78_32 F m).bind fun q1 => ((f_x_copyAll_79_33 F q1.2).bind fun q2 => ((f_x_copyAll_80_34 F q2.2).bind fun q3 => ((f_x_copyAll_81_35 F q3.2).bind fun q4 => ((f_x_copyAll_82_36 F q4.2).bind fun q5 => ((f_x_copyAll_83_37 F q5.2).bind fun q6 => ((f_x_copyAll_84_38 F q6.2).bind fun q7 => ((f_x_copyAll_85_39 F q7.2).bind fun q8 => ((f_x_copyAll_86_40 F q8.2).bind fun q9 => ((f_x_copyAll_87_41 F q9.2).bind fun q10 => ((f_x_copyAll_88_42 F q10.2).bind fun q11 => ((f_x_copyAll_89_43 F q11.2).bind fun q12 => ((f_x_copyAll_90_44 F q12.2).bind fun q13 => some ((), ((m_up (m_up q13.2.1 31 14 (q13.2.1 77 14)) 31 15 ((m_up q13.2.1 31 14 (q13.2.1 77 14)) 77 15)), q13.2.2)))))))))))))))
theorem ok_Papers_become_31_77 (X : mX) (d F : Nat) : ∀   (m : mM) (r : Unit) (m' : mM), f_Papers_become_31_77 F  m = some (r, m') → m_R X (d + 2) 178 0 [some (.ref 31), some (.ref 77)] [] (SH, m) (none, (SH, m')) := by
  intro m r m' h
  unfold f_Papers_become_31_77 at h
  refine m_R_sg (by decide) [(.aload_n 1, 1, 0, 1, 0, 0, 0), (.getfield 9, 3, 0, 4, 0, 3, 317), (.aload_n 0, 1, 0, 0, 0, 0, 0), (.getfield 9, 3, 0, 4, 0, 3, 317)] (by decide +kernel) (show m_sgl X _ _ _ _ _ = some (8, [some (.ref 31), some (.ref 77)], [.ref 32, .ref 78], (SH, m.1, m.2)) from rfl) ?_
  obtain ⟨q1, hc1, h⟩ := Option.bind_eq_some_iff.mp h
  refine m_R_cS (v := none) (h1 := (SH, q1.2)) (rest := []) (lo' := [some (.ref 78), some (.ref 32)]) (ml := 2) (by decide) (m_opb_of (ins := .invokestatic 55) (len := 3) (tag := 4) (a := 176) (b := 2) (c := 1) (q := 1401) (by decide +kernel)) (by decide +kernel) (Nat.le_of_ble_eq_true rfl) rfl (Nat.le_of_ble_eq_true rfl) rfl rfl (ok_x_copyAll_78_32 X (d + 0) F _ _ _ hc1) ?_
  refine m_R_sg (by decide) [(.aload_n 1, 1, 0, 1, 0, 0, 0), (.getfield 15, 3, 0, 4, 1, 3, 321), (.aload_n 0, 1, 0, 0, 0, 0, 0), (.getfield 15, 3, 0, 4, 1, 3, 321)] (by decide +kernel) (show m_sgl X _ _ _ _ _ = some (19, [some (.ref 31), some (.ref 77)], [.ref 33, .ref 79], (SH, q1.2.1, q1.2.2)) from rfl) ?_
  obtain ⟨q2, hc2, h⟩ := Option.bind_eq_some_iff.mp h
  refine m_R_cS (v := none) (h1 := (SH, q2.2)) (rest := []) (lo' := [some (.ref 79), some (.ref 33)]) (ml := 2) (by decide) (m_opb_of (ins := .invokestatic 55) (len := 3) (tag := 4) (a := 176) (b := 2) (c := 1) (q := 1401) (by decide +kernel)) (by decide +kernel) (Nat.le_of_ble_eq_true rfl) rfl (Nat.le_of_ble_eq_true rfl) rfl rfl (ok_x_copyAll_79_33 X (d + 0) F _ _ _ hc2) ?_
  refine m_R_sg (by decide) [(.aload_n 1, 1, 0, 1, 0, 0, 0), (.getfield 18, 3, 0, 4, 2, 3, 325), (.aload_n 0, 1, 0, 0, 0, 0, 0), (.getfield 18, 3, 0, 4, 2, 3, 325)] (by decide +kernel) (show m_sgl X _ _ _ _ _ = some (30, [some (.ref 31), some (.ref 77)], [.ref 34, .ref 80], (SH, q2.2.1, q2.2.2)) from rfl) ?_
  obtain ⟨q3, hc3, h⟩ := Option.bind_eq_some_iff.mp h
  refine m_R_cS (v := none) (h1 := (SH, q3.2)) (rest := []) (lo' := [some (.ref 80), some (.ref 34)]) (ml := 2) (by decide) (m_opb_of (ins := .invokestatic 55) (len := 3) (tag := 4) (a := 176) (b := 2) (c := 1) (q := 1401) (by decide +kernel)) (by decide +kernel) (Nat.le_of_ble_eq_true rfl) rfl (Nat.le_of_ble_eq_true rfl) rfl rfl (ok_x_copyAll_80_34 X (d + 0) F _ _ _ hc3) ?_
  refine m_R_sg (by decide) [(.aload_n 1, 1, 0, 1, 0, 0, 0), (.getfield 21, 3, 0, 4, 3, 3, 329), (.aload_n 0, 1, 0, 0, 0, 0, 0), (.getfield 21, 3, 0, 4, 3, 3, 329)] (by decide +kernel) (show m_sgl X _ _ _ _ _ = some (41, [some (.ref 31), some (.ref 77)], [.ref 35, .ref 81], (SH, q3.2.1, q3.2.2)) from rfl) ?_
  obtain ⟨q4, hc4, h⟩ := Option.bind_eq_some_iff.mp h
  refine m_R_cS (v := none) (h1 := (SH, q4.2)) (rest := []) (lo' := [some (.ref 81), some (.ref 35)]) (ml := 2) (by decide) (m_opb_of (ins := .invokestatic 55) (len := 3) (tag := 4) (a := 176) (b := 2) (c := 1) (q := 1401) (by decide +kernel)) (by decide +kernel) (Nat.le_of_ble_eq_true rfl) rfl (Nat.le_of_ble_eq_true rfl) rfl rfl (ok_x_copyAll_81_35 X (d + 0) F _ _ _ hc4) ?_
  refine m_R_sg (by decide) [(.aload_n 1, 1, 0, 1, 0, 0, 0), (.getfield 24, 3, 0, 4, 4, 3, 333), (.aload_n 0, 1, 0, 0, 0, 0, 0), (.getfield 24, 3, 0, 4, 4, 3, 333)] (by decide +kernel) (show m_sgl X _ _ _ _ _ = some (52, [some (.ref 31), some (.ref 77)], [.ref 36, .ref 82], (SH, q4.2.1, q4.2.2)) from rfl) ?_
  obtain ⟨q5, hc5, h⟩ := Option.bind_eq_some_iff.mp h
  refine m_R_cS (v := none) (h1 := (SH, q5.2)) (rest := []) (lo' := [some (.ref 82), some (.ref 36)]) (ml := 2) (by decide) (m_opb_of (ins := .invokestatic 55) (len := 3) (tag := 4) (a := 176) (b := 2) (c := 1) (q := 1401) (by decide +kernel)) (by decide +kernel) (Nat.le_of_ble_eq_true rfl) rfl (Nat.le_of_ble_eq_true rfl) rfl rfl (ok_x_copyAll_82_36 X (d + 0) F _ _ _ hc5) ?_
  refine m_R_sg (by decide) [(.aload_n 1, 1, 0, 1, 0, 0, 0), (.getfield 27, 3, 0, 4, 5, 3, 336), (.aload_n 0, 1, 0, 0, 0, 0, 0), (.getfield 27, 3, 0, 4, 5, 3, 336)] (by decide +kernel) (show m_sgl X _ _ _ _ _ = some (63, [some (.ref 31), some (.ref 77)], [.ref 37, .ref 83], (SH, q5.2.1, q5.2.2)) from rfl) ?_
  obtain ⟨q6, hc6, h⟩ := Option.bind_eq_some_iff.mp h
  refine m_R_cS (v := none) (h1 := (SH, q6.2)) (rest := []) (lo' := [some (.ref 83), some (.ref 37)]) (ml := 2) (by decide) (m_opb_of (ins := .invokestatic 55) (len := 3) (tag := 4) (a := 176) (b := 2) (c := 1) (q := 1401) (by decide +kernel)) (by decide +kernel) (Nat.le_of_ble_eq_true rfl) rfl (Nat.le_of_ble_eq_true rfl) rfl rfl (ok_x_copyAll_83_37 X (d + 0) F _ _ _ hc6) ?_
  refine m_R_sg (by decide) [(.aload_n 1, 1, 0, 1, 0, 0, 0), (.getfield 30, 3, 0, 4, 6, 3, 339), (.aload_n 0, 1, 0, 0, 0, 0, 0), (.getfield 30, 3, 0, 4, 6, 3, 339)] (by decide +kernel) (show m_sgl X _ _ _ _ _ = some (74, [some (.ref 31), some (.ref 77)], [.ref 38, .ref 84], (SH, q6.2.1, q6.2.2)) from rfl) ?_
  obtain ⟨q7, hc7, h⟩ := Option.bind_eq_some_iff.mp h
  refine m_R_cS (v := none) (h1 := (SH, q7.2)) (rest := []) (lo' := [some (.ref 84), some (.ref 38)]) (ml := 2) (by decide) (m_opb_of (ins := .invokestatic 55) (len := 3) (tag := 4) (a := 176) (b := 2) (c := 1) (q := 1401) (by decide +kernel)) (by decide +kernel) (Nat.le_of_ble_eq_true rfl) rfl (Nat.le_of_ble_eq_true rfl) rfl rfl (ok_x_copyAll_84_38 X (d + 0) F _ _ _ hc7) ?_
  refine m_R_sg (by decide) [(.aload_n 1, 1, 0, 1, 0, 0, 0), (.getfield 33, 3, 0, 4, 7, 3, 342), (.aload_n 0, 1, 0, 0, 0, 0, 0), (.getfield 33, 3, 0, 4, 7, 3, 342)] (by decide +kernel) (show m_sgl X _ _ _ _ _ = some (85, [some (.ref 31), some (.ref 77)], [.ref 39, .ref 85], (SH, q7.2.1, q7.2.2)) from rfl) ?_
  obtain ⟨q8, hc8, h⟩ := Option.bind_eq_some_iff.mp h
  refine m_R_cS (v := none) (h1 := (SH, q8.2)) (rest := []) (lo' := [some (.ref 85), some (.ref 39)]) (ml := 2) (by decide) (m_opb_of (ins := .invokestatic 55) (len := 3) (tag := 4) (a := 176) (b := 2) (c := 1) (q := 1401) (by decide +kernel)) (by decide +kernel) (Nat.le_of_ble_eq_true rfl) rfl (Nat.le_of_ble_eq_true rfl) rfl rfl (ok_x_copyAll_85_39 X (d + 0) F _ _ _ hc8) ?_
  refine m_R_sg (by decide) [(.aload_n 1, 1, 0, 1, 0, 0, 0), (.getfield 36, 3, 0, 4, 8, 3, 345), (.aload_n 0, 1, 0, 0, 0, 0, 0), (.getfield 36, 3, 0, 4, 8, 3, 345)] (by decide +kernel) (show m_sgl X _ _ _ _ _ = some (96, [some (.ref 31), some (.ref 77)], [.ref 40, .ref 86], (SH, q8.2.1, q8.2.2)) from rfl) ?_
  obtain ⟨q9, hc9, h⟩ := Option.bind_eq_some_iff.mp h
  refine m_R_cS (v := none) (h1 := (SH, q9.2)) (rest := []) (lo' := [some (.ref 86), some (.ref 40)]) (ml := 2) (by decide) (m_opb_of (ins := .invokestatic 55) (len := 3) (tag := 4) (a := 176) (b := 2) (c := 1) (q := 1401) (by decide +kernel)) (by decide +kernel) (Nat.le_of_ble_eq_true rfl) rfl (Nat.le_of_ble_eq_true rfl) rfl rfl (ok_x_copyAll_86_40 X (d + 0) F _ _ _ hc9) ?_
  refine m_R_sg (by decide) [(.aload_n 1, 1, 0, 1, 0, 0, 0), (.getfield 39, 3, 0, 4, 9, 3, 348), (.aload_n 0, 1, 0, 0, 0, 0, 0), (.getfield 39, 3, 0, 4, 9, 3, 348)] (by decide +kernel) (show m_sgl X _ _ _ _ _ = some (107, [some (.ref 31), some (.ref 77)], [.ref 41, .ref 87], (SH, q9.2.1, q9.2.2)) from rfl) ?_
  obtain ⟨q10, hc10, h⟩ := Option.bind_eq_some_iff.mp h
  refine m_R_cS (v := none) (h1 := (SH, q10.2)) (rest := []) (lo' := [some (.ref 87), some (.ref 41)]) (ml := 2) (by decide) (m_opb_of (ins := .invokestatic 55) (len := 3) (tag := 4) (a := 176) (b := 2) (c := 1) (q := 1401) (by decide +kernel)) (by decide +kernel) (Nat.le_of_ble_eq_true rfl) rfl (Nat.le_of_ble_eq_true rfl) rfl rfl (ok_x_copyAll_87_41 X (d + 0) F _ _ _ hc10) ?_
  refine m_R_sg (by decide) [(.aload_n 1, 1, 0, 1, 0, 0, 0), (.getfield 42, 3, 0, 4, 10, 3, 351), (.aload_n 0, 1, 0, 0, 0, 0, 0), (.getfield 42, 3, 0, 4, 10, 3, 351)] (by decide +kernel) (show m_sgl X _ _ _ _ _ = some (118, [some (.ref 31), some (.ref 77)], [.ref 42, .ref 88], (SH, q10.2.1, q10.2.2)) from rfl) ?_
  obtain ⟨q11, hc11, h⟩ := Option.bind_eq_some_iff.mp h
  refine m_R_cS (v := none) (h1 := (SH, q11.2)) (rest := []) (lo' := [some (.ref 88), some (.ref 42)]) (ml := 2) (by decide) (m_opb_of (ins := .invokestatic 55) (len := 3) (tag := 4) (a := 176) (b := 2) (c := 1) (q := 1401) (by decide +kernel)) (by decide +kernel) (Nat.le_of_ble_eq_true rfl) rfl (Nat.le_of_ble_eq_true rfl) rfl rfl (ok_x_copyAll_88_42 X (d + 0) F _ _ _ hc11) ?_
  refine m_R_sg (by decide) [(.aload_n 1, 1, 0, 1, 0, 0, 0), (.getfield 45, 3, 0, 4, 11, 3, 354), (.aload_n 0, 1, 0, 0, 0, 0, 0), (.getfield 45, 3, 0, 4, 11, 3, 354)] (by decide +kernel) (show m_sgl X _ _ _ _ _ = some (129, [some (.ref 31), some (.ref 77)], [.ref 43, .ref 89], (SH, q11.2.1, q11.2.2)) from rfl) ?_
  obtain ⟨q12, hc12, h⟩ := Option.bind_eq_some_iff.mp h
  refine m_R_cS (v := none) (h1 := (SH, q12.2)) (rest := []) (lo' := [some (.ref 89), some (.ref 43)]) (ml := 2) (by decide) (m_opb_of (ins := .invokestatic 55) (len := 3) (tag := 4) (a := 176) (b := 2) (c := 1) (q := 1401) (by decide +kernel)) (by decide +kernel) (Nat.le_of_ble_eq_true rfl) rfl (Nat.le_of_ble_eq_true rfl) rfl rfl (ok_x_copyAll_89_43 X (d + 0) F _ _ _ hc12) ?_
  refine m_R_sg (by decide) [(.aload_n 1, 1, 0, 1, 0, 0, 0), (.getfield 48, 3, 0, 4, 12, 3, 357), (.aload_n 0, 1, 0, 0, 0, 0, 0), (.getfield 48, 3, 0, 4, 12, 3, 357)] (by decide +kernel) (show m_sgl X _ _ _ _ _ = some (140, [some (.ref 31), some (.ref 77)], [.ref 44, .ref 90], (SH, q12.2.1, q12.2.2)) from rfl) ?_
  obtain ⟨q13, hc13, h⟩ := Option.bind_eq_some_iff.mp h
  refine m_R_cS (v := none) (h1 := (SH, q13.2)) (rest := []) (lo' := [some (.ref 90), some (.ref 44)]) (ml := 2) (by decide) (m_opb_of (ins := .invokestatic 55) (len := 3) (tag := 4) (a := 176) (b := 2) (c := 1) (q := 1401) (by decide +kernel)) (by decide +kernel) (Nat.le_of_ble_eq_true rfl) rfl (Nat.le_of_ble_eq_true rfl) rfl rfl (ok_x_copyAll_90_44 X (d + 0) F _ _ _ hc13) ?_
  refine m_R_sg (by decide) [(.aload_n 0, 1, 0, 0, 0, 0, 0), (.aload_n 1, 1, 0, 1, 0, 0, 0), (.getfield 59, 3, 0, 4, 14, 0, 361), (.putfield 59, 3, 0, 4, 14, 0, 361), (.aload_n 0, 1, 0, 0, 0, 0, 0), (.aload_n 1, 1, 0, 1, 0, 0, 0), (.getfield 63, 3, 0, 4, 15, 0, 363), (.putfield 63, 3, 0, 4, 15, 0, 363)] (by decide +kernel) (show m_sgl X _ _ _ _ _ = some (159, [some (.ref 31), some (.ref 77)], [], (SH, (m_up (m_up q13.2.1 31 14 (q13.2.1 77 14)) 31 15 ((m_up q13.2.1 31 14 (q13.2.1 77 14)) 77 15)), q13.2.2)) from rfl) ?_
  obtain ⟨rfl, rfl⟩ := m_some h
  exact m_R_vret (by decide) (m_opb_of (ins := .return_) (len := 1) (tag := 3) (a := 0) (b := 0) (c := 0) (q := 0) (by decide +kernel))
def f_x_copyAll_93_47 (F : Nat)    (m : mM) : Option (Unit × mM) := ((f_Math_min_II F (Int32.ofNat 8) (Int32.ofNat 8) m).bind fun q1 => (if (0 : Int32) < 0 ∨ (0 : Int32) < 0 ∨ q1.1 < 0 ∨ 8 < (0 : Int32).toNatClampNeg + q1.1.toNatClampNeg ∨ 8 < (0 : Int32).toNatClampNeg + q1.1.toNatClampNeg then none else some ((), ((m_row q1.2.1 47 (va_cpy (q1.2.1 93) (q1.2.1 47) (0 : Int32).toNatClampNeg (0 : Int32).toNatClampNeg q1.1.toNatClampNeg)), q1.2.2))))
theorem ok_x_copyAll_93_47 (X : mX) (d F : Nat) : ∀   (m : mM) (r : Unit) (m' : mM), f_x_copyAll_93_47 F  m = some (r, m') → m_R X (d + 1) 176 0 [some (.ref 93), some (.ref 47)] [] (SH, m) (none, (SH, m')) := by
  intro m r m' h
  unfold f_x_copyAll_93_47 at h
  refine m_R_sg (by decide) [(.aload_n 0, 1, 0, 0, 0, 0, 0), (.iconst 0, 1, 0, 0, 0, 0, 0), (.aload_n 1, 1, 0, 1, 0, 0, 0), (.iconst 0, 1, 0, 0, 0, 0, 0), (.aload_n 0, 1, 0, 0, 0, 0, 0), (.arraylength, 1, 0, 0, 0, 0, 0), (.aload_n 1, 1, 0, 1, 0, 0, 0), (.arraylength, 1, 0, 0, 0, 0, 0)] (by decide +kernel) (show m_sgl X _ _ _ _ _ = some (8, [some (.ref 93), some (.ref 47)], [.int (Int32.ofNat 8), .int (Int32.ofNat 8), .int (0 : Int32), .ref 47, .int (0 : Int32), .ref 93], (SH, m.1, m.2)) from rfl) ?_
  obtain ⟨q1, hc1, h⟩ := Option.bind_eq_some_iff.mp h
  refine m_R_cS (v := (some (.int q1.1))) (h1 := (SH, q1.2)) (rest := [.int (0 : Int32), .ref 47, .int (0 : Int32), .ref 93]) (lo' := [some (.int (Int32.ofNat 8)), some (.int (Int32.ofNat 8))]) (ml := 2) (by decide) (m_opb_of (ins := .invokestatic 219) (len := 3) (tag := 4) (a := 50) (b := 2) (c := 0) (q := 893) (by decide +kernel)) (by decide +kernel) (Nat.le_of_ble_eq_true rfl) rfl (Nat.le_of_ble_eq_true rfl) rfl rfl (ok_Math_min_II X (d + 0) F _ _ _ _ _ hc1) ?_
  obtain ⟨c0, h⟩ := m_ite_n h
  refine m_R_cpy (by decide) (m_opb_of (ins := .invokestatic 452) (len := 3) (tag := 8) (a := 0) (b := 0) (c := 0) (q := 1391) (by decide +kernel)) (Nat.le_of_ble_eq_true rfl) (m_cpy_of sh_93 sh_47 c0) ?_
  obtain ⟨rfl, rfl⟩ := m_some h
  exact m_R_vret (by decide) (m_opb_of (ins := .return_) (len := 1) (tag := 3) (a := 0) (b := 0) (c := 0) (q := 0) (by decide +kernel))
def f_x_copyAll_94_48 (F : Nat)    (m : mM) : Option (Unit × mM) := ((f_Math_min_II F (Int32.ofNat 8) (Int32.ofNat 8) m).bind fun q1 => (if (0 : Int32) < 0 ∨ (0 : Int32) < 0 ∨ q1.1 < 0 ∨ 8 < (0 : Int32).toNatClampNeg + q1.1.toNatClampNeg ∨ 8 < (0 : Int32).toNatClampNeg + q1.1.toNatClampNeg then none else some ((), ((m_row q1.2.1 48 (va_cpy (q1.2.1 94) (q1.2.1 48) (0 : Int32).toNatClampNeg (0 : Int32).toNatClampNeg q1.1.toNatClampNeg)), q1.2.2))))
theorem ok_x_copyAll_94_48 (X : mX) (d F : Nat) : ∀   (m : mM) (r : Unit) (m' : mM), f_x_copyAll_94_48 F  m = some (r, m') → m_R X (d + 1) 176 0 [some (.ref 94), some (.ref 48)] [] (SH, m) (none, (SH, m')) := by
  intro m r m' h
  unfold f_x_copyAll_94_48 at h
  refine m_R_sg (by decide) [(.aload_n 0, 1, 0, 0, 0, 0, 0), (.iconst 0, 1, 0, 0, 0, 0, 0), (.aload_n 1, 1, 0, 1, 0, 0, 0), (.iconst 0, 1, 0, 0, 0, 0, 0), (.aload_n 0, 1, 0, 0, 0, 0, 0), (.arraylength, 1, 0, 0, 0, 0, 0), (.aload_n 1, 1, 0, 1, 0, 0, 0), (.arraylength, 1, 0, 0, 0, 0, 0)] (by decide +kernel) (show m_sgl X _ _ _ _ _ = some (8, [some (.ref 94), some (.ref 48)], [.int (Int32.ofNat 8), .int (Int32.ofNat 8), .int (0 : Int32), .ref 48, .int (0 : Int32), .ref 94], (SH, m.1, m.2)) from rfl) ?_
  obtain ⟨q1, hc1, h⟩ := Option.bind_eq_some_iff.mp h
  refine m_R_cS (v := (some (.int q1.1))) (h1 := (SH, q1.2)) (rest := [.int (0 : Int32), .ref 48, .int (0 : Int32), .ref 94]) (lo' := [some (.int (Int32.ofNat 8)), some (.int (Int32.ofNat 8))]) (ml := 2) (by decide) (m_opb_of (ins := .invokestatic 219) (len := 3) (tag := 4) (a := 50) (b := 2) (c := 0) (q := 893) (by decide +kernel)) (by decide +kernel) (Nat.le_of_ble_eq_true rfl) rfl (Nat.le_of_ble_eq_true rfl) rfl rfl (ok_Math_min_II X (d + 0) F _ _ _ _ _ hc1) ?_
  obtain ⟨c0, h⟩ := m_ite_n h
  refine m_R_cpy (by decide) (m_opb_of (ins := .invokestatic 452) (len := 3) (tag := 8) (a := 0) (b := 0) (c := 0) (q := 1391) (by decide +kernel)) (Nat.le_of_ble_eq_true rfl) (m_cpy_of sh_94 sh_48 c0) ?_
  obtain ⟨rfl, rfl⟩ := m_some h
  exact m_R_vret (by decide) (m_opb_of (ins := .return_) (len := 1) (tag := 3) (a := 0) (b := 0) (c := 0) (q := 0) (by decide +kernel))
def f_x_copyAll_95_49 (F : Nat)    (m : mM) : Option (Unit × mM) := ((f_Math_min_II F (Int32.ofNat 8) (Int32.ofNat 8) m).bind fun q1 => (if (0 : Int32) < 0 ∨ (0 : Int32) < 0 ∨ q1.1 < 0 ∨ 8 < (0 : Int32).toNatClampNeg + q1.1.toNatClampNeg ∨ 8 < (0 : Int32).toNatClampNeg + q1.1.toNatClampNeg then none else some ((), ((m_row q1.2.1 49 (va_cpy (q1.2.1 95) (q1.2.1 49) (0 : Int32).toNatClampNeg (0 : Int32).toNatClampNeg q1.1.toNatClampNeg)), q1.2.2))))
theorem ok_x_copyAll_95_49 (X : mX) (d F : Nat) : ∀   (m : mM) (r : Unit) (m' : mM), f_x_copyAll_95_49 F  m = some (r, m') → m_R X (d + 1) 176 0 [some (.ref 95), some (.ref 49)] [] (SH, m) (none, (SH, m')) := by
  intro m r m' h
  unfold f_x_copyAll_95_49 at h
  refine m_R_sg (by decide) [(.aload_n 0, 1, 0, 0, 0, 0, 0), (.iconst 0, 1, 0, 0, 0, 0, 0), (.aload_n 1, 1, 0, 1, 0, 0, 0), (.iconst 0, 1, 0, 0, 0, 0, 0), (.aload_n 0, 1, 0, 0, 0, 0, 0), (.arraylength, 1, 0, 0, 0, 0, 0), (.aload_n 1, 1, 0, 1, 0, 0, 0), (.arraylength, 1, 0, 0, 0, 0, 0)] (by decide +kernel) (show m_sgl X _ _ _ _ _ = some (8, [some (.ref 95), some (.ref 49)], [.int (Int32.ofNat 8), .int (Int32.ofNat 8), .int (0 : Int32), .ref 49, .int (0 : Int32), .ref 95], (SH, m.1, m.2)) from rfl) ?_
  obtain ⟨q1, hc1, h⟩ := Option.bind_eq_some_iff.mp h
  refine m_R_cS (v := (some (.int q1.1))) (h1 := (SH, q1.2)) (rest := [.int (0 : Int32), .ref 49, .int (0 : Int32), .ref 95]) (lo' := [some (.int (Int32.ofNat 8)), some (.int (Int32.ofNat 8))]) (ml := 2) (by decide) (m_opb_of (ins := .invokestatic 219) (len := 3) (tag := 4) (a := 50) (b := 2) (c := 0) (q := 893) (by decide +kernel)) (by decide +kernel) (Nat.le_of_ble_eq_true rfl) rfl (Nat.le_of_ble_eq_true rfl) rfl rfl (ok_Math_min_II X (d + 0) F _ _ _ _ _ hc1) ?_
  obtain ⟨c0, h⟩ := m_ite_n h
  refine m_R_cpy (by decide) (m_opb_of (ins := .invokestatic 452) (len := 3) (tag := 8) (a := 0) (b := 0) (c := 0) (q := 1391) (by decide +kernel)) (Nat.le_of_ble_eq_true rfl) (m_cpy_of sh_95 sh_49 c0) ?_
  obtain ⟨rfl, rfl⟩ := m_some h
  exact m_R_vret (by decide) (m_opb_of (ins := .return_) (len := 1) (tag := 3) (a := 0) (b := 0) (c := 0) (q := 0) (by decide +kernel))
def f_x_copyAll_96_50 (F : Nat)    (m : mM) : Option (Unit × mM) := ((f_Math_min_II F (Int32.ofNat 8) (Int32.ofNat 8) m).bind fun q1 => (if (0 : Int32) < 0 ∨ (0 : Int32) < 0 ∨ q1.1 < 0 ∨ 8 < (0 : Int32).toNatClampNeg + q1.1.toNatClampNeg ∨ 8 < (0 : Int32).toNatClampNeg + q1.1.toNatClampNeg then none else some ((), ((m_row q1.2.1 50 (va_cpy (q1.2.1 96) (q1.2.1 50) (0 : Int32).toNatClampNeg (0 : Int32).toNatClampNeg q1.1.toNatClampNeg)), q1.2.2))))
theorem ok_x_copyAll_96_50 (X : mX) (d F : Nat) : ∀   (m : mM) (r : Unit) (m' : mM), f_x_copyAll_96_50 F  m = some (r, m') → m_R X (d + 1) 176 0 [some (.ref 96), some (.ref 50)] [] (SH, m) (none, (SH, m')) := by
  intro m r m' h
  unfold f_x_copyAll_96_50 at h
  refine m_R_sg (by decide) [(.aload_n 0, 1, 0, 0, 0, 0, 0), (.iconst 0, 1, 0, 0, 0, 0, 0), (.aload_n 1, 1, 0, 1, 0, 0, 0), (.iconst 0, 1, 0, 0, 0, 0, 0), (.aload_n 0, 1, 0, 0, 0, 0, 0), (.arraylength, 1, 0, 0, 0, 0, 0), (.aload_n 1, 1, 0, 1, 0, 0, 0), (.arraylength, 1, 0, 0, 0, 0, 0)] (by decide +kernel) (show m_sgl X _ _ _ _ _ = some (8, [some (.ref 96), some (.ref 50)], [.int (Int32.ofNat 8), .int (Int32.ofNat 8), .int (0 : Int32), .ref 50, .int (0 : Int32), .ref 96], (SH, m.1, m.2)) from rfl) ?_
  obtain ⟨q1, hc1, h⟩ := Option.bind_eq_some_iff.mp h
  refine m_R_cS (v := (some (.int q1.1))) (h1 := (SH, q1.2)) (rest := [.int (0 : Int32), .ref 50, .int (0 : Int32), .ref 96]) (lo' := [some (.int (Int32.ofNat 8)), some (.int (Int32.ofNat 8))]) (ml := 2) (by decide) (m_opb_of (ins := .invokestatic 219) (len := 3) (tag := 4) (a := 50) (b := 2) (c := 0) (q := 893) (by decide +kernel)) (by decide +kernel) (Nat.le_of_ble_eq_true rfl) rfl (Nat.le_of_ble_eq_true rfl) rfl rfl (ok_Math_min_II X (d + 0) F _ _ _ _ _ hc1) ?_
  obtain ⟨c0, h⟩ := m_ite_n h
  refine m_R_cpy (by decide) (m_opb_of (ins := .invokestatic 452) (len := 3) (tag := 8) (a := 0) (b := 0) (c := 0) (q := 1391) (by decide +kernel)) (Nat.le_of_ble_eq_true rfl) (m_cpy_of sh_96 sh_50 c0) ?_
  obtain ⟨rfl, rfl⟩ := m_some h
  exact m_R_vret (by decide) (m_opb_of (ins := .return_) (len := 1) (tag := 3) (a := 0) (b := 0) (c := 0) (q := 0) (by decide +kernel))
def f_x_copyAll_97_51 (F : Nat)    (m : mM) : Option (Unit × mM) := ((f_Math_min_II F (Int32.ofNat 8) (Int32.ofNat 8) m).bind fun q1 => (if (0 : Int32) < 0 ∨ (0 : Int32) < 0 ∨ q1.1 < 0 ∨ 8 < (0 : Int32).toNatClampNeg + q1.1.toNatClampNeg ∨ 8 < (0 : Int32).toNatClampNeg + q1.1.toNatClampNeg then none else some ((), ((m_row q1.2.1 51 (va_cpy (q1.2.1 97) (q1.2.1 51) (0 : Int32).toNatClampNeg (0 : Int32).toNatClampNeg q1.1.toNatClampNeg)), q1.2.2))))
theorem ok_x_copyAll_97_51 (X : mX) (d F : Nat) : ∀   (m : mM) (r : Unit) (m' : mM), f_x_copyAll_97_51 F  m = some (r, m') → m_R X (d + 1) 176 0 [some (.ref 97), some (.ref 51)] [] (SH, m) (none, (SH, m')) := by
  intro m r m' h
  unfold f_x_copyAll_97_51 at h
  refine m_R_sg (by decide) [(.aload_n 0, 1, 0, 0, 0, 0, 0), (.iconst 0, 1, 0, 0, 0, 0, 0), (.aload_n 1, 1, 0, 1, 0, 0, 0), (.iconst 0, 1, 0, 0, 0, 0, 0), (.aload_n 0, 1, 0, 0, 0, 0, 0), (.arraylength, 1, 0, 0, 0, 0, 0), (.aload_n 1, 1, 0, 1, 0, 0, 0), (.arraylength, 1, 0, 0, 0, 0, 0)] (by decide +kernel) (show m_sgl X _ _ _ _ _ = some (8, [some (.ref 97), some (.ref 51)], [.int (Int32.ofNat 8), .int (Int32.ofNat 8), .int (0 : Int32), .ref 51, .int (0 : Int32), .ref 97], (SH, m.1, m.2)) from rfl) ?_
  obtain ⟨q1, hc1, h⟩ := Option.bind_eq_some_iff.mp h
  refine m_R_cS (v := (some (.int q1.1))) (h1 := (SH, q1.2)) (rest := [.int (0 : Int32), .ref 51, .int (0 : Int32), .ref 97]) (lo' := [some (.int (Int32.ofNat 8)), some (.int (Int32.ofNat 8))]) (ml := 2) (by decide) (m_opb_of (ins := .invokestatic 219) (len := 3) (tag := 4) (a := 50) (b := 2) (c := 0) (q := 893) (by decide +kernel)) (by decide +kernel) (Nat.le_of_ble_eq_true rfl) rfl (Nat.le_of_ble_eq_true rfl) rfl rfl (ok_Math_min_II X (d + 0) F _ _ _ _ _ hc1) ?_
  obtain ⟨c0, h⟩ := m_ite_n h
  refine m_R_cpy (by decide) (m_opb_of (ins := .invokestatic 452) (len := 3) (tag := 8) (a := 0) (b := 0) (c := 0) (q := 1391) (by decide +kernel)) (Nat.le_of_ble_eq_true rfl) (m_cpy_of sh_97 sh_51 c0) ?_
  obtain ⟨rfl, rfl⟩ := m_some h
  exact m_R_vret (by decide) (m_opb_of (ins := .return_) (len := 1) (tag := 3) (a := 0) (b := 0) (c := 0) (q := 0) (by decide +kernel))
def f_Trades_become_46_92 (F : Nat)    (m : mM) : Option (Unit × mM) := ((f_x_copyAll_93_47 F m).bind fun q1 => ((f_x_copyAll_94_48 F q1.2).bind fun q2 => ((f_x_copyAll_95_49 F q2.2).bind fun q3 => ((f_x_copyAll_96_50 F q3.2).bind fun q4 => ((f_x_copyAll_97_51 F q4.2).bind fun q5 => some ((), ((m_up q5.2.1 46 5 (q5.2.1 92 5)), q5.2.2)))))))
theorem ok_Trades_become_46_92 (X : mX) (d F : Nat) : ∀   (m : mM) (r : Unit) (m' : mM), f_Trades_become_46_92 F  m = some (r, m') → m_R X (d + 2) 179 0 [some (.ref 46), some (.ref 92)] [] (SH, m) (none, (SH, m')) := by
  intro m r m' h
  unfold f_Trades_become_46_92 at h
  refine m_R_sg (by decide) [(.aload_n 1, 1, 0, 1, 0, 0, 0), (.getfield 9, 3, 0, 9, 0, 3, 406), (.aload_n 0, 1, 0, 0, 0, 0, 0), (.getfield 9, 3, 0, 9, 0, 3, 406)] (by decide +kernel) (show m_sgl X _ _ _ _ _ = some (8, [some (.ref 46), some (.ref 92)], [.ref 47, .ref 93], (SH, m.1, m.2)) from rfl) ?_
  obtain ⟨q1, hc1, h⟩ := Option.bind_eq_some_iff.mp h
  refine m_R_cS (v := none) (h1 := (SH, q1.2)) (rest := []) (lo' := [some (.ref 93), some (.ref 47)]) (ml := 2) (by decide) (m_opb_of (ins := .invokestatic 27) (len := 3) (tag := 4) (a := 176) (b := 2) (c := 1) (q := 1406) (by decide +kernel)) (by decide +kernel) (Nat.le_of_ble_eq_true rfl) rfl (Nat.le_of_ble_eq_true rfl) rfl rfl (ok_x_copyAll_93_47 X (d + 0) F _ _ _ hc1) ?_
  refine m_R_sg (by decide) [(.aload_n 1, 1, 0, 1, 0, 0, 0), (.getfield 15, 3, 0, 9, 1, 3, 408), (.aload_n 0, 1, 0, 0, 0, 0, 0), (.getfield 15, 3, 0, 9, 1, 3, 408)] (by decide +kernel) (show m_sgl X _ _ _ _ _ = some (19, [some (.ref 46), some (.ref 92)], [.ref 48, .ref 94], (SH, q1.2.1, q1.2.2)) from rfl) ?_
  obtain ⟨q2, hc2, h⟩ := Option.bind_eq_some_iff.mp h
  refine m_R_cS (v := none) (h1 := (SH, q2.2)) (rest := []) (lo' := [some (.ref 94), some (.ref 48)]) (ml := 2) (by decide) (m_opb_of (ins := .invokestatic 27) (len := 3) (tag := 4) (a := 176) (b := 2) (c := 1) (q := 1406) (by decide +kernel)) (by decide +kernel) (Nat.le_of_ble_eq_true rfl) rfl (Nat.le_of_ble_eq_true rfl) rfl rfl (ok_x_copyAll_94_48 X (d + 0) F _ _ _ hc2) ?_
  refine m_R_sg (by decide) [(.aload_n 1, 1, 0, 1, 0, 0, 0), (.getfield 18, 3, 0, 9, 2, 3, 410), (.aload_n 0, 1, 0, 0, 0, 0, 0), (.getfield 18, 3, 0, 9, 2, 3, 410)] (by decide +kernel) (show m_sgl X _ _ _ _ _ = some (30, [some (.ref 46), some (.ref 92)], [.ref 49, .ref 95], (SH, q2.2.1, q2.2.2)) from rfl) ?_
  obtain ⟨q3, hc3, h⟩ := Option.bind_eq_some_iff.mp h
  refine m_R_cS (v := none) (h1 := (SH, q3.2)) (rest := []) (lo' := [some (.ref 95), some (.ref 49)]) (ml := 2) (by decide) (m_opb_of (ins := .invokestatic 27) (len := 3) (tag := 4) (a := 176) (b := 2) (c := 1) (q := 1406) (by decide +kernel)) (by decide +kernel) (Nat.le_of_ble_eq_true rfl) rfl (Nat.le_of_ble_eq_true rfl) rfl rfl (ok_x_copyAll_95_49 X (d + 0) F _ _ _ hc3) ?_
  refine m_R_sg (by decide) [(.aload_n 1, 1, 0, 1, 0, 0, 0), (.getfield 21, 3, 0, 9, 3, 3, 412), (.aload_n 0, 1, 0, 0, 0, 0, 0), (.getfield 21, 3, 0, 9, 3, 3, 412)] (by decide +kernel) (show m_sgl X _ _ _ _ _ = some (41, [some (.ref 46), some (.ref 92)], [.ref 50, .ref 96], (SH, q3.2.1, q3.2.2)) from rfl) ?_
  obtain ⟨q4, hc4, h⟩ := Option.bind_eq_some_iff.mp h
  refine m_R_cS (v := none) (h1 := (SH, q4.2)) (rest := []) (lo' := [some (.ref 96), some (.ref 50)]) (ml := 2) (by decide) (m_opb_of (ins := .invokestatic 27) (len := 3) (tag := 4) (a := 176) (b := 2) (c := 1) (q := 1406) (by decide +kernel)) (by decide +kernel) (Nat.le_of_ble_eq_true rfl) rfl (Nat.le_of_ble_eq_true rfl) rfl rfl (ok_x_copyAll_96_50 X (d + 0) F _ _ _ hc4) ?_
  refine m_R_sg (by decide) [(.aload_n 1, 1, 0, 1, 0, 0, 0), (.getfield 24, 3, 0, 9, 4, 3, 414), (.aload_n 0, 1, 0, 0, 0, 0, 0), (.getfield 24, 3, 0, 9, 4, 3, 414)] (by decide +kernel) (show m_sgl X _ _ _ _ _ = some (52, [some (.ref 46), some (.ref 92)], [.ref 51, .ref 97], (SH, q4.2.1, q4.2.2)) from rfl) ?_
  obtain ⟨q5, hc5, h⟩ := Option.bind_eq_some_iff.mp h
  refine m_R_cS (v := none) (h1 := (SH, q5.2)) (rest := []) (lo' := [some (.ref 97), some (.ref 51)]) (ml := 2) (by decide) (m_opb_of (ins := .invokestatic 27) (len := 3) (tag := 4) (a := 176) (b := 2) (c := 1) (q := 1406) (by decide +kernel)) (by decide +kernel) (Nat.le_of_ble_eq_true rfl) rfl (Nat.le_of_ble_eq_true rfl) rfl rfl (ok_x_copyAll_97_51 X (d + 0) F _ _ _ hc5) ?_
  refine m_R_sg (by decide) [(.aload_n 0, 1, 0, 0, 0, 0, 0), (.aload_n 1, 1, 0, 1, 0, 0, 0), (.getfield 31, 3, 0, 9, 5, 0, 417), (.putfield 31, 3, 0, 9, 5, 0, 417)] (by decide +kernel) (show m_sgl X _ _ _ _ _ = some (63, [some (.ref 46), some (.ref 92)], [], (SH, (m_up q5.2.1 46 5 (q5.2.1 92 5)), q5.2.2)) from rfl) ?_
  obtain ⟨rfl, rfl⟩ := m_some h
  exact m_R_vret (by decide) (m_opb_of (ins := .return_) (len := 1) (tag := 3) (a := 0) (b := 0) (c := 0) (q := 0) (by decide +kernel))
def f_x_copyAll_99_53 (F : Nat)    (m : mM) : Option (Unit × mM) := ((f_Math_min_II F (Int32.ofNat 104) (Int32.ofNat 104) m).bind fun q1 => (if (0 : Int32) < 0 ∨ (0 : Int32) < 0 ∨ q1.1 < 0 ∨ 104 < (0 : Int32).toNatClampNeg + q1.1.toNatClampNeg ∨ 104 < (0 : Int32).toNatClampNeg + q1.1.toNatClampNeg then none else some ((), ((m_row q1.2.1 53 (va_cpy (q1.2.1 99) (q1.2.1 53) (0 : Int32).toNatClampNeg (0 : Int32).toNatClampNeg q1.1.toNatClampNeg)), q1.2.2))))
theorem ok_x_copyAll_99_53 (X : mX) (d F : Nat) : ∀   (m : mM) (r : Unit) (m' : mM), f_x_copyAll_99_53 F  m = some (r, m') → m_R X (d + 1) 176 0 [some (.ref 99), some (.ref 53)] [] (SH, m) (none, (SH, m')) := by
  intro m r m' h
  unfold f_x_copyAll_99_53 at h
  refine m_R_sg (by decide) [(.aload_n 0, 1, 0, 0, 0, 0, 0), (.iconst 0, 1, 0, 0, 0, 0, 0), (.aload_n 1, 1, 0, 1, 0, 0, 0), (.iconst 0, 1, 0, 0, 0, 0, 0), (.aload_n 0, 1, 0, 0, 0, 0, 0), (.arraylength, 1, 0, 0, 0, 0, 0), (.aload_n 1, 1, 0, 1, 0, 0, 0), (.arraylength, 1, 0, 0, 0, 0, 0)] (by decide +kernel) (show m_sgl X _ _ _ _ _ = some (8, [some (.ref 99), some (.ref 53)], [.int (Int32.ofNat 104), .int (Int32.ofNat 104), .int (0 : Int32), .ref 53, .int (0 : Int32), .ref 99], (SH, m.1, m.2)) from rfl) ?_
  obtain ⟨q1, hc1, h⟩ := Option.bind_eq_some_iff.mp h
  refine m_R_cS (v := (some (.int q1.1))) (h1 := (SH, q1.2)) (rest := [.int (0 : Int32), .ref 53, .int (0 : Int32), .ref 99]) (lo' := [some (.int (Int32.ofNat 104)), some (.int (Int32.ofNat 104))]) (ml := 2) (by decide) (m_opb_of (ins := .invokestatic 219) (len := 3) (tag := 4) (a := 50) (b := 2) (c := 0) (q := 893) (by decide +kernel)) (by decide +kernel) (Nat.le_of_ble_eq_true rfl) rfl (Nat.le_of_ble_eq_true rfl) rfl rfl (ok_Math_min_II X (d + 0) F _ _ _ _ _ hc1) ?_
  obtain ⟨c0, h⟩ := m_ite_n h
  refine m_R_cpy (by decide) (m_opb_of (ins := .invokestatic 452) (len := 3) (tag := 8) (a := 0) (b := 0) (c := 0) (q := 1391) (by decide +kernel)) (Nat.le_of_ble_eq_true rfl) (m_cpy_of sh_99 sh_53 c0) ?_
  obtain ⟨rfl, rfl⟩ := m_some h
  exact m_R_vret (by decide) (m_opb_of (ins := .return_) (len := 1) (tag := 3) (a := 0) (b := 0) (c := 0) (q := 0) (by decide +kernel))
def f_Seasons_become_52_98 (F : Nat)    (m : mM) : Option (Unit × mM) := ((f_x_copyAll_99_53 F m).bind fun q1 => some ((), q1.2))
theorem ok_Seasons_become_52_98 (X : mX) (d F : Nat) : ∀   (m : mM) (r : Unit) (m' : mM), f_Seasons_become_52_98 F  m = some (r, m') → m_R X (d + 2) 180 0 [some (.ref 52), some (.ref 98)] [] (SH, m) (none, (SH, m')) := by
  intro m r m' h
  unfold f_Seasons_become_52_98 at h
  refine m_R_sg (by decide) [(.aload_n 1, 1, 0, 1, 0, 0, 0), (.getfield 9, 3, 0, 7, 0, 3, 439), (.aload_n 0, 1, 0, 0, 0, 0, 0), (.getfield 9, 3, 0, 7, 0, 3, 439)] (by decide +kernel) (show m_sgl X _ _ _ _ _ = some (8, [some (.ref 52), some (.ref 98)], [.ref 53, .ref 99], (SH, m.1, m.2)) from rfl) ?_
  obtain ⟨q1, hc1, h⟩ := Option.bind_eq_some_iff.mp h
  refine m_R_cS (v := none) (h1 := (SH, q1.2)) (rest := []) (lo' := [some (.ref 99), some (.ref 53)]) (ml := 2) (by decide) (m_opb_of (ins := .invokestatic 15) (len := 3) (tag := 4) (a := 176) (b := 2) (c := 1) (q := 1411) (by decide +kernel)) (by decide +kernel) (Nat.le_of_ble_eq_true rfl) rfl (Nat.le_of_ble_eq_true rfl) rfl rfl (ok_x_copyAll_99_53 X (d + 0) F _ _ _ hc1) ?_
  obtain ⟨rfl, rfl⟩ := m_some h
  exact m_R_vret (by decide) (m_opb_of (ins := .return_) (len := 1) (tag := 3) (a := 0) (b := 0) (c := 0) (q := 0) (by decide +kernel))
def f_x_copyAll_102_56 (F : Nat)    (m : mM) : Option (Unit × mM) := ((f_Math_min_II F (Int32.ofNat 300) (Int32.ofNat 300) m).bind fun q1 => (if (0 : Int32) < 0 ∨ (0 : Int32) < 0 ∨ q1.1 < 0 ∨ 300 < (0 : Int32).toNatClampNeg + q1.1.toNatClampNeg ∨ 300 < (0 : Int32).toNatClampNeg + q1.1.toNatClampNeg then none else some ((), ((m_row q1.2.1 56 (va_cpy (q1.2.1 102) (q1.2.1 56) (0 : Int32).toNatClampNeg (0 : Int32).toNatClampNeg q1.1.toNatClampNeg)), q1.2.2))))
theorem ok_x_copyAll_102_56 (X : mX) (d F : Nat) : ∀   (m : mM) (r : Unit) (m' : mM), f_x_copyAll_102_56 F  m = some (r, m') → m_R X (d + 1) 176 0 [some (.ref 102), some (.ref 56)] [] (SH, m) (none, (SH, m')) := by
  intro m r m' h
  unfold f_x_copyAll_102_56 at h
  refine m_R_sg (by decide) [(.aload_n 0, 1, 0, 0, 0, 0, 0), (.iconst 0, 1, 0, 0, 0, 0, 0), (.aload_n 1, 1, 0, 1, 0, 0, 0), (.iconst 0, 1, 0, 0, 0, 0, 0), (.aload_n 0, 1, 0, 0, 0, 0, 0), (.arraylength, 1, 0, 0, 0, 0, 0), (.aload_n 1, 1, 0, 1, 0, 0, 0), (.arraylength, 1, 0, 0, 0, 0, 0)] (by decide +kernel) (show m_sgl X _ _ _ _ _ = some (8, [some (.ref 102), some (.ref 56)], [.int (Int32.ofNat 300), .int (Int32.ofNat 300), .int (0 : Int32), .ref 56, .int (0 : Int32), .ref 102], (SH, m.1, m.2)) from rfl) ?_
  obtain ⟨q1, hc1, h⟩ := Option.bind_eq_some_iff.mp h
  refine m_R_cS (v := (some (.int q1.1))) (h1 := (SH, q1.2)) (rest := [.int (0 : Int32), .ref 56, .int (0 : Int32), .ref 102]) (lo' := [some (.int (Int32.ofNat 300)), some (.int (Int32.ofNat 300))]) (ml := 2) (by decide) (m_opb_of (ins := .invokestatic 219) (len := 3) (tag := 4) (a := 50) (b := 2) (c := 0) (q := 893) (by decide +kernel)) (by decide +kernel) (Nat.le_of_ble_eq_true rfl) rfl (Nat.le_of_ble_eq_true rfl) rfl rfl (ok_Math_min_II X (d + 0) F _ _ _ _ _ hc1) ?_
  obtain ⟨c0, h⟩ := m_ite_n h
  refine m_R_cpy (by decide) (m_opb_of (ins := .invokestatic 452) (len := 3) (tag := 8) (a := 0) (b := 0) (c := 0) (q := 1391) (by decide +kernel)) (Nat.le_of_ble_eq_true rfl) (m_cpy_of sh_102 sh_56 c0) ?_
  obtain ⟨rfl, rfl⟩ := m_some h
  exact m_R_vret (by decide) (m_opb_of (ins := .return_) (len := 1) (tag := 3) (a := 0) (b := 0) (c := 0) (q := 0) (by decide +kernel))
def f_x_copyAll_103_57 (F : Nat)    (m : mM) : Option (Unit × mM) := ((f_Math_min_II F (Int32.ofNat 300) (Int32.ofNat 300) m).bind fun q1 => (if (0 : Int32) < 0 ∨ (0 : Int32) < 0 ∨ q1.1 < 0 ∨ 300 < (0 : Int32).toNatClampNeg + q1.1.toNatClampNeg ∨ 300 < (0 : Int32).toNatClampNeg + q1.1.toNatClampNeg then none else some ((), ((m_row q1.2.1 57 (va_cpy (q1.2.1 103) (q1.2.1 57) (0 : Int32).toNatClampNeg (0 : Int32).toNatClampNeg q1.1.toNatClampNeg)), q1.2.2))))
theorem ok_x_copyAll_103_57 (X : mX) (d F : Nat) : ∀   (m : mM) (r : Unit) (m' : mM), f_x_copyAll_103_57 F  m = some (r, m') → m_R X (d + 1) 176 0 [some (.ref 103), some (.ref 57)] [] (SH, m) (none, (SH, m')) := by
  intro m r m' h
  unfold f_x_copyAll_103_57 at h
  refine m_R_sg (by decide) [(.aload_n 0, 1, 0, 0, 0, 0, 0), (.iconst 0, 1, 0, 0, 0, 0, 0), (.aload_n 1, 1, 0, 1, 0, 0, 0), (.iconst 0, 1, 0, 0, 0, 0, 0), (.aload_n 0, 1, 0, 0, 0, 0, 0), (.arraylength, 1, 0, 0, 0, 0, 0), (.aload_n 1, 1, 0, 1, 0, 0, 0), (.arraylength, 1, 0, 0, 0, 0, 0)] (by decide +kernel) (show m_sgl X _ _ _ _ _ = some (8, [some (.ref 103), some (.ref 57)], [.int (Int32.ofNat 300), .int (Int32.ofNat 300), .int (0 : Int32), .ref 57, .int (0 : Int32), .ref 103], (SH, m.1, m.2)) from rfl) ?_
  obtain ⟨q1, hc1, h⟩ := Option.bind_eq_some_iff.mp h
  refine m_R_cS (v := (some (.int q1.1))) (h1 := (SH, q1.2)) (rest := [.int (0 : Int32), .ref 57, .int (0 : Int32), .ref 103]) (lo' := [some (.int (Int32.ofNat 300)), some (.int (Int32.ofNat 300))]) (ml := 2) (by decide) (m_opb_of (ins := .invokestatic 219) (len := 3) (tag := 4) (a := 50) (b := 2) (c := 0) (q := 893) (by decide +kernel)) (by decide +kernel) (Nat.le_of_ble_eq_true rfl) rfl (Nat.le_of_ble_eq_true rfl) rfl rfl (ok_Math_min_II X (d + 0) F _ _ _ _ _ hc1) ?_
  obtain ⟨c0, h⟩ := m_ite_n h
  refine m_R_cpy (by decide) (m_opb_of (ins := .invokestatic 452) (len := 3) (tag := 8) (a := 0) (b := 0) (c := 0) (q := 1391) (by decide +kernel)) (Nat.le_of_ble_eq_true rfl) (m_cpy_of sh_103 sh_57 c0) ?_
  obtain ⟨rfl, rfl⟩ := m_some h
  exact m_R_vret (by decide) (m_opb_of (ins := .return_) (len := 1) (tag := 3) (a := 0) (b := 0) (c := 0) (q := 0) (by decide +kernel))
def f_x_copyAll_104_58 (F : Nat)    (m : mM) : Option (Unit × mM) := ((f_Math_min_II F (Int32.ofNat 400) (Int32.ofNat 400) m).bind fun q1 => (if (0 : Int32) < 0 ∨ (0 : Int32) < 0 ∨ q1.1 < 0 ∨ 400 < (0 : Int32).toNatClampNeg + q1.1.toNatClampNeg ∨ 400 < (0 : Int32).toNatClampNeg + q1.1.toNatClampNeg then none else some ((), ((m_row q1.2.1 58 (va_cpy (q1.2.1 104) (q1.2.1 58) (0 : Int32).toNatClampNeg (0 : Int32).toNatClampNeg q1.1.toNatClampNeg)), q1.2.2))))
theorem ok_x_copyAll_104_58 (X : mX) (d F : Nat) : ∀   (m : mM) (r : Unit) (m' : mM), f_x_copyAll_104_58 F  m = some (r, m') → m_R X (d + 1) 176 0 [some (.ref 104), some (.ref 58)] [] (SH, m) (none, (SH, m')) := by
  intro m r m' h
  unfold f_x_copyAll_104_58 at h
  refine m_R_sg (by decide) [(.aload_n 0, 1, 0, 0, 0, 0, 0), (.iconst 0, 1, 0, 0, 0, 0, 0), (.aload_n 1, 1, 0, 1, 0, 0, 0), (.iconst 0, 1, 0, 0, 0, 0, 0), (.aload_n 0, 1, 0, 0, 0, 0, 0), (.arraylength, 1, 0, 0, 0, 0, 0), (.aload_n 1, 1, 0, 1, 0, 0, 0), (.arraylength, 1, 0, 0, 0, 0, 0)] (by decide +kernel) (show m_sgl X _ _ _ _ _ = some (8, [some (.ref 104), some (.ref 58)], [.int (Int32.ofNat 400), .int (Int32.ofNat 400), .int (0 : Int32), .ref 58, .int (0 : Int32), .ref 104], (SH, m.1, m.2)) from rfl) ?_
  obtain ⟨q1, hc1, h⟩ := Option.bind_eq_some_iff.mp h
  refine m_R_cS (v := (some (.int q1.1))) (h1 := (SH, q1.2)) (rest := [.int (0 : Int32), .ref 58, .int (0 : Int32), .ref 104]) (lo' := [some (.int (Int32.ofNat 400)), some (.int (Int32.ofNat 400))]) (ml := 2) (by decide) (m_opb_of (ins := .invokestatic 219) (len := 3) (tag := 4) (a := 50) (b := 2) (c := 0) (q := 893) (by decide +kernel)) (by decide +kernel) (Nat.le_of_ble_eq_true rfl) rfl (Nat.le_of_ble_eq_true rfl) rfl rfl (ok_Math_min_II X (d + 0) F _ _ _ _ _ hc1) ?_
  obtain ⟨c0, h⟩ := m_ite_n h
  refine m_R_cpy (by decide) (m_opb_of (ins := .invokestatic 452) (len := 3) (tag := 8) (a := 0) (b := 0) (c := 0) (q := 1391) (by decide +kernel)) (Nat.le_of_ble_eq_true rfl) (m_cpy_of sh_104 sh_58 c0) ?_
  obtain ⟨rfl, rfl⟩ := m_some h
  exact m_R_vret (by decide) (m_opb_of (ins := .return_) (len := 1) (tag := 3) (a := 0) (b := 0) (c := 0) (q := 0) (by decide +kernel))
def f_x_copyAll_105_59 (F : Nat)    (m : mM) : Option (Unit × mM) := ((f_Math_min_II F (Int32.ofNat 400) (Int32.ofNat 400) m).bind fun q1 => (if (0 : Int32) < 0 ∨ (0 : Int32) < 0 ∨ q1.1 < 0 ∨ 400 < (0 : Int32).toNatClampNeg + q1.1.toNatClampNeg ∨ 400 < (0 : Int32).toNatClampNeg + q1.1.toNatClampNeg then none else some ((), ((m_row q1.2.1 59 (va_cpy (q1.2.1 105) (q1.2.1 59) (0 : Int32).toNatClampNeg (0 : Int32).toNatClampNeg q1.1.toNatClampNeg)), q1.2.2))))
theorem ok_x_copyAll_105_59 (X : mX) (d F : Nat) : ∀   (m : mM) (r : Unit) (m' : mM), f_x_copyAll_105_59 F  m = some (r, m') → m_R X (d + 1) 176 0 [some (.ref 105), some (.ref 59)] [] (SH, m) (none, (SH, m')) := by
  intro m r m' h
  unfold f_x_copyAll_105_59 at h
  refine m_R_sg (by decide) [(.aload_n 0, 1, 0, 0, 0, 0, 0), (.iconst 0, 1, 0, 0, 0, 0, 0), (.aload_n 1, 1, 0, 1, 0, 0, 0), (.iconst 0, 1, 0, 0, 0, 0, 0), (.aload_n 0, 1, 0, 0, 0, 0, 0), (.arraylength, 1, 0, 0, 0, 0, 0), (.aload_n 1, 1, 0, 1, 0, 0, 0), (.arraylength, 1, 0, 0, 0, 0, 0)] (by decide +kernel) (show m_sgl X _ _ _ _ _ = some (8, [some (.ref 105), some (.ref 59)], [.int (Int32.ofNat 400), .int (Int32.ofNat 400), .int (0 : Int32), .ref 59, .int (0 : Int32), .ref 105], (SH, m.1, m.2)) from rfl) ?_
  obtain ⟨q1, hc1, h⟩ := Option.bind_eq_some_iff.mp h
  refine m_R_cS (v := (some (.int q1.1))) (h1 := (SH, q1.2)) (rest := [.int (0 : Int32), .ref 59, .int (0 : Int32), .ref 105]) (lo' := [some (.int (Int32.ofNat 400)), some (.int (Int32.ofNat 400))]) (ml := 2) (by decide) (m_opb_of (ins := .invokestatic 219) (len := 3) (tag := 4) (a := 50) (b := 2) (c := 0) (q := 893) (by decide +kernel)) (by decide +kernel) (Nat.le_of_ble_eq_true rfl) rfl (Nat.le_of_ble_eq_true rfl) rfl rfl (ok_Math_min_II X (d + 0) F _ _ _ _ _ hc1) ?_
  obtain ⟨c0, h⟩ := m_ite_n h
  refine m_R_cpy (by decide) (m_opb_of (ins := .invokestatic 452) (len := 3) (tag := 8) (a := 0) (b := 0) (c := 0) (q := 1391) (by decide +kernel)) (Nat.le_of_ble_eq_true rfl) (m_cpy_of sh_105 sh_59 c0) ?_
  obtain ⟨rfl, rfl⟩ := m_some h
  exact m_R_vret (by decide) (m_opb_of (ins := .return_) (len := 1) (tag := 3) (a := 0) (b := 0) (c := 0) (q := 0) (by decide +kernel))
def f_x_copyAll_106_60 (F : Nat)    (m : mM) : Option (Unit × mM) := ((f_Math_min_II F (Int32.ofNat 400) (Int32.ofNat 400) m).bind fun q1 => (if (0 : Int32) < 0 ∨ (0 : Int32) < 0 ∨ q1.1 < 0 ∨ 400 < (0 : Int32).toNatClampNeg + q1.1.toNatClampNeg ∨ 400 < (0 : Int32).toNatClampNeg + q1.1.toNatClampNeg then none else some ((), ((m_row q1.2.1 60 (va_cpy (q1.2.1 106) (q1.2.1 60) (0 : Int32).toNatClampNeg (0 : Int32).toNatClampNeg q1.1.toNatClampNeg)), q1.2.2))))
theorem ok_x_copyAll_106_60 (X : mX) (d F : Nat) : ∀   (m : mM) (r : Unit) (m' : mM), f_x_copyAll_106_60 F  m = some (r, m') → m_R X (d + 1) 176 0 [some (.ref 106), some (.ref 60)] [] (SH, m) (none, (SH, m')) := by
  intro m r m' h
  unfold f_x_copyAll_106_60 at h
  refine m_R_sg (by decide) [(.aload_n 0, 1, 0, 0, 0, 0, 0), (.iconst 0, 1, 0, 0, 0, 0, 0), (.aload_n 1, 1, 0, 1, 0, 0, 0), (.iconst 0, 1, 0, 0, 0, 0, 0), (.aload_n 0, 1, 0, 0, 0, 0, 0), (.arraylength, 1, 0, 0, 0, 0, 0), (.aload_n 1, 1, 0, 1, 0, 0, 0), (.arraylength, 1, 0, 0, 0, 0, 0)] (by decide +kernel) (show m_sgl X _ _ _ _ _ = some (8, [some (.ref 106), some (.ref 60)], [.int (Int32.ofNat 400), .int (Int32.ofNat 400), .int (0 : Int32), .ref 60, .int (0 : Int32), .ref 106], (SH, m.1, m.2)) from rfl) ?_
  obtain ⟨q1, hc1, h⟩ := Option.bind_eq_some_iff.mp h
  refine m_R_cS (v := (some (.int q1.1))) (h1 := (SH, q1.2)) (rest := [.int (0 : Int32), .ref 60, .int (0 : Int32), .ref 106]) (lo' := [some (.int (Int32.ofNat 400)), some (.int (Int32.ofNat 400))]) (ml := 2) (by decide) (m_opb_of (ins := .invokestatic 219) (len := 3) (tag := 4) (a := 50) (b := 2) (c := 0) (q := 893) (by decide +kernel)) (by decide +kernel) (Nat.le_of_ble_eq_true rfl) rfl (Nat.le_of_ble_eq_true rfl) rfl rfl (ok_Math_min_II X (d + 0) F _ _ _ _ _ hc1) ?_
  obtain ⟨c0, h⟩ := m_ite_n h
  refine m_R_cpy (by decide) (m_opb_of (ins := .invokestatic 452) (len := 3) (tag := 8) (a := 0) (b := 0) (c := 0) (q := 1391) (by decide +kernel)) (Nat.le_of_ble_eq_true rfl) (m_cpy_of sh_106 sh_60 c0) ?_
  obtain ⟨rfl, rfl⟩ := m_some h
  exact m_R_vret (by decide) (m_opb_of (ins := .return_) (len := 1) (tag := 3) (a := 0) (b := 0) (c := 0) (q := 0) (by decide +kernel))
def f_x_copyAll_107_61 (F : Nat)    (m : mM) : Option (Unit × mM) := ((f_Math_min_II F (Int32.ofNat 16) (Int32.ofNat 16) m).bind fun q1 => (if (0 : Int32) < 0 ∨ (0 : Int32) < 0 ∨ q1.1 < 0 ∨ 16 < (0 : Int32).toNatClampNeg + q1.1.toNatClampNeg ∨ 16 < (0 : Int32).toNatClampNeg + q1.1.toNatClampNeg then none else some ((), ((m_row q1.2.1 61 (va_cpy (q1.2.1 107) (q1.2.1 61) (0 : Int32).toNatClampNeg (0 : Int32).toNatClampNeg q1.1.toNatClampNeg)), q1.2.2))))
theorem ok_x_copyAll_107_61 (X : mX) (d F : Nat) : ∀   (m : mM) (r : Unit) (m' : mM), f_x_copyAll_107_61 F  m = some (r, m') → m_R X (d + 1) 176 0 [some (.ref 107), some (.ref 61)] [] (SH, m) (none, (SH, m')) := by
  intro m r m' h
  unfold f_x_copyAll_107_61 at h
  refine m_R_sg (by decide) [(.aload_n 0, 1, 0, 0, 0, 0, 0), (.iconst 0, 1, 0, 0, 0, 0, 0), (.aload_n 1, 1, 0, 1, 0, 0, 0), (.iconst 0, 1, 0, 0, 0, 0, 0), (.aload_n 0, 1, 0, 0, 0, 0, 0), (.arraylength, 1, 0, 0, 0, 0, 0), (.aload_n 1, 1, 0, 1, 0, 0, 0), (.arraylength, 1, 0, 0, 0, 0, 0)] (by decide +kernel) (show m_sgl X _ _ _ _ _ = some (8, [some (.ref 107), some (.ref 61)], [.int (Int32.ofNat 16), .int (Int32.ofNat 16), .int (0 : Int32), .ref 61, .int (0 : Int32), .ref 107], (SH, m.1, m.2)) from rfl) ?_
  obtain ⟨q1, hc1, h⟩ := Option.bind_eq_some_iff.mp h
  refine m_R_cS (v := (some (.int q1.1))) (h1 := (SH, q1.2)) (rest := [.int (0 : Int32), .ref 61, .int (0 : Int32), .ref 107]) (lo' := [some (.int (Int32.ofNat 16)), some (.int (Int32.ofNat 16))]) (ml := 2) (by decide) (m_opb_of (ins := .invokestatic 219) (len := 3) (tag := 4) (a := 50) (b := 2) (c := 0) (q := 893) (by decide +kernel)) (by decide +kernel) (Nat.le_of_ble_eq_true rfl) rfl (Nat.le_of_ble_eq_true rfl) rfl rfl (ok_Math_min_II X (d + 0) F _ _ _ _ _ hc1) ?_
  obtain ⟨c0, h⟩ := m_ite_n h
  refine m_R_cpy (by decide) (m_opb_of (ins := .invokestatic 452) (len := 3) (tag := 8) (a := 0) (b := 0) (c := 0) (q := 1391) (by decide +kernel)) (Nat.le_of_ble_eq_true rfl) (m_cpy_of sh_107 sh_61 c0) ?_
  obtain ⟨rfl, rfl⟩ := m_some h
  exact m_R_vret (by decide) (m_opb_of (ins := .return_) (len := 1) (tag := 3) (a := 0) (b := 0) (c := 0) (q := 0) (by decide +kernel))
def f_Notes_become_55_101_90 (F : Nat)    (m : mM) : Option (Unit × mM) := some ((), ((m_up (m_up (m_up m.1 55 10 (m.1 101 10)) 55 11 ((m_up m.1 55 10 (m.1 101 10)) 101 11)) 55 12 ((m_up (m_up m.1 55 10 (m.1 101 10)) 55 11 ((m_up m.1 55 10 (m.1 101 10)) 101 11)) 101 12)), m.2))
theorem ok_Notes_become_55_101_90 (X : mX) (d F : Nat) : ∀   (m : mM) (r : Unit) (m' : mM), f_Notes_become_55_101_90 F  m = some (r, m') → m_R X (d + 2) 181 90 [some (.ref 55), some (.ref 101)] [] (SH, m) (none, (SH, m')) := by
  intro m r m' h
  unfold f_Notes_become_55_101_90 at h
  refine m_R_sg (by decide) [(.aload_n 0, 1, 0, 0, 0, 0, 0), (.aload_n 1, 1, 0, 1, 0, 0, 0), (.getfield 48, 3, 0, 3, 10, 0, 470), (.putfield 48, 3, 0, 3, 10, 0, 470), (.aload_n 0, 1, 0, 0, 0, 0, 0), (.aload_n 1, 1, 0, 1, 0, 0, 0), (.getfield 51, 3, 0, 3, 11, 0, 472), (.putfield 51, 3, 0, 3, 11, 0, 472), (.aload_n 0, 1, 0, 0, 0, 0, 0), (.aload_n 1, 1, 0, 1, 0, 0, 0), (.getfield 54, 3, 0, 3, 12, 0, 474), (.putfield 54, 3, 0, 3, 12, 0, 474)] (by decide +kernel) (show m_sgl X _ _ _ _ _ = some (114, [some (.ref 55), some (.ref 101)], [], (SH, (m_up (m_up (m_up m.1 55 10 (m.1 101 10)) 55 11 ((m_up m.1 55 10 (m.1 101 10)) 101 11)) 55 12 ((m_up (m_up m.1 55 10 (m.1 101 10)) 55 11 ((m_up m.1 55 10 (m.1 101 10)) 101 11)) 101 12)), m.2)) from rfl) ?_
  obtain ⟨rfl, rfl⟩ := m_some h
  exact m_R_vret (by decide) (m_opb_of (ins := .return_) (len := 1) (tag := 3) (a := 0) (b := 0) (c := 0) (q := 0) (by decide +kernel))
def f_Notes_become_55_101 (F : Nat)    (m : mM) : Option (Unit × mM) := ((f_x_copyAll_102_56 F m).bind fun q1 => ((f_x_copyAll_103_57 F q1.2).bind fun q2 => ((f_x_copyAll_104_58 F q2.2).bind fun q3 => ((f_x_copyAll_105_59 F q3.2).bind fun q4 => ((f_x_copyAll_106_60 F q4.2).bind fun q5 => ((f_x_copyAll_107_61 F q5.2).bind fun q6 => f_Notes_become_55_101_90 F ((m_up (m_up (m_up q6.2.1 55 7 (q6.2.1 101 7)) 55 8 ((m_up q6.2.1 55 7 (q6.2.1 101 7)) 101 8)) 55 9 ((m_up (m_up q6.2.1 55 7 (q6.2.1 101 7)) 55 8 ((m_up q6.2.1 55 7 (q6.2.1 101 7)) 101 8)) 101 9)), q6.2.2)))))))
theorem ok_Notes_become_55_101 (X : mX) (d F : Nat) : ∀   (m : mM) (r : Unit) (m' : mM), f_Notes_become_55_101 F  m = some (r, m') → m_R X (d + 2) 181 0 [some (.ref 55), some (.ref 101)] [] (SH, m) (none, (SH, m')) := by
  intro m r m' h
  unfold f_Notes_become_55_101 at h
  refine m_R_sg (by decide) [(.aload_n 1, 1, 0, 1, 0, 0, 0), (.getfield 9, 3, 0, 3, 1, 3, 450), (.aload_n 0, 1, 0, 0, 0, 0, 0), (.getfield 9, 3, 0, 3, 1, 3, 450)] (by decide +kernel) (show m_sgl X _ _ _ _ _ = some (8, [some (.ref 55), some (.ref 101)], [.ref 56, .ref 102], (SH, m.1, m.2)) from rfl) ?_
  obtain ⟨q1, hc1, h⟩ := Option.bind_eq_some_iff.mp h
  refine m_R_cS (v := none) (h1 := (SH, q1.2)) (rest := []) (lo' := [some (.ref 102), some (.ref 56)]) (ml := 2) (by decide) (m_opb_of (ins := .invokestatic 34) (len := 3) (tag := 4) (a := 176) (b := 2) (c := 1) (q := 1416) (by decide +kernel)) (by decide +kernel) (Nat.le_of_ble_eq_true rfl) rfl (Nat.le_of_ble_eq_true rfl) rfl rfl (ok_x_copyAll_102_56 X (d + 0) F _ _ _ hc1) ?_
  refine m_R_sg (by decide) [(.aload_n 1, 1, 0, 1, 0, 0, 0), (.getfield 15, 3, 0, 3, 2, 3, 452), (.aload_n 0, 1, 0, 0, 0, 0, 0), (.getfield 15, 3, 0, 3, 2, 3, 452)] (by decide +kernel) (show m_sgl X _ _ _ _ _ = some (19, [some (.ref 55), some (.ref 101)], [.ref 57, .ref 103], (SH, q1.2.1, q1.2.2)) from rfl) ?_
  obtain ⟨q2, hc2, h⟩ := Option.bind_eq_some_iff.mp h
  refine m_R_cS (v := none) (h1 := (SH, q2.2)) (rest := []) (lo' := [some (.ref 103), some (.ref 57)]) (ml := 2) (by decide) (m_opb_of (ins := .invokestatic 34) (len := 3) (tag := 4) (a := 176) (b := 2) (c := 1) (q := 1416) (by decide +kernel)) (by decide +kernel) (Nat.le_of_ble_eq_true rfl) rfl (Nat.le_of_ble_eq_true rfl) rfl rfl (ok_x_copyAll_103_57 X (d + 0) F _ _ _ hc2) ?_
  refine m_R_sg (by decide) [(.aload_n 1, 1, 0, 1, 0, 0, 0), (.getfield 18, 3, 0, 3, 3, 3, 453), (.aload_n 0, 1, 0, 0, 0, 0, 0), (.getfield 18, 3, 0, 3, 3, 3, 453)] (by decide +kernel) (show m_sgl X _ _ _ _ _ = some (30, [some (.ref 55), some (.ref 101)], [.ref 58, .ref 104], (SH, q2.2.1, q2.2.2)) from rfl) ?_
  obtain ⟨q3, hc3, h⟩ := Option.bind_eq_some_iff.mp h
  refine m_R_cS (v := none) (h1 := (SH, q3.2)) (rest := []) (lo' := [some (.ref 104), some (.ref 58)]) (ml := 2) (by decide) (m_opb_of (ins := .invokestatic 34) (len := 3) (tag := 4) (a := 176) (b := 2) (c := 1) (q := 1416) (by decide +kernel)) (by decide +kernel) (Nat.le_of_ble_eq_true rfl) rfl (Nat.le_of_ble_eq_true rfl) rfl rfl (ok_x_copyAll_104_58 X (d + 0) F _ _ _ hc3) ?_
  refine m_R_sg (by decide) [(.aload_n 1, 1, 0, 1, 0, 0, 0), (.getfield 21, 3, 0, 3, 4, 3, 456), (.aload_n 0, 1, 0, 0, 0, 0, 0), (.getfield 21, 3, 0, 3, 4, 3, 456)] (by decide +kernel) (show m_sgl X _ _ _ _ _ = some (41, [some (.ref 55), some (.ref 101)], [.ref 59, .ref 105], (SH, q3.2.1, q3.2.2)) from rfl) ?_
  obtain ⟨q4, hc4, h⟩ := Option.bind_eq_some_iff.mp h
  refine m_R_cS (v := none) (h1 := (SH, q4.2)) (rest := []) (lo' := [some (.ref 105), some (.ref 59)]) (ml := 2) (by decide) (m_opb_of (ins := .invokestatic 34) (len := 3) (tag := 4) (a := 176) (b := 2) (c := 1) (q := 1416) (by decide +kernel)) (by decide +kernel) (Nat.le_of_ble_eq_true rfl) rfl (Nat.le_of_ble_eq_true rfl) rfl rfl (ok_x_copyAll_105_59 X (d + 0) F _ _ _ hc4) ?_
  refine m_R_sg (by decide) [(.aload_n 1, 1, 0, 1, 0, 0, 0), (.getfield 24, 3, 0, 3, 5, 3, 458), (.aload_n 0, 1, 0, 0, 0, 0, 0), (.getfield 24, 3, 0, 3, 5, 3, 458)] (by decide +kernel) (show m_sgl X _ _ _ _ _ = some (52, [some (.ref 55), some (.ref 101)], [.ref 60, .ref 106], (SH, q4.2.1, q4.2.2)) from rfl) ?_
  obtain ⟨q5, hc5, h⟩ := Option.bind_eq_some_iff.mp h
  refine m_R_cS (v := none) (h1 := (SH, q5.2)) (rest := []) (lo' := [some (.ref 106), some (.ref 60)]) (ml := 2) (by decide) (m_opb_of (ins := .invokestatic 34) (len := 3) (tag := 4) (a := 176) (b := 2) (c := 1) (q := 1416) (by decide +kernel)) (by decide +kernel) (Nat.le_of_ble_eq_true rfl) rfl (Nat.le_of_ble_eq_true rfl) rfl rfl (ok_x_copyAll_106_60 X (d + 0) F _ _ _ hc5) ?_
  refine m_R_sg (by decide) [(.aload_n 1, 1, 0, 1, 0, 0, 0), (.getfield 27, 3, 0, 3, 6, 3, 460), (.aload_n 0, 1, 0, 0, 0, 0, 0), (.getfield 27, 3, 0, 3, 6, 3, 460)] (by decide +kernel) (show m_sgl X _ _ _ _ _ = some (63, [some (.ref 55), some (.ref 101)], [.ref 61, .ref 107], (SH, q5.2.1, q5.2.2)) from rfl) ?_
  obtain ⟨q6, hc6, h⟩ := Option.bind_eq_some_iff.mp h
  refine m_R_cS (v := none) (h1 := (SH, q6.2)) (rest := []) (lo' := [some (.ref 107), some (.ref 61)]) (ml := 2) (by decide) (m_opb_of (ins := .invokestatic 34) (len := 3) (tag := 4) (a := 176) (b := 2) (c := 1) (q := 1416) (by decide +kernel)) (by decide +kernel) (Nat.le_of_ble_eq_true rfl) rfl (Nat.le_of_ble_eq_true rfl) rfl rfl (ok_x_copyAll_107_61 X (d + 0) F _ _ _ hc6) ?_
  refine m_R_sg (by decide) [(.aload_n 0, 1, 0, 0, 0, 0, 0), (.aload_n 1, 1, 0, 1, 0, 0, 0), (.getfield 38, 3, 0, 3, 7, 0, 463), (.putfield 38, 3, 0, 3, 7, 0, 463), (.aload_n 0, 1, 0, 0, 0, 0, 0), (.aload_n 1, 1, 0, 1, 0, 0, 0), (.getfield 42, 3, 0, 3, 8, 0, 466), (.putfield 42, 3, 0, 3, 8, 0, 466), (.aload_n 0, 1, 0, 0, 0, 0, 0), (.aload_n 1, 1, 0, 1, 0, 0, 0), (.getfield 45, 3, 0, 3, 9, 0, 467), (.putfield 45, 3, 0, 3, 9, 0, 467)] (by decide +kernel) (show m_sgl X _ _ _ _ _ = some (90, [some (.ref 55), some (.ref 101)], [], (SH, (m_up (m_up (m_up q6.2.1 55 7 (q6.2.1 101 7)) 55 8 ((m_up q6.2.1 55 7 (q6.2.1 101 7)) 101 8)) 55 9 ((m_up (m_up q6.2.1 55 7 (q6.2.1 101 7)) 55 8 ((m_up q6.2.1 55 7 (q6.2.1 101 7)) 101 8)) 101 9)), q6.2.2)) from rfl) ?_
  exact ok_Notes_become_55_101_90 X d F _ _ _ h
def f_World_become_16_62_90 (F : Nat)    (m : mM) : Option (Unit × mM) := some ((), ((m_up (m_up (m_up m.1 16 12 (m.1 62 12)) 16 13 ((m_up m.1 16 12 (m.1 62 12)) 62 13)) 16 14 ((m_up (m_up m.1 16 12 (m.1 62 12)) 16 13 ((m_up m.1 16 12 (m.1 62 12)) 62 13)) 62 14)), m.2))
theorem ok_World_become_16_62_90 (X : mX) (d F : Nat) : ∀   (m : mM) (r : Unit) (m' : mM), f_World_become_16_62_90 F  m = some (r, m') → m_R X (d + 3) 174 90 [some (.ref 16), some (.ref 62)] [] (SH, m) (none, (SH, m')) := by
  intro m r m' h
  unfold f_World_become_16_62_90 at h
  refine m_R_sg (by decide) [(.aload_n 0, 1, 0, 0, 0, 0, 0), (.aload_n 1, 1, 0, 1, 0, 0, 0), (.getfield 101, 3, 0, 10, 12, 0, 526), (.putfield 101, 3, 0, 10, 12, 0, 526), (.aload_n 0, 1, 0, 0, 0, 0, 0), (.aload_n 1, 1, 0, 1, 0, 0, 0), (.getfield 56, 3, 0, 10, 13, 0, 528), (.putfield 56, 3, 0, 10, 13, 0, 528), (.aload_n 0, 1, 0, 0, 0, 0, 0), (.aload_n 1, 1, 0, 1, 0, 0, 0), (.getfield 104, 3, 0, 10, 14, 0, 530), (.putfield 104, 3, 0, 10, 14, 0, 530)] (by decide +kernel) (show m_sgl X _ _ _ _ _ = some (114, [some (.ref 16), some (.ref 62)], [], (SH, (m_up (m_up (m_up m.1 16 12 (m.1 62 12)) 16 13 ((m_up m.1 16 12 (m.1 62 12)) 62 13)) 16 14 ((m_up (m_up m.1 16 12 (m.1 62 12)) 16 13 ((m_up m.1 16 12 (m.1 62 12)) 62 13)) 62 14)), m.2)) from rfl) ?_
  obtain ⟨rfl, rfl⟩ := m_some h
  exact m_R_vret (by decide) (m_opb_of (ins := .return_) (len := 1) (tag := 3) (a := 0) (b := 0) (c := 0) (q := 0) (by decide +kernel))
def f_World_become_16_62 (F : Nat)    (m : mM) : Option (Unit × mM) := ((f_Land_become_17_63 F m).bind fun q1 => ((f_Houses_become_19_65 F q1.2).bind fun q2 => ((f_Papers_become_31_77 F q2.2).bind fun q3 => ((f_Trades_become_46_92 F q3.2).bind fun q4 => ((f_Seasons_become_52_98 F q4.2).bind fun q5 => ((f_Notes_become_55_101 F q5.2).bind fun q6 => f_World_become_16_62_90 F ((m_up (m_up (m_up q6.2.1 16 9 (q6.2.1 62 9)) 16 10 ((m_up q6.2.1 16 9 (q6.2.1 62 9)) 62 10)) 16 11 ((m_up (m_up q6.2.1 16 9 (q6.2.1 62 9)) 16 10 ((m_up q6.2.1 16 9 (q6.2.1 62 9)) 62 10)) 62 11)), q6.2.2)))))))
theorem ok_World_become_16_62 (X : mX) (d F : Nat) : ∀   (m : mM) (r : Unit) (m' : mM), f_World_become_16_62 F  m = some (r, m') → m_R X (d + 3) 174 0 [some (.ref 16), some (.ref 62)] [] (SH, m) (none, (SH, m')) := by
  intro m r m' h
  unfold f_World_become_16_62 at h
  refine m_R_sg (by decide) [(.aload_n 0, 1, 0, 0, 0, 0, 0), (.getfield 12, 3, 0, 10, 0, 3, 503), (.aload_n 1, 1, 0, 1, 0, 0, 0), (.getfield 12, 3, 0, 10, 0, 3, 503)] (by decide +kernel) (show m_sgl X _ _ _ _ _ = some (8, [some (.ref 16), some (.ref 62)], [.ref 63, .ref 17], (SH, m.1, m.2)) from rfl) ?_
  obtain ⟨q1, hc1, h⟩ := Option.bind_eq_some_iff.mp h
  refine m_R_cV (v := none) (h1 := (SH, q1.2)) (rest := []) (lo' := [some (.ref 17), some (.ref 63)]) (ml := 2) (k0 := 17) (by decide) (Or.inl rfl) (m_opb_of (ins := .invokevirtual 76) (len := 3) (tag := 5) (a := 175) (b := 1) (c := 0) (q := 1384) (by decide +kernel)) (by decide +kernel) rfl (show m_isO 175 17 (SH, _) = true from m_isO_of (by decide +kernel)) (Nat.le_of_ble_eq_true rfl) rfl rfl (ok_Land_become_17_63 X (d + 0) F _ _ _ hc1) ?_
  refine m_R_sg (by decide) [(.aload_n 0, 1, 0, 0, 0, 0, 0), (.getfield 21, 3, 0, 10, 1, 3, 505), (.aload_n 1, 1, 0, 1, 0, 0, 0), (.getfield 21, 3, 0, 10, 1, 3, 505)] (by decide +kernel) (show m_sgl X _ _ _ _ _ = some (19, [some (.ref 16), some (.ref 62)], [.ref 65, .ref 19], (SH, q1.2.1, q1.2.2)) from rfl) ?_
  obtain ⟨q2, hc2, h⟩ := Option.bind_eq_some_iff.mp h
  refine m_R_cV (v := none) (h1 := (SH, q2.2)) (rest := []) (lo' := [some (.ref 19), some (.ref 65)]) (ml := 2) (k0 := 19) (by decide) (Or.inl rfl) (m_opb_of (ins := .invokevirtual 80) (len := 3) (tag := 5) (a := 177) (b := 1) (c := 0) (q := 1392) (by decide +kernel)) (by decide +kernel) rfl (show m_isO 177 19 (SH, _) = true from m_isO_of (by decide +kernel)) (Nat.le_of_ble_eq_true rfl) rfl rfl (ok_Houses_become_19_65 X (d + 0) F _ _ _ hc2) ?_
  refine m_R_sg (by decide) [(.aload_n 0, 1, 0, 0, 0, 0, 0), (.getfield 28, 3, 0, 10, 2, 3, 508), (.aload_n 1, 1, 0, 1, 0, 0, 0), (.getfield 28, 3, 0, 10, 2, 3, 508)] (by decide +kernel) (show m_sgl X _ _ _ _ _ = some (30, [some (.ref 16), some (.ref 62)], [.ref 77, .ref 31], (SH, q2.2.1, q2.2.2)) from rfl) ?_
  obtain ⟨q3, hc3, h⟩ := Option.bind_eq_some_iff.mp h
  refine m_R_cV (v := none) (h1 := (SH, q3.2)) (rest := []) (lo' := [some (.ref 31), some (.ref 77)]) (ml := 2) (k0 := 31) (by decide) (Or.inl rfl) (m_opb_of (ins := .invokevirtual 83) (len := 3) (tag := 5) (a := 178) (b := 1) (c := 0) (q := 1397) (by decide +kernel)) (by decide +kernel) rfl (show m_isO 178 31 (SH, _) = true from m_isO_of (by decide +kernel)) (Nat.le_of_ble_eq_true rfl) rfl rfl (ok_Papers_become_31_77 X (d + 0) F _ _ _ hc3) ?_
  refine m_R_sg (by decide) [(.aload_n 0, 1, 0, 0, 0, 0, 0), (.getfield 35, 3, 0, 10, 3, 3, 511), (.aload_n 1, 1, 0, 1, 0, 0, 0), (.getfield 35, 3, 0, 10, 3, 3, 511)] (by decide +kernel) (show m_sgl X _ _ _ _ _ = some (41, [some (.ref 16), some (.ref 62)], [.ref 92, .ref 46], (SH, q3.2.1, q3.2.2)) from rfl) ?_
  obtain ⟨q4, hc4, h⟩ := Option.bind_eq_some_iff.mp h
  refine m_R_cV (v := none) (h1 := (SH, q4.2)) (rest := []) (lo' := [some (.ref 46), some (.ref 92)]) (ml := 2) (k0 := 46) (by decide) (Or.inl rfl) (m_opb_of (ins := .invokevirtual 86) (len := 3) (tag := 5) (a := 179) (b := 1) (c := 0) (q := 1402) (by decide +kernel)) (by decide +kernel) rfl (show m_isO 179 46 (SH, _) = true from m_isO_of (by decide +kernel)) (Nat.le_of_ble_eq_true rfl) rfl rfl (ok_Trades_become_46_92 X (d + 0) F _ _ _ hc4) ?_
  refine m_R_sg (by decide) [(.aload_n 0, 1, 0, 0, 0, 0, 0), (.getfield 42, 3, 0, 10, 4, 3, 513), (.aload_n 1, 1, 0, 1, 0, 0, 0), (.getfield 42, 3, 0, 10, 4, 3, 513)] (by decide +kernel) (show m_sgl X _ _ _ _ _ = some (52, [some (.ref 16), some (.ref 62)], [.ref 98, .ref 52], (SH, q4.2.1, q4.2.2)) from rfl) ?_
  obtain ⟨q5, hc5, h⟩ := Option.bind_eq_some_iff.mp h
  refine m_R_cV (v := none) (h1 := (SH, q5.2)) (rest := []) (lo' := [some (.ref 52), some (.ref 98)]) (ml := 2) (k0 := 52) (by decide) (Or.inl rfl) (m_opb_of (ins := .invokevirtual 89) (len := 3) (tag := 5) (a := 180) (b := 1) (c := 0) (q := 1407) (by decide +kernel)) (by decide +kernel) rfl (show m_isO 180 52 (SH, _) = true from m_isO_of (by decide +kernel)) (Nat.le_of_ble_eq_true rfl) rfl rfl (ok_Seasons_become_52_98 X (d + 0) F _ _ _ hc5) ?_
  refine m_R_sg (by decide) [(.aload_n 0, 1, 0, 0, 0, 0, 0), (.getfield 72, 3, 0, 10, 8, 3, 518), (.aload_n 1, 1, 0, 1, 0, 0, 0), (.getfield 72, 3, 0, 10, 8, 3, 518)] (by decide +kernel) (show m_sgl X _ _ _ _ _ = some (63, [some (.ref 16), some (.ref 62)], [.ref 101, .ref 55], (SH, q5.2.1, q5.2.2)) from rfl) ?_
  obtain ⟨q6, hc6, h⟩ := Option.bind_eq_some_iff.mp h
  refine m_R_cV (v := none) (h1 := (SH, q6.2)) (rest := []) (lo' := [some (.ref 55), some (.ref 101)]) (ml := 2) (k0 := 55) (by decide) (Or.inl rfl) (m_opb_of (ins := .invokevirtual 92) (len := 3) (tag := 5) (a := 181) (b := 1) (c := 0) (q := 1412) (by decide +kernel)) (by decide +kernel) rfl (show m_isO 181 55 (SH, _) = true from m_isO_of (by decide +kernel)) (Nat.le_of_ble_eq_true rfl) rfl rfl (ok_Notes_become_55_101 X (d + 0) F _ _ _ hc6) ?_
  refine m_R_sg (by decide) [(.aload_n 0, 1, 0, 0, 0, 0, 0), (.aload_n 1, 1, 0, 1, 0, 0, 0), (.getfield 95, 3, 0, 10, 9, 0, 520), (.putfield 95, 3, 0, 10, 9, 0, 520), (.aload_n 0, 1, 0, 0, 0, 0, 0), (.aload_n 1, 1, 0, 1, 0, 0, 0), (.getfield 52, 3, 0, 10, 10, 0, 522), (.putfield 52, 3, 0, 10, 10, 0, 522), (.aload_n 0, 1, 0, 0, 0, 0, 0), (.aload_n 1, 1, 0, 1, 0, 0, 0), (.getfield 98, 3, 0, 10, 11, 0, 524), (.putfield 98, 3, 0, 10, 11, 0, 524)] (by decide +kernel) (show m_sgl X _ _ _ _ _ = some (90, [some (.ref 16), some (.ref 62)], [], (SH, (m_up (m_up (m_up q6.2.1 16 9 (q6.2.1 62 9)) 16 10 ((m_up q6.2.1 16 9 (q6.2.1 62 9)) 62 10)) 16 11 ((m_up (m_up q6.2.1 16 9 (q6.2.1 62 9)) 16 10 ((m_up q6.2.1 16 9 (q6.2.1 62 9)) 62 10)) 62 11)), q6.2.2)) from rfl) ?_
  exact ok_World_become_16_62_90 X d F _ _ _ h
def f_x_back (F : Nat)    (m : mM) : Option (Int32 × mM) := (if (m.1 0 11) = 0 then ((f_x_refuse F (-2 : Int32) m).bind fun q1 => some (q1.1, q1.2)) else ((f_World_become_16_62 F m).bind fun q2 => some ((q2.2.1 16 9), q2.2)))
theorem ok_x_back (X : mX) (d F : Nat) : ∀   (m : mM) (r : Int32) (m' : mM), f_x_back F  m = some (r, m') → m_R X (d + 4) 191 0 [some (.ref 0)] [] (SH, m) (some (.int r), (SH, m')) := by
  intro m r m' h
  unfold f_x_back at h
  refine m_R_sg (by decide) [(.aload_n 0, 1, 0, 0, 0, 0, 0), (.getfield 461, 3, 0, 11, 11, 1, 641)] (by decide +kernel) (show m_sgl X _ _ _ _ _ = some (4, [some (.ref 0)], [.int (m.1 0 11)], (SH, m.1, m.2)) from rfl) ?_
  rcases m_ite h with ⟨c1480, h⟩ | ⟨c1480, h⟩
  · refine m_R_1 (by decide) (m_opb_of (ins := .ifCond .ne 10) (len := 3) (tag := 0) (a := 14) (b := 0) (c := 0) (q := 0) (by decide +kernel)) (if_pos c1480) ?_
    refine m_R_sg (by decide) [(.aload_n 0, 1, 0, 0, 0, 0, 0), (.bipush (-2), 2, 0, 2, 1, 0, 0)] (by decide +kernel) (show m_sgl X _ _ _ _ _ = some (10, [some (.ref 0)], [.int (-2 : Int32), .ref 0], (SH, m.1, m.2)) from rfl) ?_
    obtain ⟨q1, hc1, h⟩ := Option.bind_eq_some_iff.mp h
    refine m_R_cV (v := (some (.int q1.1))) (h1 := (SH, q1.2)) (rest := []) (lo' := [some (.ref 0), some (.int (-2 : Int32))]) (ml := 2) (k0 := 0) (by decide) (Or.inl rfl) (m_opb_of (ins := .invokevirtual 76) (len := 3) (tag := 5) (a := 14) (b := 1) (c := 0) (q := 671) (by decide +kernel)) (by decide +kernel) rfl (show m_isO 14 0 (SH, _) = true from m_isO_of (by decide +kernel)) (Nat.le_of_ble_eq_true rfl) rfl rfl (ok_x_refuse X (d + 3) F _ _ _ _ hc1) ?_
    obtain ⟨rfl, rfl⟩ := m_some h
    exact m_R_iret (by decide) (m_opb_of (ins := .ireturn) (len := 1) (tag := 1) (a := 0) (b := 0) (c := 0) (q := 0) (by decide +kernel)) (Or.inl rfl)
  · refine m_R_1 (by decide) (m_opb_of (ins := .ifCond .ne 10) (len := 3) (tag := 0) (a := 14) (b := 0) (c := 0) (q := 0) (by decide +kernel)) (if_neg c1480) ?_
    refine m_R_sg (by decide) [(.aload_n 0, 1, 0, 0, 0, 0, 0), (.getfield 28, 3, 0, 11, 2, 3, 632), (.aload_n 0, 1, 0, 0, 0, 0, 0), (.getfield 32, 3, 0, 11, 3, 3, 633)] (by decide +kernel) (show m_sgl X _ _ _ _ _ = some (22, [some (.ref 0)], [.ref 62, .ref 16], (SH, m.1, m.2)) from rfl) ?_
    obtain ⟨q2, hc2, h⟩ := Option.bind_eq_some_iff.mp h
    refine m_R_cV (v := none) (h1 := (SH, q2.2)) (rest := []) (lo' := [some (.ref 16), some (.ref 62)]) (ml := 2) (k0 := 16) (by decide) (Or.inl rfl) (m_opb_of (ins := .invokevirtual 432) (len := 3) (tag := 5) (a := 174) (b := 1) (c := 0) (q := 1380) (by decide +kernel)) (by decide +kernel) rfl (show m_isO 174 16 (SH, _) = true from m_isO_of (by decide +kernel)) (Nat.le_of_ble_eq_true rfl) rfl rfl (ok_World_become_16_62 X (d + 0) F _ _ _ hc2) ?_
    refine m_R_sg (by decide) [(.aload_n 0, 1, 0, 0, 0, 0, 0), (.getfield 28, 3, 0, 11, 2, 3, 632), (.getfield 255, 3, 0, 10, 9, 0, 521)] (by decide +kernel) (show m_sgl X _ _ _ _ _ = some (32, [some (.ref 0)], [.int (q2.2.1 16 9)], (SH, q2.2.1, q2.2.2)) from rfl) ?_
    obtain ⟨rfl, rfl⟩ := m_some h
    exact m_R_iret (by decide) (m_opb_of (ins := .ireturn) (len := 1) (tag := 1) (a := 0) (b := 0) (c := 0) (q := 0) (by decide +kernel)) (Or.inl rfl)
def f_m_back_16 (F : Nat)   : Nat → Int32 → mM → Option (Int32 × mM)
  | 0, _, _ => none
  | n + 1, v1, m => (if (9732 : Int32) ≤ v1 then some ((m.1 305 (0 : Int32).toNatClampNeg), m) else (if v1 < 0 ∨ 9732 ≤ v1.toNatClampNeg then none else f_m_back_16 F n (v1 + (1 : Int32)) ((m_up m.1 305 v1.toNatClampNeg (m.1 313 v1.toNatClampNeg)), m.2)))
theorem ok_m_back_16 (X : mX) (d F : Nat) : ∀ (n : Nat) (v1 : Int32)  (m : mM) (r : Int32) (m' : mM), f_m_back_16 F n v1 m = some (r, m') → m_R X (d + 1) 335 16 [some (.ref 304), some (.int v1)] [] (SH, m) (some (.int r), (SH, m')) := by
  intro n
  induction n with
  | zero => intro v1 m r m' h; cases h
  | succ n ih =>
    intro v1 m r m' h
    simp only [f_m_back_16] at h
    refine m_R_sg (by decide) [(.iload_n 1, 1, 0, 1, 0, 0, 0), (.sipush 9732, 3, 0, 9732, 0, 0, 0)] (by decide +kernel) (show m_sgl X _ _ _ _ _ = some (20, [some (.ref 304), some (.int v1)], [.int (9732 : Int32), .int v1], (SH, m.1, m.2)) from rfl) ?_
    rcases m_ite h with ⟨c1481, h⟩ | ⟨c1481, h⟩
    · refine m_R_1 (by decide) (m_opb_of (ins := .if_icmp .ge 21) (len := 3) (tag := 0) (a := 41) (b := 0) (c := 0) (q := 0) (by decide +kernel)) (if_pos c1481) ?_
      refine m_R_sg (by decide) [(.aload_n 0, 1, 0, 0, 0, 0, 0), (.getfield 13, 3, 0, 12, 1, 3, 1493), (.iconst 0, 1, 0, 0, 0, 0, 0)] (by decide +kernel) (show m_sgl X _ _ _ _ _ = some (46, [some (.ref 304), some (.int v1)], [.int (0 : Int32), .ref 305], (SH, m.1, m.2)) from rfl) ?_
      refine m_R_1 (by decide) (m_opb_of (ins := .iaload) (len := 1) (tag := 0) (a := 0) (b := 0) (c := 0) (q := 0) (by decide +kernel)) (m_s_iald sh_305 (by decide) (show ¬ ((0 : Int32) < 0 ∨ 9732 ≤ (0 : Int32).toNatClampNeg) by decide)) ?_
      obtain ⟨rfl, rfl⟩ := m_some h
      exact m_R_iret (by decide) (m_opb_of (ins := .ireturn) (len := 1) (tag := 1) (a := 0) (b := 0) (c := 0) (q := 0) (by decide +kernel)) (Or.inl rfl)
    · refine m_R_1 (by decide) (m_opb_of (ins := .if_icmp .ge 21) (len := 3) (tag := 0) (a := 41) (b := 0) (c := 0) (q := 0) (by decide +kernel)) (if_neg c1481) ?_
      refine m_R_sg (by decide) [(.aload_n 0, 1, 0, 0, 0, 0, 0), (.getfield 13, 3, 0, 12, 1, 3, 1493), (.iload_n 1, 1, 0, 1, 0, 0, 0), (.aload_n 0, 1, 0, 0, 0, 0, 0), (.getfield 39, 3, 0, 12, 23, 3, 1515), (.iload_n 1, 1, 0, 1, 0, 0, 0)] (by decide +kernel) (show m_sgl X _ _ _ _ _ = some (33, [some (.ref 304), some (.int v1)], [.int v1, .ref 313, .int v1, .ref 305], (SH, m.1, m.2)) from rfl) ?_
      obtain ⟨c1482, h⟩ := m_ite_n h
      refine m_R_1 (by decide) (m_opb_of (ins := .iaload) (len := 1) (tag := 0) (a := 0) (b := 0) (c := 0) (q := 0) (by decide +kernel)) (m_s_iald sh_313 (by decide) c1482) ?_
      refine m_R_1 (by decide) (m_opb_of (ins := .iastore) (len := 1) (tag := 0) (a := 0) (b := 0) (c := 0) (q := 0) (by decide +kernel)) (m_s_iast sh_305 c1482) ?_
      refine m_R_sg (by decide) [(.iinc 1 1, 3, 0, 1, 1, 0, 0), (.goto (-22), 3, 0, 16, 0, 0, 0)] (by decide +kernel) (show m_sgl X _ _ _ _ _ = some (16, [some (.ref 304), some (.int (v1 + (1 : Int32)))], [], (SH, (m_up m.1 305 v1.toNatClampNeg (m.1 313 v1.toNatClampNeg)), m.2)) from rfl) ?_
      exact ih _ _ _ _ h
def f_m_back (F : Nat)    (m : mM) : Option (Int32 × mM) := (if (m.1 304 24) = 0 then ((f_m_refuse F (-2 : Int32) m).bind fun q1 => some (q1.1, q1.2)) else f_m_back_16 F F (0 : Int32) m)
theorem ok_m_back (X : mX) (d F : Nat) : ∀   (m : mM) (r : Int32) (m' : mM), f_m_back F  m = some (r, m') → m_R X (d + 1) 335 0 [some (.ref 304), none] [] (SH, m) (some (.int r), (SH, m')) := by
  intro m r m' h
  unfold f_m_back at h
  refine m_R_sg (by decide) [(.aload_n 0, 1, 0, 0, 0, 0, 0), (.getfield 451, 3, 0, 12, 24, 1, 1516)] (by decide +kernel) (show m_sgl X _ _ _ _ _ = some (4, [some (.ref 304), none], [.int (m.1 304 24)], (SH, m.1, m.2)) from rfl) ?_
  rcases m_ite h with ⟨c1483, h⟩ | ⟨c1483, h⟩
  · refine m_R_1 (by decide) (m_opb_of (ins := .ifCond .ne 10) (len := 3) (tag := 0) (a := 14) (b := 0) (c := 0) (q := 0) (by decide +kernel)) (if_pos c1483) ?_
    refine m_R_sg (by decide) [(.aload_n 0, 1, 0, 0, 0, 0, 0), (.bipush (-2), 2, 0, 2, 1, 0, 0)] (by decide +kernel) (show m_sgl X _ _ _ _ _ = some (10, [some (.ref 304), none], [.int (-2 : Int32), .ref 304], (SH, m.1, m.2)) from rfl) ?_
    obtain ⟨q1, hc1, h⟩ := Option.bind_eq_some_iff.mp h
    refine m_R_cV (v := (some (.int q1.1))) (h1 := (SH, q1.2)) (rest := []) (lo' := [some (.ref 304), some (.int (-2 : Int32))]) (ml := 2) (k0 := 304) (by decide) (Or.inl rfl) (m_opb_of (ins := .invokevirtual 61) (len := 3) (tag := 5) (a := 202) (b := 1) (c := 0) (q := 1593) (by decide +kernel)) (by decide +kernel) rfl (show m_isO 202 304 (SH, _) = true from m_isO_of (by decide +kernel)) (Nat.le_of_ble_eq_true rfl) rfl rfl (ok_m_refuse X (d + 0) F _ _ _ _ hc1) ?_
    obtain ⟨rfl, rfl⟩ := m_some h
    exact m_R_iret (by decide) (m_opb_of (ins := .ireturn) (len := 1) (tag := 1) (a := 0) (b := 0) (c := 0) (q := 0) (by decide +kernel)) (Or.inl rfl)
  · refine m_R_1 (by decide) (m_opb_of (ins := .ifCond .ne 10) (len := 3) (tag := 0) (a := 14) (b := 0) (c := 0) (q := 0) (by decide +kernel)) (if_neg c1483) ?_
    refine m_R_sg (by decide) [(.iconst 0, 1, 0, 0, 0, 0, 0), (.istore_n 1, 1, 0, 1, 0, 0, 0)] (by decide +kernel) (show m_sgl X _ _ _ _ _ = some (16, [some (.ref 304), some (.int (0 : Int32))], [], (SH, m.1, m.2)) from rfl) ?_
    exact ok_m_back_16 X d F F _ _ _ _ h
def f_x_lay_26 (F : Nat)   : Nat → Int32 → Int32 → mM → Option (Int32 × mM)
  | 0, _, _, _ => none
  | n + 1, v1, v2, m => (if v1 ≤ v2 then some (v1, ((m_up m.1 0 10 v1), m.2)) else (if v2 < 0 ∨ 60 ≤ v2.toNatClampNeg then none else f_x_lay_26 F n v1 (v2 + (1 : Int32)) ((m_up m.1 117 v2.toNatClampNeg (0 : Int32)), m.2)))
theorem ok_x_lay_26 (X : mX) (d F : Nat) : ∀ (n : Nat) (v1 : Int32) (v2 : Int32)  (m : mM) (r : Int32) (m' : mM), f_x_lay_26 F n v1 v2 m = some (r, m') → m_R X (d + 1) 192 26 [some (.ref 0), some (.int v1), some (.int v2)] [] (SH, m) (some (.int r), (SH, m')) := by
  intro n
  induction n with
  | zero => intro v1 v2 m r m' h; cases h
  | succ n ih =>
    intro v1 v2 m r m' h
    simp only [f_x_lay_26] at h
    refine m_R_sg (by decide) [(.iload_n 2, 1, 0, 2, 0, 0, 0), (.iload_n 1, 1, 0, 1, 0, 0, 0)] (by decide +kernel) (show m_sgl X _ _ _ _ _ = some (28, [some (.ref 0), some (.int v1), some (.int v2)], [.int v1, .int v2], (SH, m.1, m.2)) from rfl) ?_
    rcases m_ite h with ⟨c1484, h⟩ | ⟨c1484, h⟩
    · refine m_R_1 (by decide) (m_opb_of (ins := .if_icmp .ge 16) (len := 3) (tag := 0) (a := 44) (b := 0) (c := 0) (q := 0) (by decide +kernel)) (if_pos c1484) ?_
      refine m_R_sg (by decide) [(.aload_n 0, 1, 0, 0, 0, 0, 0), (.iload_n 1, 1, 0, 1, 0, 0, 0), (.putfield 63, 3, 0, 11, 10, 0, 640), (.iload_n 1, 1, 0, 1, 0, 0, 0)] (by decide +kernel) (show m_sgl X _ _ _ _ _ = some (50, [some (.ref 0), some (.int v1), some (.int v2)], [.int v1], (SH, (m_up m.1 0 10 v1), m.2)) from rfl) ?_
      obtain ⟨rfl, rfl⟩ := m_some h
      exact m_R_iret (by decide) (m_opb_of (ins := .ireturn) (len := 1) (tag := 1) (a := 0) (b := 0) (c := 0) (q := 0) (by decide +kernel)) (Or.inl rfl)
    · refine m_R_1 (by decide) (m_opb_of (ins := .if_icmp .ge 16) (len := 3) (tag := 0) (a := 44) (b := 0) (c := 0) (q := 0) (by decide +kernel)) (if_neg c1484) ?_
      refine m_R_sg (by decide) [(.aload_n 0, 1, 0, 0, 0, 0, 0), (.getfield 53, 3, 0, 11, 7, 3, 637), (.iload_n 2, 1, 0, 2, 0, 0, 0), (.iconst 0, 1, 0, 0, 0, 0, 0)] (by decide +kernel) (show m_sgl X _ _ _ _ _ = some (37, [some (.ref 0), some (.int v1), some (.int v2)], [.int (0 : Int32), .int v2, .ref 117], (SH, m.1, m.2)) from rfl) ?_
      obtain ⟨c1485, h⟩ := m_ite_n h
      refine m_R_1 (by decide) (m_opb_of (ins := .iastore) (len := 1) (tag := 0) (a := 0) (b := 0) (c := 0) (q := 0) (by decide +kernel)) (m_s_iast sh_117 c1485) ?_
      refine m_R_sg (by decide) [(.iinc 2 1, 3, 0, 2, 1, 0, 0), (.goto (-15), 3, 0, 26, 0, 0, 0)] (by decide +kernel) (show m_sgl X _ _ _ _ _ = some (26, [some (.ref 0), some (.int v1), some (.int (v2 + (1 : Int32)))], [], (SH, (m_up m.1 117 v2.toNatClampNeg (0 : Int32)), m.2)) from rfl) ?_
      exact ih _ _ _ _ _ h
def f_x_lay (F : Nat)   (v1 : Int32) (m : mM) : Option (Int32 × mM) := (if 0 ≤ v1 then (if v1 ≤ (60 : Int32) then f_x_lay_26 F F v1 (0 : Int32) m else ((f_x_refuse F (-7 : Int32) m).bind fun q1 => some (q1.1, q1.2))) else ((f_x_refuse F (-4 : Int32) m).bind fun q2 => some (q2.1, q2.2)))
theorem ok_x_lay (X : mX) (d F : Nat) : ∀ (v1 : Int32)  (m : mM) (r : Int32) (m' : mM), f_x_lay F v1 m = some (r, m') → m_R X (d + 1) 192 0 [some (.ref 0), some (.int v1), none] [] (SH, m) (some (.int r), (SH, m')) := by
  intro v1 m r m' h
  unfold f_x_lay at h
  refine m_R_sg (by decide) [(.iload_n 1, 1, 0, 1, 0, 0, 0)] (by decide +kernel) (show m_sgl X _ _ _ _ _ = some (1, [some (.ref 0), some (.int v1), none], [.int v1], (SH, m.1, m.2)) from rfl) ?_
  rcases m_ite h with ⟨c1486, h⟩ | ⟨c1486, h⟩
  · refine m_R_1 (by decide) (m_opb_of (ins := .ifCond .ge 10) (len := 3) (tag := 0) (a := 11) (b := 0) (c := 0) (q := 0) (by decide +kernel)) (if_pos c1486) ?_
    refine m_R_sg (by decide) [(.iload_n 1, 1, 0, 1, 0, 0, 0), (.bipush 60, 2, 0, 60, 0, 0, 0)] (by decide +kernel) (show m_sgl X _ _ _ _ _ = some (14, [some (.ref 0), some (.int v1), none], [.int (60 : Int32), .int v1], (SH, m.1, m.2)) from rfl) ?_
    rcases m_ite h with ⟨c1487, h⟩ | ⟨c1487, h⟩
    · refine m_R_1 (by decide) (m_opb_of (ins := .if_icmp .le 10) (len := 3) (tag := 0) (a := 24) (b := 0) (c := 0) (q := 0) (by decide +kernel)) (if_pos c1487) ?_
      refine m_R_sg (by decide) [(.iconst 0, 1, 0, 0, 0, 0, 0), (.istore_n 2, 1, 0, 2, 0, 0, 0)] (by decide +kernel) (show m_sgl X _ _ _ _ _ = some (26, [some (.ref 0), some (.int v1), some (.int (0 : Int32))], [], (SH, m.1, m.2)) from rfl) ?_
      exact ok_x_lay_26 X d F F _ _ _ _ _ h
    · refine m_R_1 (by decide) (m_opb_of (ins := .if_icmp .le 10) (len := 3) (tag := 0) (a := 24) (b := 0) (c := 0) (q := 0) (by decide +kernel)) (if_neg c1487) ?_
      refine m_R_sg (by decide) [(.aload_n 0, 1, 0, 0, 0, 0, 0), (.bipush (-7), 2, 0, 7, 1, 0, 0)] (by decide +kernel) (show m_sgl X _ _ _ _ _ = some (20, [some (.ref 0), some (.int v1), none], [.int (-7 : Int32), .ref 0], (SH, m.1, m.2)) from rfl) ?_
      obtain ⟨q1, hc1, h⟩ := Option.bind_eq_some_iff.mp h
      refine m_R_cV (v := (some (.int q1.1))) (h1 := (SH, q1.2)) (rest := []) (lo' := [some (.ref 0), some (.int (-7 : Int32))]) (ml := 2) (k0 := 0) (by decide) (Or.inl rfl) (m_opb_of (ins := .invokevirtual 76) (len := 3) (tag := 5) (a := 14) (b := 1) (c := 0) (q := 671) (by decide +kernel)) (by decide +kernel) rfl (show m_isO 14 0 (SH, _) = true from m_isO_of (by decide +kernel)) (Nat.le_of_ble_eq_true rfl) rfl rfl (ok_x_refuse X (d + 0) F _ _ _ _ hc1) ?_
      obtain ⟨rfl, rfl⟩ := m_some h
      exact m_R_iret (by decide) (m_opb_of (ins := .ireturn) (len := 1) (tag := 1) (a := 0) (b := 0) (c := 0) (q := 0) (by decide +kernel)) (Or.inl rfl)
  · refine m_R_1 (by decide) (m_opb_of (ins := .ifCond .ge 10) (len := 3) (tag := 0) (a := 11) (b := 0) (c := 0) (q := 0) (by decide +kernel)) (if_neg c1486) ?_
    refine m_R_sg (by decide) [(.aload_n 0, 1, 0, 0, 0, 0, 0), (.bipush (-4), 2, 0, 4, 1, 0, 0)] (by decide +kernel) (show m_sgl X _ _ _ _ _ = some (7, [some (.ref 0), some (.int v1), none], [.int (-4 : Int32), .ref 0], (SH, m.1, m.2)) from rfl) ?_
    obtain ⟨q2, hc2, h⟩ := Option.bind_eq_some_iff.mp h
    refine m_R_cV (v := (some (.int q2.1))) (h1 := (SH, q2.2)) (rest := []) (lo' := [some (.ref 0), some (.int (-4 : Int32))]) (ml := 2) (k0 := 0) (by decide) (Or.inl rfl) (m_opb_of (ins := .invokevirtual 76) (len := 3) (tag := 5) (a := 14) (b := 1) (c := 0) (q := 671) (by decide +kernel)) (by decide +kernel) rfl (show m_isO 14 0 (SH, _) = true from m_isO_of (by decide +kernel)) (Nat.le_of_ble_eq_true rfl) rfl rfl (ok_x_refuse X (d + 0) F _ _ _ _ hc2) ?_
    obtain ⟨rfl, rfl⟩ := m_some h
    exact m_R_iret (by decide) (m_opb_of (ins := .ireturn) (len := 1) (tag := 1) (a := 0) (b := 0) (c := 0) (q := 0) (by decide +kernel)) (Or.inl rfl)
def f_m_lay_36 (F : Nat)   : Nat → Int32 → Int32 → mM → Option (Int32 × mM)
  | 0, _, _, _ => none
  | n + 1, v1, v2, m => (if v1 ≤ v2 then some (v1, m) else (if v2 < 0 ∨ 60 ≤ v2.toNatClampNeg then none else f_m_lay_36 F n v1 (v2 + (1 : Int32)) ((m_up m.1 317 v2.toNatClampNeg (0 : Int32)), m.2)))
theorem ok_m_lay_36 (X : mX) (d F : Nat) : ∀ (n : Nat) (v1 : Int32) (v2 : Int32)  (m : mM) (r : Int32) (m' : mM), f_m_lay_36 F n v1 v2 m = some (r, m') → m_R X (d + 1) 337 36 [some (.ref 304), some (.int v1), some (.int v2)] [] (SH, m) (some (.int r), (SH, m')) := by
  intro n
  induction n with
  | zero => intro v1 v2 m r m' h; cases h
  | succ n ih =>
    intro v1 v2 m r m' h
    simp only [f_m_lay_36] at h
    refine m_R_sg (by decide) [(.iload_n 2, 1, 0, 2, 0, 0, 0), (.iload_n 1, 1, 0, 1, 0, 0, 0)] (by decide +kernel) (show m_sgl X _ _ _ _ _ = some (38, [some (.ref 304), some (.int v1), some (.int v2)], [.int v1, .int v2], (SH, m.1, m.2)) from rfl) ?_
    rcases m_ite h with ⟨c1488, h⟩ | ⟨c1488, h⟩
    · refine m_R_1 (by decide) (m_opb_of (ins := .if_icmp .ge 16) (len := 3) (tag := 0) (a := 54) (b := 0) (c := 0) (q := 0) (by decide +kernel)) (if_pos c1488) ?_
      refine m_R_sg (by decide) [(.iload_n 1, 1, 0, 1, 0, 0, 0)] (by decide +kernel) (show m_sgl X _ _ _ _ _ = some (55, [some (.ref 304), some (.int v1), some (.int v2)], [.int v1], (SH, m.1, m.2)) from rfl) ?_
      obtain ⟨rfl, rfl⟩ := m_some h
      exact m_R_iret (by decide) (m_opb_of (ins := .ireturn) (len := 1) (tag := 1) (a := 0) (b := 0) (c := 0) (q := 0) (by decide +kernel)) (Or.inl rfl)
    · refine m_R_1 (by decide) (m_opb_of (ins := .if_icmp .ge 16) (len := 3) (tag := 0) (a := 54) (b := 0) (c := 0) (q := 0) (by decide +kernel)) (if_neg c1488) ?_
      refine m_R_sg (by decide) [(.aload_n 0, 1, 0, 0, 0, 0, 0), (.getfield 51, 3, 0, 12, 28, 3, 1520), (.iload_n 2, 1, 0, 2, 0, 0, 0), (.iconst 0, 1, 0, 0, 0, 0, 0)] (by decide +kernel) (show m_sgl X _ _ _ _ _ = some (47, [some (.ref 304), some (.int v1), some (.int v2)], [.int (0 : Int32), .int v2, .ref 317], (SH, m.1, m.2)) from rfl) ?_
      obtain ⟨c1489, h⟩ := m_ite_n h
      refine m_R_1 (by decide) (m_opb_of (ins := .iastore) (len := 1) (tag := 0) (a := 0) (b := 0) (c := 0) (q := 0) (by decide +kernel)) (m_s_iast sh_317 c1489) ?_
      refine m_R_sg (by decide) [(.iinc 2 1, 3, 0, 2, 1, 0, 0), (.goto (-15), 3, 0, 36, 0, 0, 0)] (by decide +kernel) (show m_sgl X _ _ _ _ _ = some (36, [some (.ref 304), some (.int v1), some (.int (v2 + (1 : Int32)))], [], (SH, (m_up m.1 317 v2.toNatClampNeg (0 : Int32)), m.2)) from rfl) ?_
      exact ih _ _ _ _ _ h
def f_m_lay (F : Nat)   (v1 : Int32) (m : mM) : Option (Int32 × mM) := (if 0 ≤ v1 then (if v1 ≤ (60 : Int32) then f_m_lay_36 F F v1 (0 : Int32) ((m_up (m_up m.1 304 30 (1 : Int32)) 304 29 v1), m.2) else ((f_m_refuse F (-7 : Int32) m).bind fun q1 => some (q1.1, q1.2))) else ((f_m_refuse F (-4 : Int32) m).bind fun q2 => some (q2.1, q2.2)))
theorem ok_m_lay (X : mX) (d F : Nat) : ∀ (v1 : Int32)  (m : mM) (r : Int32) (m' : mM), f_m_lay F v1 m = some (r, m') → m_R X (d + 1) 337 0 [some (.ref 304), some (.int v1), none] [] (SH, m) (some (.int r), (SH, m')) := by
  intro v1 m r m' h
  unfold f_m_lay at h
  refine m_R_sg (by decide) [(.iload_n 1, 1, 0, 1, 0, 0, 0)] (by decide +kernel) (show m_sgl X _ _ _ _ _ = some (1, [some (.ref 304), some (.int v1), none], [.int v1], (SH, m.1, m.2)) from rfl) ?_
  rcases m_ite h with ⟨c1490, h⟩ | ⟨c1490, h⟩
  · refine m_R_1 (by decide) (m_opb_of (ins := .ifCond .ge 10) (len := 3) (tag := 0) (a := 11) (b := 0) (c := 0) (q := 0) (by decide +kernel)) (if_pos c1490) ?_
    refine m_R_sg (by decide) [(.iload_n 1, 1, 0, 1, 0, 0, 0), (.bipush 60, 2, 0, 60, 0, 0, 0)] (by decide +kernel) (show m_sgl X _ _ _ _ _ = some (14, [some (.ref 304), some (.int v1), none], [.int (60 : Int32), .int v1], (SH, m.1, m.2)) from rfl) ?_
    rcases m_ite h with ⟨c1491, h⟩ | ⟨c1491, h⟩
    · refine m_R_1 (by decide) (m_opb_of (ins := .if_icmp .le 10) (len := 3) (tag := 0) (a := 24) (b := 0) (c := 0) (q := 0) (by decide +kernel)) (if_pos c1491) ?_
      refine m_R_sg (by decide) [(.aload_n 0, 1, 0, 0, 0, 0, 0), (.iconst 1, 1, 0, 1, 0, 0, 0), (.putfield 445, 3, 0, 12, 30, 1, 1522), (.aload_n 0, 1, 0, 0, 0, 0, 0), (.iload_n 1, 1, 0, 1, 0, 0, 0), (.putfield 448, 3, 0, 12, 29, 0, 1521), (.iconst 0, 1, 0, 0, 0, 0, 0), (.istore_n 2, 1, 0, 2, 0, 0, 0)] (by decide +kernel) (show m_sgl X _ _ _ _ _ = some (36, [some (.ref 304), some (.int v1), some (.int (0 : Int32))], [], (SH, (m_up (m_up m.1 304 30 (1 : Int32)) 304 29 v1), m.2)) from rfl) ?_
      exact ok_m_lay_36 X d F F _ _ _ _ _ h
    · refine m_R_1 (by decide) (m_opb_of (ins := .if_icmp .le 10) (len := 3) (tag := 0) (a := 24) (b := 0) (c := 0) (q := 0) (by decide +kernel)) (if_neg c1491) ?_
      refine m_R_sg (by decide) [(.aload_n 0, 1, 0, 0, 0, 0, 0), (.bipush (-7), 2, 0, 7, 1, 0, 0)] (by decide +kernel) (show m_sgl X _ _ _ _ _ = some (20, [some (.ref 304), some (.int v1), none], [.int (-7 : Int32), .ref 304], (SH, m.1, m.2)) from rfl) ?_
      obtain ⟨q1, hc1, h⟩ := Option.bind_eq_some_iff.mp h
      refine m_R_cV (v := (some (.int q1.1))) (h1 := (SH, q1.2)) (rest := []) (lo' := [some (.ref 304), some (.int (-7 : Int32))]) (ml := 2) (k0 := 304) (by decide) (Or.inl rfl) (m_opb_of (ins := .invokevirtual 61) (len := 3) (tag := 5) (a := 202) (b := 1) (c := 0) (q := 1593) (by decide +kernel)) (by decide +kernel) rfl (show m_isO 202 304 (SH, _) = true from m_isO_of (by decide +kernel)) (Nat.le_of_ble_eq_true rfl) rfl rfl (ok_m_refuse X (d + 0) F _ _ _ _ hc1) ?_
      obtain ⟨rfl, rfl⟩ := m_some h
      exact m_R_iret (by decide) (m_opb_of (ins := .ireturn) (len := 1) (tag := 1) (a := 0) (b := 0) (c := 0) (q := 0) (by decide +kernel)) (Or.inl rfl)
  · refine m_R_1 (by decide) (m_opb_of (ins := .ifCond .ge 10) (len := 3) (tag := 0) (a := 11) (b := 0) (c := 0) (q := 0) (by decide +kernel)) (if_neg c1490) ?_
    refine m_R_sg (by decide) [(.aload_n 0, 1, 0, 0, 0, 0, 0), (.bipush (-4), 2, 0, 4, 1, 0, 0)] (by decide +kernel) (show m_sgl X _ _ _ _ _ = some (7, [some (.ref 304), some (.int v1), none], [.int (-4 : Int32), .ref 304], (SH, m.1, m.2)) from rfl) ?_
    obtain ⟨q2, hc2, h⟩ := Option.bind_eq_some_iff.mp h
    refine m_R_cV (v := (some (.int q2.1))) (h1 := (SH, q2.2)) (rest := []) (lo' := [some (.ref 304), some (.int (-4 : Int32))]) (ml := 2) (k0 := 304) (by decide) (Or.inl rfl) (m_opb_of (ins := .invokevirtual 61) (len := 3) (tag := 5) (a := 202) (b := 1) (c := 0) (q := 1593) (by decide +kernel)) (by decide +kernel) rfl (show m_isO 202 304 (SH, _) = true from m_isO_of (by decide +kernel)) (Nat.le_of_ble_eq_true rfl) rfl rfl (ok_m_refuse X (d + 0) F _ _ _ _ hc2) ?_
    obtain ⟨rfl, rfl⟩ := m_some h
    exact m_R_iret (by decide) (m_opb_of (ins := .ireturn) (len := 1) (tag := 1) (a := 0) (b := 0) (c := 0) (q := 0) (by decide +kernel)) (Or.inl rfl)
def f_x_set_27 (F : Nat)    (m : mM) : Option (Int32 × mM) := ((f_x_refuseByZero F (-3 : Int32) m).bind fun q2 => some (q2.1, q2.2))
theorem ok_x_set_27 (X : mX) (d F : Nat) : ∀  (w1 : Option Value) (w2 : Option Value) (w3 : Option Value) (m : mM) (r : Int32) (m' : mM), f_x_set_27 F  m = some (r, m') → m_R X (d + 2) 193 27 [some (.ref 0), w1, w2, w3] [] (SH, m) (some (.int r), (SH, m')) := by
  intro w1 w2 w3 m r m' h
  unfold f_x_set_27 at h
  refine m_R_sg (by decide) [(.aload_n 0, 1, 0, 0, 0, 0, 0), (.bipush (-3), 2, 0, 3, 1, 0, 0)] (by decide +kernel) (show m_sgl X _ _ _ _ _ = some (30, [some (.ref 0), w1, w2, w3], [.int (-3 : Int32), .ref 0], (SH, m.1, m.2)) from rfl) ?_
  obtain ⟨q2, hc2, h⟩ := Option.bind_eq_some_iff.mp h
  refine m_R_cV (v := (some (.int q2.1))) (h1 := (SH, q2.2)) (rest := []) (lo' := [some (.ref 0), some (.int (-3 : Int32))]) (ml := 2) (k0 := 0) (by decide) (Or.inl rfl) (m_opb_of (ins := .invokevirtual 335) (len := 3) (tag := 5) (a := 107) (b := 1) (c := 0) (q := 1054) (by decide +kernel)) (by decide +kernel) rfl (show m_isO 107 0 (SH, _) = true from m_isO_of (by decide +kernel)) (Nat.le_of_ble_eq_true rfl) rfl rfl (ok_x_refuseByZero X (d + 0) F _ _ _ _ hc2) ?_
  obtain ⟨rfl, rfl⟩ := m_some h
  exact m_R_iret (by decide) (m_opb_of (ins := .ireturn) (len := 1) (tag := 1) (a := 0) (b := 0) (c := 0) (q := 0) (by decide +kernel)) (Or.inl rfl)
def f_x_set (F : Nat)   (v1 : Int32) (v2 : Int32) (m : mM) : Option (Int32 × mM) := (if (m.1 0 10) = (-1 : Int32) then ((f_x_refuseByZero F (-2 : Int32) m).bind fun q1 => some (q1.1, q1.2)) else (if v1 < 0 then f_x_set_27 F m else (if v1 < (m.1 0 10) then (if v1 < 0 ∨ 60 ≤ v1.toNatClampNeg then none else some ((m.1 117 v1.toNatClampNeg), ((m_up m.1 117 v1.toNatClampNeg v2), m.2))) else f_x_set_27 F m)))
theorem ok_x_set (X : mX) (d F : Nat) : ∀ (v1 : Int32) (v2 : Int32)  (m : mM) (r : Int32) (m' : mM), f_x_set F v1 v2 m = some (r, m') → m_R X (d + 2) 193 0 [some (.ref 0), some (.int v1), some (.int v2), none] [] (SH, m) (some (.int r), (SH, m')) := by
  intro v1 v2 m r m' h
  unfold f_x_set at h
  refine m_R_sg (by decide) [(.aload_n 0, 1, 0, 0, 0, 0, 0), (.getfield 63, 3, 0, 11, 10, 0, 640), (.iconst (-1), 1, 0, 1, 1, 0, 0)] (by decide +kernel) (show m_sgl X _ _ _ _ _ = some (5, [some (.ref 0), some (.int v1), some (.int v2), none], [.int (-1 : Int32), .int (m.1 0 10)], (SH, m.1, m.2)) from rfl) ?_
  rcases m_ite h with ⟨c1492, h⟩ | ⟨c1492, h⟩
  · refine m_R_1 (by decide) (m_opb_of (ins := .if_icmp .ne 10) (len := 3) (tag := 0) (a := 15) (b := 0) (c := 0) (q := 0) (by decide +kernel)) (if_pos c1492) ?_
    refine m_R_sg (by decide) [(.aload_n 0, 1, 0, 0, 0, 0, 0), (.bipush (-2), 2, 0, 2, 1, 0, 0)] (by decide +kernel) (show m_sgl X _ _ _ _ _ = some (11, [some (.ref 0), some (.int v1), some (.int v2), none], [.int (-2 : Int32), .ref 0], (SH, m.1, m.2)) from rfl) ?_
    obtain ⟨q1, hc1, h⟩ := Option.bind_eq_some_iff.mp h
    refine m_R_cV (v := (some (.int q1.1))) (h1 := (SH, q1.2)) (rest := []) (lo' := [some (.ref 0), some (.int (-2 : Int32))]) (ml := 2) (k0 := 0) (by decide) (Or.inl rfl) (m_opb_of (ins := .invokevirtual 335) (len := 3) (tag := 5) (a := 107) (b := 1) (c := 0) (q := 1054) (by decide +kernel)) (by decide +kernel) rfl (show m_isO 107 0 (SH, _) = true from m_isO_of (by decide +kernel)) (Nat.le_of_ble_eq_true rfl) rfl rfl (ok_x_refuseByZero X (d + 0) F _ _ _ _ hc1) ?_
    obtain ⟨rfl, rfl⟩ := m_some h
    exact m_R_iret (by decide) (m_opb_of (ins := .ireturn) (len := 1) (tag := 1) (a := 0) (b := 0) (c := 0) (q := 0) (by decide +kernel)) (Or.inl rfl)
  · refine m_R_1 (by decide) (m_opb_of (ins := .if_icmp .ne 10) (len := 3) (tag := 0) (a := 15) (b := 0) (c := 0) (q := 0) (by decide +kernel)) (if_neg c1492) ?_
    refine m_R_sg (by decide) [(.iload_n 1, 1, 0, 1, 0, 0, 0)] (by decide +kernel) (show m_sgl X _ _ _ _ _ = some (16, [some (.ref 0), some (.int v1), some (.int v2), none], [.int v1], (SH, m.1, m.2)) from rfl) ?_
    rcases m_ite h with ⟨c1493, h⟩ | ⟨c1493, h⟩
    · refine m_R_1 (by decide) (m_opb_of (ins := .ifCond .lt 11) (len := 3) (tag := 0) (a := 27) (b := 0) (c := 0) (q := 0) (by decide +kernel)) (if_pos c1493) ?_
      exact ok_x_set_27 X d F _ _ _ _ _ _ h
    · refine m_R_1 (by decide) (m_opb_of (ins := .ifCond .lt 11) (len := 3) (tag := 0) (a := 27) (b := 0) (c := 0) (q := 0) (by decide +kernel)) (if_neg c1493) ?_
      refine m_R_sg (by decide) [(.iload_n 1, 1, 0, 1, 0, 0, 0), (.aload_n 0, 1, 0, 0, 0, 0, 0), (.getfield 63, 3, 0, 11, 10, 0, 640)] (by decide +kernel) (show m_sgl X _ _ _ _ _ = some (24, [some (.ref 0), some (.int v1), some (.int v2), none], [.int (m.1 0 10), .int v1], (SH, m.1, m.2)) from rfl) ?_
      rcases m_ite h with ⟨c1494, h⟩ | ⟨c1494, h⟩
      · refine m_R_1 (by decide) (m_opb_of (ins := .if_icmp .lt 10) (len := 3) (tag := 0) (a := 34) (b := 0) (c := 0) (q := 0) (by decide +kernel)) (if_pos c1494) ?_
        refine m_R_sg (by decide) [(.aload_n 0, 1, 0, 0, 0, 0, 0), (.getfield 53, 3, 0, 11, 7, 3, 637), (.iload_n 1, 1, 0, 1, 0, 0, 0)] (by decide +kernel) (show m_sgl X _ _ _ _ _ = some (39, [some (.ref 0), some (.int v1), some (.int v2), none], [.int v1, .ref 117], (SH, m.1, m.2)) from rfl) ?_
        obtain ⟨c1495, h⟩ := m_ite_n h
        refine m_R_1 (by decide) (m_opb_of (ins := .iaload) (len := 1) (tag := 0) (a := 0) (b := 0) (c := 0) (q := 0) (by decide +kernel)) (m_s_iald sh_117 (by decide) c1495) ?_
        refine m_R_sg (by decide) [(.istore_n 3, 1, 0, 3, 0, 0, 0), (.aload_n 0, 1, 0, 0, 0, 0, 0), (.getfield 53, 3, 0, 11, 7, 3, 637), (.iload_n 1, 1, 0, 1, 0, 0, 0), (.iload_n 2, 1, 0, 2, 0, 0, 0)] (by decide +kernel) (show m_sgl X _ _ _ _ _ = some (47, [some (.ref 0), some (.int v1), some (.int v2), some (.int (m.1 117 v1.toNatClampNeg))], [.int v2, .int v1, .ref 117], (SH, m.1, m.2)) from rfl) ?_
        refine m_R_1 (by decide) (m_opb_of (ins := .iastore) (len := 1) (tag := 0) (a := 0) (b := 0) (c := 0) (q := 0) (by decide +kernel)) (m_s_iast sh_117 c1495) ?_
        refine m_R_sg (by decide) [(.iload_n 3, 1, 0, 3, 0, 0, 0)] (by decide +kernel) (show m_sgl X _ _ _ _ _ = some (49, [some (.ref 0), some (.int v1), some (.int v2), some (.int (m.1 117 v1.toNatClampNeg))], [.int (m.1 117 v1.toNatClampNeg)], (SH, (m_up m.1 117 v1.toNatClampNeg v2), m.2)) from rfl) ?_
        obtain ⟨rfl, rfl⟩ := m_some h
        exact m_R_iret (by decide) (m_opb_of (ins := .ireturn) (len := 1) (tag := 1) (a := 0) (b := 0) (c := 0) (q := 0) (by decide +kernel)) (Or.inl rfl)
      · refine m_R_1 (by decide) (m_opb_of (ins := .if_icmp .lt 10) (len := 3) (tag := 0) (a := 34) (b := 0) (c := 0) (q := 0) (by decide +kernel)) (if_neg c1494) ?_
        exact ok_x_set_27 X d F _ _ _ _ _ _ h
def f_m_set (F : Nat)   (v1 : Int32) (v2 : Int32) (m : mM) : Option (Int32 × mM) := (if (m.1 304 30) = 0 then ((f_m_hush F (-2 : Int32) m).bind fun q1 => some (q1.1, q1.2)) else ((f_m_in F v1 (0 : Int32) ((m.1 304 29) - (1 : Int32)) m).bind fun q2 => (if q2.1 = 0 then ((f_m_hush F (-3 : Int32) q2.2).bind fun q3 => some (q3.1, q3.2)) else (if v1 < 0 ∨ 60 ≤ v1.toNatClampNeg then none else some ((q2.2.1 317 v1.toNatClampNeg), ((m_up q2.2.1 317 v1.toNatClampNeg v2), q2.2.2))))))
theorem ok_m_set (X : mX) (d F : Nat) : ∀ (v1 : Int32) (v2 : Int32)  (m : mM) (r : Int32) (m' : mM), f_m_set F v1 v2 m = some (r, m') → m_R X (d + 1) 338 0 [some (.ref 304), some (.int v1), some (.int v2), none] [] (SH, m) (some (.int r), (SH, m')) := by
  intro v1 v2 m r m' h
  unfold f_m_set at h
  refine m_R_sg (by decide) [(.aload_n 0, 1, 0, 0, 0, 0, 0), (.getfield 445, 3, 0, 12, 30, 1, 1522)] (by decide +kernel) (show m_sgl X _ _ _ _ _ = some (4, [some (.ref 304), some (.int v1), some (.int v2), none], [.int (m.1 304 30)], (SH, m.1, m.2)) from rfl) ?_
  rcases m_ite h with ⟨c1496, h⟩ | ⟨c1496, h⟩
  · refine m_R_1 (by decide) (m_opb_of (ins := .ifCond .ne 10) (len := 3) (tag := 0) (a := 14) (b := 0) (c := 0) (q := 0) (by decide +kernel)) (if_pos c1496) ?_
    refine m_R_sg (by decide) [(.aload_n 0, 1, 0, 0, 0, 0, 0), (.bipush (-2), 2, 0, 2, 1, 0, 0)] (by decide +kernel) (show m_sgl X _ _ _ _ _ = some (10, [some (.ref 304), some (.int v1), some (.int v2), none], [.int (-2 : Int32), .ref 304], (SH, m.1, m.2)) from rfl) ?_
    obtain ⟨q1, hc1, h⟩ := Option.bind_eq_some_iff.mp h
    refine m_R_cV (v := (some (.int q1.1))) (h1 := (SH, q1.2)) (rest := []) (lo' := [some (.ref 304), some (.int (-2 : Int32))]) (ml := 2) (k0 := 304) (by decide) (Or.inl rfl) (m_opb_of (ins := .invokevirtual 215) (len := 3) (tag := 5) (a := 292) (b := 1) (c := 0) (q := 1986) (by decide +kernel)) (by decide +kernel) rfl (show m_isO 292 304 (SH, _) = true from m_isO_of (by decide +kernel)) (Nat.le_of_ble_eq_true rfl) rfl rfl (ok_m_hush X (d + 0) F _ _ _ _ hc1) ?_
    obtain ⟨rfl, rfl⟩ := m_some h
    exact m_R_iret (by decide) (m_opb_of (ins := .ireturn) (len := 1) (tag := 1) (a := 0) (b := 0) (c := 0) (q := 0) (by decide +kernel)) (Or.inl rfl)
  · refine m_R_1 (by decide) (m_opb_of (ins := .ifCond .ne 10) (len := 3) (tag := 0) (a := 14) (b := 0) (c := 0) (q := 0) (by decide +kernel)) (if_neg c1496) ?_
    refine m_R_sg (by decide) [(.iload_n 1, 1, 0, 1, 0, 0, 0), (.iconst 0, 1, 0, 0, 0, 0, 0), (.aload_n 0, 1, 0, 0, 0, 0, 0), (.getfield 448, 3, 0, 12, 29, 0, 1521), (.iconst 1, 1, 0, 1, 0, 0, 0), (.isub, 1, 0, 0, 0, 0, 0)] (by decide +kernel) (show m_sgl X _ _ _ _ _ = some (22, [some (.ref 304), some (.int v1), some (.int v2), none], [.int ((m.1 304 29) - (1 : Int32)), .int (0 : Int32), .int v1], (SH, m.1, m.2)) from rfl) ?_
    obtain ⟨q2, hc2, h⟩ := Option.bind_eq_some_iff.mp h
    refine m_R_cS (v := (some (.int q2.1))) (h1 := (SH, q2.2)) (rest := []) (lo' := [some (.int v1), some (.int (0 : Int32)), some (.int ((m.1 304 29) - (1 : Int32)))]) (ml := 3) (by decide) (m_opb_of (ins := .invokestatic 57) (len := 3) (tag := 4) (a := 201) (b := 3) (c := 0) (q := 1590) (by decide +kernel)) (by decide +kernel) (Nat.le_of_ble_eq_true rfl) rfl (Nat.le_of_ble_eq_true rfl) rfl rfl (ok_m_in X (d + 0) F _ _ _ _ _ _ hc2) ?_
    rcases m_ite h with ⟨c1497, h⟩ | ⟨c1497, h⟩
    · refine m_R_1 (by decide) (m_opb_of (ins := .ifCond .ne 10) (len := 3) (tag := 0) (a := 35) (b := 0) (c := 0) (q := 0) (by decide +kernel)) (if_pos c1497) ?_
      refine m_R_sg (by decide) [(.aload_n 0, 1, 0, 0, 0, 0, 0), (.bipush (-3), 2, 0, 3, 1, 0, 0)] (by decide +kernel) (show m_sgl X _ _ _ _ _ = some (31, [some (.ref 304), some (.int v1), some (.int v2), none], [.int (-3 : Int32), .ref 304], (SH, q2.2.1, q2.2.2)) from rfl) ?_
      obtain ⟨q3, hc3, h⟩ := Option.bind_eq_some_iff.mp h
      refine m_R_cV (v := (some (.int q3.1))) (h1 := (SH, q3.2)) (rest := []) (lo' := [some (.ref 304), some (.int (-3 : Int32))]) (ml := 2) (k0 := 304) (by decide) (Or.inl rfl) (m_opb_of (ins := .invokevirtual 215) (len := 3) (tag := 5) (a := 292) (b := 1) (c := 0) (q := 1986) (by decide +kernel)) (by decide +kernel) rfl (show m_isO 292 304 (SH, _) = true from m_isO_of (by decide +kernel)) (Nat.le_of_ble_eq_true rfl) rfl rfl (ok_m_hush X (d + 0) F _ _ _ _ hc3) ?_
      obtain ⟨rfl, rfl⟩ := m_some h
      exact m_R_iret (by decide) (m_opb_of (ins := .ireturn) (len := 1) (tag := 1) (a := 0) (b := 0) (c := 0) (q := 0) (by decide +kernel)) (Or.inl rfl)
    · refine m_R_1 (by decide) (m_opb_of (ins := .ifCond .ne 10) (len := 3) (tag := 0) (a := 35) (b := 0) (c := 0) (q := 0) (by decide +kernel)) (if_neg c1497) ?_
      refine m_R_sg (by decide) [(.aload_n 0, 1, 0, 0, 0, 0, 0), (.getfield 51, 3, 0, 12, 28, 3, 1520), (.iload_n 1, 1, 0, 1, 0, 0, 0)] (by decide +kernel) (show m_sgl X _ _ _ _ _ = some (40, [some (.ref 304), some (.int v1), some (.int v2), none], [.int v1, .ref 317], (SH, q2.2.1, q2.2.2)) from rfl) ?_
      obtain ⟨c1498, h⟩ := m_ite_n h
      refine m_R_1 (by decide) (m_opb_of (ins := .iaload) (len := 1) (tag := 0) (a := 0) (b := 0) (c := 0) (q := 0) (by decide +kernel)) (m_s_iald sh_317 (by decide) c1498) ?_
      refine m_R_sg (by decide) [(.istore_n 3, 1, 0, 3, 0, 0, 0), (.aload_n 0, 1, 0, 0, 0, 0, 0), (.getfield 51, 3, 0, 12, 28, 3, 1520), (.iload_n 1, 1, 0, 1, 0, 0, 0), (.iload_n 2, 1, 0, 2, 0, 0, 0)] (by decide +kernel) (show m_sgl X _ _ _ _ _ = some (48, [some (.ref 304), some (.int v1), some (.int v2), some (.int (q2.2.1 317 v1.toNatClampNeg))], [.int v2, .int v1, .ref 317], (SH, q2.2.1, q2.2.2)) from rfl) ?_
      refine m_R_1 (by decide) (m_opb_of (ins := .iastore) (len := 1) (tag := 0) (a := 0) (b := 0) (c := 0) (q := 0) (by decide +kernel)) (m_s_iast sh_317 c1498) ?_
      refine m_R_sg (by decide) [(.iload_n 3, 1, 0, 3, 0, 0, 0)] (by decide +kernel) (show m_sgl X _ _ _ _ _ = some (50, [some (.ref 304), some (.int v1), some (.int v2), some (.int (q2.2.1 317 v1.toNatClampNeg))], [.int (q2.2.1 317 v1.toNatClampNeg)], (SH, (m_up q2.2.1 317 v1.toNatClampNeg v2), q2.2.2)) from rfl) ?_
      obtain ⟨rfl, rfl⟩ := m_some h
      exact m_R_iret (by decide) (m_opb_of (ins := .ireturn) (len := 1) (tag := 1) (a := 0) (b := 0) (c := 0) (q := 0) (by decide +kernel)) (Or.inl rfl)
def f_x_tear_13 (F : Nat)   (s0 : Int32) (m : mM) : Option (Int32 × mM) := some (s0, ((m_up m.1 0 10 (-1 : Int32)), m.2))
theorem ok_x_tear_13 (X : mX) (d F : Nat) : ∀ (s0 : Int32) (w1 : Option Value) (m : mM) (r : Int32) (m' : mM), f_x_tear_13 F s0 m = some (r, m') → m_R X (d + 0) 194 13 [some (.ref 0), w1] [.int s0] (SH, m) (some (.int r), (SH, m')) := by
  intro s0 w1 m r m' h
  unfold f_x_tear_13 at h
  refine m_R_sg (by decide) [(.istore_n 1, 1, 0, 1, 0, 0, 0), (.aload_n 0, 1, 0, 0, 0, 0, 0), (.iconst (-1), 1, 0, 1, 1, 0, 0), (.putfield 63, 3, 0, 11, 10, 0, 640), (.iload_n 1, 1, 0, 1, 0, 0, 0)] (by decide +kernel) (show m_sgl X _ _ _ _ _ = some (20, [some (.ref 0), some (.int s0)], [.int s0], (SH, (m_up m.1 0 10 (-1 : Int32)), m.2)) from rfl) ?_
  obtain ⟨rfl, rfl⟩ := m_some h
  exact m_R_iret (by decide) (m_opb_of (ins := .ireturn) (len := 1) (tag := 1) (a := 0) (b := 0) (c := 0) (q := 0) (by decide +kernel)) (Or.inl rfl)
def f_x_tear (F : Nat)    (m : mM) : Option (Int32 × mM) := (if (m.1 0 10) = (-1 : Int32) then f_x_tear_13 F (0 : Int32) m else f_x_tear_13 F (1 : Int32) m)
theorem ok_x_tear (X : mX) (d F : Nat) : ∀   (m : mM) (r : Int32) (m' : mM), f_x_tear F  m = some (r, m') → m_R X (d + 0) 194 0 [some (.ref 0), none] [] (SH, m) (some (.int r), (SH, m')) := by
  intro m r m' h
  unfold f_x_tear at h
  refine m_R_sg (by decide) [(.aload_n 0, 1, 0, 0, 0, 0, 0), (.getfield 63, 3, 0, 11, 10, 0, 640), (.iconst (-1), 1, 0, 1, 1, 0, 0)] (by decide +kernel) (show m_sgl X _ _ _ _ _ = some (5, [some (.ref 0), none], [.int (-1 : Int32), .int (m.1 0 10)], (SH, m.1, m.2)) from rfl) ?_
  rcases m_ite h with ⟨c1499, h⟩ | ⟨c1499, h⟩
  · refine m_R_1 (by decide) (m_opb_of (ins := .if_icmp .ne 7) (len := 3) (tag := 0) (a := 12) (b := 0) (c := 0) (q := 0) (by decide +kernel)) (if_pos c1499) ?_
    refine m_R_sg (by decide) [(.iconst 0, 1, 0, 0, 0, 0, 0), (.goto 4, 3, 0, 13, 0, 0, 0)] (by decide +kernel) (show m_sgl X _ _ _ _ _ = some (13, [some (.ref 0), none], [.int (0 : Int32)], (SH, m.1, m.2)) from rfl) ?_
    exact ok_x_tear_13 X d F _ _ _ _ _ h
  · refine m_R_1 (by decide) (m_opb_of (ins := .if_icmp .ne 7) (len := 3) (tag := 0) (a := 12) (b := 0) (c := 0) (q := 0) (by decide +kernel)) (if_neg c1499) ?_
    refine m_R_sg (by decide) [(.iconst 1, 1, 0, 1, 0, 0, 0)] (by decide +kernel) (show m_sgl X _ _ _ _ _ = some (13, [some (.ref 0), none], [.int (1 : Int32)], (SH, m.1, m.2)) from rfl) ?_
    exact ok_x_tear_13 X d F _ _ _ _ _ h
def f_m_tear_12 (F : Nat)   (s0 : Int32) (m : mM) : Option (Int32 × mM) := some (s0, ((m_up m.1 304 30 (0 : Int32)), m.2))
theorem ok_m_tear_12 (X : mX) (d F : Nat) : ∀ (s0 : Int32) (w1 : Option Value) (m : mM) (r : Int32) (m' : mM), f_m_tear_12 F s0 m = some (r, m') → m_R X (d + 0) 339 12 [some (.ref 304), w1] [.int s0] (SH, m) (some (.int r), (SH, m')) := by
  intro s0 w1 m r m' h
  unfold f_m_tear_12 at h
  refine m_R_sg (by decide) [(.istore_n 1, 1, 0, 1, 0, 0, 0), (.aload_n 0, 1, 0, 0, 0, 0, 0), (.iconst 0, 1, 0, 0, 0, 0, 0), (.putfield 445, 3, 0, 12, 30, 1, 1522), (.iload_n 1, 1, 0, 1, 0, 0, 0)] (by decide +kernel) (show m_sgl X _ _ _ _ _ = some (19, [some (.ref 304), some (.int s0)], [.int s0], (SH, (m_up m.1 304 30 (0 : Int32)), m.2)) from rfl) ?_
  obtain ⟨rfl, rfl⟩ := m_some h
  exact m_R_iret (by decide) (m_opb_of (ins := .ireturn) (len := 1) (tag := 1) (a := 0) (b := 0) (c := 0) (q := 0) (by decide +kernel)) (Or.inl rfl)
def f_m_tear (F : Nat)    (m : mM) : Option (Int32 × mM) := (if (m.1 304 30) = 0 then f_m_tear_12 F (0 : Int32) m else f_m_tear_12 F (1 : Int32) m)
theorem ok_m_tear (X : mX) (d F : Nat) : ∀   (m : mM) (r : Int32) (m' : mM), f_m_tear F  m = some (r, m') → m_R X (d + 0) 339 0 [some (.ref 304), none] [] (SH, m) (some (.int r), (SH, m')) := by
  intro m r m' h
  unfold f_m_tear at h
  refine m_R_sg (by decide) [(.aload_n 0, 1, 0, 0, 0, 0, 0), (.getfield 445, 3, 0, 12, 30, 1, 1522)] (by decide +kernel) (show m_sgl X _ _ _ _ _ = some (4, [some (.ref 304), none], [.int (m.1 304 30)], (SH, m.1, m.2)) from rfl) ?_
  rcases m_ite h with ⟨c1500, h⟩ | ⟨c1500, h⟩
  · refine m_R_1 (by decide) (m_opb_of (ins := .ifCond .eq 7) (len := 3) (tag := 0) (a := 11) (b := 0) (c := 0) (q := 0) (by decide +kernel)) (if_pos c1500) ?_
    refine m_R_sg (by decide) [(.iconst 0, 1, 0, 0, 0, 0, 0)] (by decide +kernel) (show m_sgl X _ _ _ _ _ = some (12, [some (.ref 304), none], [.int (0 : Int32)], (SH, m.1, m.2)) from rfl) ?_
    exact ok_m_tear_12 X d F _ _ _ _ _ h
  · refine m_R_1 (by decide) (m_opb_of (ins := .ifCond .eq 7) (len := 3) (tag := 0) (a := 11) (b := 0) (c := 0) (q := 0) (by decide +kernel)) (if_neg c1500) ?_
    refine m_R_sg (by decide) [(.iconst 1, 1, 0, 1, 0, 0, 0), (.goto 4, 3, 0, 12, 0, 0, 0)] (by decide +kernel) (show m_sgl X _ _ _ _ _ = some (12, [some (.ref 304), none], [.int (1 : Int32)], (SH, m.1, m.2)) from rfl) ?_
    exact ok_m_tear_12 X d F _ _ _ _ _ h
def f_x_row_27 (F : Nat)    (m : mM) : Option (Int32 × mM) := ((f_x_refuseByZero F (-3 : Int32) m).bind fun q2 => some (q2.1, q2.2))
theorem ok_x_row_27 (X : mX) (d F : Nat) : ∀  (w1 : Option Value) (m : mM) (r : Int32) (m' : mM), f_x_row_27 F  m = some (r, m') → m_R X (d + 2) 195 27 [some (.ref 0), w1] [] (SH, m) (some (.int r), (SH, m')) := by
  intro w1 m r m' h
  unfold f_x_row_27 at h
  refine m_R_sg (by decide) [(.aload_n 0, 1, 0, 0, 0, 0, 0), (.bipush (-3), 2, 0, 3, 1, 0, 0)] (by decide +kernel) (show m_sgl X _ _ _ _ _ = some (30, [some (.ref 0), w1], [.int (-3 : Int32), .ref 0], (SH, m.1, m.2)) from rfl) ?_
  obtain ⟨q2, hc2, h⟩ := Option.bind_eq_some_iff.mp h
  refine m_R_cV (v := (some (.int q2.1))) (h1 := (SH, q2.2)) (rest := []) (lo' := [some (.ref 0), some (.int (-3 : Int32))]) (ml := 2) (k0 := 0) (by decide) (Or.inl rfl) (m_opb_of (ins := .invokevirtual 335) (len := 3) (tag := 5) (a := 107) (b := 1) (c := 0) (q := 1054) (by decide +kernel)) (by decide +kernel) rfl (show m_isO 107 0 (SH, _) = true from m_isO_of (by decide +kernel)) (Nat.le_of_ble_eq_true rfl) rfl rfl (ok_x_refuseByZero X (d + 0) F _ _ _ _ hc2) ?_
  obtain ⟨rfl, rfl⟩ := m_some h
  exact m_R_iret (by decide) (m_opb_of (ins := .ireturn) (len := 1) (tag := 1) (a := 0) (b := 0) (c := 0) (q := 0) (by decide +kernel)) (Or.inl rfl)
def f_x_row (F : Nat)   (v1 : Int32) (m : mM) : Option (Int32 × mM) := (if (m.1 0 10) = (-1 : Int32) then ((f_x_refuseByZero F (-2 : Int32) m).bind fun q1 => some (q1.1, q1.2)) else (if v1 < 0 then f_x_row_27 F m else (if v1 < (m.1 0 10) then (if v1 < 0 ∨ 60 ≤ v1.toNatClampNeg then none else some ((m.1 117 v1.toNatClampNeg), m)) else f_x_row_27 F m)))
theorem ok_x_row (X : mX) (d F : Nat) : ∀ (v1 : Int32)  (m : mM) (r : Int32) (m' : mM), f_x_row F v1 m = some (r, m') → m_R X (d + 2) 195 0 [some (.ref 0), some (.int v1)] [] (SH, m) (some (.int r), (SH, m')) := by
  intro v1 m r m' h
  unfold f_x_row at h
  refine m_R_sg (by decide) [(.aload_n 0, 1, 0, 0, 0, 0, 0), (.getfield 63, 3, 0, 11, 10, 0, 640), (.iconst (-1), 1, 0, 1, 1, 0, 0)] (by decide +kernel) (show m_sgl X _ _ _ _ _ = some (5, [some (.ref 0), some (.int v1)], [.int (-1 : Int32), .int (m.1 0 10)], (SH, m.1, m.2)) from rfl) ?_
  rcases m_ite h with ⟨c1501, h⟩ | ⟨c1501, h⟩
  · refine m_R_1 (by decide) (m_opb_of (ins := .if_icmp .ne 10) (len := 3) (tag := 0) (a := 15) (b := 0) (c := 0) (q := 0) (by decide +kernel)) (if_pos c1501) ?_
    refine m_R_sg (by decide) [(.aload_n 0, 1, 0, 0, 0, 0, 0), (.bipush (-2), 2, 0, 2, 1, 0, 0)] (by decide +kernel) (show m_sgl X _ _ _ _ _ = some (11, [some (.ref 0), some (.int v1)], [.int (-2 : Int32), .ref 0], (SH, m.1, m.2)) from rfl) ?_
    obtain ⟨q1, hc1, h⟩ := Option.bind_eq_some_iff.mp h
    refine m_R_cV (v := (some (.int q1.1))) (h1 := (SH, q1.2)) (rest := []) (lo' := [some (.ref 0), some (.int (-2 : Int32))]) (ml := 2) (k0 := 0) (by decide) (Or.inl rfl) (m_opb_of (ins := .invokevirtual 335) (len := 3) (tag := 5) (a := 107) (b := 1) (c := 0) (q := 1054) (by decide +kernel)) (by decide +kernel) rfl (show m_isO 107 0 (SH, _) = true from m_isO_of (by decide +kernel)) (Nat.le_of_ble_eq_true rfl) rfl rfl (ok_x_refuseByZero X (d + 0) F _ _ _ _ hc1) ?_
    obtain ⟨rfl, rfl⟩ := m_some h
    exact m_R_iret (by decide) (m_opb_of (ins := .ireturn) (len := 1) (tag := 1) (a := 0) (b := 0) (c := 0) (q := 0) (by decide +kernel)) (Or.inl rfl)
  · refine m_R_1 (by decide) (m_opb_of (ins := .if_icmp .ne 10) (len := 3) (tag := 0) (a := 15) (b := 0) (c := 0) (q := 0) (by decide +kernel)) (if_neg c1501) ?_
    refine m_R_sg (by decide) [(.iload_n 1, 1, 0, 1, 0, 0, 0)] (by decide +kernel) (show m_sgl X _ _ _ _ _ = some (16, [some (.ref 0), some (.int v1)], [.int v1], (SH, m.1, m.2)) from rfl) ?_
    rcases m_ite h with ⟨c1502, h⟩ | ⟨c1502, h⟩
    · refine m_R_1 (by decide) (m_opb_of (ins := .ifCond .lt 11) (len := 3) (tag := 0) (a := 27) (b := 0) (c := 0) (q := 0) (by decide +kernel)) (if_pos c1502) ?_
      exact ok_x_row_27 X d F _ _ _ _ h
    · refine m_R_1 (by decide) (m_opb_of (ins := .ifCond .lt 11) (len := 3) (tag := 0) (a := 27) (b := 0) (c := 0) (q := 0) (by decide +kernel)) (if_neg c1502) ?_
      refine m_R_sg (by decide) [(.iload_n 1, 1, 0, 1, 0, 0, 0), (.aload_n 0, 1, 0, 0, 0, 0, 0), (.getfield 63, 3, 0, 11, 10, 0, 640)] (by decide +kernel) (show m_sgl X _ _ _ _ _ = some (24, [some (.ref 0), some (.int v1)], [.int (m.1 0 10), .int v1], (SH, m.1, m.2)) from rfl) ?_
      rcases m_ite h with ⟨c1503, h⟩ | ⟨c1503, h⟩
      · refine m_R_1 (by decide) (m_opb_of (ins := .if_icmp .lt 10) (len := 3) (tag := 0) (a := 34) (b := 0) (c := 0) (q := 0) (by decide +kernel)) (if_pos c1503) ?_
        refine m_R_sg (by decide) [(.aload_n 0, 1, 0, 0, 0, 0, 0), (.getfield 53, 3, 0, 11, 7, 3, 637), (.iload_n 1, 1, 0, 1, 0, 0, 0)] (by decide +kernel) (show m_sgl X _ _ _ _ _ = some (39, [some (.ref 0), some (.int v1)], [.int v1, .ref 117], (SH, m.1, m.2)) from rfl) ?_
        obtain ⟨c1504, h⟩ := m_ite_n h
        refine m_R_1 (by decide) (m_opb_of (ins := .iaload) (len := 1) (tag := 0) (a := 0) (b := 0) (c := 0) (q := 0) (by decide +kernel)) (m_s_iald sh_117 (by decide) c1504) ?_
        obtain ⟨rfl, rfl⟩ := m_some h
        exact m_R_iret (by decide) (m_opb_of (ins := .ireturn) (len := 1) (tag := 1) (a := 0) (b := 0) (c := 0) (q := 0) (by decide +kernel)) (Or.inl rfl)
      · refine m_R_1 (by decide) (m_opb_of (ins := .if_icmp .lt 10) (len := 3) (tag := 0) (a := 34) (b := 0) (c := 0) (q := 0) (by decide +kernel)) (if_neg c1503) ?_
        exact ok_x_row_27 X d F _ _ _ _ h
def f_m_row_43 (F : Nat)   (s0 : Int32) (m : mM) : Option (Int32 × mM) := some (s0, m)
theorem ok_m_row_43 (X : mX) (d F : Nat) : ∀ (s0 : Int32) (w0 : Option Value) (w1 : Option Value) (m : mM) (r : Int32) (m' : mM), f_m_row_43 F s0 m = some (r, m') → m_R X (d + 1) 340 43 [w0, w1] [.int s0] (SH, m) (some (.int r), (SH, m')) := by
  intro s0 w0 w1 m r m' h
  unfold f_m_row_43 at h
  obtain ⟨rfl, rfl⟩ := m_some h
  exact m_R_iret (by decide) (m_opb_of (ins := .ireturn) (len := 1) (tag := 1) (a := 0) (b := 0) (c := 0) (q := 0) (by decide +kernel)) (Or.inl rfl)
def f_m_row (F : Nat)   (v1 : Int32) (m : mM) : Option (Int32 × mM) := (if (m.1 304 30) = 0 then ((f_m_hush F (-2 : Int32) m).bind fun q1 => some (q1.1, q1.2)) else ((f_m_in F v1 (0 : Int32) ((m.1 304 29) - (1 : Int32)) m).bind fun q2 => (if q2.1 = 0 then ((f_m_hush F (-3 : Int32) q2.2).bind fun q3 => f_m_row_43 F q3.1 q3.2) else (if v1 < 0 ∨ 60 ≤ v1.toNatClampNeg then none else f_m_row_43 F (q2.2.1 317 v1.toNatClampNeg) q2.2))))
theorem ok_m_row (X : mX) (d F : Nat) : ∀ (v1 : Int32)  (m : mM) (r : Int32) (m' : mM), f_m_row F v1 m = some (r, m') → m_R X (d + 1) 340 0 [some (.ref 304), some (.int v1)] [] (SH, m) (some (.int r), (SH, m')) := by
  intro v1 m r m' h
  unfold f_m_row at h
  refine m_R_sg (by decide) [(.aload_n 0, 1, 0, 0, 0, 0, 0), (.getfield 445, 3, 0, 12, 30, 1, 1522)] (by decide +kernel) (show m_sgl X _ _ _ _ _ = some (4, [some (.ref 304), some (.int v1)], [.int (m.1 304 30)], (SH, m.1, m.2)) from rfl) ?_
  rcases m_ite h with ⟨c1505, h⟩ | ⟨c1505, h⟩
  · refine m_R_1 (by decide) (m_opb_of (ins := .ifCond .ne 10) (len := 3) (tag := 0) (a := 14) (b := 0) (c := 0) (q := 0) (by decide +kernel)) (if_pos c1505) ?_
    refine m_R_sg (by decide) [(.aload_n 0, 1, 0, 0, 0, 0, 0), (.bipush (-2), 2, 0, 2, 1, 0, 0)] (by decide +kernel) (show m_sgl X _ _ _ _ _ = some (10, [some (.ref 304), some (.int v1)], [.int (-2 : Int32), .ref 304], (SH, m.1, m.2)) from rfl) ?_
    obtain ⟨q1, hc1, h⟩ := Option.bind_eq_some_iff.mp h
    refine m_R_cV (v := (some (.int q1.1))) (h1 := (SH, q1.2)) (rest := []) (lo' := [some (.ref 304), some (.int (-2 : Int32))]) (ml := 2) (k0 := 304) (by decide) (Or.inl rfl) (m_opb_of (ins := .invokevirtual 215) (len := 3) (tag := 5) (a := 292) (b := 1) (c := 0) (q := 1986) (by decide +kernel)) (by decide +kernel) rfl (show m_isO 292 304 (SH, _) = true from m_isO_of (by decide +kernel)) (Nat.le_of_ble_eq_true rfl) rfl rfl (ok_m_hush X (d + 0) F _ _ _ _ hc1) ?_
    obtain ⟨rfl, rfl⟩ := m_some h
    exact m_R_iret (by decide) (m_opb_of (ins := .ireturn) (len := 1) (tag := 1) (a := 0) (b := 0) (c := 0) (q := 0) (by decide +kernel)) (Or.inl rfl)
  · refine m_R_1 (by decide) (m_opb_of (ins := .ifCond .ne 10) (len := 3) (tag := 0) (a := 14) (b := 0) (c := 0) (q := 0) (by decide +kernel)) (if_neg c1505) ?_
    refine m_R_sg (by decide) [(.iload_n 1, 1, 0, 1, 0, 0, 0), (.iconst 0, 1, 0, 0, 0, 0, 0), (.aload_n 0, 1, 0, 0, 0, 0, 0), (.getfield 448, 3, 0, 12, 29, 0, 1521), (.iconst 1, 1, 0, 1, 0, 0, 0), (.isub, 1, 0, 0, 0, 0, 0)] (by decide +kernel) (show m_sgl X _ _ _ _ _ = some (22, [some (.ref 304), some (.int v1)], [.int ((m.1 304 29) - (1 : Int32)), .int (0 : Int32), .int v1], (SH, m.1, m.2)) from rfl) ?_
    obtain ⟨q2, hc2, h⟩ := Option.bind_eq_some_iff.mp h
    refine m_R_cS (v := (some (.int q2.1))) (h1 := (SH, q2.2)) (rest := []) (lo' := [some (.int v1), some (.int (0 : Int32)), some (.int ((m.1 304 29) - (1 : Int32)))]) (ml := 3) (by decide) (m_opb_of (ins := .invokestatic 57) (len := 3) (tag := 4) (a := 201) (b := 3) (c := 0) (q := 1590) (by decide +kernel)) (by decide +kernel) (Nat.le_of_ble_eq_true rfl) rfl (Nat.le_of_ble_eq_true rfl) rfl rfl (ok_m_in X (d + 0) F _ _ _ _ _ _ hc2) ?_
    rcases m_ite h with ⟨c1506, h⟩ | ⟨c1506, h⟩
    · refine m_R_1 (by decide) (m_opb_of (ins := .ifCond .eq 12) (len := 3) (tag := 0) (a := 37) (b := 0) (c := 0) (q := 0) (by decide +kernel)) (if_pos c1506) ?_
      refine m_R_sg (by decide) [(.aload_n 0, 1, 0, 0, 0, 0, 0), (.bipush (-3), 2, 0, 3, 1, 0, 0)] (by decide +kernel) (show m_sgl X _ _ _ _ _ = some (40, [some (.ref 304), some (.int v1)], [.int (-3 : Int32), .ref 304], (SH, q2.2.1, q2.2.2)) from rfl) ?_
      obtain ⟨q3, hc3, h⟩ := Option.bind_eq_some_iff.mp h
      refine m_R_cV (v := (some (.int q3.1))) (h1 := (SH, q3.2)) (rest := []) (lo' := [some (.ref 304), some (.int (-3 : Int32))]) (ml := 2) (k0 := 304) (by decide) (Or.inl rfl) (m_opb_of (ins := .invokevirtual 215) (len := 3) (tag := 5) (a := 292) (b := 1) (c := 0) (q := 1986) (by decide +kernel)) (by decide +kernel) rfl (show m_isO 292 304 (SH, _) = true from m_isO_of (by decide +kernel)) (Nat.le_of_ble_eq_true rfl) rfl rfl (ok_m_hush X (d + 0) F _ _ _ _ hc3) ?_
      exact ok_m_row_43 X d F _ _ _ _ _ _ h
    · refine m_R_1 (by decide) (m_opb_of (ins := .ifCond .eq 12) (len := 3) (tag := 0) (a := 37) (b := 0) (c := 0) (q := 0) (by decide +kernel)) (if_neg c1506) ?_
      refine m_R_sg (by decide) [(.aload_n 0, 1, 0, 0, 0, 0, 0), (.getfield 51, 3, 0, 12, 28, 3, 1520), (.iload_n 1, 1, 0, 1, 0, 0, 0)] (by decide +kernel) (show m_sgl X _ _ _ _ _ = some (33, [some (.ref 304), some (.int v1)], [.int v1, .ref 317], (SH, q2.2.1, q2.2.2)) from rfl) ?_
      obtain ⟨c1507, h⟩ := m_ite_n h
      refine m_R_1 (by decide) (m_opb_of (ins := .iaload) (len := 1) (tag := 0) (a := 0) (b := 0) (c := 0) (q := 0) (by decide +kernel)) (m_s_iald sh_317 (by decide) c1507) ?_
      refine m_R_sg (by decide) [(.goto 9, 3, 0, 43, 0, 0, 0)] (by decide +kernel) (show m_sgl X _ _ _ _ _ = some (43, [some (.ref 304), some (.int v1)], [.int (q2.2.1 317 v1.toNatClampNeg)], (SH, q2.2.1, q2.2.2)) from rfl) ?_
      exact ok_m_row_43 X d F _ _ _ _ _ _ h
def f_x_copy_54 (F : Nat)    (m : mM) : Option (Int32 × mM) := ((f_x_refuse F (-6 : Int32) m).bind fun q3 => some (q3.1, q3.2))
theorem ok_x_copy_54 (X : mX) (d F : Nat) : ∀  (w1 : Option Value) (w2 : Option Value) (w3 : Option Value) (m : mM) (r : Int32) (m' : mM), f_x_copy_54 F  m = some (r, m') → m_R X (d + 1) 196 54 [some (.ref 0), w1, w2, w3] [] (SH, m) (some (.int r), (SH, m')) := by
  intro w1 w2 w3 m r m' h
  unfold f_x_copy_54 at h
  refine m_R_sg (by decide) [(.aload_n 0, 1, 0, 0, 0, 0, 0), (.bipush (-6), 2, 0, 6, 1, 0, 0)] (by decide +kernel) (show m_sgl X _ _ _ _ _ = some (57, [some (.ref 0), w1, w2, w3], [.int (-6 : Int32), .ref 0], (SH, m.1, m.2)) from rfl) ?_
  obtain ⟨q3, hc3, h⟩ := Option.bind_eq_some_iff.mp h
  refine m_R_cV (v := (some (.int q3.1))) (h1 := (SH, q3.2)) (rest := []) (lo' := [some (.ref 0), some (.int (-6 : Int32))]) (ml := 2) (k0 := 0) (by decide) (Or.inl rfl) (m_opb_of (ins := .invokevirtual 76) (len := 3) (tag := 5) (a := 14) (b := 1) (c := 0) (q := 671) (by decide +kernel)) (by decide +kernel) rfl (show m_isO 14 0 (SH, _) = true from m_isO_of (by decide +kernel)) (Nat.le_of_ble_eq_true rfl) rfl rfl (ok_x_refuse X (d + 0) F _ _ _ _ hc3) ?_
  obtain ⟨rfl, rfl⟩ := m_some h
  exact m_R_iret (by decide) (m_opb_of (ins := .ireturn) (len := 1) (tag := 1) (a := 0) (b := 0) (c := 0) (q := 0) (by decide +kernel)) (Or.inl rfl)
def f_x_copy (F : Nat)   (v1 : Int32) (v2 : Int32) (v3 : Int32) (m : mM) : Option (Int32 × mM) := (if (m.1 0 10) = (-1 : Int32) then ((f_x_refuse F (-2 : Int32) m).bind fun q1 => some (q1.1, q1.2)) else (if 0 ≤ v3 then (if v1 < 0 then f_x_copy_54 F m else (if v2 < 0 then f_x_copy_54 F m else (if ((m.1 0 10) - v3) < v1 then f_x_copy_54 F m else (if v2 ≤ ((m.1 0 10) - v3) then (if v1 < 0 ∨ v2 < 0 ∨ v3 < 0 ∨ 60 < v1.toNatClampNeg + v3.toNatClampNeg ∨ 60 < v2.toNatClampNeg + v3.toNatClampNeg then none else some (v3, ((m_row m.1 117 (va_cpy (m.1 117) (m.1 117) v1.toNatClampNeg v2.toNatClampNeg v3.toNatClampNeg)), m.2))) else f_x_copy_54 F m)))) else ((f_x_refuse F (-4 : Int32) m).bind fun q2 => some (q2.1, q2.2))))
theorem ok_x_copy (X : mX) (d F : Nat) : ∀ (v1 : Int32) (v2 : Int32) (v3 : Int32)  (m : mM) (r : Int32) (m' : mM), f_x_copy F v1 v2 v3 m = some (r, m') → m_R X (d + 1) 196 0 [some (.ref 0), some (.int v1), some (.int v2), some (.int v3)] [] (SH, m) (some (.int r), (SH, m')) := by
  intro v1 v2 v3 m r m' h
  unfold f_x_copy at h
  refine m_R_sg (by decide) [(.aload_n 0, 1, 0, 0, 0, 0, 0), (.getfield 63, 3, 0, 11, 10, 0, 640), (.iconst (-1), 1, 0, 1, 1, 0, 0)] (by decide +kernel) (show m_sgl X _ _ _ _ _ = some (5, [some (.ref 0), some (.int v1), some (.int v2), some (.int v3)], [.int (-1 : Int32), .int (m.1 0 10)], (SH, m.1, m.2)) from rfl) ?_
  rcases m_ite h with ⟨c1508, h⟩ | ⟨c1508, h⟩
  · refine m_R_1 (by decide) (m_opb_of (ins := .if_icmp .ne 10) (len := 3) (tag := 0) (a := 15) (b := 0) (c := 0) (q := 0) (by decide +kernel)) (if_pos c1508) ?_
    refine m_R_sg (by decide) [(.aload_n 0, 1, 0, 0, 0, 0, 0), (.bipush (-2), 2, 0, 2, 1, 0, 0)] (by decide +kernel) (show m_sgl X _ _ _ _ _ = some (11, [some (.ref 0), some (.int v1), some (.int v2), some (.int v3)], [.int (-2 : Int32), .ref 0], (SH, m.1, m.2)) from rfl) ?_
    obtain ⟨q1, hc1, h⟩ := Option.bind_eq_some_iff.mp h
    refine m_R_cV (v := (some (.int q1.1))) (h1 := (SH, q1.2)) (rest := []) (lo' := [some (.ref 0), some (.int (-2 : Int32))]) (ml := 2) (k0 := 0) (by decide) (Or.inl rfl) (m_opb_of (ins := .invokevirtual 76) (len := 3) (tag := 5) (a := 14) (b := 1) (c := 0) (q := 671) (by decide +kernel)) (by decide +kernel) rfl (show m_isO 14 0 (SH, _) = true from m_isO_of (by decide +kernel)) (Nat.le_of_ble_eq_true rfl) rfl rfl (ok_x_refuse X (d + 0) F _ _ _ _ hc1) ?_
    obtain ⟨rfl, rfl⟩ := m_some h
    exact m_R_iret (by decide) (m_opb_of (ins := .ireturn) (len := 1) (tag := 1) (a := 0) (b := 0) (c := 0) (q := 0) (by decide +kernel)) (Or.inl rfl)
  · refine m_R_1 (by decide) (m_opb_of (ins := .if_icmp .ne 10) (len := 3) (tag := 0) (a := 15) (b := 0) (c := 0) (q := 0) (by decide +kernel)) (if_neg c1508) ?_
    refine m_R_sg (by decide) [(.iload_n 3, 1, 0, 3, 0, 0, 0)] (by decide +kernel) (show m_sgl X _ _ _ _ _ = some (16, [some (.ref 0), some (.int v1), some (.int v2), some (.int v3)], [.int v3], (SH, m.1, m.2)) from rfl) ?_
    rcases m_ite h with ⟨c1509, h⟩ | ⟨c1509, h⟩
    · refine m_R_1 (by decide) (m_opb_of (ins := .ifCond .ge 10) (len := 3) (tag := 0) (a := 26) (b := 0) (c := 0) (q := 0) (by decide +kernel)) (if_pos c1509) ?_
      refine m_R_sg (by decide) [(.iload_n 1, 1, 0, 1, 0, 0, 0)] (by decide +kernel) (show m_sgl X _ _ _ _ _ = some (27, [some (.ref 0), some (.int v1), some (.int v2), some (.int v3)], [.int v1], (SH, m.1, m.2)) from rfl) ?_
      rcases m_ite h with ⟨c1510, h⟩ | ⟨c1510, h⟩
      · refine m_R_1 (by decide) (m_opb_of (ins := .ifCond .lt 27) (len := 3) (tag := 0) (a := 54) (b := 0) (c := 0) (q := 0) (by decide +kernel)) (if_pos c1510) ?_
        exact ok_x_copy_54 X d F _ _ _ _ _ _ h
      · refine m_R_1 (by decide) (m_opb_of (ins := .ifCond .lt 27) (len := 3) (tag := 0) (a := 54) (b := 0) (c := 0) (q := 0) (by decide +kernel)) (if_neg c1510) ?_
        refine m_R_sg (by decide) [(.iload_n 2, 1, 0, 2, 0, 0, 0)] (by decide +kernel) (show m_sgl X _ _ _ _ _ = some (31, [some (.ref 0), some (.int v1), some (.int v2), some (.int v3)], [.int v2], (SH, m.1, m.2)) from rfl) ?_
        rcases m_ite h with ⟨c1511, h⟩ | ⟨c1511, h⟩
        · refine m_R_1 (by decide) (m_opb_of (ins := .ifCond .lt 23) (len := 3) (tag := 0) (a := 54) (b := 0) (c := 0) (q := 0) (by decide +kernel)) (if_pos c1511) ?_
          exact ok_x_copy_54 X d F _ _ _ _ _ _ h
        · refine m_R_1 (by decide) (m_opb_of (ins := .ifCond .lt 23) (len := 3) (tag := 0) (a := 54) (b := 0) (c := 0) (q := 0) (by decide +kernel)) (if_neg c1511) ?_
          refine m_R_sg (by decide) [(.iload_n 1, 1, 0, 1, 0, 0, 0), (.aload_n 0, 1, 0, 0, 0, 0, 0), (.getfield 63, 3, 0, 11, 10, 0, 640), (.iload_n 3, 1, 0, 3, 0, 0, 0), (.isub, 1, 0, 0, 0, 0, 0)] (by decide +kernel) (show m_sgl X _ _ _ _ _ = some (41, [some (.ref 0), some (.int v1), some (.int v2), some (.int v3)], [.int ((m.1 0 10) - v3), .int v1], (SH, m.1, m.2)) from rfl) ?_
          rcases m_ite h with ⟨c1512, h⟩ | ⟨c1512, h⟩
          · refine m_R_1 (by decide) (m_opb_of (ins := .if_icmp .gt 13) (len := 3) (tag := 0) (a := 54) (b := 0) (c := 0) (q := 0) (by decide +kernel)) (if_pos c1512) ?_
            exact ok_x_copy_54 X d F _ _ _ _ _ _ h
          · refine m_R_1 (by decide) (m_opb_of (ins := .if_icmp .gt 13) (len := 3) (tag := 0) (a := 54) (b := 0) (c := 0) (q := 0) (by decide +kernel)) (if_neg c1512) ?_
            refine m_R_sg (by decide) [(.iload_n 2, 1, 0, 2, 0, 0, 0), (.aload_n 0, 1, 0, 0, 0, 0, 0), (.getfield 63, 3, 0, 11, 10, 0, 640), (.iload_n 3, 1, 0, 3, 0, 0, 0), (.isub, 1, 0, 0, 0, 0, 0)] (by decide +kernel) (show m_sgl X _ _ _ _ _ = some (51, [some (.ref 0), some (.int v1), some (.int v2), some (.int v3)], [.int ((m.1 0 10) - v3), .int v2], (SH, m.1, m.2)) from rfl) ?_
            rcases m_ite h with ⟨c1513, h⟩ | ⟨c1513, h⟩
            · refine m_R_1 (by decide) (m_opb_of (ins := .if_icmp .le 10) (len := 3) (tag := 0) (a := 61) (b := 0) (c := 0) (q := 0) (by decide +kernel)) (if_pos c1513) ?_
              refine m_R_sg (by decide) [(.aload_n 0, 1, 0, 0, 0, 0, 0), (.getfield 53, 3, 0, 11, 7, 3, 637), (.iload_n 1, 1, 0, 1, 0, 0, 0), (.aload_n 0, 1, 0, 0, 0, 0, 0), (.getfield 53, 3, 0, 11, 7, 3, 637), (.iload_n 2, 1, 0, 2, 0, 0, 0), (.iload_n 3, 1, 0, 3, 0, 0, 0)] (by decide +kernel) (show m_sgl X _ _ _ _ _ = some (72, [some (.ref 0), some (.int v1), some (.int v2), some (.int v3)], [.int v3, .int v2, .ref 117, .int v1, .ref 117], (SH, m.1, m.2)) from rfl) ?_
              obtain ⟨c0, h⟩ := m_ite_n h
              refine m_R_cpy (by decide) (m_opb_of (ins := .invokestatic 452) (len := 3) (tag := 8) (a := 0) (b := 0) (c := 0) (q := 1391) (by decide +kernel)) (Nat.le_of_ble_eq_true rfl) (m_cpy_of sh_117 sh_117 c0) ?_
              refine m_R_sg (by decide) [(.iload_n 3, 1, 0, 3, 0, 0, 0)] (by decide +kernel) (show m_sgl X _ _ _ _ _ = some (76, [some (.ref 0), some (.int v1), some (.int v2), some (.int v3)], [.int v3], (SH, (m_row m.1 117 (va_cpy (m.1 117) (m.1 117) v1.toNatClampNeg v2.toNatClampNeg v3.toNatClampNeg)), m.2)) from rfl) ?_
              obtain ⟨rfl, rfl⟩ := m_some h
              exact m_R_iret (by decide) (m_opb_of (ins := .ireturn) (len := 1) (tag := 1) (a := 0) (b := 0) (c := 0) (q := 0) (by decide +kernel)) (Or.inl rfl)
            · refine m_R_1 (by decide) (m_opb_of (ins := .if_icmp .le 10) (len := 3) (tag := 0) (a := 61) (b := 0) (c := 0) (q := 0) (by decide +kernel)) (if_neg c1513) ?_
              exact ok_x_copy_54 X d F _ _ _ _ _ _ h
    · refine m_R_1 (by decide) (m_opb_of (ins := .ifCond .ge 10) (len := 3) (tag := 0) (a := 26) (b := 0) (c := 0) (q := 0) (by decide +kernel)) (if_neg c1509) ?_
      refine m_R_sg (by decide) [(.aload_n 0, 1, 0, 0, 0, 0, 0), (.bipush (-4), 2, 0, 4, 1, 0, 0)] (by decide +kernel) (show m_sgl X _ _ _ _ _ = some (22, [some (.ref 0), some (.int v1), some (.int v2), some (.int v3)], [.int (-4 : Int32), .ref 0], (SH, m.1, m.2)) from rfl) ?_
      obtain ⟨q2, hc2, h⟩ := Option.bind_eq_some_iff.mp h
      refine m_R_cV (v := (some (.int q2.1))) (h1 := (SH, q2.2)) (rest := []) (lo' := [some (.ref 0), some (.int (-4 : Int32))]) (ml := 2) (k0 := 0) (by decide) (Or.inl rfl) (m_opb_of (ins := .invokevirtual 76) (len := 3) (tag := 5) (a := 14) (b := 1) (c := 0) (q := 671) (by decide +kernel)) (by decide +kernel) rfl (show m_isO 14 0 (SH, _) = true from m_isO_of (by decide +kernel)) (Nat.le_of_ble_eq_true rfl) rfl rfl (ok_x_refuse X (d + 0) F _ _ _ _ hc2) ?_
      obtain ⟨rfl, rfl⟩ := m_some h
      exact m_R_iret (by decide) (m_opb_of (ins := .ireturn) (len := 1) (tag := 1) (a := 0) (b := 0) (c := 0) (q := 0) (by decide +kernel)) (Or.inl rfl)
def f_m_copy_53 (F : Nat)    (m : mM) : Option (Int32 × mM) := ((f_m_refuse F (-6 : Int32) m).bind fun q3 => some (q3.1, q3.2))
theorem ok_m_copy_53 (X : mX) (d F : Nat) : ∀  (w1 : Option Value) (w2 : Option Value) (w3 : Option Value) (w4 : Option Value) (m : mM) (r : Int32) (m' : mM), f_m_copy_53 F  m = some (r, m') → m_R X (d + 1) 43 53 [some (.ref 304), w1, w2, w3, w4] [] (SH, m) (some (.int r), (SH, m')) := by
  intro w1 w2 w3 w4 m r m' h
  unfold f_m_copy_53 at h
  refine m_R_sg (by decide) [(.aload_n 0, 1, 0, 0, 0, 0, 0), (.bipush (-6), 2, 0, 6, 1, 0, 0)] (by decide +kernel) (show m_sgl X _ _ _ _ _ = some (56, [some (.ref 304), w1, w2, w3, w4], [.int (-6 : Int32), .ref 304], (SH, m.1, m.2)) from rfl) ?_
  obtain ⟨q3, hc3, h⟩ := Option.bind_eq_some_iff.mp h
  refine m_R_cV (v := (some (.int q3.1))) (h1 := (SH, q3.2)) (rest := []) (lo' := [some (.ref 304), some (.int (-6 : Int32))]) (ml := 2) (k0 := 304) (by decide) (Or.inl rfl) (m_opb_of (ins := .invokevirtual 61) (len := 3) (tag := 5) (a := 202) (b := 1) (c := 0) (q := 1593) (by decide +kernel)) (by decide +kernel) rfl (show m_isO 202 304 (SH, _) = true from m_isO_of (by decide +kernel)) (Nat.le_of_ble_eq_true rfl) rfl rfl (ok_m_refuse X (d + 0) F _ _ _ _ hc3) ?_
  obtain ⟨rfl, rfl⟩ := m_some h
  exact m_R_iret (by decide) (m_opb_of (ins := .ireturn) (len := 1) (tag := 1) (a := 0) (b := 0) (c := 0) (q := 0) (by decide +kernel)) (Or.inl rfl)
def f_m_copy_137 (F : Nat)   (v3 : Int32) (m : mM) : Option (Int32 × mM) := some (v3, m)
theorem ok_m_copy_137 (X : mX) (d F : Nat) : ∀ (v3 : Int32) (w0 : Option Value) (w1 : Option Value) (w2 : Option Value) (w4 : Option Value) (m : mM) (r : Int32) (m' : mM), f_m_copy_137 F v3 m = some (r, m') → m_R X (d + 1) 43 137 [w0, w1, w2, some (.int v3), w4] [] (SH, m) (some (.int r), (SH, m')) := by
  intro v3 w0 w1 w2 w4 m r m' h
  unfold f_m_copy_137 at h
  refine m_R_sg (by decide) [(.iload_n 3, 1, 0, 3, 0, 0, 0)] (by decide +kernel) (show m_sgl X _ _ _ _ _ = some (138, [w0, w1, w2, some (.int v3), w4], [.int v3], (SH, m.1, m.2)) from rfl) ?_
  obtain ⟨rfl, rfl⟩ := m_some h
  exact m_R_iret (by decide) (m_opb_of (ins := .ireturn) (len := 1) (tag := 1) (a := 0) (b := 0) (c := 0) (q := 0) (by decide +kernel)) (Or.inl rfl)
def f_m_copy_103 (F : Nat)   : Nat → Int32 → Int32 → Int32 → Int32 → mM → Option (Int32 × mM)
  | 0, _, _, _, _, _ => none
  | n + 1, v1, v2, v3, v4, m => (if v4 < 0 then f_m_copy_137 F v3 m else (if v2 ≤ v1 then f_m_copy_137 F v3 m else (if (v1 + v4) < 0 ∨ 60 ≤ (v1 + v4).toNatClampNeg then none else (if (v2 + v4) < 0 ∨ 60 ≤ (v2 + v4).toNatClampNeg then none else f_m_copy_103 F n v1 v2 v3 (v4 + (-1 : Int32)) ((m_up m.1 317 (v2 + v4).toNatClampNeg (m.1 317 (v1 + v4).toNatClampNeg)), m.2)))))
theorem ok_m_copy_103 (X : mX) (d F : Nat) : ∀ (n : Nat) (v1 : Int32) (v2 : Int32) (v3 : Int32) (v4 : Int32)  (m : mM) (r : Int32) (m' : mM), f_m_copy_103 F n v1 v2 v3 v4 m = some (r, m') → m_R X (d + 1) 43 103 [some (.ref 304), some (.int v1), some (.int v2), some (.int v3), some (.int v4)] [] (SH, m) (some (.int r), (SH, m')) := by
  intro n
  induction n with
  | zero => intro v1 v2 v3 v4 m r m' h; cases h
  | succ n ih =>
    intro v1 v2 v3 v4 m r m' h
    simp only [f_m_copy_103] at h
    refine m_R_sg (by decide) [(.iload 4, 2, 0, 4, 0, 0, 0)] (by decide +kernel) (show m_sgl X _ _ _ _ _ = some (105, [some (.ref 304), some (.int v1), some (.int v2), some (.int v3), some (.int v4)], [.int v4], (SH, m.1, m.2)) from rfl) ?_
    rcases m_ite h with ⟨c1514, h⟩ | ⟨c1514, h⟩
    · refine m_R_1 (by decide) (m_opb_of (ins := .ifCond .lt 32) (len := 3) (tag := 0) (a := 137) (b := 0) (c := 0) (q := 0) (by decide +kernel)) (if_pos c1514) ?_
      exact ok_m_copy_137 X d F _ _ _ _ _ _ _ _ h
    · refine m_R_1 (by decide) (m_opb_of (ins := .ifCond .lt 32) (len := 3) (tag := 0) (a := 137) (b := 0) (c := 0) (q := 0) (by decide +kernel)) (if_neg c1514) ?_
      refine m_R_sg (by decide) [(.iload_n 1, 1, 0, 1, 0, 0, 0), (.iload_n 2, 1, 0, 2, 0, 0, 0)] (by decide +kernel) (show m_sgl X _ _ _ _ _ = some (110, [some (.ref 304), some (.int v1), some (.int v2), some (.int v3), some (.int v4)], [.int v2, .int v1], (SH, m.1, m.2)) from rfl) ?_
      rcases m_ite h with ⟨c1515, h⟩ | ⟨c1515, h⟩
      · refine m_R_1 (by decide) (m_opb_of (ins := .if_icmp .ge 27) (len := 3) (tag := 0) (a := 137) (b := 0) (c := 0) (q := 0) (by decide +kernel)) (if_pos c1515) ?_
        exact ok_m_copy_137 X d F _ _ _ _ _ _ _ _ h
      · refine m_R_1 (by decide) (m_opb_of (ins := .if_icmp .ge 27) (len := 3) (tag := 0) (a := 137) (b := 0) (c := 0) (q := 0) (by decide +kernel)) (if_neg c1515) ?_
        refine m_R_sg (by decide) [(.aload_n 0, 1, 0, 0, 0, 0, 0), (.getfield 51, 3, 0, 12, 28, 3, 1520), (.iload_n 2, 1, 0, 2, 0, 0, 0), (.iload 4, 2, 0, 4, 0, 0, 0), (.iadd, 1, 0, 0, 0, 0, 0), (.aload_n 0, 1, 0, 0, 0, 0, 0), (.getfield 51, 3, 0, 12, 28, 3, 1520), (.iload_n 1, 1, 0, 1, 0, 0, 0), (.iload 4, 2, 0, 4, 0, 0, 0), (.iadd, 1, 0, 0, 0, 0, 0)] (by decide +kernel) (show m_sgl X _ _ _ _ _ = some (129, [some (.ref 304), some (.int v1), some (.int v2), some (.int v3), some (.int v4)], [.int (v1 + v4), .ref 317, .int (v2 + v4), .ref 317], (SH, m.1, m.2)) from rfl) ?_
        obtain ⟨c1516, h⟩ := m_ite_n h
        refine m_R_1 (by decide) (m_opb_of (ins := .iaload) (len := 1) (tag := 0) (a := 0) (b := 0) (c := 0) (q := 0) (by decide +kernel)) (m_s_iald sh_317 (by decide) c1516) ?_
        obtain ⟨c1517, h⟩ := m_ite_n h
        refine m_R_1 (by decide) (m_opb_of (ins := .iastore) (len := 1) (tag := 0) (a := 0) (b := 0) (c := 0) (q := 0) (by decide +kernel)) (m_s_iast sh_317 c1517) ?_
        refine m_R_sg (by decide) [(.iinc 4 (-1), 3, 0, 4, 1, 1, 0), (.goto (-31), 3, 0, 103, 0, 0, 0)] (by decide +kernel) (show m_sgl X _ _ _ _ _ = some (103, [some (.ref 304), some (.int v1), some (.int v2), some (.int v3), some (.int (v4 + (-1 : Int32)))], [], (SH, (m_up m.1 317 (v2 + v4).toNatClampNeg (m.1 317 (v1 + v4).toNatClampNeg)), m.2)) from rfl) ?_
        exact ih _ _ _ _ _ _ _ h
def f_m_copy_98 (F : Nat)   (v1 : Int32) (v2 : Int32) (v3 : Int32) (m : mM) : Option (Int32 × mM) := f_m_copy_103 F F v1 v2 v3 (v3 - (1 : Int32)) m
theorem ok_m_copy_98 (X : mX) (d F : Nat) : ∀ (v1 : Int32) (v2 : Int32) (v3 : Int32) (w4 : Option Value) (m : mM) (r : Int32) (m' : mM), f_m_copy_98 F v1 v2 v3 m = some (r, m') → m_R X (d + 1) 43 98 [some (.ref 304), some (.int v1), some (.int v2), some (.int v3), w4] [] (SH, m) (some (.int r), (SH, m')) := by
  intro v1 v2 v3 w4 m r m' h
  unfold f_m_copy_98 at h
  refine m_R_sg (by decide) [(.iload_n 3, 1, 0, 3, 0, 0, 0), (.iconst 1, 1, 0, 1, 0, 0, 0), (.isub, 1, 0, 0, 0, 0, 0), (.istore 4, 2, 0, 4, 0, 0, 0)] (by decide +kernel) (show m_sgl X _ _ _ _ _ = some (103, [some (.ref 304), some (.int v1), some (.int v2), some (.int v3), some (.int (v3 - (1 : Int32)))], [], (SH, m.1, m.2)) from rfl) ?_
  exact ok_m_copy_103 X d F F _ _ _ _ _ _ _ h
def f_m_copy_63 (F : Nat)   : Nat → Int32 → Int32 → Int32 → Int32 → mM → Option (Int32 × mM)
  | 0, _, _, _, _, _ => none
  | n + 1, v1, v2, v3, v4, m => (if v3 ≤ v4 then f_m_copy_98 F v1 v2 v3 m else (if v1 < v2 then f_m_copy_98 F v1 v2 v3 m else (if (v1 + v4) < 0 ∨ 60 ≤ (v1 + v4).toNatClampNeg then none else (if (v2 + v4) < 0 ∨ 60 ≤ (v2 + v4).toNatClampNeg then none else f_m_copy_63 F n v1 v2 v3 (v4 + (1 : Int32)) ((m_up m.1 317 (v2 + v4).toNatClampNeg (m.1 317 (v1 + v4).toNatClampNeg)), m.2)))))
theorem ok_m_copy_63 (X : mX) (d F : Nat) : ∀ (n : Nat) (v1 : Int32) (v2 : Int32) (v3 : Int32) (v4 : Int32)  (m : mM) (r : Int32) (m' : mM), f_m_copy_63 F n v1 v2 v3 v4 m = some (r, m') → m_R X (d + 1) 43 63 [some (.ref 304), some (.int v1), some (.int v2), some (.int v3), some (.int v4)] [] (SH, m) (some (.int r), (SH, m')) := by
  intro n
  induction n with
  | zero => intro v1 v2 v3 v4 m r m' h; cases h
  | succ n ih =>
    intro v1 v2 v3 v4 m r m' h
    simp only [f_m_copy_63] at h
    refine m_R_sg (by decide) [(.iload 4, 2, 0, 4, 0, 0, 0), (.iload_n 3, 1, 0, 3, 0, 0, 0)] (by decide +kernel) (show m_sgl X _ _ _ _ _ = some (66, [some (.ref 304), some (.int v1), some (.int v2), some (.int v3), some (.int v4)], [.int v3, .int v4], (SH, m.1, m.2)) from rfl) ?_
    rcases m_ite h with ⟨c1518, h⟩ | ⟨c1518, h⟩
    · refine m_R_1 (by decide) (m_opb_of (ins := .if_icmp .ge 32) (len := 3) (tag := 0) (a := 98) (b := 0) (c := 0) (q := 0) (by decide +kernel)) (if_pos c1518) ?_
      exact ok_m_copy_98 X d F _ _ _ _ _ _ _ h
    · refine m_R_1 (by decide) (m_opb_of (ins := .if_icmp .ge 32) (len := 3) (tag := 0) (a := 98) (b := 0) (c := 0) (q := 0) (by decide +kernel)) (if_neg c1518) ?_
      refine m_R_sg (by decide) [(.iload_n 1, 1, 0, 1, 0, 0, 0), (.iload_n 2, 1, 0, 2, 0, 0, 0)] (by decide +kernel) (show m_sgl X _ _ _ _ _ = some (71, [some (.ref 304), some (.int v1), some (.int v2), some (.int v3), some (.int v4)], [.int v2, .int v1], (SH, m.1, m.2)) from rfl) ?_
      rcases m_ite h with ⟨c1519, h⟩ | ⟨c1519, h⟩
      · refine m_R_1 (by decide) (m_opb_of (ins := .if_icmp .lt 27) (len := 3) (tag := 0) (a := 98) (b := 0) (c := 0) (q := 0) (by decide +kernel)) (if_pos c1519) ?_
        exact ok_m_copy_98 X d F _ _ _ _ _ _ _ h
      · refine m_R_1 (by decide) (m_opb_of (ins := .if_icmp .lt 27) (len := 3) (tag := 0) (a := 98) (b := 0) (c := 0) (q := 0) (by decide +kernel)) (if_neg c1519) ?_
        refine m_R_sg (by decide) [(.aload_n 0, 1, 0, 0, 0, 0, 0), (.getfield 51, 3, 0, 12, 28, 3, 1520), (.iload_n 2, 1, 0, 2, 0, 0, 0), (.iload 4, 2, 0, 4, 0, 0, 0), (.iadd, 1, 0, 0, 0, 0, 0), (.aload_n 0, 1, 0, 0, 0, 0, 0), (.getfield 51, 3, 0, 12, 28, 3, 1520), (.iload_n 1, 1, 0, 1, 0, 0, 0), (.iload 4, 2, 0, 4, 0, 0, 0), (.iadd, 1, 0, 0, 0, 0, 0)] (by decide +kernel) (show m_sgl X _ _ _ _ _ = some (90, [some (.ref 304), some (.int v1), some (.int v2), some (.int v3), some (.int v4)], [.int (v1 + v4), .ref 317, .int (v2 + v4), .ref 317], (SH, m.1, m.2)) from rfl) ?_
        obtain ⟨c1520, h⟩ := m_ite_n h
        refine m_R_1 (by decide) (m_opb_of (ins := .iaload) (len := 1) (tag := 0) (a := 0) (b := 0) (c := 0) (q := 0) (by decide +kernel)) (m_s_iald sh_317 (by decide) c1520) ?_
        obtain ⟨c1521, h⟩ := m_ite_n h
        refine m_R_1 (by decide) (m_opb_of (ins := .iastore) (len := 1) (tag := 0) (a := 0) (b := 0) (c := 0) (q := 0) (by decide +kernel)) (m_s_iast sh_317 c1521) ?_
        refine m_R_sg (by decide) [(.iinc 4 1, 3, 0, 4, 1, 0, 0), (.goto (-32), 3, 0, 63, 0, 0, 0)] (by decide +kernel) (show m_sgl X _ _ _ _ _ = some (63, [some (.ref 304), some (.int v1), some (.int v2), some (.int v3), some (.int (v4 + (1 : Int32)))], [], (SH, (m_up m.1 317 (v2 + v4).toNatClampNeg (m.1 317 (v1 + v4).toNatClampNeg)), m.2)) from rfl) ?_
        exact ih _ _ _ _ _ _ _ h
def f_m_copy (F : Nat)   (v1 : Int32) (v2 : Int32) (v3 : Int32) (m : mM) : Option (Int32 × mM) := (if (m.1 304 30) = 0 then ((f_m_refuse F (-2 : Int32) m).bind fun q1 => some (q1.1, q1.2)) else (if 0 ≤ v3 then (if v1 < 0 then f_m_copy_53 F m else (if v2 < 0 then f_m_copy_53 F m else (if ((m.1 304 29) - v3) < v1 then f_m_copy_53 F m else (if v2 ≤ ((m.1 304 29) - v3) then f_m_copy_63 F F v1 v2 v3 (0 : Int32) m else f_m_copy_53 F m)))) else ((f_m_refuse F (-4 : Int32) m).bind fun q2 => some (q2.1, q2.2))))
theorem ok_m_copy (X : mX) (d F : Nat) : ∀ (v1 : Int32) (v2 : Int32) (v3 : Int32)  (m : mM) (r : Int32) (m' : mM), f_m_copy F v1 v2 v3 m = some (r, m') → m_R X (d + 1) 43 0 [some (.ref 304), some (.int v1), some (.int v2), some (.int v3), none] [] (SH, m) (some (.int r), (SH, m')) := by
  intro v1 v2 v3 m r m' h
  unfold f_m_copy at h
  refine m_R_sg (by decide) [(.aload_n 0, 1, 0, 0, 0, 0, 0), (.getfield 445, 3, 0, 12, 30, 1, 1522)] (by decide +kernel) (show m_sgl X _ _ _ _ _ = some (4, [some (.ref 304), some (.int v1), some (.int v2), some (.int v3), none], [.int (m.1 304 30)], (SH, m.1, m.2)) from rfl) ?_
  rcases m_ite h with ⟨c1522, h⟩ | ⟨c1522, h⟩
  · refine m_R_1 (by decide) (m_opb_of (ins := .ifCond .ne 10) (len := 3) (tag := 0) (a := 14) (b := 0) (c := 0) (q := 0) (by decide +kernel)) (if_pos c1522) ?_
    refine m_R_sg (by decide) [(.aload_n 0, 1, 0, 0, 0, 0, 0), (.bipush (-2), 2, 0, 2, 1, 0, 0)] (by decide +kernel) (show m_sgl X _ _ _ _ _ = some (10, [some (.ref 304), some (.int v1), some (.int v2), some (.int v3), none], [.int (-2 : Int32), .ref 304], (SH, m.1, m.2)) from rfl) ?_
    obtain ⟨q1, hc1, h⟩ := Option.bind_eq_some_iff.mp h
    refine m_R_cV (v := (some (.int q1.1))) (h1 := (SH, q1.2)) (rest := []) (lo' := [some (.ref 304), some (.int (-2 : Int32))]) (ml := 2) (k0 := 304) (by decide) (Or.inl rfl) (m_opb_of (ins := .invokevirtual 61) (len := 3) (tag := 5) (a := 202) (b := 1) (c := 0) (q := 1593) (by decide +kernel)) (by decide +kernel) rfl (show m_isO 202 304 (SH, _) = true from m_isO_of (by decide +kernel)) (Nat.le_of_ble_eq_true rfl) rfl rfl (ok_m_refuse X (d + 0) F _ _ _ _ hc1) ?_
    obtain ⟨rfl, rfl⟩ := m_some h
    exact m_R_iret (by decide) (m_opb_of (ins := .ireturn) (len := 1) (tag := 1) (a := 0) (b := 0) (c := 0) (q := 0) (by decide +kernel)) (Or.inl rfl)
  · refine m_R_1 (by decide) (m_opb_of (ins := .ifCond .ne 10) (len := 3) (tag := 0) (a := 14) (b := 0) (c := 0) (q := 0) (by decide +kernel)) (if_neg c1522) ?_
    refine m_R_sg (by decide) [(.iload_n 3, 1, 0, 3, 0, 0, 0)] (by decide +kernel) (show m_sgl X _ _ _ _ _ = some (15, [some (.ref 304), some (.int v1), some (.int v2), some (.int v3), none], [.int v3], (SH, m.1, m.2)) from rfl) ?_
    rcases m_ite h with ⟨c1523, h⟩ | ⟨c1523, h⟩
    · refine m_R_1 (by decide) (m_opb_of (ins := .ifCond .ge 10) (len := 3) (tag := 0) (a := 25) (b := 0) (c := 0) (q := 0) (by decide +kernel)) (if_pos c1523) ?_
      refine m_R_sg (by decide) [(.iload_n 1, 1, 0, 1, 0, 0, 0)] (by decide +kernel) (show m_sgl X _ _ _ _ _ = some (26, [some (.ref 304), some (.int v1), some (.int v2), some (.int v3), none], [.int v1], (SH, m.1, m.2)) from rfl) ?_
      rcases m_ite h with ⟨c1524, h⟩ | ⟨c1524, h⟩
      · refine m_R_1 (by decide) (m_opb_of (ins := .ifCond .lt 27) (len := 3) (tag := 0) (a := 53) (b := 0) (c := 0) (q := 0) (by decide +kernel)) (if_pos c1524) ?_
        exact ok_m_copy_53 X d F _ _ _ _ _ _ _ h
      · refine m_R_1 (by decide) (m_opb_of (ins := .ifCond .lt 27) (len := 3) (tag := 0) (a := 53) (b := 0) (c := 0) (q := 0) (by decide +kernel)) (if_neg c1524) ?_
        refine m_R_sg (by decide) [(.iload_n 2, 1, 0, 2, 0, 0, 0)] (by decide +kernel) (show m_sgl X _ _ _ _ _ = some (30, [some (.ref 304), some (.int v1), some (.int v2), some (.int v3), none], [.int v2], (SH, m.1, m.2)) from rfl) ?_
        rcases m_ite h with ⟨c1525, h⟩ | ⟨c1525, h⟩
        · refine m_R_1 (by decide) (m_opb_of (ins := .ifCond .lt 23) (len := 3) (tag := 0) (a := 53) (b := 0) (c := 0) (q := 0) (by decide +kernel)) (if_pos c1525) ?_
          exact ok_m_copy_53 X d F _ _ _ _ _ _ _ h
        · refine m_R_1 (by decide) (m_opb_of (ins := .ifCond .lt 23) (len := 3) (tag := 0) (a := 53) (b := 0) (c := 0) (q := 0) (by decide +kernel)) (if_neg c1525) ?_
          refine m_R_sg (by decide) [(.iload_n 1, 1, 0, 1, 0, 0, 0), (.aload_n 0, 1, 0, 0, 0, 0, 0), (.getfield 448, 3, 0, 12, 29, 0, 1521), (.iload_n 3, 1, 0, 3, 0, 0, 0), (.isub, 1, 0, 0, 0, 0, 0)] (by decide +kernel) (show m_sgl X _ _ _ _ _ = some (40, [some (.ref 304), some (.int v1), some (.int v2), some (.int v3), none], [.int ((m.1 304 29) - v3), .int v1], (SH, m.1, m.2)) from rfl) ?_
          rcases m_ite h with ⟨c1526, h⟩ | ⟨c1526, h⟩
          · refine m_R_1 (by decide) (m_opb_of (ins := .if_icmp .gt 13) (len := 3) (tag := 0) (a := 53) (b := 0) (c := 0) (q := 0) (by decide +kernel)) (if_pos c1526) ?_
            exact ok_m_copy_53 X d F _ _ _ _ _ _ _ h
          · refine m_R_1 (by decide) (m_opb_of (ins := .if_icmp .gt 13) (len := 3) (tag := 0) (a := 53) (b := 0) (c := 0) (q := 0) (by decide +kernel)) (if_neg c1526) ?_
            refine m_R_sg (by decide) [(.iload_n 2, 1, 0, 2, 0, 0, 0), (.aload_n 0, 1, 0, 0, 0, 0, 0), (.getfield 448, 3, 0, 12, 29, 0, 1521), (.iload_n 3, 1, 0, 3, 0, 0, 0), (.isub, 1, 0, 0, 0, 0, 0)] (by decide +kernel) (show m_sgl X _ _ _ _ _ = some (50, [some (.ref 304), some (.int v1), some (.int v2), some (.int v3), none], [.int ((m.1 304 29) - v3), .int v2], (SH, m.1, m.2)) from rfl) ?_
            rcases m_ite h with ⟨c1527, h⟩ | ⟨c1527, h⟩
            · refine m_R_1 (by decide) (m_opb_of (ins := .if_icmp .le 10) (len := 3) (tag := 0) (a := 60) (b := 0) (c := 0) (q := 0) (by decide +kernel)) (if_pos c1527) ?_
              refine m_R_sg (by decide) [(.iconst 0, 1, 0, 0, 0, 0, 0), (.istore 4, 2, 0, 4, 0, 0, 0)] (by decide +kernel) (show m_sgl X _ _ _ _ _ = some (63, [some (.ref 304), some (.int v1), some (.int v2), some (.int v3), some (.int (0 : Int32))], [], (SH, m.1, m.2)) from rfl) ?_
              exact ok_m_copy_63 X d F F _ _ _ _ _ _ _ h
            · refine m_R_1 (by decide) (m_opb_of (ins := .if_icmp .le 10) (len := 3) (tag := 0) (a := 60) (b := 0) (c := 0) (q := 0) (by decide +kernel)) (if_neg c1527) ?_
              exact ok_m_copy_53 X d F _ _ _ _ _ _ _ h
    · refine m_R_1 (by decide) (m_opb_of (ins := .ifCond .ge 10) (len := 3) (tag := 0) (a := 25) (b := 0) (c := 0) (q := 0) (by decide +kernel)) (if_neg c1523) ?_
      refine m_R_sg (by decide) [(.aload_n 0, 1, 0, 0, 0, 0, 0), (.bipush (-4), 2, 0, 4, 1, 0, 0)] (by decide +kernel) (show m_sgl X _ _ _ _ _ = some (21, [some (.ref 304), some (.int v1), some (.int v2), some (.int v3), none], [.int (-4 : Int32), .ref 304], (SH, m.1, m.2)) from rfl) ?_
      obtain ⟨q2, hc2, h⟩ := Option.bind_eq_some_iff.mp h
      refine m_R_cV (v := (some (.int q2.1))) (h1 := (SH, q2.2)) (rest := []) (lo' := [some (.ref 304), some (.int (-4 : Int32))]) (ml := 2) (k0 := 304) (by decide) (Or.inl rfl) (m_opb_of (ins := .invokevirtual 61) (len := 3) (tag := 5) (a := 202) (b := 1) (c := 0) (q := 1593) (by decide +kernel)) (by decide +kernel) rfl (show m_isO 202 304 (SH, _) = true from m_isO_of (by decide +kernel)) (Nat.le_of_ble_eq_true rfl) rfl rfl (ok_m_refuse X (d + 0) F _ _ _ _ hc2) ?_
      obtain ⟨rfl, rfl⟩ := m_some h
      exact m_R_iret (by decide) (m_opb_of (ins := .ireturn) (len := 1) (tag := 1) (a := 0) (b := 0) (c := 0) (q := 0) (by decide +kernel)) (Or.inl rfl)
def f_x_status_12 (F : Nat)    (m : mM) : Option (Int32 × mM) := ((f_x_refuse F (-7 : Int32) m).bind fun q1 => some (q1.1, q1.2))
theorem ok_x_status_12 (X : mX) (d F : Nat) : ∀  (w1 : Option Value) (m : mM) (r : Int32) (m' : mM), f_x_status_12 F  m = some (r, m') → m_R X (d + 1) 197 12 [some (.ref 0), w1] [] (SH, m) (some (.int r), (SH, m')) := by
  intro w1 m r m' h
  unfold f_x_status_12 at h
  refine m_R_sg (by decide) [(.aload_n 0, 1, 0, 0, 0, 0, 0), (.bipush (-7), 2, 0, 7, 1, 0, 0)] (by decide +kernel) (show m_sgl X _ _ _ _ _ = some (15, [some (.ref 0), w1], [.int (-7 : Int32), .ref 0], (SH, m.1, m.2)) from rfl) ?_
  obtain ⟨q1, hc1, h⟩ := Option.bind_eq_some_iff.mp h
  refine m_R_cV (v := (some (.int q1.1))) (h1 := (SH, q1.2)) (rest := []) (lo' := [some (.ref 0), some (.int (-7 : Int32))]) (ml := 2) (k0 := 0) (by decide) (Or.inl rfl) (m_opb_of (ins := .invokevirtual 76) (len := 3) (tag := 5) (a := 14) (b := 1) (c := 0) (q := 671) (by decide +kernel)) (by decide +kernel) rfl (show m_isO 14 0 (SH, _) = true from m_isO_of (by decide +kernel)) (Nat.le_of_ble_eq_true rfl) rfl rfl (ok_x_refuse X (d + 0) F _ _ _ _ hc1) ?_
  obtain ⟨rfl, rfl⟩ := m_some h
  exact m_R_iret (by decide) (m_opb_of (ins := .ireturn) (len := 1) (tag := 1) (a := 0) (b := 0) (c := 0) (q := 0) (by decide +kernel)) (Or.inl rfl)
def f_x_status (F : Nat)   (v1 : Int32) (m : mM) : Option (Int32 × mM) := (if (-2 : Int32) < v1 then f_x_status_12 F m else (if (-8 : Int32) ≤ v1 then (if ((-2 : Int32) - v1) < 0 ∨ 7 ≤ ((-2 : Int32) - v1).toNatClampNeg then none else some ((m.1 119 ((-2 : Int32) - v1).toNatClampNeg), m)) else f_x_status_12 F m))
theorem ok_x_status (X : mX) (d F : Nat) : ∀ (v1 : Int32)  (m : mM) (r : Int32) (m' : mM), f_x_status F v1 m = some (r, m') → m_R X (d + 1) 197 0 [some (.ref 0), some (.int v1)] [] (SH, m) (some (.int r), (SH, m')) := by
  intro v1 m r m' h
  unfold f_x_status at h
  refine m_R_sg (by decide) [(.iload_n 1, 1, 0, 1, 0, 0, 0), (.bipush (-2), 2, 0, 2, 1, 0, 0)] (by decide +kernel) (show m_sgl X _ _ _ _ _ = some (3, [some (.ref 0), some (.int v1)], [.int (-2 : Int32), .int v1], (SH, m.1, m.2)) from rfl) ?_
  rcases m_ite h with ⟨c1528, h⟩ | ⟨c1528, h⟩
  · refine m_R_1 (by decide) (m_opb_of (ins := .if_icmp .gt 9) (len := 3) (tag := 0) (a := 12) (b := 0) (c := 0) (q := 0) (by decide +kernel)) (if_pos c1528) ?_
    exact ok_x_status_12 X d F _ _ _ _ h
  · refine m_R_1 (by decide) (m_opb_of (ins := .if_icmp .gt 9) (len := 3) (tag := 0) (a := 12) (b := 0) (c := 0) (q := 0) (by decide +kernel)) (if_neg c1528) ?_
    refine m_R_sg (by decide) [(.iload_n 1, 1, 0, 1, 0, 0, 0), (.bipush (-8), 2, 0, 8, 1, 0, 0)] (by decide +kernel) (show m_sgl X _ _ _ _ _ = some (9, [some (.ref 0), some (.int v1)], [.int (-8 : Int32), .int v1], (SH, m.1, m.2)) from rfl) ?_
    rcases m_ite h with ⟨c1529, h⟩ | ⟨c1529, h⟩
    · refine m_R_1 (by decide) (m_opb_of (ins := .if_icmp .ge 10) (len := 3) (tag := 0) (a := 19) (b := 0) (c := 0) (q := 0) (by decide +kernel)) (if_pos c1529) ?_
      refine m_R_sg (by decide) [(.aload_n 0, 1, 0, 0, 0, 0, 0), (.getfield 60, 3, 0, 11, 9, 3, 639), (.bipush (-2), 2, 0, 2, 1, 0, 0), (.iload_n 1, 1, 0, 1, 0, 0, 0), (.isub, 1, 0, 0, 0, 0, 0)] (by decide +kernel) (show m_sgl X _ _ _ _ _ = some (27, [some (.ref 0), some (.int v1)], [.int ((-2 : Int32) - v1), .ref 119], (SH, m.1, m.2)) from rfl) ?_
      obtain ⟨c1530, h⟩ := m_ite_n h
      refine m_R_1 (by decide) (m_opb_of (ins := .iaload) (len := 1) (tag := 0) (a := 0) (b := 0) (c := 0) (q := 0) (by decide +kernel)) (m_s_iald sh_119 (by decide) c1530) ?_
      obtain ⟨rfl, rfl⟩ := m_some h
      exact m_R_iret (by decide) (m_opb_of (ins := .ireturn) (len := 1) (tag := 1) (a := 0) (b := 0) (c := 0) (q := 0) (by decide +kernel)) (Or.inl rfl)
    · refine m_R_1 (by decide) (m_opb_of (ins := .if_icmp .ge 10) (len := 3) (tag := 0) (a := 19) (b := 0) (c := 0) (q := 0) (by decide +kernel)) (if_neg c1529) ?_
      exact ok_x_status_12 X d F _ _ _ _ h
def f_m_status_27 (F : Nat)   (s0 : Int32) (m : mM) : Option (Int32 × mM) := some (s0, m)
theorem ok_m_status_27 (X : mX) (d F : Nat) : ∀ (s0 : Int32) (w0 : Option Value) (w1 : Option Value) (m : mM) (r : Int32) (m' : mM), f_m_status_27 F s0 m = some (r, m') → m_R X (d + 1) 200 27 [w0, w1] [.int s0] (SH, m) (some (.int r), (SH, m')) := by
  intro s0 w0 w1 m r m' h
  unfold f_m_status_27 at h
  obtain ⟨rfl, rfl⟩ := m_some h
  exact m_R_iret (by decide) (m_opb_of (ins := .ireturn) (len := 1) (tag := 1) (a := 0) (b := 0) (c := 0) (q := 0) (by decide +kernel)) (Or.inl rfl)
def f_m_status (F : Nat)   (v1 : Int32) (m : mM) : Option (Int32 × mM) := ((f_m_in F v1 (-8 : Int32) (-2 : Int32) m).bind fun q1 => (if q1.1 = 0 then ((f_m_refuse F (-7 : Int32) q1.2).bind fun q2 => f_m_status_27 F q2.1 q2.2) else (if (-v1) < 0 ∨ 9 ≤ (-v1).toNatClampNeg then none else f_m_status_27 F (q1.2.1 306 (-v1).toNatClampNeg) q1.2)))
theorem ok_m_status (X : mX) (d F : Nat) : ∀ (v1 : Int32)  (m : mM) (r : Int32) (m' : mM), f_m_status F v1 m = some (r, m') → m_R X (d + 1) 200 0 [some (.ref 304), some (.int v1)] [] (SH, m) (some (.int r), (SH, m')) := by
  intro v1 m r m' h
  unfold f_m_status at h
  refine m_R_sg (by decide) [(.iload_n 1, 1, 0, 1, 0, 0, 0), (.bipush (-8), 2, 0, 8, 1, 0, 0), (.bipush (-2), 2, 0, 2, 1, 0, 0)] (by decide +kernel) (show m_sgl X _ _ _ _ _ = some (5, [some (.ref 304), some (.int v1)], [.int (-2 : Int32), .int (-8 : Int32), .int v1], (SH, m.1, m.2)) from rfl) ?_
  obtain ⟨q1, hc1, h⟩ := Option.bind_eq_some_iff.mp h
  refine m_R_cS (v := (some (.int q1.1))) (h1 := (SH, q1.2)) (rest := []) (lo' := [some (.int v1), some (.int (-8 : Int32)), some (.int (-2 : Int32))]) (ml := 3) (by decide) (m_opb_of (ins := .invokestatic 57) (len := 3) (tag := 4) (a := 201) (b := 3) (c := 0) (q := 1590) (by decide +kernel)) (by decide +kernel) (Nat.le_of_ble_eq_true rfl) rfl (Nat.le_of_ble_eq_true rfl) rfl rfl (ok_m_in X (d + 0) F _ _ _ _ _ _ hc1) ?_
  rcases m_ite h with ⟨c1531, h⟩ | ⟨c1531, h⟩
  · refine m_R_1 (by decide) (m_opb_of (ins := .ifCond .eq 13) (len := 3) (tag := 0) (a := 21) (b := 0) (c := 0) (q := 0) (by decide +kernel)) (if_pos c1531) ?_
    refine m_R_sg (by decide) [(.aload_n 0, 1, 0, 0, 0, 0, 0), (.bipush (-7), 2, 0, 7, 1, 0, 0)] (by decide +kernel) (show m_sgl X _ _ _ _ _ = some (24, [some (.ref 304), some (.int v1)], [.int (-7 : Int32), .ref 304], (SH, q1.2.1, q1.2.2)) from rfl) ?_
    obtain ⟨q2, hc2, h⟩ := Option.bind_eq_some_iff.mp h
    refine m_R_cV (v := (some (.int q2.1))) (h1 := (SH, q2.2)) (rest := []) (lo' := [some (.ref 304), some (.int (-7 : Int32))]) (ml := 2) (k0 := 304) (by decide) (Or.inl rfl) (m_opb_of (ins := .invokevirtual 61) (len := 3) (tag := 5) (a := 202) (b := 1) (c := 0) (q := 1593) (by decide +kernel)) (by decide +kernel) rfl (show m_isO 202 304 (SH, _) = true from m_isO_of (by decide +kernel)) (Nat.le_of_ble_eq_true rfl) rfl rfl (ok_m_refuse X (d + 0) F _ _ _ _ hc2) ?_
    exact ok_m_status_27 X d F _ _ _ _ _ _ h
  · refine m_R_1 (by decide) (m_opb_of (ins := .ifCond .eq 13) (len := 3) (tag := 0) (a := 21) (b := 0) (c := 0) (q := 0) (by decide +kernel)) (if_neg c1531) ?_
    refine m_R_sg (by decide) [(.aload_n 0, 1, 0, 0, 0, 0, 0), (.getfield 17, 3, 0, 12, 2, 3, 1494), (.iload_n 1, 1, 0, 1, 0, 0, 0), (.ineg, 1, 0, 0, 0, 0, 0)] (by decide +kernel) (show m_sgl X _ _ _ _ _ = some (17, [some (.ref 304), some (.int v1)], [.int (-v1), .ref 306], (SH, q1.2.1, q1.2.2)) from rfl) ?_
    obtain ⟨c1532, h⟩ := m_ite_n h
    refine m_R_1 (by decide) (m_opb_of (ins := .iaload) (len := 1) (tag := 0) (a := 0) (b := 0) (c := 0) (q := 0) (by decide +kernel)) (m_s_iald sh_306 (by decide) c1532) ?_
    refine m_R_sg (by decide) [(.goto 9, 3, 0, 27, 0, 0, 0)] (by decide +kernel) (show m_sgl X _ _ _ _ _ = some (27, [some (.ref 304), some (.int v1)], [.int (q1.2.1 306 (-v1).toNatClampNeg)], (SH, q1.2.1, q1.2.2)) from rfl) ?_
    exact ok_m_status_27 X d F _ _ _ _ _ _ h
