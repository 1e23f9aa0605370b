/-! METHODS AS FUNCTIONS, on (written by program: wip/whole/gen/emit.py) -/
def f_World_heardSheet_33 (F : Nat)    (m : mM) : Option (Int32 × mM) := some ((-1 : Int32), m)
theorem ok_World_heardSheet_33 (X : mX) (d F : Nat) : ∀  (w0 : Option Value) (w1 : Option Value) (w2 : Option Value) (w3 : Option Value) (w4 : Option Value) (m : mM) (r : Int32) (m' : mM), f_World_heardSheet_33 F  m = some (r, m') → m_R X (d + 3) 161 33 [w0, w1, w2, w3, w4] [] (SH, m) (some (.int r), (SH, m')) := by
  intro w0 w1 w2 w3 w4 m r m' h
  unfold f_World_heardSheet_33 at h
  refine m_R_sg (by decide) [(.iconst (-1), 1, 0, 1, 1, 0, 0)] (by decide +kernel) (show m_sgl X _ _ _ _ _ = some (34, [w0, w1, w2, w3, w4], [.int (-1 : Int32)], (SH, m.1, m.2)) from rfl) ?_
  obtain ⟨rfl, rfl⟩ := m_some h
  exact m_R_iret (by decide) (m_opb_of (ins := .ireturn) (len := 1) (tag := 1) (a := 0) (b := 0) (c := 0) (q := 0) (by decide +kernel)) (Or.inl rfl)
def f_World_heardSheet (F : Nat)   (v1 : Int32) (v2 : Int32) (m : mM) : Option (Int32 × mM) := ((f_World_farFrom F v1 (m.1 21 (0 : Int32).toNatClampNeg) m).bind fun q1 => (if q1.1 = (-1 : Int32) then f_World_heardSheet_33 F q1.2 else (if 0 ≤ ((v2 - q1.1) - (6 : Int32)) then ((f_World_sheetCount F q1.2).bind fun q2 => ((f_Math_min_II F (((v2 - q1.1) - (6 : Int32)) / (7 : Int32)) (q2.1 - (1 : Int32)) q2.2).bind fun q3 => some (q3.1, q3.2))) else f_World_heardSheet_33 F q1.2)))
theorem ok_World_heardSheet (X : mX) (d F : Nat) : ∀ (v1 : Int32) (v2 : Int32)  (m : mM) (r : Int32) (m' : mM), f_World_heardSheet F v1 v2 m = some (r, m') → m_R X (d + 3) 161 0 [some (.ref 16), some (.int v1), some (.int v2), none, none] [] (SH, m) (some (.int r), (SH, m')) := by
  intro v1 v2 m r m' h
  unfold f_World_heardSheet at h
  refine m_R_sg (by decide) [(.aload_n 0, 1, 0, 0, 0, 0, 0), (.iload_n 1, 1, 0, 1, 0, 0, 0), (.aload_n 0, 1, 0, 0, 0, 0, 0), (.getfield 21, 3, 0, 10, 1, 3, 505), (.getfield 113, 3, 0, 1, 1, 3, 252), (.iconst 0, 1, 0, 0, 0, 0, 0)] (by decide +kernel) (show m_sgl X _ _ _ _ _ = some (10, [some (.ref 16), some (.int v1), some (.int v2), none, none], [.int (0 : Int32), .ref 21, .int v1, .ref 16], (SH, m.1, m.2)) from rfl) ?_
  refine m_R_1 (by decide) (m_opb_of (ins := .iaload) (len := 1) (tag := 0) (a := 0) (b := 0) (c := 0) (q := 0) (by decide +kernel)) (m_s_iald sh_21 (by decide) (show ¬ ((0 : Int32) < 0 ∨ 16 ≤ (0 : Int32).toNatClampNeg) by decide)) ?_
  obtain ⟨q1, hc1, h⟩ := Option.bind_eq_some_iff.mp h
  refine m_R_cV (v := (some (.int q1.1))) (h1 := (SH, q1.2)) (rest := []) (lo' := [some (.ref 16), some (.int v1), some (.int (m.1 21 (0 : Int32).toNatClampNeg))]) (ml := 3) (k0 := 16) (by decide) (Or.inl rfl) (m_opb_of (ins := .invokevirtual 291) (len := 3) (tag := 5) (a := 151) (b := 2) (c := 0) (q := 1280) (by decide +kernel)) (by decide +kernel) rfl (show m_isO 151 16 (SH, _) = true from m_isO_of (by decide +kernel)) (Nat.le_of_ble_eq_true rfl) rfl rfl (ok_World_farFrom X (d + 0) F _ _ _ _ _ hc1) ?_
  refine m_R_sg (by decide) [(.istore_n 3, 1, 0, 3, 0, 0, 0), (.iload_n 2, 1, 0, 2, 0, 0, 0), (.iload_n 3, 1, 0, 3, 0, 0, 0), (.isub, 1, 0, 0, 0, 0, 0), (.bipush 6, 2, 0, 6, 0, 0, 0), (.isub, 1, 0, 0, 0, 0, 0), (.istore 4, 2, 0, 4, 0, 0, 0), (.iload_n 3, 1, 0, 3, 0, 0, 0), (.iconst (-1), 1, 0, 1, 1, 0, 0)] (by decide +kernel) (show m_sgl X _ _ _ _ _ = some (25, [some (.ref 16), some (.int v1), some (.int v2), some (.int q1.1), some (.int ((v2 - q1.1) - (6 : Int32)))], [.int (-1 : Int32), .int q1.1], (SH, q1.2.1, q1.2.2)) from rfl) ?_
  rcases m_ite h with ⟨c1190, h⟩ | ⟨c1190, h⟩
  · refine m_R_1 (by decide) (m_opb_of (ins := .if_icmp .eq 8) (len := 3) (tag := 0) (a := 33) (b := 0) (c := 0) (q := 0) (by decide +kernel)) (if_pos c1190) ?_
    exact ok_World_heardSheet_33 X d F _ _ _ _ _ _ _ _ h
  · refine m_R_1 (by decide) (m_opb_of (ins := .if_icmp .eq 8) (len := 3) (tag := 0) (a := 33) (b := 0) (c := 0) (q := 0) (by decide +kernel)) (if_neg c1190) ?_
    refine m_R_sg (by decide) [(.iload 4, 2, 0, 4, 0, 0, 0)] (by decide +kernel) (show m_sgl X _ _ _ _ _ = some (30, [some (.ref 16), some (.int v1), some (.int v2), some (.int q1.1), some (.int ((v2 - q1.1) - (6 : Int32)))], [.int ((v2 - q1.1) - (6 : Int32))], (SH, q1.2.1, q1.2.2)) from rfl) ?_
    rcases m_ite h with ⟨c1191, h⟩ | ⟨c1191, h⟩
    · refine m_R_1 (by decide) (m_opb_of (ins := .ifCond .ge 5) (len := 3) (tag := 0) (a := 35) (b := 0) (c := 0) (q := 0) (by decide +kernel)) (if_pos c1191) ?_
      refine m_R_sg (by decide) [(.iload 4, 2, 0, 4, 0, 0, 0), (.bipush 7, 2, 0, 7, 0, 0, 0)] (by decide +kernel) (show m_sgl X _ _ _ _ _ = some (39, [some (.ref 16), some (.int v1), some (.int v2), some (.int q1.1), some (.int ((v2 - q1.1) - (6 : Int32)))], [.int (7 : Int32), .int ((v2 - q1.1) - (6 : Int32))], (SH, q1.2.1, q1.2.2)) from rfl) ?_
      refine m_R_1 (by decide) (m_opb_of (ins := .idiv) (len := 1) (tag := 0) (a := 0) (b := 0) (c := 0) (q := 0) (by decide +kernel)) (m_s_idiv (by decide)) ?_
      refine m_R_sg (by decide) [(.aload_n 0, 1, 0, 0, 0, 0, 0)] (by decide +kernel) (show m_sgl X _ _ _ _ _ = some (41, [some (.ref 16), some (.int v1), some (.int v2), some (.int q1.1), some (.int ((v2 - q1.1) - (6 : Int32)))], [.ref 16, .int (((v2 - q1.1) - (6 : Int32)) / (7 : Int32))], (SH, q1.2.1, q1.2.2)) from rfl) ?_
      obtain ⟨q2, hc2, h⟩ := Option.bind_eq_some_iff.mp h
      refine m_R_cV (v := (some (.int q2.1))) (h1 := (SH, q2.2)) (rest := [.int (((v2 - q1.1) - (6 : Int32)) / (7 : Int32))]) (lo' := [some (.ref 16)]) (ml := 1) (k0 := 16) (by decide) (Or.inl rfl) (m_opb_of (ins := .invokevirtual 303) (len := 3) (tag := 5) (a := 162) (b := 0) (c := 0) (q := 1329) (by decide +kernel)) (by decide +kernel) rfl (show m_isO 162 16 (SH, _) = true from m_isO_of (by decide +kernel)) (Nat.le_of_ble_eq_true rfl) rfl rfl (ok_World_sheetCount X (d + 2) F _ _ _ hc2) ?_
      refine m_R_sg (by decide) [(.iconst 1, 1, 0, 1, 0, 0, 0), (.isub, 1, 0, 0, 0, 0, 0)] (by decide +kernel) (show m_sgl X _ _ _ _ _ = some (46, [some (.ref 16), some (.int v1), some (.int v2), some (.int q1.1), some (.int ((v2 - q1.1) - (6 : Int32)))], [.int (q2.1 - (1 : Int32)), .int (((v2 - q1.1) - (6 : Int32)) / (7 : Int32))], (SH, q2.2.1, q2.2.2)) from rfl) ?_
      obtain ⟨q3, hc3, h⟩ := Option.bind_eq_some_iff.mp h
      refine m_R_cS (v := (some (.int q3.1))) (h1 := (SH, q3.2)) (rest := []) (lo' := [some (.int (((v2 - q1.1) - (6 : Int32)) / (7 : Int32))), some (.int (q2.1 - (1 : Int32)))]) (ml := 2) (by decide) (m_opb_of (ins := .invokestatic 175) (len := 3) (tag := 4) (a := 50) (b := 2) (c := 0) (q := 813) (by decide +kernel)) (by decide +kernel) (Nat.le_of_ble_eq_true rfl) rfl (Nat.le_of_ble_eq_true rfl) rfl rfl (ok_Math_min_II X (d + 2) F _ _ _ _ _ hc3) ?_
      obtain ⟨rfl, rfl⟩ := m_some h
      exact m_R_iret (by decide) (m_opb_of (ins := .ireturn) (len := 1) (tag := 1) (a := 0) (b := 0) (c := 0) (q := 0) (by decide +kernel)) (Or.inl rfl)
    · refine m_R_1 (by decide) (m_opb_of (ins := .ifCond .ge 5) (len := 3) (tag := 0) (a := 35) (b := 0) (c := 0) (q := 0) (by decide +kernel)) (if_neg c1191) ?_
      exact ok_World_heardSheet_33 X d F _ _ _ _ _ _ _ _ h
def f_World_heardReserve_30 (F : Nat)   (s0 : Int32) (m : mM) : Option (Int32 × mM) := some (s0, m)
theorem ok_World_heardReserve_30 (X : mX) (d F : Nat) : ∀ (s0 : Int32) (w0 : Option Value) (w1 : Option Value) (w2 : Option Value) (w3 : Option Value) (m : mM) (r : Int32) (m' : mM), f_World_heardReserve_30 F s0 m = some (r, m') → m_R X (d + 4) 160 30 [w0, w1, w2, w3] [.int s0] (SH, m) (some (.int r), (SH, m')) := by
  intro s0 w0 w1 w2 w3 m r m' h
  unfold f_World_heardReserve_30 at h
  obtain ⟨rfl, rfl⟩ := m_some h
  exact m_R_iret (by decide) (m_opb_of (ins := .ireturn) (len := 1) (tag := 1) (a := 0) (b := 0) (c := 0) (q := 0) (by decide +kernel)) (Or.inl rfl)
def f_World_heardReserve (F : Nat)   (v1 : Int32) (v2 : Int32) (m : mM) : Option (Int32 × mM) := ((f_World_heardSheet F v1 v2 m).bind fun q1 => (if q1.1 = (-1 : Int32) then f_World_heardReserve_30 F (-1 : Int32) q1.2 else (if ((q1.1 * (6 : Int32)) + (5 : Int32)) < 0 ∨ 600 ≤ ((q1.1 * (6 : Int32)) + (5 : Int32)).toNatClampNeg then none else f_World_heardReserve_30 F (q1.2.1 7 ((q1.1 * (6 : Int32)) + (5 : Int32)).toNatClampNeg) q1.2)))
theorem ok_World_heardReserve (X : mX) (d F : Nat) : ∀ (v1 : Int32) (v2 : Int32)  (m : mM) (r : Int32) (m' : mM), f_World_heardReserve F v1 v2 m = some (r, m') → m_R X (d + 4) 160 0 [some (.ref 16), some (.int v1), some (.int v2), none] [] (SH, m) (some (.int r), (SH, m')) := by
  intro v1 v2 m r m' h
  unfold f_World_heardReserve at h
  refine m_R_sg (by decide) [(.aload_n 0, 1, 0, 0, 0, 0, 0), (.iload_n 1, 1, 0, 1, 0, 0, 0), (.iload_n 2, 1, 0, 2, 0, 0, 0)] (by decide +kernel) (show m_sgl X _ _ _ _ _ = some (3, [some (.ref 16), some (.int v1), some (.int v2), none], [.int v2, .int v1, .ref 16], (SH, m.1, m.2)) from rfl) ?_
  obtain ⟨q1, hc1, h⟩ := Option.bind_eq_some_iff.mp h
  refine m_R_cV (v := (some (.int q1.1))) (h1 := (SH, q1.2)) (rest := []) (lo' := [some (.ref 16), some (.int v1), some (.int v2), none, none]) (ml := 5) (k0 := 16) (by decide) (Or.inl rfl) (m_opb_of (ins := .invokevirtual 306) (len := 3) (tag := 5) (a := 161) (b := 2) (c := 0) (q := 1325) (by decide +kernel)) (by decide +kernel) rfl (show m_isO 161 16 (SH, _) = true from m_isO_of (by decide +kernel)) (Nat.le_of_ble_eq_true rfl) rfl rfl (ok_World_heardSheet X (d + 0) F _ _ _ _ _ hc1) ?_
  refine m_R_sg (by decide) [(.istore_n 3, 1, 0, 3, 0, 0, 0), (.iload_n 3, 1, 0, 3, 0, 0, 0), (.iconst (-1), 1, 0, 1, 1, 0, 0)] (by decide +kernel) (show m_sgl X _ _ _ _ _ = some (9, [some (.ref 16), some (.int v1), some (.int v2), some (.int q1.1)], [.int (-1 : Int32), .int q1.1], (SH, q1.2.1, q1.2.2)) from rfl) ?_
  rcases m_ite h with ⟨c1192, h⟩ | ⟨c1192, h⟩
  · refine m_R_1 (by decide) (m_opb_of (ins := .if_icmp .ne 7) (len := 3) (tag := 0) (a := 16) (b := 0) (c := 0) (q := 0) (by decide +kernel)) (if_pos c1192) ?_
    refine m_R_sg (by decide) [(.iconst (-1), 1, 0, 1, 1, 0, 0), (.goto 17, 3, 0, 30, 0, 0, 0)] (by decide +kernel) (show m_sgl X _ _ _ _ _ = some (30, [some (.ref 16), some (.int v1), some (.int v2), some (.int q1.1)], [.int (-1 : Int32)], (SH, q1.2.1, q1.2.2)) from rfl) ?_
    exact ok_World_heardReserve_30 X d F _ _ _ _ _ _ _ _ h
  · refine m_R_1 (by decide) (m_opb_of (ins := .if_icmp .ne 7) (len := 3) (tag := 0) (a := 16) (b := 0) (c := 0) (q := 0) (by decide +kernel)) (if_neg c1192) ?_
    refine m_R_sg (by decide) [(.aload_n 0, 1, 0, 0, 0, 0, 0), (.getfield 59, 3, 0, 10, 6, 3, 516), (.getfield 309, 3, 0, 6, 5, 3, 175), (.iload_n 3, 1, 0, 3, 0, 0, 0), (.bipush 6, 2, 0, 6, 0, 0, 0), (.imul, 1, 0, 0, 0, 0, 0), (.iconst 5, 1, 0, 5, 0, 0, 0), (.iadd, 1, 0, 0, 0, 0, 0)] (by decide +kernel) (show m_sgl X _ _ _ _ _ = some (29, [some (.ref 16), some (.int v1), some (.int v2), some (.int q1.1)], [.int ((q1.1 * (6 : Int32)) + (5 : Int32)), .ref 7], (SH, q1.2.1, q1.2.2)) from rfl) ?_
    obtain ⟨c1193, h⟩ := m_ite_n h
    refine m_R_1 (by decide) (m_opb_of (ins := .iaload) (len := 1) (tag := 0) (a := 0) (b := 0) (c := 0) (q := 0) (by decide +kernel)) (m_s_iald sh_7 (by decide) c1193) ?_
    exact ok_World_heardReserve_30 X d F _ _ _ _ _ _ _ _ h
def f_World_runOnBanks_129 (F : Nat)  (k2 : Int32 → mM → Option (Unit × mM)) (v1 : Int32) (m : mM) : Option (Unit × mM) := k2 (v1 + (1 : Int32)) m
theorem ok_World_runOnBanks_129 (X : mX) (d F : Nat) (k2 : Int32 → mM → Option (Unit × mM)) (hk2 : ∀ (v1 : Int32) (w2 : Option Value) (m : mM) (r : Unit) (m' : mM), k2 v1 m = some (r, m') → m_R X (d + 5) 157 2 [some (.ref 16), some (.int v1), w2] [] (SH, m) (none, (SH, m'))) : ∀ (v1 : Int32) (w2 : Option Value) (m : mM) (r : Unit) (m' : mM), f_World_runOnBanks_129 F k2 v1 m = some (r, m') → m_R X (d + 5) 157 129 [some (.ref 16), some (.int v1), w2] [] (SH, m) (none, (SH, m')) := by
  intro v1 w2 m r m' h
  unfold f_World_runOnBanks_129 at h
  refine m_R_sg (by decide) [(.iinc 1 1, 3, 0, 1, 1, 0, 0), (.goto (-130), 3, 0, 2, 0, 0, 0)] (by decide +kernel) (show m_sgl X _ _ _ _ _ = some (2, [some (.ref 16), some (.int (v1 + (1 : Int32))), w2], [], (SH, m.1, m.2)) from rfl) ?_
  exact hk2 _ _ _ _ _ h
def f_World_runOnBanks_72 (F : Nat)  (k2 : Int32 → mM → Option (Unit × mM)) (v1 : Int32) (m : mM) : Option (Unit × mM) := (if v1 < 0 ∨ 16 ≤ v1.toNatClampNeg then none else (if (m.1 26 v1.toNatClampNeg) ≤ 0 then f_World_runOnBanks_129 F k2 v1 m else (if (m.1 16 13) = (-1 : Int32) then ((f_World_heardReserve F v1 (m.1 16 9) m).bind fun q4 => (if q4.1 = (-1 : Int32) then f_World_runOnBanks_129 F k2 v1 q4.2 else (if (q4.2.1 26 v1.toNatClampNeg) ≤ q4.1 then f_World_runOnBanks_129 F k2 v1 q4.2 else ((f_World_presentCopies F v1 (400 : Int32) q4.2).bind fun q5 => f_World_runOnBanks_129 F k2 v1 q5.2)))) else f_World_runOnBanks_129 F k2 v1 m)))
theorem ok_World_runOnBanks_72 (X : mX) (d F : Nat) (k2 : Int32 → mM → Option (Unit × mM)) (hk2 : ∀ (v1 : Int32) (w2 : Option Value) (m : mM) (r : Unit) (m' : mM), k2 v1 m = some (r, m') → m_R X (d + 5) 157 2 [some (.ref 16), some (.int v1), w2] [] (SH, m) (none, (SH, m'))) : ∀ (v1 : Int32) (w2 : Option Value) (m : mM) (r : Unit) (m' : mM), f_World_runOnBanks_72 F k2 v1 m = some (r, m') → m_R X (d + 5) 157 72 [some (.ref 16), some (.int v1), w2] [] (SH, m) (none, (SH, m')) := by
  intro v1 w2 m r m' h
  unfold f_World_runOnBanks_72 at h
  refine m_R_sg (by decide) [(.aload_n 0, 1, 0, 0, 0, 0, 0), (.getfield 21, 3, 0, 10, 1, 3, 505), (.getfield 387, 3, 0, 1, 6, 3, 268), (.iload_n 1, 1, 0, 1, 0, 0, 0)] (by decide +kernel) (show m_sgl X _ _ _ _ _ = some (80, [some (.ref 16), some (.int v1), w2], [.int v1, .ref 26], (SH, m.1, m.2)) from rfl) ?_
  obtain ⟨c1194, h⟩ := m_ite_n h
  refine m_R_1 (by decide) (m_opb_of (ins := .iaload) (len := 1) (tag := 0) (a := 0) (b := 0) (c := 0) (q := 0) (by decide +kernel)) (m_s_iald sh_26 (by decide) c1194) ?_
  rcases m_ite h with ⟨c1195, h⟩ | ⟨c1195, h⟩
  · refine m_R_1 (by decide) (m_opb_of (ins := .ifCond .le 48) (len := 3) (tag := 0) (a := 129) (b := 0) (c := 0) (q := 0) (by decide +kernel)) (if_pos c1195) ?_
    exact ok_World_runOnBanks_129 X d F _ hk2 _ _ _ _ _ h
  · refine m_R_1 (by decide) (m_opb_of (ins := .ifCond .le 48) (len := 3) (tag := 0) (a := 129) (b := 0) (c := 0) (q := 0) (by decide +kernel)) (if_neg c1195) ?_
    refine m_R_sg (by decide) [(.aload_n 0, 1, 0, 0, 0, 0, 0), (.getfield 56, 3, 0, 10, 13, 0, 528), (.iconst (-1), 1, 0, 1, 1, 0, 0)] (by decide +kernel) (show m_sgl X _ _ _ _ _ = some (89, [some (.ref 16), some (.int v1), w2], [.int (-1 : Int32), .int (m.1 16 13)], (SH, m.1, m.2)) from rfl) ?_
    rcases m_ite h with ⟨c1196, h⟩ | ⟨c1196, h⟩
    · refine m_R_1 (by decide) (m_opb_of (ins := .if_icmp .ne 40) (len := 3) (tag := 0) (a := 129) (b := 0) (c := 0) (q := 0) (by decide +kernel)) (if_pos c1196) ?_
      refine m_R_sg (by decide) [(.aload_n 0, 1, 0, 0, 0, 0, 0), (.iload_n 1, 1, 0, 1, 0, 0, 0), (.aload_n 0, 1, 0, 0, 0, 0, 0), (.getfield 95, 3, 0, 10, 9, 0, 520)] (by decide +kernel) (show m_sgl X _ _ _ _ _ = some (98, [some (.ref 16), some (.int v1), w2], [.int (m.1 16 9), .int v1, .ref 16], (SH, m.1, m.2)) from rfl) ?_
      obtain ⟨q4, hc4, h⟩ := Option.bind_eq_some_iff.mp h
      refine m_R_cV (v := (some (.int q4.1))) (h1 := (SH, q4.2)) (rest := []) (lo' := [some (.ref 16), some (.int v1), some (.int (m.1 16 9)), none]) (ml := 4) (k0 := 16) (by decide) (Or.inl rfl) (m_opb_of (ins := .invokevirtual 390) (len := 3) (tag := 5) (a := 160) (b := 2) (c := 0) (q := 1321) (by decide +kernel)) (by decide +kernel) rfl (show m_isO 160 16 (SH, _) = true from m_isO_of (by decide +kernel)) (Nat.le_of_ble_eq_true rfl) rfl rfl (ok_World_heardReserve X (d + 0) F _ _ _ _ _ hc4) ?_
      refine m_R_sg (by decide) [(.istore_n 2, 1, 0, 2, 0, 0, 0), (.iload_n 2, 1, 0, 2, 0, 0, 0), (.iconst (-1), 1, 0, 1, 1, 0, 0)] (by decide +kernel) (show m_sgl X _ _ _ _ _ = some (104, [some (.ref 16), some (.int v1), some (.int q4.1)], [.int (-1 : Int32), .int q4.1], (SH, q4.2.1, q4.2.2)) from rfl) ?_
      rcases m_ite h with ⟨c1197, h⟩ | ⟨c1197, h⟩
      · refine m_R_1 (by decide) (m_opb_of (ins := .if_icmp .eq 25) (len := 3) (tag := 0) (a := 129) (b := 0) (c := 0) (q := 0) (by decide +kernel)) (if_pos c1197) ?_
        exact ok_World_runOnBanks_129 X d F _ hk2 _ _ _ _ _ h
      · refine m_R_1 (by decide) (m_opb_of (ins := .if_icmp .eq 25) (len := 3) (tag := 0) (a := 129) (b := 0) (c := 0) (q := 0) (by decide +kernel)) (if_neg c1197) ?_
        refine m_R_sg (by decide) [(.iload_n 2, 1, 0, 2, 0, 0, 0), (.aload_n 0, 1, 0, 0, 0, 0, 0), (.getfield 21, 3, 0, 10, 1, 3, 505), (.getfield 387, 3, 0, 1, 6, 3, 268), (.iload_n 1, 1, 0, 1, 0, 0, 0)] (by decide +kernel) (show m_sgl X _ _ _ _ _ = some (116, [some (.ref 16), some (.int v1), some (.int q4.1)], [.int v1, .ref 26, .int q4.1], (SH, q4.2.1, q4.2.2)) from rfl) ?_
        refine m_R_1 (by decide) (m_opb_of (ins := .iaload) (len := 1) (tag := 0) (a := 0) (b := 0) (c := 0) (q := 0) (by decide +kernel)) (m_s_iald sh_26 (by decide) c1194) ?_
        rcases m_ite h with ⟨c1198, h⟩ | ⟨c1198, h⟩
        · refine m_R_1 (by decide) (m_opb_of (ins := .if_icmp .ge 12) (len := 3) (tag := 0) (a := 129) (b := 0) (c := 0) (q := 0) (by decide +kernel)) (if_pos c1198) ?_
          exact ok_World_runOnBanks_129 X d F _ hk2 _ _ _ _ _ h
        · refine m_R_1 (by decide) (m_opb_of (ins := .if_icmp .ge 12) (len := 3) (tag := 0) (a := 129) (b := 0) (c := 0) (q := 0) (by decide +kernel)) (if_neg c1198) ?_
          refine m_R_sg (by decide) [(.aload_n 0, 1, 0, 0, 0, 0, 0), (.iload_n 1, 1, 0, 1, 0, 0, 0), (.sipush 400, 3, 0, 400, 0, 0, 0)] (by decide +kernel) (show m_sgl X _ _ _ _ _ = some (125, [some (.ref 16), some (.int v1), some (.int q4.1)], [.int (400 : Int32), .int v1, .ref 16], (SH, q4.2.1, q4.2.2)) from rfl) ?_
          obtain ⟨q5, hc5, h⟩ := Option.bind_eq_some_iff.mp h
          refine m_R_cV (v := (some (.int q5.1))) (h1 := (SH, q5.2)) (rest := []) (lo' := [some (.ref 16), some (.int v1), some (.int (400 : Int32)), none, none, none]) (ml := 6) (k0 := 16) (by decide) (Or.inl rfl) (m_opb_of (ins := .invokevirtual 393) (len := 3) (tag := 5) (a := 60) (b := 2) (c := 0) (q := 1333) (by decide +kernel)) (by decide +kernel) rfl (show m_isO 60 16 (SH, _) = true from m_isO_of (by decide +kernel)) (Nat.le_of_ble_eq_true rfl) rfl rfl (ok_World_presentCopies X (d + 2) F _ _ _ _ _ hc5) ?_
          refine m_R_sg (by decide) [(.pop, 1, 0, 0, 0, 0, 0)] (by decide +kernel) (show m_sgl X _ _ _ _ _ = some (129, [some (.ref 16), some (.int v1), some (.int q4.1)], [], (SH, q5.2.1, q5.2.2)) from rfl) ?_
          exact ok_World_runOnBanks_129 X d F _ hk2 _ _ _ _ _ h
    · refine m_R_1 (by decide) (m_opb_of (ins := .if_icmp .ne 40) (len := 3) (tag := 0) (a := 129) (b := 0) (c := 0) (q := 0) (by decide +kernel)) (if_neg c1196) ?_
      exact ok_World_runOnBanks_129 X d F _ hk2 _ _ _ _ _ h
def f_World_runOnBanks_2 (F : Nat)   : Nat → Int32 → mM → Option (Unit × mM)
  | 0, _, _ => none
  | n + 1, v1, m => (if (m.1 19 11) ≤ v1 then some ((), m) else ((f_Houses_isUp F v1 m).bind fun q1 => (if q1.1 = 0 then f_World_runOnBanks_129 F (f_World_runOnBanks_2 F n) v1 q1.2 else (if v1 < 0 ∨ 16 ≤ v1.toNatClampNeg then none else (if (q1.2.1 19 12) ≤ (q1.2.1 25 v1.toNatClampNeg) then f_World_runOnBanks_72 F (f_World_runOnBanks_2 F n) v1 q1.2 else ((f_World_heardFailures F v1 (q1.2.1 16 9) q1.2).bind fun q2 => (if q2.1 ≤ (q2.2.1 25 v1.toNatClampNeg) then f_World_runOnBanks_72 F (f_World_runOnBanks_2 F n) v1 q2.2 else ((f_World_askDepositsOf F v1 q2.2).bind fun q3 => f_World_runOnBanks_72 F (f_World_runOnBanks_2 F n) v1 q3.2))))))))
theorem ok_World_runOnBanks_2 (X : mX) (d F : Nat) : ∀ (n : Nat) (v1 : Int32) (w2 : Option Value) (m : mM) (r : Unit) (m' : mM), f_World_runOnBanks_2 F n v1 m = some (r, m') → m_R X (d + 5) 157 2 [some (.ref 16), some (.int v1), w2] [] (SH, m) (none, (SH, m')) := by
  intro n
  induction n with
  | zero => intro v1 w2 m r m' h; cases h
  | succ n ih =>
    intro v1 w2 m r m' h
    simp only [f_World_runOnBanks_2] at h
    refine m_R_sg (by decide) [(.iload_n 1, 1, 0, 1, 0, 0, 0), (.aload_n 0, 1, 0, 0, 0, 0, 0), (.getfield 21, 3, 0, 10, 1, 3, 505), (.getfield 297, 3, 0, 1, 11, 0, 280)] (by decide +kernel) (show m_sgl X _ _ _ _ _ = some (10, [some (.ref 16), some (.int v1), w2], [.int (m.1 19 11), .int v1], (SH, m.1, m.2)) from rfl) ?_
    rcases m_ite h with ⟨c1199, h⟩ | ⟨c1199, h⟩
    · refine m_R_1 (by decide) (m_opb_of (ins := .if_icmp .ge 125) (len := 3) (tag := 0) (a := 135) (b := 0) (c := 0) (q := 0) (by decide +kernel)) (if_pos c1199) ?_
      obtain ⟨rfl, rfl⟩ := m_some h
      exact m_R_vret (by decide) (m_opb_of (ins := .return_) (len := 1) (tag := 3) (a := 0) (b := 0) (c := 0) (q := 0) (by decide +kernel))
    · refine m_R_1 (by decide) (m_opb_of (ins := .if_icmp .ge 125) (len := 3) (tag := 0) (a := 135) (b := 0) (c := 0) (q := 0) (by decide +kernel)) (if_neg c1199) ?_
      refine m_R_sg (by decide) [(.aload_n 0, 1, 0, 0, 0, 0, 0), (.getfield 21, 3, 0, 10, 1, 3, 505), (.iload_n 1, 1, 0, 1, 0, 0, 0)] (by decide +kernel) (show m_sgl X _ _ _ _ _ = some (18, [some (.ref 16), some (.int v1), w2], [.int v1, .ref 19], (SH, m.1, m.2)) from rfl) ?_
      obtain ⟨q1, hc1, h⟩ := Option.bind_eq_some_iff.mp h
      refine m_R_cV (v := (some (.int q1.1))) (h1 := (SH, q1.2)) (rest := []) (lo' := [some (.ref 19), some (.int v1)]) (ml := 2) (k0 := 19) (by decide) (Or.inl rfl) (m_opb_of (ins := .invokevirtual 250) (len := 3) (tag := 5) (a := 25) (b := 1) (c := 0) (q := 965) (by decide +kernel)) (by decide +kernel) rfl (show m_isO 25 19 (SH, _) = true from m_isO_of (by decide +kernel)) (Nat.le_of_ble_eq_true rfl) rfl rfl (ok_Houses_isUp X (d + 3) F _ _ _ _ hc1) ?_
      rcases m_ite h with ⟨c1200, h⟩ | ⟨c1200, h⟩
      · refine m_R_1 (by decide) (m_opb_of (ins := .ifCond .ne 6) (len := 3) (tag := 0) (a := 27) (b := 0) (c := 0) (q := 0) (by decide +kernel)) (if_pos c1200) ?_
        refine m_R_sg (by decide) [(.goto 105, 3, 0, 129, 0, 0, 0)] (by decide +kernel) (show m_sgl X _ _ _ _ _ = some (129, [some (.ref 16), some (.int v1), w2], [], (SH, q1.2.1, q1.2.2)) from rfl) ?_
        exact ok_World_runOnBanks_129 X d F _ (fun a0 a1 m r m' h => ih a0 a1 m r m' h) _ _ _ _ _ h
      · refine m_R_1 (by decide) (m_opb_of (ins := .ifCond .ne 6) (len := 3) (tag := 0) (a := 27) (b := 0) (c := 0) (q := 0) (by decide +kernel)) (if_neg c1200) ?_
        refine m_R_sg (by decide) [(.aload_n 0, 1, 0, 0, 0, 0, 0), (.getfield 21, 3, 0, 10, 1, 3, 505), (.getfield 375, 3, 0, 1, 12, 0, 282), (.aload_n 0, 1, 0, 0, 0, 0, 0), (.getfield 21, 3, 0, 10, 1, 3, 505), (.getfield 378, 3, 0, 1, 5, 3, 265), (.iload_n 1, 1, 0, 1, 0, 0, 0)] (by decide +kernel) (show m_sgl X _ _ _ _ _ = some (42, [some (.ref 16), some (.int v1), w2], [.int v1, .ref 25, .int (q1.2.1 19 12)], (SH, q1.2.1, q1.2.2)) from rfl) ?_
        obtain ⟨c1201, h⟩ := m_ite_n h
        refine m_R_1 (by decide) (m_opb_of (ins := .iaload) (len := 1) (tag := 0) (a := 0) (b := 0) (c := 0) (q := 0) (by decide +kernel)) (m_s_iald sh_25 (by decide) c1201) ?_
        rcases m_ite h with ⟨c1202, h⟩ | ⟨c1202, h⟩
        · refine m_R_1 (by decide) (m_opb_of (ins := .if_icmp .le 29) (len := 3) (tag := 0) (a := 72) (b := 0) (c := 0) (q := 0) (by decide +kernel)) (if_pos c1202) ?_
          exact ok_World_runOnBanks_72 X d F _ (fun a0 a1 m r m' h => ih a0 a1 m r m' h) _ _ _ _ _ h
        · refine m_R_1 (by decide) (m_opb_of (ins := .if_icmp .le 29) (len := 3) (tag := 0) (a := 72) (b := 0) (c := 0) (q := 0) (by decide +kernel)) (if_neg c1202) ?_
          refine m_R_sg (by decide) [(.aload_n 0, 1, 0, 0, 0, 0, 0), (.iload_n 1, 1, 0, 1, 0, 0, 0), (.aload_n 0, 1, 0, 0, 0, 0, 0), (.getfield 95, 3, 0, 10, 9, 0, 520)] (by decide +kernel) (show m_sgl X _ _ _ _ _ = some (52, [some (.ref 16), some (.int v1), w2], [.int (q1.2.1 16 9), .int v1, .ref 16], (SH, q1.2.1, q1.2.2)) from rfl) ?_
          obtain ⟨q2, hc2, h⟩ := Option.bind_eq_some_iff.mp h
          refine m_R_cV (v := (some (.int q2.1))) (h1 := (SH, q2.2)) (rest := []) (lo' := [some (.ref 16), some (.int v1), some (.int (q1.2.1 16 9)), none, none, none, none]) (ml := 7) (k0 := 16) (by decide) (Or.inl rfl) (m_opb_of (ins := .invokevirtual 381) (len := 3) (tag := 5) (a := 158) (b := 2) (c := 0) (q := 1312) (by decide +kernel)) (by decide +kernel) rfl (show m_isO 158 16 (SH, _) = true from m_isO_of (by decide +kernel)) (Nat.le_of_ble_eq_true rfl) rfl rfl (ok_World_heardFailures X (d + 1) F _ _ _ _ _ hc2) ?_
          refine m_R_sg (by decide) [(.aload_n 0, 1, 0, 0, 0, 0, 0), (.getfield 21, 3, 0, 10, 1, 3, 505), (.getfield 378, 3, 0, 1, 5, 3, 265), (.iload_n 1, 1, 0, 1, 0, 0, 0)] (by decide +kernel) (show m_sgl X _ _ _ _ _ = some (63, [some (.ref 16), some (.int v1), w2], [.int v1, .ref 25, .int q2.1], (SH, q2.2.1, q2.2.2)) from rfl) ?_
          refine m_R_1 (by decide) (m_opb_of (ins := .iaload) (len := 1) (tag := 0) (a := 0) (b := 0) (c := 0) (q := 0) (by decide +kernel)) (m_s_iald sh_25 (by decide) c1201) ?_
          rcases m_ite h with ⟨c1203, h⟩ | ⟨c1203, h⟩
          · refine m_R_1 (by decide) (m_opb_of (ins := .if_icmp .le 8) (len := 3) (tag := 0) (a := 72) (b := 0) (c := 0) (q := 0) (by decide +kernel)) (if_pos c1203) ?_
            exact ok_World_runOnBanks_72 X d F _ (fun a0 a1 m r m' h => ih a0 a1 m r m' h) _ _ _ _ _ h
          · refine m_R_1 (by decide) (m_opb_of (ins := .if_icmp .le 8) (len := 3) (tag := 0) (a := 72) (b := 0) (c := 0) (q := 0) (by decide +kernel)) (if_neg c1203) ?_
            refine m_R_sg (by decide) [(.aload_n 0, 1, 0, 0, 0, 0, 0), (.iload_n 1, 1, 0, 1, 0, 0, 0)] (by decide +kernel) (show m_sgl X _ _ _ _ _ = some (69, [some (.ref 16), some (.int v1), w2], [.int v1, .ref 16], (SH, q2.2.1, q2.2.2)) from rfl) ?_
            obtain ⟨q3, hc3, h⟩ := Option.bind_eq_some_iff.mp h
            refine m_R_cV (v := none) (h1 := (SH, q3.2)) (rest := []) (lo' := [some (.ref 16), some (.int v1), none]) (ml := 3) (k0 := 16) (by decide) (Or.inl rfl) (m_opb_of (ins := .invokevirtual 384) (len := 3) (tag := 5) (a := 159) (b := 1) (c := 0) (q := 1316) (by decide +kernel)) (by decide +kernel) rfl (show m_isO 159 16 (SH, _) = true from m_isO_of (by decide +kernel)) (Nat.le_of_ble_eq_true rfl) rfl rfl (ok_World_askDepositsOf X (d + 0) F _ _ _ _ hc3) ?_
            exact ok_World_runOnBanks_72 X d F _ (fun a0 a1 m r m' h => ih a0 a1 m r m' h) _ _ _ _ _ h
def f_World_runOnBanks (F : Nat)    (m : mM) : Option (Unit × mM) := f_World_runOnBanks_2 F F (1 : Int32) m
theorem ok_World_runOnBanks (X : mX) (d F : Nat) : ∀   (m : mM) (r : Unit) (m' : mM), f_World_runOnBanks F  m = some (r, m') → m_R X (d + 5) 157 0 [some (.ref 16), none, none] [] (SH, m) (none, (SH, m')) := by
  intro m r m' h
  unfold f_World_runOnBanks at h
  refine m_R_sg (by decide) [(.iconst 1, 1, 0, 1, 0, 0, 0), (.istore_n 1, 1, 0, 1, 0, 0, 0)] (by decide +kernel) (show m_sgl X _ _ _ _ _ = some (2, [some (.ref 16), some (.int (1 : Int32)), none], [], (SH, m.1, m.2)) from rfl) ?_
  exact ok_World_runOnBanks_2 X d F F _ _ _ _ _ h
def f_World_sendShips_72 (F : Nat)    (m : mM) : Option (Unit × mM) := some ((), m)
theorem ok_World_sendShips_72 (X : mX) (d F : Nat) : ∀  (w0 : Option Value) (w1 : Option Value) (w2 : Option Value) (m : mM) (r : Unit) (m' : mM), f_World_sendShips_72 F  m = some (r, m') → m_R X (d + 2) 164 72 [w0, w1, w2] [] (SH, m) (none, (SH, m')) := by
  intro w0 w1 w2 m r m' h
  unfold f_World_sendShips_72 at h
  obtain ⟨rfl, rfl⟩ := m_some h
  exact m_R_vret (by decide) (m_opb_of (ins := .return_) (len := 1) (tag := 3) (a := 0) (b := 0) (c := 0) (q := 0) (by decide +kernel))
def f_World_sendShips (F : Nat)    (m : mM) : Option (Unit × mM) := ((f_Seasons_filled F (1 : Int32) ((m.1 16 9) / (7 : Int32)) m).bind fun q1 => ((f_Math_max F (0 : Int32) ((q1.2.1 22 (0 : Int32).toNatClampNeg) + ((m.1 16 11) * ((m.1 16 10) - q1.1))) q1.2).bind fun q2 => (if 0 ≤ ((q1.2.1 22 (0 : Int32).toNatClampNeg) + ((m.1 16 11) * ((m.1 16 10) - q1.1))) then f_World_sendShips_72 F ((m_up q2.2.1 22 (0 : Int32).toNatClampNeg q2.1), q2.2.2) else (if ((m_up q2.2.1 22 (0 : Int32).toNatClampNeg q2.1) 16 13) = (-1 : Int32) then f_World_sendShips_72 F ((m_up (m_up q2.2.1 22 (0 : Int32).toNatClampNeg q2.1) 16 13 ((m_up q2.2.1 22 (0 : Int32).toNatClampNeg q2.1) 16 9)), q2.2.2) else f_World_sendShips_72 F ((m_up q2.2.1 22 (0 : Int32).toNatClampNeg q2.1), q2.2.2)))))
theorem ok_World_sendShips (X : mX) (d F : Nat) : ∀   (m : mM) (r : Unit) (m' : mM), f_World_sendShips F  m = some (r, m') → m_R X (d + 2) 164 0 [some (.ref 16), none, none] [] (SH, m) (none, (SH, m')) := by
  intro m r m' h
  unfold f_World_sendShips at h
  refine m_R_sg (by decide) [(.aload_n 0, 1, 0, 0, 0, 0, 0), (.getfield 98, 3, 0, 10, 11, 0, 524), (.aload_n 0, 1, 0, 0, 0, 0, 0), (.getfield 52, 3, 0, 10, 10, 0, 522), (.aload_n 0, 1, 0, 0, 0, 0, 0), (.getfield 42, 3, 0, 10, 4, 3, 513), (.iconst 1, 1, 0, 1, 0, 0, 0), (.aload_n 0, 1, 0, 0, 0, 0, 0), (.getfield 95, 3, 0, 10, 9, 0, 520), (.bipush 7, 2, 0, 7, 0, 0, 0)] (by decide +kernel) (show m_sgl X _ _ _ _ _ = some (19, [some (.ref 16), none, none], [.int (7 : Int32), .int (m.1 16 9), .int (1 : Int32), .ref 52, .int (m.1 16 10), .int (m.1 16 11)], (SH, m.1, m.2)) from rfl) ?_
  refine m_R_1 (by decide) (m_opb_of (ins := .idiv) (len := 1) (tag := 0) (a := 0) (b := 0) (c := 0) (q := 0) (by decide +kernel)) (m_s_idiv (by decide)) ?_
  obtain ⟨q1, hc1, h⟩ := Option.bind_eq_some_iff.mp h
  refine m_R_cV (v := (some (.int q1.1))) (h1 := (SH, q1.2)) (rest := [.int (m.1 16 10), .int (m.1 16 11)]) (lo' := [some (.ref 52), some (.int (1 : Int32)), some (.int ((m.1 16 9) / (7 : Int32))), none, none, none]) (ml := 6) (k0 := 52) (by decide) (Or.inl rfl) (m_opb_of (ins := .invokevirtual 267) (len := 3) (tag := 5) (a := 112) (b := 2) (c := 0) (q := 1267) (by decide +kernel)) (by decide +kernel) rfl (show m_isO 112 52 (SH, _) = true from m_isO_of (by decide +kernel)) (Nat.le_of_ble_eq_true rfl) rfl rfl (ok_Seasons_filled X (d + 0) F _ _ _ _ _ hc1) ?_
  refine m_R_sg (by decide) [(.isub, 1, 0, 0, 0, 0, 0), (.imul, 1, 0, 0, 0, 0, 0), (.istore_n 1, 1, 0, 1, 0, 0, 0), (.aload_n 0, 1, 0, 0, 0, 0, 0), (.getfield 21, 3, 0, 10, 1, 3, 505), (.getfield 107, 3, 0, 1, 2, 3, 255), (.iconst 0, 1, 0, 0, 0, 0, 0)] (by decide +kernel) (show m_sgl X _ _ _ _ _ = some (34, [some (.ref 16), some (.int ((m.1 16 11) * ((m.1 16 10) - q1.1))), none], [.int (0 : Int32), .ref 22], (SH, q1.2.1, q1.2.2)) from rfl) ?_
  refine m_R_1 (by decide) (m_opb_of (ins := .iaload) (len := 1) (tag := 0) (a := 0) (b := 0) (c := 0) (q := 0) (by decide +kernel)) (m_s_iald sh_22 (by decide) (show ¬ ((0 : Int32) < 0 ∨ 16 ≤ (0 : Int32).toNatClampNeg) by decide)) ?_
  refine m_R_sg (by decide) [(.iload_n 1, 1, 0, 1, 0, 0, 0), (.iadd, 1, 0, 0, 0, 0, 0), (.istore_n 2, 1, 0, 2, 0, 0, 0), (.aload_n 0, 1, 0, 0, 0, 0, 0), (.getfield 21, 3, 0, 10, 1, 3, 505), (.getfield 107, 3, 0, 1, 2, 3, 255), (.iconst 0, 1, 0, 0, 0, 0, 0), (.iconst 0, 1, 0, 0, 0, 0, 0), (.iload_n 2, 1, 0, 2, 0, 0, 0)] (by decide +kernel) (show m_sgl X _ _ _ _ _ = some (48, [some (.ref 16), some (.int ((m.1 16 11) * ((m.1 16 10) - q1.1))), some (.int ((q1.2.1 22 (0 : Int32).toNatClampNeg) + ((m.1 16 11) * ((m.1 16 10) - q1.1))))], [.int ((q1.2.1 22 (0 : Int32).toNatClampNeg) + ((m.1 16 11) * ((m.1 16 10) - q1.1))), .int (0 : Int32), .int (0 : Int32), .ref 22], (SH, q1.2.1, q1.2.2)) from rfl) ?_
  obtain ⟨q2, hc2, h⟩ := Option.bind_eq_some_iff.mp h
  refine m_R_cS (v := (some (.int q2.1))) (h1 := (SH, q2.2)) (rest := [.int (0 : Int32), .ref 22]) (lo' := [some (.int (0 : Int32)), some (.int ((q1.2.1 22 (0 : Int32).toNatClampNeg) + ((m.1 16 11) * ((m.1 16 10) - q1.1))))]) (ml := 2) (by decide) (m_opb_of (ins := .invokestatic 294) (len := 3) (tag := 4) (a := 38) (b := 2) (c := 0) (q := 1285) (by decide +kernel)) (by decide +kernel) (Nat.le_of_ble_eq_true rfl) rfl (Nat.le_of_ble_eq_true rfl) rfl rfl (ok_Math_max X (d + 1) F _ _ _ _ _ hc2) ?_
  refine m_R_1 (by decide) (m_opb_of (ins := .iastore) (len := 1) (tag := 0) (a := 0) (b := 0) (c := 0) (q := 0) (by decide +kernel)) (m_s_iast sh_22 (show ¬ ((0 : Int32) < 0 ∨ 16 ≤ (0 : Int32).toNatClampNeg) by decide)) ?_
  refine m_R_sg (by decide) [(.iload_n 2, 1, 0, 2, 0, 0, 0)] (by decide +kernel) (show m_sgl X _ _ _ _ _ = some (53, [some (.ref 16), some (.int ((m.1 16 11) * ((m.1 16 10) - q1.1))), some (.int ((q1.2.1 22 (0 : Int32).toNatClampNeg) + ((m.1 16 11) * ((m.1 16 10) - q1.1))))], [.int ((q1.2.1 22 (0 : Int32).toNatClampNeg) + ((m.1 16 11) * ((m.1 16 10) - q1.1)))], (SH, (m_up q2.2.1 22 (0 : Int32).toNatClampNeg q2.1), q2.2.2)) from rfl) ?_
  rcases m_ite h with ⟨c1204, h⟩ | ⟨c1204, h⟩
  · refine m_R_1 (by decide) (m_opb_of (ins := .ifCond .ge 19) (len := 3) (tag := 0) (a := 72) (b := 0) (c := 0) (q := 0) (by decide +kernel)) (if_pos c1204) ?_
    exact ok_World_sendShips_72 X d F _ _ _ _ _ _ h
  · refine m_R_1 (by decide) (m_opb_of (ins := .ifCond .ge 19) (len := 3) (tag := 0) (a := 72) (b := 0) (c := 0) (q := 0) (by decide +kernel)) (if_neg c1204) ?_
    refine m_R_sg (by decide) [(.aload_n 0, 1, 0, 0, 0, 0, 0), (.getfield 56, 3, 0, 10, 13, 0, 528), (.iconst (-1), 1, 0, 1, 1, 0, 0)] (by decide +kernel) (show m_sgl X _ _ _ _ _ = some (61, [some (.ref 16), some (.int ((m.1 16 11) * ((m.1 16 10) - q1.1))), some (.int ((q1.2.1 22 (0 : Int32).toNatClampNeg) + ((m.1 16 11) * ((m.1 16 10) - q1.1))))], [.int (-1 : Int32), .int ((m_up q2.2.1 22 (0 : Int32).toNatClampNeg q2.1) 16 13)], (SH, (m_up q2.2.1 22 (0 : Int32).toNatClampNeg q2.1), q2.2.2)) from rfl) ?_
    rcases m_ite h with ⟨c1205, h⟩ | ⟨c1205, h⟩
    · refine m_R_1 (by decide) (m_opb_of (ins := .if_icmp .ne 11) (len := 3) (tag := 0) (a := 72) (b := 0) (c := 0) (q := 0) (by decide +kernel)) (if_pos c1205) ?_
      refine m_R_sg (by decide) [(.aload_n 0, 1, 0, 0, 0, 0, 0), (.aload_n 0, 1, 0, 0, 0, 0, 0), (.getfield 95, 3, 0, 10, 9, 0, 520), (.putfield 56, 3, 0, 10, 13, 0, 528)] (by decide +kernel) (show m_sgl X _ _ _ _ _ = some (72, [some (.ref 16), some (.int ((m.1 16 11) * ((m.1 16 10) - q1.1))), some (.int ((q1.2.1 22 (0 : Int32).toNatClampNeg) + ((m.1 16 11) * ((m.1 16 10) - q1.1))))], [], (SH, (m_up (m_up q2.2.1 22 (0 : Int32).toNatClampNeg q2.1) 16 13 ((m_up q2.2.1 22 (0 : Int32).toNatClampNeg q2.1) 16 9)), q2.2.2)) from rfl) ?_
      exact ok_World_sendShips_72 X d F _ _ _ _ _ _ h
    · refine m_R_1 (by decide) (m_opb_of (ins := .if_icmp .ne 11) (len := 3) (tag := 0) (a := 72) (b := 0) (c := 0) (q := 0) (by decide +kernel)) (if_neg c1205) ?_
      exact ok_World_sendShips_72 X d F _ _ _ _ _ _ h
def f_World_writeSheet_158 (F : Nat)  (k26 : Int32 → Int32 → Int32 → Int32 → Int32 → mM → Option (Unit × mM)) (v1 : Int32) (v2 : Int32) (v3 : Int32) (v4 : Int32) (v5 : Int32) (m : mM) : Option (Unit × mM) := k26 v1 v2 v3 v4 (v5 + (1 : Int32)) m
theorem ok_World_writeSheet_158 (X : mX) (d F : Nat) (k26 : Int32 → Int32 → Int32 → Int32 → Int32 → mM → Option (Unit × mM)) (hk26 : ∀ (v1 : Int32) (v2 : Int32) (v3 : Int32) (v4 : Int32) (v5 : Int32) (w6 : Option Value) (m : mM) (r : Unit) (m' : mM), k26 v1 v2 v3 v4 v5 m = some (r, m') → m_R X (d + 3) 165 26 [some (.ref 16), some (.int v1), some (.int v2), some (.int v3), some (.int v4), some (.int v5), w6] [] (SH, m) (none, (SH, m'))) : ∀ (v1 : Int32) (v2 : Int32) (v3 : Int32) (v4 : Int32) (v5 : Int32) (w6 : Option Value) (m : mM) (r : Unit) (m' : mM), f_World_writeSheet_158 F k26 v1 v2 v3 v4 v5 m = some (r, m') → m_R X (d + 3) 165 158 [some (.ref 16), some (.int v1), some (.int v2), some (.int v3), some (.int v4), some (.int v5), w6] [] (SH, m) (none, (SH, m')) := by
  intro v1 v2 v3 v4 v5 w6 m r m' h
  unfold f_World_writeSheet_158 at h
  refine m_R_sg (by decide) [(.iinc 5 1, 3, 0, 5, 1, 0, 0), (.goto (-135), 3, 0, 26, 0, 0, 0)] (by decide +kernel) (show m_sgl X _ _ _ _ _ = some (26, [some (.ref 16), some (.int v1), some (.int v2), some (.int v3), some (.int v4), some (.int (v5 + (1 : Int32))), w6], [], (SH, m.1, m.2)) from rfl) ?_
  exact hk26 _ _ _ _ _ _ _ _ _ h
def f_World_writeSheet_145 (F : Nat)  (k26 : Int32 → Int32 → Int32 → Int32 → Int32 → mM → Option (Unit × mM)) (v1 : Int32) (v2 : Int32) (v3 : Int32) (v4 : Int32) (v5 : Int32) (m : mM) : Option (Unit × mM) := (if v5 < 0 ∨ 60 ≤ v5.toNatClampNeg then none else f_World_writeSheet_158 F k26 v1 v2 (v3 + (m.1 33 v5.toNatClampNeg)) v4 v5 m)
theorem ok_World_writeSheet_145 (X : mX) (d F : Nat) (k26 : Int32 → Int32 → Int32 → Int32 → Int32 → mM → Option (Unit × mM)) (hk26 : ∀ (v1 : Int32) (v2 : Int32) (v3 : Int32) (v4 : Int32) (v5 : Int32) (w6 : Option Value) (m : mM) (r : Unit) (m' : mM), k26 v1 v2 v3 v4 v5 m = some (r, m') → m_R X (d + 3) 165 26 [some (.ref 16), some (.int v1), some (.int v2), some (.int v3), some (.int v4), some (.int v5), w6] [] (SH, m) (none, (SH, m'))) : ∀ (v1 : Int32) (v2 : Int32) (v3 : Int32) (v4 : Int32) (v5 : Int32) (w6 : Option Value) (m : mM) (r : Unit) (m' : mM), f_World_writeSheet_145 F k26 v1 v2 v3 v4 v5 m = some (r, m') → m_R X (d + 3) 165 145 [some (.ref 16), some (.int v1), some (.int v2), some (.int v3), some (.int v4), some (.int v5), w6] [] (SH, m) (none, (SH, m')) := by
  intro v1 v2 v3 v4 v5 w6 m r m' h
  unfold f_World_writeSheet_145 at h
  refine m_R_sg (by decide) [(.iload_n 3, 1, 0, 3, 0, 0, 0), (.aload_n 0, 1, 0, 0, 0, 0, 0), (.getfield 28, 3, 0, 10, 2, 3, 508), (.getfield 135, 3, 0, 4, 1, 3, 323), (.iload 5, 2, 0, 5, 0, 0, 0)] (by decide +kernel) (show m_sgl X _ _ _ _ _ = some (155, [some (.ref 16), some (.int v1), some (.int v2), some (.int v3), some (.int v4), some (.int v5), w6], [.int v5, .ref 33, .int v3], (SH, m.1, m.2)) from rfl) ?_
  obtain ⟨c1206, h⟩ := m_ite_n h
  refine m_R_1 (by decide) (m_opb_of (ins := .iaload) (len := 1) (tag := 0) (a := 0) (b := 0) (c := 0) (q := 0) (by decide +kernel)) (m_s_iald sh_33 (by decide) c1206) ?_
  refine m_R_sg (by decide) [(.iadd, 1, 0, 0, 0, 0, 0), (.istore_n 3, 1, 0, 3, 0, 0, 0)] (by decide +kernel) (show m_sgl X _ _ _ _ _ = some (158, [some (.ref 16), some (.int v1), some (.int v2), some (.int (v3 + (m.1 33 v5.toNatClampNeg))), some (.int v4), some (.int v5), w6], [], (SH, m.1, m.2)) from rfl) ?_
  exact ok_World_writeSheet_158 X d F _ hk26 _ _ _ _ _ _ _ _ _ h
def f_World_writeSheet_127 (F : Nat)  (k26 : Int32 → Int32 → Int32 → Int32 → Int32 → mM → Option (Unit × mM)) (v1 : Int32) (v2 : Int32) (v3 : Int32) (v4 : Int32) (v5 : Int32) (v6 : Int32) (m : mM) : Option (Unit × mM) := (if v6 = 0 then (if v5 < 0 ∨ 60 ≤ v5.toNatClampNeg then none else (if (m.1 40 v5.toNatClampNeg) = 0 then f_World_writeSheet_145 F k26 v1 v2 v3 v4 v5 m else f_World_writeSheet_158 F k26 v1 v2 v3 v4 v5 m)) else f_World_writeSheet_145 F k26 v1 v2 v3 v4 v5 m)
theorem ok_World_writeSheet_127 (X : mX) (d F : Nat) (k26 : Int32 → Int32 → Int32 → Int32 → Int32 → mM → Option (Unit × mM)) (hk26 : ∀ (v1 : Int32) (v2 : Int32) (v3 : Int32) (v4 : Int32) (v5 : Int32) (w6 : Option Value) (m : mM) (r : Unit) (m' : mM), k26 v1 v2 v3 v4 v5 m = some (r, m') → m_R X (d + 3) 165 26 [some (.ref 16), some (.int v1), some (.int v2), some (.int v3), some (.int v4), some (.int v5), w6] [] (SH, m) (none, (SH, m'))) : ∀ (v1 : Int32) (v2 : Int32) (v3 : Int32) (v4 : Int32) (v5 : Int32) (v6 : Int32)  (m : mM) (r : Unit) (m' : mM), f_World_writeSheet_127 F k26 v1 v2 v3 v4 v5 v6 m = some (r, m') → m_R X (d + 3) 165 127 [some (.ref 16), some (.int v1), some (.int v2), some (.int v3), some (.int v4), some (.int v5), some (.int v6)] [] (SH, m) (none, (SH, m')) := by
  intro v1 v2 v3 v4 v5 v6 m r m' h
  unfold f_World_writeSheet_127 at h
  refine m_R_sg (by decide) [(.iload 6, 2, 0, 6, 0, 0, 0)] (by decide +kernel) (show m_sgl X _ _ _ _ _ = some (129, [some (.ref 16), some (.int v1), some (.int v2), some (.int v3), some (.int v4), some (.int v5), some (.int v6)], [.int v6], (SH, m.1, m.2)) from rfl) ?_
  rcases m_ite h with ⟨c1207, h⟩ | ⟨c1207, h⟩
  · refine m_R_1 (by decide) (m_opb_of (ins := .ifCond .ne 16) (len := 3) (tag := 0) (a := 145) (b := 0) (c := 0) (q := 0) (by decide +kernel)) (if_pos c1207) ?_
    refine m_R_sg (by decide) [(.aload_n 0, 1, 0, 0, 0, 0, 0), (.getfield 28, 3, 0, 10, 2, 3, 508), (.getfield 238, 3, 0, 4, 8, 3, 346), (.iload 5, 2, 0, 5, 0, 0, 0)] (by decide +kernel) (show m_sgl X _ _ _ _ _ = some (141, [some (.ref 16), some (.int v1), some (.int v2), some (.int v3), some (.int v4), some (.int v5), some (.int v6)], [.int v5, .ref 40], (SH, m.1, m.2)) from rfl) ?_
    obtain ⟨c1208, h⟩ := m_ite_n h
    refine m_R_1 (by decide) (m_opb_of (ins := .iaload) (len := 1) (tag := 0) (a := 0) (b := 0) (c := 0) (q := 0) (by decide +kernel)) (m_s_iald sh_40 (by decide) c1208) ?_
    rcases m_ite h with ⟨c1209, h⟩ | ⟨c1209, h⟩
    · refine m_R_1 (by decide) (m_opb_of (ins := .ifCond .ne 16) (len := 3) (tag := 0) (a := 158) (b := 0) (c := 0) (q := 0) (by decide +kernel)) (if_pos c1209) ?_
      exact ok_World_writeSheet_145 X d F _ hk26 _ _ _ _ _ _ _ _ _ h
    · refine m_R_1 (by decide) (m_opb_of (ins := .ifCond .ne 16) (len := 3) (tag := 0) (a := 158) (b := 0) (c := 0) (q := 0) (by decide +kernel)) (if_neg c1209) ?_
      exact ok_World_writeSheet_158 X d F _ hk26 _ _ _ _ _ _ _ _ _ h
  · refine m_R_1 (by decide) (m_opb_of (ins := .ifCond .ne 16) (len := 3) (tag := 0) (a := 145) (b := 0) (c := 0) (q := 0) (by decide +kernel)) (if_neg c1207) ?_
    exact ok_World_writeSheet_145 X d F _ hk26 _ _ _ _ _ _ _ _ _ h
def f_World_writeSheet_83 (F : Nat)  (k26 : Int32 → Int32 → Int32 → Int32 → Int32 → mM → Option (Unit × mM)) (v1 : Int32) (v2 : Int32) (v3 : Int32) (v4 : Int32) (v5 : Int32) (s0 : Int32) (m : mM) : Option (Unit × mM) := (if s0 = 0 then f_World_writeSheet_127 F k26 v1 v2 v3 v4 v5 s0 m else (if v5 < 0 ∨ 60 ≤ v5.toNatClampNeg then none else (if ((m.1 16 9) - (m.1 44 v5.toNatClampNeg)) ≤ v1 then f_World_writeSheet_127 F k26 v1 v2 v3 v4 v5 s0 m else f_World_writeSheet_158 F k26 v1 v2 v3 (v4 + (m.1 33 v5.toNatClampNeg)) v5 m)))
theorem ok_World_writeSheet_83 (X : mX) (d F : Nat) (k26 : Int32 → Int32 → Int32 → Int32 → Int32 → mM → Option (Unit × mM)) (hk26 : ∀ (v1 : Int32) (v2 : Int32) (v3 : Int32) (v4 : Int32) (v5 : Int32) (w6 : Option Value) (m : mM) (r : Unit) (m' : mM), k26 v1 v2 v3 v4 v5 m = some (r, m') → m_R X (d + 3) 165 26 [some (.ref 16), some (.int v1), some (.int v2), some (.int v3), some (.int v4), some (.int v5), w6] [] (SH, m) (none, (SH, m'))) : ∀ (v1 : Int32) (v2 : Int32) (v3 : Int32) (v4 : Int32) (v5 : Int32) (s0 : Int32) (w6 : Option Value) (m : mM) (r : Unit) (m' : mM), f_World_writeSheet_83 F k26 v1 v2 v3 v4 v5 s0 m = some (r, m') → m_R X (d + 3) 165 83 [some (.ref 16), some (.int v1), some (.int v2), some (.int v3), some (.int v4), some (.int v5), w6] [.int s0] (SH, m) (none, (SH, m')) := by
  intro v1 v2 v3 v4 v5 s0 w6 m r m' h
  unfold f_World_writeSheet_83 at h
  refine m_R_sg (by decide) [(.istore 6, 2, 0, 6, 0, 0, 0), (.iload 6, 2, 0, 6, 0, 0, 0)] (by decide +kernel) (show m_sgl X _ _ _ _ _ = some (87, [some (.ref 16), some (.int v1), some (.int v2), some (.int v3), some (.int v4), some (.int v5), some (.int s0)], [.int s0], (SH, m.1, m.2)) from rfl) ?_
  rcases m_ite h with ⟨c1210, h⟩ | ⟨c1210, h⟩
  · refine m_R_1 (by decide) (m_opb_of (ins := .ifCond .eq 40) (len := 3) (tag := 0) (a := 127) (b := 0) (c := 0) (q := 0) (by decide +kernel)) (if_pos c1210) ?_
    exact ok_World_writeSheet_127 X d F _ hk26 _ _ _ _ _ _ _ _ _ h
  · refine m_R_1 (by decide) (m_opb_of (ins := .ifCond .eq 40) (len := 3) (tag := 0) (a := 127) (b := 0) (c := 0) (q := 0) (by decide +kernel)) (if_neg c1210) ?_
    refine m_R_sg (by decide) [(.aload_n 0, 1, 0, 0, 0, 0, 0), (.getfield 95, 3, 0, 10, 9, 0, 520), (.aload_n 0, 1, 0, 0, 0, 0, 0), (.getfield 28, 3, 0, 10, 2, 3, 508), (.getfield 235, 3, 0, 4, 12, 3, 358), (.iload 5, 2, 0, 5, 0, 0, 0)] (by decide +kernel) (show m_sgl X _ _ _ _ _ = some (103, [some (.ref 16), some (.int v1), some (.int v2), some (.int v3), some (.int v4), some (.int v5), some (.int s0)], [.int v5, .ref 44, .int (m.1 16 9)], (SH, m.1, m.2)) from rfl) ?_
    obtain ⟨c1211, h⟩ := m_ite_n h
    refine m_R_1 (by decide) (m_opb_of (ins := .iaload) (len := 1) (tag := 0) (a := 0) (b := 0) (c := 0) (q := 0) (by decide +kernel)) (m_s_iald sh_44 (by decide) c1211) ?_
    refine m_R_sg (by decide) [(.isub, 1, 0, 0, 0, 0, 0), (.iload_n 1, 1, 0, 1, 0, 0, 0)] (by decide +kernel) (show m_sgl X _ _ _ _ _ = some (106, [some (.ref 16), some (.int v1), some (.int v2), some (.int v3), some (.int v4), some (.int v5), some (.int s0)], [.int v1, .int ((m.1 16 9) - (m.1 44 v5.toNatClampNeg))], (SH, m.1, m.2)) from rfl) ?_
    rcases m_ite h with ⟨c1212, h⟩ | ⟨c1212, h⟩
    · refine m_R_1 (by decide) (m_opb_of (ins := .if_icmp .le 21) (len := 3) (tag := 0) (a := 127) (b := 0) (c := 0) (q := 0) (by decide +kernel)) (if_pos c1212) ?_
      exact ok_World_writeSheet_127 X d F _ hk26 _ _ _ _ _ _ _ _ _ h
    · refine m_R_1 (by decide) (m_opb_of (ins := .if_icmp .le 21) (len := 3) (tag := 0) (a := 127) (b := 0) (c := 0) (q := 0) (by decide +kernel)) (if_neg c1212) ?_
      refine m_R_sg (by decide) [(.iload 4, 2, 0, 4, 0, 0, 0), (.aload_n 0, 1, 0, 0, 0, 0, 0), (.getfield 28, 3, 0, 10, 2, 3, 508), (.getfield 135, 3, 0, 4, 1, 3, 323), (.iload 5, 2, 0, 5, 0, 0, 0)] (by decide +kernel) (show m_sgl X _ _ _ _ _ = some (120, [some (.ref 16), some (.int v1), some (.int v2), some (.int v3), some (.int v4), some (.int v5), some (.int s0)], [.int v5, .ref 33, .int v4], (SH, m.1, m.2)) from rfl) ?_
      refine m_R_1 (by decide) (m_opb_of (ins := .iaload) (len := 1) (tag := 0) (a := 0) (b := 0) (c := 0) (q := 0) (by decide +kernel)) (m_s_iald sh_33 (by decide) c1211) ?_
      refine m_R_sg (by decide) [(.iadd, 1, 0, 0, 0, 0, 0), (.istore 4, 2, 0, 4, 0, 0, 0), (.goto 34, 3, 0, 158, 0, 0, 0)] (by decide +kernel) (show m_sgl X _ _ _ _ _ = some (158, [some (.ref 16), some (.int v1), some (.int v2), some (.int v3), some (.int (v4 + (m.1 33 v5.toNatClampNeg))), some (.int v5), some (.int s0)], [], (SH, m.1, m.2)) from rfl) ?_
      exact ok_World_writeSheet_158 X d F _ hk26 _ _ _ _ _ _ _ _ _ h
def f_World_writeSheet_309 (F : Nat)  (k279 : Int32 → Int32 → Int32 → mM → Option (Unit × mM)) (v2 : Int32) (v5 : Int32) (v6 : Int32) (m : mM) : Option (Unit × mM) := k279 v2 v5 (v6 + (1 : Int32)) m
theorem ok_World_writeSheet_309 (X : mX) (d F : Nat) (k279 : Int32 → Int32 → Int32 → mM → Option (Unit × mM)) (hk279 : ∀ (v2 : Int32) (v5 : Int32) (v6 : Int32) (w1 : Option Value) (w3 : Option Value) (w4 : Option Value) (m : mM) (r : Unit) (m' : mM), k279 v2 v5 v6 m = some (r, m') → m_R X (d + 3) 165 279 [some (.ref 16), w1, some (.int v2), w3, w4, some (.int v5), some (.int v6)] [] (SH, m) (none, (SH, m'))) : ∀ (v2 : Int32) (v5 : Int32) (v6 : Int32) (w1 : Option Value) (w3 : Option Value) (w4 : Option Value) (m : mM) (r : Unit) (m' : mM), f_World_writeSheet_309 F k279 v2 v5 v6 m = some (r, m') → m_R X (d + 3) 165 309 [some (.ref 16), w1, some (.int v2), w3, w4, some (.int v5), some (.int v6)] [] (SH, m) (none, (SH, m')) := by
  intro v2 v5 v6 w1 w3 w4 m r m' h
  unfold f_World_writeSheet_309 at h
  refine m_R_sg (by decide) [(.iinc 6 1, 3, 0, 6, 1, 0, 0), (.goto (-33), 3, 0, 279, 0, 0, 0)] (by decide +kernel) (show m_sgl X _ _ _ _ _ = some (279, [some (.ref 16), w1, some (.int v2), w3, w4, some (.int v5), some (.int (v6 + (1 : Int32)))], [], (SH, m.1, m.2)) from rfl) ?_
  exact hk279 _ _ _ _ _ _ _ _ _ h
def f_World_writeSheet_279 (F : Nat)   : Nat → Int32 → Int32 → Int32 → mM → Option (Unit × mM)
  | 0, _, _, _, _ => none
  | n + 1, v2, v5, v6, m => (if (6 : Int32) ≤ v6 then some ((), m) else (if ((v2 >>> (v6 &&& 31)) &&& (1 : Int32)) = 0 then (if (v5 + v6) < 0 ∨ 600 ≤ (v5 + v6).toNatClampNeg then none else f_World_writeSheet_309 F (f_World_writeSheet_279 F n) v2 v5 v6 ((m_up m.1 7 (v5 + v6).toNatClampNeg (-1 : Int32)), m.2)) else f_World_writeSheet_309 F (f_World_writeSheet_279 F n) v2 v5 v6 m))
theorem ok_World_writeSheet_279 (X : mX) (d F : Nat) : ∀ (n : Nat) (v2 : Int32) (v5 : Int32) (v6 : Int32) (w1 : Option Value) (w3 : Option Value) (w4 : Option Value) (m : mM) (r : Unit) (m' : mM), f_World_writeSheet_279 F n v2 v5 v6 m = some (r, m') → m_R X (d + 3) 165 279 [some (.ref 16), w1, some (.int v2), w3, w4, some (.int v5), some (.int v6)] [] (SH, m) (none, (SH, m')) := by
  intro n
  induction n with
  | zero => intro v2 v5 v6 w1 w3 w4 m r m' h; cases h
  | succ n ih =>
    intro v2 v5 v6 w1 w3 w4 m r m' h
    simp only [f_World_writeSheet_279] at h
    refine m_R_sg (by decide) [(.iload 6, 2, 0, 6, 0, 0, 0), (.bipush 6, 2, 0, 6, 0, 0, 0)] (by decide +kernel) (show m_sgl X _ _ _ _ _ = some (283, [some (.ref 16), w1, some (.int v2), w3, w4, some (.int v5), some (.int v6)], [.int (6 : Int32), .int v6], (SH, m.1, m.2)) from rfl) ?_
    rcases m_ite h with ⟨c1213, h⟩ | ⟨c1213, h⟩
    · refine m_R_1 (by decide) (m_opb_of (ins := .if_icmp .ge 32) (len := 3) (tag := 0) (a := 315) (b := 0) (c := 0) (q := 0) (by decide +kernel)) (if_pos c1213) ?_
      obtain ⟨rfl, rfl⟩ := m_some h
      exact m_R_vret (by decide) (m_opb_of (ins := .return_) (len := 1) (tag := 3) (a := 0) (b := 0) (c := 0) (q := 0) (by decide +kernel))
    · refine m_R_1 (by decide) (m_opb_of (ins := .if_icmp .ge 32) (len := 3) (tag := 0) (a := 315) (b := 0) (c := 0) (q := 0) (by decide +kernel)) (if_neg c1213) ?_
      refine m_R_sg (by decide) [(.iload_n 2, 1, 0, 2, 0, 0, 0), (.iload 6, 2, 0, 6, 0, 0, 0), (.ishr, 1, 0, 0, 0, 0, 0), (.iconst 1, 1, 0, 1, 0, 0, 0), (.iand, 1, 0, 0, 0, 0, 0)] (by decide +kernel) (show m_sgl X _ _ _ _ _ = some (292, [some (.ref 16), w1, some (.int v2), w3, w4, some (.int v5), some (.int v6)], [.int ((v2 >>> (v6 &&& 31)) &&& (1 : Int32))], (SH, m.1, m.2)) from rfl) ?_
      rcases m_ite h with ⟨c1214, h⟩ | ⟨c1214, h⟩
      · refine m_R_1 (by decide) (m_opb_of (ins := .ifCond .ne 17) (len := 3) (tag := 0) (a := 309) (b := 0) (c := 0) (q := 0) (by decide +kernel)) (if_pos c1214) ?_
        refine m_R_sg (by decide) [(.aload_n 0, 1, 0, 0, 0, 0, 0), (.getfield 59, 3, 0, 10, 6, 3, 516), (.getfield 309, 3, 0, 6, 5, 3, 175), (.iload 5, 2, 0, 5, 0, 0, 0), (.iload 6, 2, 0, 6, 0, 0, 0), (.iadd, 1, 0, 0, 0, 0, 0), (.iconst (-1), 1, 0, 1, 1, 0, 0)] (by decide +kernel) (show m_sgl X _ _ _ _ _ = some (308, [some (.ref 16), w1, some (.int v2), w3, w4, some (.int v5), some (.int v6)], [.int (-1 : Int32), .int (v5 + v6), .ref 7], (SH, m.1, m.2)) from rfl) ?_
        obtain ⟨c1215, h⟩ := m_ite_n h
        refine m_R_1 (by decide) (m_opb_of (ins := .iastore) (len := 1) (tag := 0) (a := 0) (b := 0) (c := 0) (q := 0) (by decide +kernel)) (m_s_iast sh_7 c1215) ?_
        exact ok_World_writeSheet_309 X d F _ (fun a0 a1 a2 a3 a4 a5 m r m' h => ih a0 a1 a2 a3 a4 a5 m r m' h) _ _ _ _ _ _ _ _ _ h
      · refine m_R_1 (by decide) (m_opb_of (ins := .ifCond .ne 17) (len := 3) (tag := 0) (a := 309) (b := 0) (c := 0) (q := 0) (by decide +kernel)) (if_neg c1214) ?_
        exact ok_World_writeSheet_309 X d F _ (fun a0 a1 a2 a3 a4 a5 m r m' h => ih a0 a1 a2 a3 a4 a5 m r m' h) _ _ _ _ _ _ _ _ _ h
def f_World_writeSheet_260 (F : Nat)   (v2 : Int32) (v5 : Int32) (m : mM) : Option (Unit × mM) := ((f_World_reserve F m).bind fun q4 => (if (v5 + (5 : Int32)) < 0 ∨ 600 ≤ (v5 + (5 : Int32)).toNatClampNeg then none else f_World_writeSheet_279 F F v2 v5 (0 : Int32) ((m_up q4.2.1 7 (v5 + (5 : Int32)).toNatClampNeg q4.1), q4.2.2)))
theorem ok_World_writeSheet_260 (X : mX) (d F : Nat) : ∀ (v2 : Int32) (v5 : Int32) (w1 : Option Value) (w3 : Option Value) (w4 : Option Value) (w6 : Option Value) (m : mM) (r : Unit) (m' : mM), f_World_writeSheet_260 F v2 v5 m = some (r, m') → m_R X (d + 3) 165 260 [some (.ref 16), w1, some (.int v2), w3, w4, some (.int v5), w6] [] (SH, m) (none, (SH, m')) := by
  intro v2 v5 w1 w3 w4 w6 m r m' h
  unfold f_World_writeSheet_260 at h
  refine m_R_sg (by decide) [(.aload_n 0, 1, 0, 0, 0, 0, 0), (.getfield 59, 3, 0, 10, 6, 3, 516), (.getfield 309, 3, 0, 6, 5, 3, 175), (.iload 5, 2, 0, 5, 0, 0, 0), (.iconst 5, 1, 0, 5, 0, 0, 0), (.iadd, 1, 0, 0, 0, 0, 0), (.aload_n 0, 1, 0, 0, 0, 0, 0)] (by decide +kernel) (show m_sgl X _ _ _ _ _ = some (272, [some (.ref 16), w1, some (.int v2), w3, w4, some (.int v5), w6], [.ref 16, .int (v5 + (5 : Int32)), .ref 7], (SH, m.1, m.2)) from rfl) ?_
  obtain ⟨q4, hc4, h⟩ := Option.bind_eq_some_iff.mp h
  refine m_R_cV (v := (some (.int q4.1))) (h1 := (SH, q4.2)) (rest := [.int (v5 + (5 : Int32)), .ref 7]) (lo' := [some (.ref 16), none]) (ml := 2) (k0 := 16) (by decide) (Or.inl rfl) (m_opb_of (ins := .invokevirtual 131) (len := 3) (tag := 5) (a := 42) (b := 0) (c := 0) (q := 783) (by decide +kernel)) (by decide +kernel) rfl (show m_isO 42 16 (SH, _) = true from m_isO_of (by decide +kernel)) (Nat.le_of_ble_eq_true rfl) rfl rfl (ok_World_reserve X (d + 2) F _ _ _ hc4) ?_
  obtain ⟨c1216, h⟩ := m_ite_n h
  refine m_R_1 (by decide) (m_opb_of (ins := .iastore) (len := 1) (tag := 0) (a := 0) (b := 0) (c := 0) (q := 0) (by decide +kernel)) (m_s_iast sh_7 c1216) ?_
  refine m_R_sg (by decide) [(.iconst 0, 1, 0, 0, 0, 0, 0), (.istore 6, 2, 0, 6, 0, 0, 0)] (by decide +kernel) (show m_sgl X _ _ _ _ _ = some (279, [some (.ref 16), w1, some (.int v2), w3, w4, some (.int v5), some (.int (0 : Int32))], [], (SH, (m_up q4.2.1 7 (v5 + (5 : Int32)).toNatClampNeg q4.1), q4.2.2)) from rfl) ?_
  exact ok_World_writeSheet_279 X d F F _ _ _ _ _ _ _ _ _ h
def f_World_writeSheet_217 (F : Nat)   (v2 : Int32) (v3 : Int32) (v4 : Int32) (v5 : Int32) (m : mM) : Option (Unit × mM) := (if (v5 + (2 : Int32)) < 0 ∨ 600 ≤ (v5 + (2 : Int32)).toNatClampNeg then none else (if (v5 + (3 : Int32)) < 0 ∨ 600 ≤ (v5 + (3 : Int32)).toNatClampNeg then none else (if (v5 + (4 : Int32)) < 0 ∨ 600 ≤ (v5 + (4 : Int32)).toNatClampNeg then none else f_World_writeSheet_260 F v2 v5 ((m_up (m_up (m_up m.1 7 (v5 + (2 : Int32)).toNatClampNeg v3) 7 (v5 + (3 : Int32)).toNatClampNeg v4) 7 (v5 + (4 : Int32)).toNatClampNeg ((m_up (m_up m.1 7 (v5 + (2 : Int32)).toNatClampNeg v3) 7 (v5 + (3 : Int32)).toNatClampNeg v4) 16 10)), m.2))))
theorem ok_World_writeSheet_217 (X : mX) (d F : Nat) : ∀ (v2 : Int32) (v3 : Int32) (v4 : Int32) (v5 : Int32) (w1 : Option Value) (w6 : Option Value) (m : mM) (r : Unit) (m' : mM), f_World_writeSheet_217 F v2 v3 v4 v5 m = some (r, m') → m_R X (d + 3) 165 217 [some (.ref 16), w1, some (.int v2), some (.int v3), some (.int v4), some (.int v5), w6] [] (SH, m) (none, (SH, m')) := by
  intro v2 v3 v4 v5 w1 w6 m r m' h
  unfold f_World_writeSheet_217 at h
  refine m_R_sg (by decide) [(.aload_n 0, 1, 0, 0, 0, 0, 0), (.getfield 59, 3, 0, 10, 6, 3, 516), (.getfield 309, 3, 0, 6, 5, 3, 175), (.iload 5, 2, 0, 5, 0, 0, 0), (.iconst 2, 1, 0, 2, 0, 0, 0), (.iadd, 1, 0, 0, 0, 0, 0), (.iload_n 3, 1, 0, 3, 0, 0, 0)] (by decide +kernel) (show m_sgl X _ _ _ _ _ = some (229, [some (.ref 16), w1, some (.int v2), some (.int v3), some (.int v4), some (.int v5), w6], [.int v3, .int (v5 + (2 : Int32)), .ref 7], (SH, m.1, m.2)) from rfl) ?_
  obtain ⟨c1217, h⟩ := m_ite_n h
  refine m_R_1 (by decide) (m_opb_of (ins := .iastore) (len := 1) (tag := 0) (a := 0) (b := 0) (c := 0) (q := 0) (by decide +kernel)) (m_s_iast sh_7 c1217) ?_
  refine m_R_sg (by decide) [(.aload_n 0, 1, 0, 0, 0, 0, 0), (.getfield 59, 3, 0, 10, 6, 3, 516), (.getfield 309, 3, 0, 6, 5, 3, 175), (.iload 5, 2, 0, 5, 0, 0, 0), (.iconst 3, 1, 0, 3, 0, 0, 0), (.iadd, 1, 0, 0, 0, 0, 0), (.iload 4, 2, 0, 4, 0, 0, 0)] (by decide +kernel) (show m_sgl X _ _ _ _ _ = some (243, [some (.ref 16), w1, some (.int v2), some (.int v3), some (.int v4), some (.int v5), w6], [.int v4, .int (v5 + (3 : Int32)), .ref 7], (SH, (m_up m.1 7 (v5 + (2 : Int32)).toNatClampNeg v3), m.2)) from rfl) ?_
  obtain ⟨c1218, h⟩ := m_ite_n h
  refine m_R_1 (by decide) (m_opb_of (ins := .iastore) (len := 1) (tag := 0) (a := 0) (b := 0) (c := 0) (q := 0) (by decide +kernel)) (m_s_iast sh_7 c1218) ?_
  refine m_R_sg (by decide) [(.aload_n 0, 1, 0, 0, 0, 0, 0), (.getfield 59, 3, 0, 10, 6, 3, 516), (.getfield 309, 3, 0, 6, 5, 3, 175), (.iload 5, 2, 0, 5, 0, 0, 0), (.iconst 4, 1, 0, 4, 0, 0, 0), (.iadd, 1, 0, 0, 0, 0, 0), (.aload_n 0, 1, 0, 0, 0, 0, 0), (.getfield 52, 3, 0, 10, 10, 0, 522)] (by decide +kernel) (show m_sgl X _ _ _ _ _ = some (259, [some (.ref 16), w1, some (.int v2), some (.int v3), some (.int v4), some (.int v5), w6], [.int ((m_up (m_up m.1 7 (v5 + (2 : Int32)).toNatClampNeg v3) 7 (v5 + (3 : Int32)).toNatClampNeg v4) 16 10), .int (v5 + (4 : Int32)), .ref 7], (SH, (m_up (m_up m.1 7 (v5 + (2 : Int32)).toNatClampNeg v3) 7 (v5 + (3 : Int32)).toNatClampNeg v4), m.2)) from rfl) ?_
  obtain ⟨c1219, h⟩ := m_ite_n h
  refine m_R_1 (by decide) (m_opb_of (ins := .iastore) (len := 1) (tag := 0) (a := 0) (b := 0) (c := 0) (q := 0) (by decide +kernel)) (m_s_iast sh_7 c1219) ?_
  exact ok_World_writeSheet_260 X d F _ _ _ _ _ _ _ _ _ h
def f_World_writeSheet_26 (F : Nat)   : Nat → Int32 → Int32 → Int32 → Int32 → Int32 → mM → Option (Unit × mM)
  | 0, _, _, _, _, _, _ => none
  | n + 1, v1, v2, v3, v4, v5, m => (if (m.1 31 15) ≤ v5 then (if (((m.1 16 9) / (7 : Int32)) * (6 : Int32)) < 0 ∨ 600 ≤ (((m.1 16 9) / (7 : Int32)) * (6 : Int32)).toNatClampNeg then none else (if ((((m.1 16 9) / (7 : Int32)) * (6 : Int32)) + (1 : Int32)) < 0 ∨ 600 ≤ ((((m.1 16 9) / (7 : Int32)) * (6 : Int32)) + (1 : Int32)).toNatClampNeg then none else f_World_writeSheet_217 F v2 v3 v4 (((m.1 16 9) / (7 : Int32)) * (6 : Int32)) ((m_up (m_up m.1 7 (((m.1 16 9) / (7 : Int32)) * (6 : Int32)).toNatClampNeg (m.1 22 (0 : Int32).toNatClampNeg)) 7 ((((m.1 16 9) / (7 : Int32)) * (6 : Int32)) + (1 : Int32)).toNatClampNeg ((10 : Int32) * ((m_up m.1 7 (((m.1 16 9) / (7 : Int32)) * (6 : Int32)).toNatClampNeg (m.1 22 (0 : Int32).toNatClampNeg)) 55 9))), m.2))) else (if v5 < 0 ∨ 60 ≤ v5.toNatClampNeg then none else (if (m.1 37 v5.toNatClampNeg) = 0 then (if (m.1 35 v5.toNatClampNeg) = 0 then (if (m.1 32 v5.toNatClampNeg) = (3 : Int32) then f_World_writeSheet_83 F (f_World_writeSheet_26 F n) v1 v2 v3 v4 v5 (1 : Int32) m else f_World_writeSheet_83 F (f_World_writeSheet_26 F n) v1 v2 v3 v4 v5 (0 : Int32) m) else f_World_writeSheet_158 F (f_World_writeSheet_26 F n) v1 v2 v3 v4 v5 m) else f_World_writeSheet_158 F (f_World_writeSheet_26 F n) v1 v2 v3 v4 v5 m)))
theorem ok_World_writeSheet_26 (X : mX) (d F : Nat) : ∀ (n : Nat) (v1 : Int32) (v2 : Int32) (v3 : Int32) (v4 : Int32) (v5 : Int32) (w6 : Option Value) (m : mM) (r : Unit) (m' : mM), f_World_writeSheet_26 F n v1 v2 v3 v4 v5 m = some (r, m') → m_R X (d + 3) 165 26 [some (.ref 16), some (.int v1), some (.int v2), some (.int v3), some (.int v4), some (.int v5), w6] [] (SH, m) (none, (SH, m')) := by
  intro n
  induction n with
  | zero => intro v1 v2 v3 v4 v5 w6 m r m' h; cases h
  | succ n ih =>
    intro v1 v2 v3 v4 v5 w6 m r m' h
    simp only [f_World_writeSheet_26] at h
    refine m_R_sg (by decide) [(.iload 5, 2, 0, 5, 0, 0, 0), (.aload_n 0, 1, 0, 0, 0, 0, 0), (.getfield 28, 3, 0, 10, 2, 3, 508), (.getfield 353, 3, 0, 4, 15, 0, 365)] (by decide +kernel) (show m_sgl X _ _ _ _ _ = some (35, [some (.ref 16), some (.int v1), some (.int v2), some (.int v3), some (.int v4), some (.int v5), w6], [.int (m.1 31 15), .int v5], (SH, m.1, m.2)) from rfl) ?_
    rcases m_ite h with ⟨c1220, h⟩ | ⟨c1220, h⟩
    · refine m_R_1 (by decide) (m_opb_of (ins := .if_icmp .ge 129) (len := 3) (tag := 0) (a := 164) (b := 0) (c := 0) (q := 0) (by decide +kernel)) (if_pos c1220) ?_
      refine m_R_sg (by decide) [(.aload_n 0, 1, 0, 0, 0, 0, 0), (.getfield 95, 3, 0, 10, 9, 0, 520), (.bipush 7, 2, 0, 7, 0, 0, 0)] (by decide +kernel) (show m_sgl X _ _ _ _ _ = some (170, [some (.ref 16), some (.int v1), some (.int v2), some (.int v3), some (.int v4), some (.int v5), w6], [.int (7 : Int32), .int (m.1 16 9)], (SH, m.1, m.2)) from rfl) ?_
      refine m_R_1 (by decide) (m_opb_of (ins := .idiv) (len := 1) (tag := 0) (a := 0) (b := 0) (c := 0) (q := 0) (by decide +kernel)) (m_s_idiv (by decide)) ?_
      refine m_R_sg (by decide) [(.bipush 6, 2, 0, 6, 0, 0, 0), (.imul, 1, 0, 0, 0, 0, 0), (.istore 5, 2, 0, 5, 0, 0, 0), (.aload_n 0, 1, 0, 0, 0, 0, 0), (.getfield 59, 3, 0, 10, 6, 3, 516), (.getfield 309, 3, 0, 6, 5, 3, 175), (.iload 5, 2, 0, 5, 0, 0, 0), (.aload_n 0, 1, 0, 0, 0, 0, 0), (.getfield 21, 3, 0, 10, 1, 3, 505), (.getfield 107, 3, 0, 1, 2, 3, 255), (.iconst 0, 1, 0, 0, 0, 0, 0)] (by decide +kernel) (show m_sgl X _ _ _ _ _ = some (193, [some (.ref 16), some (.int v1), some (.int v2), some (.int v3), some (.int v4), some (.int (((m.1 16 9) / (7 : Int32)) * (6 : Int32))), w6], [.int (0 : Int32), .ref 22, .int (((m.1 16 9) / (7 : Int32)) * (6 : Int32)), .ref 7], (SH, m.1, m.2)) from rfl) ?_
      refine m_R_1 (by decide) (m_opb_of (ins := .iaload) (len := 1) (tag := 0) (a := 0) (b := 0) (c := 0) (q := 0) (by decide +kernel)) (m_s_iald sh_22 (by decide) (show ¬ ((0 : Int32) < 0 ∨ 16 ≤ (0 : Int32).toNatClampNeg) by decide)) ?_
      obtain ⟨c1221, h⟩ := m_ite_n h
      refine m_R_1 (by decide) (m_opb_of (ins := .iastore) (len := 1) (tag := 0) (a := 0) (b := 0) (c := 0) (q := 0) (by decide +kernel)) (m_s_iast sh_7 c1221) ?_
      refine m_R_sg (by decide) [(.aload_n 0, 1, 0, 0, 0, 0, 0), (.getfield 59, 3, 0, 10, 6, 3, 516), (.getfield 309, 3, 0, 6, 5, 3, 175), (.iload 5, 2, 0, 5, 0, 0, 0), (.iconst 1, 1, 0, 1, 0, 0, 0), (.iadd, 1, 0, 0, 0, 0, 0), (.bipush 10, 2, 0, 10, 0, 0, 0), (.aload_n 0, 1, 0, 0, 0, 0, 0), (.getfield 72, 3, 0, 10, 8, 3, 518), (.getfield 120, 3, 0, 3, 9, 0, 468), (.imul, 1, 0, 0, 0, 0, 0)] (by decide +kernel) (show m_sgl X _ _ _ _ _ = some (216, [some (.ref 16), some (.int v1), some (.int v2), some (.int v3), some (.int v4), some (.int (((m.1 16 9) / (7 : Int32)) * (6 : Int32))), w6], [.int ((10 : Int32) * ((m_up m.1 7 (((m.1 16 9) / (7 : Int32)) * (6 : Int32)).toNatClampNeg (m.1 22 (0 : Int32).toNatClampNeg)) 55 9)), .int ((((m.1 16 9) / (7 : Int32)) * (6 : Int32)) + (1 : Int32)), .ref 7], (SH, (m_up m.1 7 (((m.1 16 9) / (7 : Int32)) * (6 : Int32)).toNatClampNeg (m.1 22 (0 : Int32).toNatClampNeg)), m.2)) from rfl) ?_
      obtain ⟨c1222, h⟩ := m_ite_n h
      refine m_R_1 (by decide) (m_opb_of (ins := .iastore) (len := 1) (tag := 0) (a := 0) (b := 0) (c := 0) (q := 0) (by decide +kernel)) (m_s_iast sh_7 c1222) ?_
      exact ok_World_writeSheet_217 X d F _ _ _ _ _ _ _ _ _ h
    · refine m_R_1 (by decide) (m_opb_of (ins := .if_icmp .ge 129) (len := 3) (tag := 0) (a := 164) (b := 0) (c := 0) (q := 0) (by decide +kernel)) (if_neg c1220) ?_
      refine m_R_sg (by decide) [(.aload_n 0, 1, 0, 0, 0, 0, 0), (.getfield 28, 3, 0, 10, 2, 3, 508), (.getfield 273, 3, 0, 4, 5, 3, 337), (.iload 5, 2, 0, 5, 0, 0, 0)] (by decide +kernel) (show m_sgl X _ _ _ _ _ = some (47, [some (.ref 16), some (.int v1), some (.int v2), some (.int v3), some (.int v4), some (.int v5), w6], [.int v5, .ref 37], (SH, m.1, m.2)) from rfl) ?_
      obtain ⟨c1223, h⟩ := m_ite_n h
      refine m_R_1 (by decide) (m_opb_of (ins := .iaload) (len := 1) (tag := 0) (a := 0) (b := 0) (c := 0) (q := 0) (by decide +kernel)) (m_s_iald sh_37 (by decide) c1223) ?_
      rcases m_ite h with ⟨c1224, h⟩ | ⟨c1224, h⟩
      · refine m_R_1 (by decide) (m_opb_of (ins := .ifCond .ne 110) (len := 3) (tag := 0) (a := 158) (b := 0) (c := 0) (q := 0) (by decide +kernel)) (if_pos c1224) ?_
        refine m_R_sg (by decide) [(.aload_n 0, 1, 0, 0, 0, 0, 0), (.getfield 28, 3, 0, 10, 2, 3, 508), (.getfield 212, 3, 0, 4, 3, 3, 331), (.iload 5, 2, 0, 5, 0, 0, 0)] (by decide +kernel) (show m_sgl X _ _ _ _ _ = some (60, [some (.ref 16), some (.int v1), some (.int v2), some (.int v3), some (.int v4), some (.int v5), w6], [.int v5, .ref 35], (SH, m.1, m.2)) from rfl) ?_
        refine m_R_1 (by decide) (m_opb_of (ins := .iaload) (len := 1) (tag := 0) (a := 0) (b := 0) (c := 0) (q := 0) (by decide +kernel)) (m_s_iald sh_35 (by decide) c1223) ?_
        rcases m_ite h with ⟨c1225, h⟩ | ⟨c1225, h⟩
        · refine m_R_1 (by decide) (m_opb_of (ins := .ifCond .ne 97) (len := 3) (tag := 0) (a := 158) (b := 0) (c := 0) (q := 0) (by decide +kernel)) (if_pos c1225) ?_
          refine m_R_sg (by decide) [(.aload_n 0, 1, 0, 0, 0, 0, 0), (.getfield 28, 3, 0, 10, 2, 3, 508), (.getfield 270, 3, 0, 4, 0, 3, 319), (.iload 5, 2, 0, 5, 0, 0, 0)] (by decide +kernel) (show m_sgl X _ _ _ _ _ = some (73, [some (.ref 16), some (.int v1), some (.int v2), some (.int v3), some (.int v4), some (.int v5), w6], [.int v5, .ref 32], (SH, m.1, m.2)) from rfl) ?_
          refine m_R_1 (by decide) (m_opb_of (ins := .iaload) (len := 1) (tag := 0) (a := 0) (b := 0) (c := 0) (q := 0) (by decide +kernel)) (m_s_iald sh_32 (by decide) c1223) ?_
          refine m_R_sg (by decide) [(.iconst 3, 1, 0, 3, 0, 0, 0)] (by decide +kernel) (show m_sgl X _ _ _ _ _ = some (75, [some (.ref 16), some (.int v1), some (.int v2), some (.int v3), some (.int v4), some (.int v5), w6], [.int (3 : Int32), .int (m.1 32 v5.toNatClampNeg)], (SH, m.1, m.2)) from rfl) ?_
          rcases m_ite h with ⟨c1226, h⟩ | ⟨c1226, h⟩
          · refine m_R_1 (by decide) (m_opb_of (ins := .if_icmp .ne 7) (len := 3) (tag := 0) (a := 82) (b := 0) (c := 0) (q := 0) (by decide +kernel)) (if_pos c1226) ?_
            refine m_R_sg (by decide) [(.iconst 1, 1, 0, 1, 0, 0, 0), (.goto 4, 3, 0, 83, 0, 0, 0)] (by decide +kernel) (show m_sgl X _ _ _ _ _ = some (83, [some (.ref 16), some (.int v1), some (.int v2), some (.int v3), some (.int v4), some (.int v5), w6], [.int (1 : Int32)], (SH, m.1, m.2)) from rfl) ?_
            exact ok_World_writeSheet_83 X d F _ (fun a0 a1 a2 a3 a4 a5 m r m' h => ih a0 a1 a2 a3 a4 a5 m r m' h) _ _ _ _ _ _ _ _ _ _ h
          · refine m_R_1 (by decide) (m_opb_of (ins := .if_icmp .ne 7) (len := 3) (tag := 0) (a := 82) (b := 0) (c := 0) (q := 0) (by decide +kernel)) (if_neg c1226) ?_
            refine m_R_sg (by decide) [(.iconst 0, 1, 0, 0, 0, 0, 0)] (by decide +kernel) (show m_sgl X _ _ _ _ _ = some (83, [some (.ref 16), some (.int v1), some (.int v2), some (.int v3), some (.int v4), some (.int v5), w6], [.int (0 : Int32)], (SH, m.1, m.2)) from rfl) ?_
            exact ok_World_writeSheet_83 X d F _ (fun a0 a1 a2 a3 a4 a5 m r m' h => ih a0 a1 a2 a3 a4 a5 m r m' h) _ _ _ _ _ _ _ _ _ _ h
        · refine m_R_1 (by decide) (m_opb_of (ins := .ifCond .ne 97) (len := 3) (tag := 0) (a := 158) (b := 0) (c := 0) (q := 0) (by decide +kernel)) (if_neg c1225) ?_
          exact ok_World_writeSheet_158 X d F _ (fun a0 a1 a2 a3 a4 a5 m r m' h => ih a0 a1 a2 a3 a4 a5 m r m' h) _ _ _ _ _ _ _ _ _ h
      · refine m_R_1 (by decide) (m_opb_of (ins := .ifCond .ne 110) (len := 3) (tag := 0) (a := 158) (b := 0) (c := 0) (q := 0) (by decide +kernel)) (if_neg c1224) ?_
        exact ok_World_writeSheet_158 X d F _ (fun a0 a1 a2 a3 a4 a5 m r m' h => ih a0 a1 a2 a3 a4 a5 m r m' h) _ _ _ _ _ _ _ _ _ h
def f_World_writeSheet (F : Nat)    (m : mM) : Option (Unit × mM) := ((f_World_lawSays F (4 : Int32) (-1 : Int32) m).bind fun q1 => ((f_Math_max F (0 : Int32) q1.1 q1.2).bind fun q2 => ((f_World_lawSays F (5 : Int32) (-1 : Int32) q2.2).bind fun q3 => f_World_writeSheet_26 F F q2.1 q3.1 (0 : Int32) (0 : Int32) (0 : Int32) q3.2)))
theorem ok_World_writeSheet (X : mX) (d F : Nat) : ∀   (m : mM) (r : Unit) (m' : mM), f_World_writeSheet F  m = some (r, m') → m_R X (d + 3) 165 0 [some (.ref 16), none, none, none, none, none, none] [] (SH, m) (none, (SH, m')) := by
  intro m r m' h
  unfold f_World_writeSheet at h
  refine m_R_sg (by decide) [(.iconst 0, 1, 0, 0, 0, 0, 0), (.aload_n 0, 1, 0, 0, 0, 0, 0), (.iconst 4, 1, 0, 4, 0, 0, 0), (.iconst (-1), 1, 0, 1, 1, 0, 0)] (by decide +kernel) (show m_sgl X _ _ _ _ _ = some (4, [some (.ref 16), none, none, none, none, none, none], [.int (-1 : Int32), .int (4 : Int32), .ref 16, .int (0 : Int32)], (SH, m.1, m.2)) from rfl) ?_
  obtain ⟨q1, hc1, h⟩ := Option.bind_eq_some_iff.mp h
  refine m_R_cV (v := (some (.int q1.1))) (h1 := (SH, q1.2)) (rest := [.int (0 : Int32)]) (lo' := [some (.ref 16), some (.int (4 : Int32)), some (.int (-1 : Int32)), none]) (ml := 4) (k0 := 16) (by decide) (Or.inl rfl) (m_opb_of (ins := .invokevirtual 183) (len := 3) (tag := 5) (a := 39) (b := 2) (c := 0) (q := 771) (by decide +kernel)) (by decide +kernel) rfl (show m_isO 39 16 (SH, _) = true from m_isO_of (by decide +kernel)) (Nat.le_of_ble_eq_true rfl) rfl rfl (ok_World_lawSays X (d + 0) F _ _ _ _ _ hc1) ?_
  obtain ⟨q2, hc2, h⟩ := Option.bind_eq_some_iff.mp h
  refine m_R_cS (v := (some (.int q2.1))) (h1 := (SH, q2.2)) (rest := []) (lo' := [some (.int (0 : Int32)), some (.int q1.1)]) (ml := 2) (by decide) (m_opb_of (ins := .invokestatic 294) (len := 3) (tag := 4) (a := 38) (b := 2) (c := 0) (q := 1285) (by decide +kernel)) (by decide +kernel) (Nat.le_of_ble_eq_true rfl) rfl (Nat.le_of_ble_eq_true rfl) rfl rfl (ok_Math_max X (d + 2) F _ _ _ _ _ hc2) ?_
  refine m_R_sg (by decide) [(.istore_n 1, 1, 0, 1, 0, 0, 0), (.aload_n 0, 1, 0, 0, 0, 0, 0), (.iconst 5, 1, 0, 5, 0, 0, 0), (.iconst (-1), 1, 0, 1, 1, 0, 0)] (by decide +kernel) (show m_sgl X _ _ _ _ _ = some (14, [some (.ref 16), some (.int q2.1), none, none, none, none, none], [.int (-1 : Int32), .int (5 : Int32), .ref 16], (SH, q2.2.1, q2.2.2)) from rfl) ?_
  obtain ⟨q3, hc3, h⟩ := Option.bind_eq_some_iff.mp h
  refine m_R_cV (v := (some (.int q3.1))) (h1 := (SH, q3.2)) (rest := []) (lo' := [some (.ref 16), some (.int (5 : Int32)), some (.int (-1 : Int32)), none]) (ml := 4) (k0 := 16) (by decide) (Or.inl rfl) (m_opb_of (ins := .invokevirtual 183) (len := 3) (tag := 5) (a := 39) (b := 2) (c := 0) (q := 771) (by decide +kernel)) (by decide +kernel) rfl (show m_isO 39 16 (SH, _) = true from m_isO_of (by decide +kernel)) (Nat.le_of_ble_eq_true rfl) rfl rfl (ok_World_lawSays X (d + 0) F _ _ _ _ _ hc3) ?_
  refine m_R_sg (by decide) [(.istore_n 2, 1, 0, 2, 0, 0, 0), (.iconst 0, 1, 0, 0, 0, 0, 0), (.istore_n 3, 1, 0, 3, 0, 0, 0), (.iconst 0, 1, 0, 0, 0, 0, 0), (.istore 4, 2, 0, 4, 0, 0, 0), (.iconst 0, 1, 0, 0, 0, 0, 0), (.istore 5, 2, 0, 5, 0, 0, 0)] (by decide +kernel) (show m_sgl X _ _ _ _ _ = some (26, [some (.ref 16), some (.int q2.1), some (.int q3.1), some (.int (0 : Int32)), some (.int (0 : Int32)), some (.int (0 : Int32)), none], [], (SH, q3.2.1, q3.2.2)) from rfl) ?_
  exact ok_World_writeSheet_26 X d F F _ _ _ _ _ _ _ _ _ h
def f_World_endWeek_28 (F : Nat)    (m : mM) : Option (Unit × mM) := some ((), m)
theorem ok_World_endWeek_28 (X : mX) (d F : Nat) : ∀  (w0 : Option Value) (w1 : Option Value) (m : mM) (r : Unit) (m' : mM), f_World_endWeek_28 F  m = some (r, m') → m_R X (d + 4) 163 28 [w0, w1] [] (SH, m) (none, (SH, m')) := by
  intro w0 w1 m r m' h
  unfold f_World_endWeek_28 at h
  obtain ⟨rfl, rfl⟩ := m_some h
  exact m_R_vret (by decide) (m_opb_of (ins := .return_) (len := 1) (tag := 3) (a := 0) (b := 0) (c := 0) (q := 0) (by decide +kernel))
def f_World_endWeek (F : Nat)   (v1 : Int32) (m : mM) : Option (Unit × mM) := ((f_World_sendShips F m).bind fun q1 => ((f_World_writeSheet F q1.2).bind fun q2 => (if v1 = 0 then f_World_endWeek_28 F q2.2 else ((f_World_lawSays F (1 : Int32) (-1 : Int32) q2.2).bind fun q3 => ((f_x_within F q3.1 (0 : Int32) (20 : Int32) q3.2).bind fun q4 => f_World_endWeek_28 F ((m_up q4.2.1 16 10 q4.1), q4.2.2))))))
theorem ok_World_endWeek (X : mX) (d F : Nat) : ∀ (v1 : Int32)  (m : mM) (r : Unit) (m' : mM), f_World_endWeek F v1 m = some (r, m') → m_R X (d + 4) 163 0 [some (.ref 16), some (.int v1)] [] (SH, m) (none, (SH, m')) := by
  intro v1 m r m' h
  unfold f_World_endWeek at h
  refine m_R_sg (by decide) [(.aload_n 0, 1, 0, 0, 0, 0, 0)] (by decide +kernel) (show m_sgl X _ _ _ _ _ = some (1, [some (.ref 16), some (.int v1)], [.ref 16], (SH, m.1, m.2)) from rfl) ?_
  obtain ⟨q1, hc1, h⟩ := Option.bind_eq_some_iff.mp h
  refine m_R_cV (v := none) (h1 := (SH, q1.2)) (rest := []) (lo' := [some (.ref 16), none, none]) (ml := 3) (k0 := 16) (by decide) (Or.inl rfl) (m_opb_of (ins := .invokevirtual 399) (len := 3) (tag := 5) (a := 164) (b := 0) (c := 0) (q := 1338) (by decide +kernel)) (by decide +kernel) rfl (show m_isO 164 16 (SH, _) = true from m_isO_of (by decide +kernel)) (Nat.le_of_ble_eq_true rfl) rfl rfl (ok_World_sendShips X (d + 1) F _ _ _ hc1) ?_
  refine m_R_sg (by decide) [(.aload_n 0, 1, 0, 0, 0, 0, 0)] (by decide +kernel) (show m_sgl X _ _ _ _ _ = some (5, [some (.ref 16), some (.int v1)], [.ref 16], (SH, q1.2.1, q1.2.2)) from rfl) ?_
  obtain ⟨q2, hc2, h⟩ := Option.bind_eq_some_iff.mp h
  refine m_R_cV (v := none) (h1 := (SH, q2.2)) (rest := []) (lo' := [some (.ref 16), none, none, none, none, none, none]) (ml := 7) (k0 := 16) (by decide) (Or.inl rfl) (m_opb_of (ins := .invokevirtual 402) (len := 3) (tag := 5) (a := 165) (b := 0) (c := 0) (q := 1342) (by decide +kernel)) (by decide +kernel) rfl (show m_isO 165 16 (SH, _) = true from m_isO_of (by decide +kernel)) (Nat.le_of_ble_eq_true rfl) rfl rfl (ok_World_writeSheet X (d + 0) F _ _ _ hc2) ?_
  refine m_R_sg (by decide) [(.iload_n 1, 1, 0, 1, 0, 0, 0)] (by decide +kernel) (show m_sgl X _ _ _ _ _ = some (9, [some (.ref 16), some (.int v1)], [.int v1], (SH, q2.2.1, q2.2.2)) from rfl) ?_
  rcases m_ite h with ⟨c1227, h⟩ | ⟨c1227, h⟩
  · refine m_R_1 (by decide) (m_opb_of (ins := .ifCond .eq 19) (len := 3) (tag := 0) (a := 28) (b := 0) (c := 0) (q := 0) (by decide +kernel)) (if_pos c1227) ?_
    exact ok_World_endWeek_28 X d F _ _ _ _ _ h
  · refine m_R_1 (by decide) (m_opb_of (ins := .ifCond .eq 19) (len := 3) (tag := 0) (a := 28) (b := 0) (c := 0) (q := 0) (by decide +kernel)) (if_neg c1227) ?_
    refine m_R_sg (by decide) [(.aload_n 0, 1, 0, 0, 0, 0, 0), (.aload_n 0, 1, 0, 0, 0, 0, 0), (.iconst 1, 1, 0, 1, 0, 0, 0), (.iconst (-1), 1, 0, 1, 1, 0, 0)] (by decide +kernel) (show m_sgl X _ _ _ _ _ = some (16, [some (.ref 16), some (.int v1)], [.int (-1 : Int32), .int (1 : Int32), .ref 16, .ref 16], (SH, q2.2.1, q2.2.2)) from rfl) ?_
    obtain ⟨q3, hc3, h⟩ := Option.bind_eq_some_iff.mp h
    refine m_R_cV (v := (some (.int q3.1))) (h1 := (SH, q3.2)) (rest := [.ref 16]) (lo' := [some (.ref 16), some (.int (1 : Int32)), some (.int (-1 : Int32)), none]) (ml := 4) (k0 := 16) (by decide) (Or.inl rfl) (m_opb_of (ins := .invokevirtual 183) (len := 3) (tag := 5) (a := 39) (b := 2) (c := 0) (q := 771) (by decide +kernel)) (by decide +kernel) rfl (show m_isO 39 16 (SH, _) = true from m_isO_of (by decide +kernel)) (Nat.le_of_ble_eq_true rfl) rfl rfl (ok_World_lawSays X (d + 1) F _ _ _ _ _ hc3) ?_
    refine m_R_sg (by decide) [(.iconst 0, 1, 0, 0, 0, 0, 0), (.bipush 20, 2, 0, 20, 0, 0, 0)] (by decide +kernel) (show m_sgl X _ _ _ _ _ = some (22, [some (.ref 16), some (.int v1)], [.int (20 : Int32), .int (0 : Int32), .int q3.1, .ref 16], (SH, q3.2.1, q3.2.2)) from rfl) ?_
    obtain ⟨q4, hc4, h⟩ := Option.bind_eq_some_iff.mp h
    refine m_R_cS (v := (some (.int q4.1))) (h1 := (SH, q4.2)) (rest := [.ref 16]) (lo' := [some (.int q3.1), some (.int (0 : Int32)), some (.int (20 : Int32))]) (ml := 3) (by decide) (m_opb_of (ins := .invokestatic 220) (len := 3) (tag := 4) (a := 79) (b := 3) (c := 1) (q := 932) (by decide +kernel)) (by decide +kernel) (Nat.le_of_ble_eq_true rfl) rfl (Nat.le_of_ble_eq_true rfl) rfl rfl (ok_x_within X (d + 2) F _ _ _ _ _ _ hc4) ?_
    refine m_R_sg (by decide) [(.putfield 52, 3, 0, 10, 10, 0, 522)] (by decide +kernel) (show m_sgl X _ _ _ _ _ = some (28, [some (.ref 16), some (.int v1)], [], (SH, (m_up q4.2.1 16 10 q4.1), q4.2.2)) from rfl) ?_
    exact ok_World_endWeek_28 X d F _ _ _ _ _ h
def f_World_passDays_64 (F : Nat)  (k2 : Int32 → Int32 → Int32 → mM → Option (Unit × mM)) (v1 : Int32) (v2 : Int32) (v3 : Int32) (m : mM) : Option (Unit × mM) := k2 v1 v2 (v3 + (1 : Int32)) ((m_up m.1 16 9 ((m.1 16 9) + (1 : Int32))), m.2)
theorem ok_World_passDays_64 (X : mX) (d F : Nat) (k2 : Int32 → Int32 → Int32 → mM → Option (Unit × mM)) (hk2 : ∀ (v1 : Int32) (v2 : Int32) (v3 : Int32) (m : mM) (r : Unit) (m' : mM), k2 v1 v2 v3 m = some (r, m') → m_R X (d + 6) 144 2 [some (.ref 16), some (.int v1), some (.int v2), some (.int v3)] [] (SH, m) (none, (SH, m'))) : ∀ (v1 : Int32) (v2 : Int32) (v3 : Int32)  (m : mM) (r : Unit) (m' : mM), f_World_passDays_64 F k2 v1 v2 v3 m = some (r, m') → m_R X (d + 6) 144 64 [some (.ref 16), some (.int v1), some (.int v2), some (.int v3)] [] (SH, m) (none, (SH, m')) := by
  intro v1 v2 v3 m r m' h
  unfold f_World_passDays_64 at h
  refine m_R_sg (by decide) [(.aload_n 0, 1, 0, 0, 0, 0, 0), (.dup, 1, 0, 0, 0, 0, 0), (.getfield 95, 3, 0, 10, 9, 0, 520), (.iconst 1, 1, 0, 1, 0, 0, 0), (.iadd, 1, 0, 0, 0, 0, 0), (.putfield 95, 3, 0, 10, 9, 0, 520), (.iinc 3 1, 3, 0, 3, 1, 0, 0), (.goto (-75), 3, 0, 2, 0, 0, 0)] (by decide +kernel) (show m_sgl X _ _ _ _ _ = some (2, [some (.ref 16), some (.int v1), some (.int v2), some (.int (v3 + (1 : Int32)))], [], (SH, (m_up m.1 16 9 ((m.1 16 9) + (1 : Int32))), m.2)) from rfl) ?_
  exact hk2 _ _ _ _ _ _ h
def f_World_passDays_31 (F : Nat)  (k2 : Int32 → Int32 → Int32 → mM → Option (Unit × mM)) (v1 : Int32) (v2 : Int32) (v3 : Int32) (m : mM) : Option (Unit × mM) := ((f_World_payDue F m).bind fun q2 => ((f_World_askNames F q2.2).bind fun q3 => ((f_World_sellBills F q3.2).bind fun q4 => ((f_World_runOnBanks F q4.2).bind fun q5 => (if ((q5.2.1 16 9) - (q5.2.1 16 9) / (7 : Int32) * (7 : Int32)) = (6 : Int32) then ((f_World_endWeek F v2 q5.2).bind fun q6 => f_World_passDays_64 F k2 v1 v2 v3 q6.2) else f_World_passDays_64 F k2 v1 v2 v3 q5.2)))))
theorem ok_World_passDays_31 (X : mX) (d F : Nat) (k2 : Int32 → Int32 → Int32 → mM → Option (Unit × mM)) (hk2 : ∀ (v1 : Int32) (v2 : Int32) (v3 : Int32) (m : mM) (r : Unit) (m' : mM), k2 v1 v2 v3 m = some (r, m') → m_R X (d + 6) 144 2 [some (.ref 16), some (.int v1), some (.int v2), some (.int v3)] [] (SH, m) (none, (SH, m'))) : ∀ (v1 : Int32) (v2 : Int32) (v3 : Int32)  (m : mM) (r : Unit) (m' : mM), f_World_passDays_31 F k2 v1 v2 v3 m = some (r, m') → m_R X (d + 6) 144 31 [some (.ref 16), some (.int v1), some (.int v2), some (.int v3)] [] (SH, m) (none, (SH, m')) := by
  intro v1 v2 v3 m r m' h
  unfold f_World_passDays_31 at h
  refine m_R_sg (by decide) [(.aload_n 0, 1, 0, 0, 0, 0, 0)] (by decide +kernel) (show m_sgl X _ _ _ _ _ = some (32, [some (.ref 16), some (.int v1), some (.int v2), some (.int v3)], [.ref 16], (SH, m.1, m.2)) from rfl) ?_
  obtain ⟨q2, hc2, h⟩ := Option.bind_eq_some_iff.mp h
  refine m_R_cV (v := none) (h1 := (SH, q2.2)) (rest := []) (lo' := [some (.ref 16), none]) (ml := 2) (k0 := 16) (by decide) (Or.inl rfl) (m_opb_of (ins := .invokevirtual 317) (len := 3) (tag := 5) (a := 146) (b := 0) (c := 0) (q := 1259) (by decide +kernel)) (by decide +kernel) rfl (show m_isO 146 16 (SH, _) = true from m_isO_of (by decide +kernel)) (Nat.le_of_ble_eq_true rfl) rfl rfl (ok_World_payDue X (d + 0) F _ _ _ hc2) ?_
  refine m_R_sg (by decide) [(.aload_n 0, 1, 0, 0, 0, 0, 0)] (by decide +kernel) (show m_sgl X _ _ _ _ _ = some (36, [some (.ref 16), some (.int v1), some (.int v2), some (.int v3)], [.ref 16], (SH, q2.2.1, q2.2.2)) from rfl) ?_
  obtain ⟨q3, hc3, h⟩ := Option.bind_eq_some_iff.mp h
  refine m_R_cV (v := none) (h1 := (SH, q3.2)) (rest := []) (lo' := [some (.ref 16), none]) (ml := 2) (k0 := 16) (by decide) (Or.inl rfl) (m_opb_of (ins := .invokevirtual 320) (len := 3) (tag := 5) (a := 152) (b := 0) (c := 0) (q := 1286) (by decide +kernel)) (by decide +kernel) rfl (show m_isO 152 16 (SH, _) = true from m_isO_of (by decide +kernel)) (Nat.le_of_ble_eq_true rfl) rfl rfl (ok_World_askNames X (d + 0) F _ _ _ hc3) ?_
  refine m_R_sg (by decide) [(.aload_n 0, 1, 0, 0, 0, 0, 0)] (by decide +kernel) (show m_sgl X _ _ _ _ _ = some (40, [some (.ref 16), some (.int v1), some (.int v2), some (.int v3)], [.ref 16], (SH, q3.2.1, q3.2.2)) from rfl) ?_
  obtain ⟨q4, hc4, h⟩ := Option.bind_eq_some_iff.mp h
  refine m_R_cV (v := none) (h1 := (SH, q4.2)) (rest := []) (lo' := [some (.ref 16), none, none, none]) (ml := 4) (k0 := 16) (by decide) (Or.inl rfl) (m_opb_of (ins := .invokevirtual 323) (len := 3) (tag := 5) (a := 154) (b := 0) (c := 0) (q := 1294) (by decide +kernel)) (by decide +kernel) rfl (show m_isO 154 16 (SH, _) = true from m_isO_of (by decide +kernel)) (Nat.le_of_ble_eq_true rfl) rfl rfl (ok_World_sellBills X (d + 0) F _ _ _ hc4) ?_
  refine m_R_sg (by decide) [(.aload_n 0, 1, 0, 0, 0, 0, 0)] (by decide +kernel) (show m_sgl X _ _ _ _ _ = some (44, [some (.ref 16), some (.int v1), some (.int v2), some (.int v3)], [.ref 16], (SH, q4.2.1, q4.2.2)) from rfl) ?_
  obtain ⟨q5, hc5, h⟩ := Option.bind_eq_some_iff.mp h
  refine m_R_cV (v := none) (h1 := (SH, q5.2)) (rest := []) (lo' := [some (.ref 16), none, none]) (ml := 3) (k0 := 16) (by decide) (Or.inl rfl) (m_opb_of (ins := .invokevirtual 326) (len := 3) (tag := 5) (a := 157) (b := 0) (c := 0) (q := 1308) (by decide +kernel)) (by decide +kernel) rfl (show m_isO 157 16 (SH, _) = true from m_isO_of (by decide +kernel)) (Nat.le_of_ble_eq_true rfl) rfl rfl (ok_World_runOnBanks X (d + 0) F _ _ _ hc5) ?_
  refine m_R_sg (by decide) [(.aload_n 0, 1, 0, 0, 0, 0, 0), (.getfield 95, 3, 0, 10, 9, 0, 520), (.bipush 7, 2, 0, 7, 0, 0, 0)] (by decide +kernel) (show m_sgl X _ _ _ _ _ = some (53, [some (.ref 16), some (.int v1), some (.int v2), some (.int v3)], [.int (7 : Int32), .int (q5.2.1 16 9)], (SH, q5.2.1, q5.2.2)) from rfl) ?_
  refine m_R_1 (by decide) (m_opb_of (ins := .irem) (len := 1) (tag := 0) (a := 0) (b := 0) (c := 0) (q := 0) (by decide +kernel)) (m_s_irem (by decide)) ?_
  refine m_R_sg (by decide) [(.bipush 6, 2, 0, 6, 0, 0, 0)] (by decide +kernel) (show m_sgl X _ _ _ _ _ = some (56, [some (.ref 16), some (.int v1), some (.int v2), some (.int v3)], [.int (6 : Int32), .int ((q5.2.1 16 9) - (q5.2.1 16 9) / (7 : Int32) * (7 : Int32))], (SH, q5.2.1, q5.2.2)) from rfl) ?_
  rcases m_ite h with ⟨c1228, h⟩ | ⟨c1228, h⟩
  · refine m_R_1 (by decide) (m_opb_of (ins := .if_icmp .ne 8) (len := 3) (tag := 0) (a := 64) (b := 0) (c := 0) (q := 0) (by decide +kernel)) (if_pos c1228) ?_
    refine m_R_sg (by decide) [(.aload_n 0, 1, 0, 0, 0, 0, 0), (.iload_n 2, 1, 0, 2, 0, 0, 0)] (by decide +kernel) (show m_sgl X _ _ _ _ _ = some (61, [some (.ref 16), some (.int v1), some (.int v2), some (.int v3)], [.int v2, .ref 16], (SH, q5.2.1, q5.2.2)) from rfl) ?_
    obtain ⟨q6, hc6, h⟩ := Option.bind_eq_some_iff.mp h
    refine m_R_cV (v := none) (h1 := (SH, q6.2)) (rest := []) (lo' := [some (.ref 16), some (.int v2)]) (ml := 2) (k0 := 16) (by decide) (Or.inl rfl) (m_opb_of (ins := .invokevirtual 329) (len := 3) (tag := 5) (a := 163) (b := 1) (c := 0) (q := 1334) (by decide +kernel)) (by decide +kernel) rfl (show m_isO 163 16 (SH, _) = true from m_isO_of (by decide +kernel)) (Nat.le_of_ble_eq_true rfl) rfl rfl (ok_World_endWeek X (d + 1) F _ _ _ _ hc6) ?_
    exact ok_World_passDays_64 X d F _ hk2 _ _ _ _ _ _ h
  · refine m_R_1 (by decide) (m_opb_of (ins := .if_icmp .ne 8) (len := 3) (tag := 0) (a := 64) (b := 0) (c := 0) (q := 0) (by decide +kernel)) (if_neg c1228) ?_
    exact ok_World_passDays_64 X d F _ hk2 _ _ _ _ _ _ h
def f_World_passDays_80 (F : Nat)    (m : mM) : Option (Unit × mM) := some ((), m)
theorem ok_World_passDays_80 (X : mX) (d F : Nat) : ∀  (w0 : Option Value) (w1 : Option Value) (w2 : Option Value) (w3 : Option Value) (m : mM) (r : Unit) (m' : mM), f_World_passDays_80 F  m = some (r, m') → m_R X (d + 6) 144 80 [w0, w1, w2, w3] [] (SH, m) (none, (SH, m')) := by
  intro w0 w1 w2 w3 m r m' h
  unfold f_World_passDays_80 at h
  obtain ⟨rfl, rfl⟩ := m_some h
  exact m_R_vret (by decide) (m_opb_of (ins := .return_) (len := 1) (tag := 3) (a := 0) (b := 0) (c := 0) (q := 0) (by decide +kernel))
def f_World_passDays_2 (F : Nat)   : Nat → Int32 → Int32 → Int32 → mM → Option (Unit × mM)
  | 0, _, _, _, _ => none
  | n + 1, v1, v2, v3, m => (if v1 ≤ v3 then f_World_passDays_80 F m else (if (700 : Int32) ≤ (m.1 16 9) then f_World_passDays_80 F m else (if ((m.1 16 9) - (m.1 16 9) / (7 : Int32) * (7 : Int32)) = 0 then ((f_World_drawTrades F m).bind fun q1 => f_World_passDays_31 F (f_World_passDays_2 F n) v1 v2 v3 q1.2) else f_World_passDays_31 F (f_World_passDays_2 F n) v1 v2 v3 m)))
theorem ok_World_passDays_2 (X : mX) (d F : Nat) : ∀ (n : Nat) (v1 : Int32) (v2 : Int32) (v3 : Int32)  (m : mM) (r : Unit) (m' : mM), f_World_passDays_2 F n v1 v2 v3 m = some (r, m') → m_R X (d + 6) 144 2 [some (.ref 16), some (.int v1), some (.int v2), some (.int v3)] [] (SH, m) (none, (SH, m')) := by
  intro n
  induction n with
  | zero => intro v1 v2 v3 m r m' h; cases h
  | succ n ih =>
    intro v1 v2 v3 m r m' h
    simp only [f_World_passDays_2] at h
    refine m_R_sg (by decide) [(.iload_n 3, 1, 0, 3, 0, 0, 0), (.iload_n 1, 1, 0, 1, 0, 0, 0)] (by decide +kernel) (show m_sgl X _ _ _ _ _ = some (4, [some (.ref 16), some (.int v1), some (.int v2), some (.int v3)], [.int v1, .int v3], (SH, m.1, m.2)) from rfl) ?_
    rcases m_ite h with ⟨c1229, h⟩ | ⟨c1229, h⟩
    · refine m_R_1 (by decide) (m_opb_of (ins := .if_icmp .ge 76) (len := 3) (tag := 0) (a := 80) (b := 0) (c := 0) (q := 0) (by decide +kernel)) (if_pos c1229) ?_
      exact ok_World_passDays_80 X d F _ _ _ _ _ _ _ h
    · refine m_R_1 (by decide) (m_opb_of (ins := .if_icmp .ge 76) (len := 3) (tag := 0) (a := 80) (b := 0) (c := 0) (q := 0) (by decide +kernel)) (if_neg c1229) ?_
      refine m_R_sg (by decide) [(.aload_n 0, 1, 0, 0, 0, 0, 0), (.getfield 95, 3, 0, 10, 9, 0, 520), (.sipush 700, 3, 0, 700, 0, 0, 0)] (by decide +kernel) (show m_sgl X _ _ _ _ _ = some (14, [some (.ref 16), some (.int v1), some (.int v2), some (.int v3)], [.int (700 : Int32), .int (m.1 16 9)], (SH, m.1, m.2)) from rfl) ?_
      rcases m_ite h with ⟨c1230, h⟩ | ⟨c1230, h⟩
      · refine m_R_1 (by decide) (m_opb_of (ins := .if_icmp .ge 66) (len := 3) (tag := 0) (a := 80) (b := 0) (c := 0) (q := 0) (by decide +kernel)) (if_pos c1230) ?_
        exact ok_World_passDays_80 X d F _ _ _ _ _ _ _ h
      · refine m_R_1 (by decide) (m_opb_of (ins := .if_icmp .ge 66) (len := 3) (tag := 0) (a := 80) (b := 0) (c := 0) (q := 0) (by decide +kernel)) (if_neg c1230) ?_
        refine m_R_sg (by decide) [(.aload_n 0, 1, 0, 0, 0, 0, 0), (.getfield 95, 3, 0, 10, 9, 0, 520), (.bipush 7, 2, 0, 7, 0, 0, 0)] (by decide +kernel) (show m_sgl X _ _ _ _ _ = some (23, [some (.ref 16), some (.int v1), some (.int v2), some (.int v3)], [.int (7 : Int32), .int (m.1 16 9)], (SH, m.1, m.2)) from rfl) ?_
        refine m_R_1 (by decide) (m_opb_of (ins := .irem) (len := 1) (tag := 0) (a := 0) (b := 0) (c := 0) (q := 0) (by decide +kernel)) (m_s_irem (by decide)) ?_
        rcases m_ite h with ⟨c1231, h⟩ | ⟨c1231, h⟩
        · refine m_R_1 (by decide) (m_opb_of (ins := .ifCond .ne 7) (len := 3) (tag := 0) (a := 31) (b := 0) (c := 0) (q := 0) (by decide +kernel)) (if_pos c1231) ?_
          refine m_R_sg (by decide) [(.aload_n 0, 1, 0, 0, 0, 0, 0)] (by decide +kernel) (show m_sgl X _ _ _ _ _ = some (28, [some (.ref 16), some (.int v1), some (.int v2), some (.int v3)], [.ref 16], (SH, m.1, m.2)) from rfl) ?_
          obtain ⟨q1, hc1, h⟩ := Option.bind_eq_some_iff.mp h
          refine m_R_cV (v := none) (h1 := (SH, q1.2)) (rest := []) (lo' := [some (.ref 16), none, none, none, none, none]) (ml := 6) (k0 := 16) (by decide) (Or.inl rfl) (m_opb_of (ins := .invokevirtual 314) (len := 3) (tag := 5) (a := 145) (b := 0) (c := 0) (q := 1254) (by decide +kernel)) (by decide +kernel) rfl (show m_isO 145 16 (SH, _) = true from m_isO_of (by decide +kernel)) (Nat.le_of_ble_eq_true rfl) rfl rfl (ok_World_drawTrades X (d + 3) F _ _ _ hc1) ?_
          exact ok_World_passDays_31 X d F _ (fun a0 a1 a2 m r m' h => ih a0 a1 a2 m r m' h) _ _ _ _ _ _ h
        · refine m_R_1 (by decide) (m_opb_of (ins := .ifCond .ne 7) (len := 3) (tag := 0) (a := 31) (b := 0) (c := 0) (q := 0) (by decide +kernel)) (if_neg c1231) ?_
          exact ok_World_passDays_31 X d F _ (fun a0 a1 a2 m r m' h => ih a0 a1 a2 m r m' h) _ _ _ _ _ _ h
def f_World_passDays (F : Nat)   (v1 : Int32) (v2 : Int32) (m : mM) : Option (Unit × mM) := f_World_passDays_2 F F v1 v2 (0 : Int32) m
theorem ok_World_passDays (X : mX) (d F : Nat) : ∀ (v1 : Int32) (v2 : Int32)  (m : mM) (r : Unit) (m' : mM), f_World_passDays F v1 v2 m = some (r, m') → m_R X (d + 6) 144 0 [some (.ref 16), some (.int v1), some (.int v2), none] [] (SH, m) (none, (SH, m')) := by
  intro v1 v2 m r m' h
  unfold f_World_passDays at h
  refine m_R_sg (by decide) [(.iconst 0, 1, 0, 0, 0, 0, 0), (.istore_n 3, 1, 0, 3, 0, 0, 0)] (by decide +kernel) (show m_sgl X _ _ _ _ _ = some (2, [some (.ref 16), some (.int v1), some (.int v2), some (.int (0 : Int32))], [], (SH, m.1, m.2)) from rfl) ?_
  exact ok_World_passDays_2 X d F F _ _ _ _ _ _ h
def f_x_run_22 (F : Nat)    (m : mM) : Option (Int32 × mM) := ((f_x_refuse F (-7 : Int32) m).bind fun q4 => some (q4.1, q4.2))
theorem ok_x_run_22 (X : mX) (d F : Nat) : ∀  (w1 : Option Value) (w2 : Option Value) (m : mM) (r : Int32) (m' : mM), f_x_run_22 F  m = some (r, m') → m_R X (d + 7) 143 22 [some (.ref 0), w1, w2] [] (SH, m) (some (.int r), (SH, m')) := by
  intro w1 w2 m r m' h
  unfold f_x_run_22 at h
  refine m_R_sg (by decide) [(.aload_n 0, 1, 0, 0, 0, 0, 0), (.bipush (-7), 2, 0, 7, 1, 0, 0)] (by decide +kernel) (show m_sgl X _ _ _ _ _ = some (25, [some (.ref 0), w1, w2], [.int (-7 : Int32), .ref 0], (SH, m.1, m.2)) from rfl) ?_
  obtain ⟨q4, hc4, h⟩ := Option.bind_eq_some_iff.mp h
  refine m_R_cV (v := (some (.int q4.1))) (h1 := (SH, q4.2)) (rest := []) (lo' := [some (.ref 0), some (.int (-7 : Int32))]) (ml := 2) (k0 := 0) (by decide) (Or.inl rfl) (m_opb_of (ins := .invokevirtual 76) (len := 3) (tag := 5) (a := 14) (b := 1) (c := 0) (q := 671) (by decide +kernel)) (by decide +kernel) rfl (show m_isO 14 0 (SH, _) = true from m_isO_of (by decide +kernel)) (Nat.le_of_ble_eq_true rfl) rfl rfl (ok_x_refuse X (d + 6) F _ _ _ _ hc4) ?_
  obtain ⟨rfl, rfl⟩ := m_some h
  exact m_R_iret (by decide) (m_opb_of (ins := .ireturn) (len := 1) (tag := 1) (a := 0) (b := 0) (c := 0) (q := 0) (by decide +kernel)) (Or.inl rfl)
def f_x_run (F : Nat)   (v1 : Int32) (m : mM) : Option (Int32 × mM) := (if 0 ≤ v1 then (if v1 < (1 : Int32) then f_x_run_22 F m else (if v1 ≤ (70 : Int32) then (if ((m.1 16 9) + v1) ≤ (700 : Int32) then ((f_World_passDays F v1 (1 : Int32) m).bind fun q1 => some (((q1.2.1 19 12) - (m.1 19 12)), q1.2)) else ((f_x_refuse F (-8 : Int32) m).bind fun q2 => some (q2.1, q2.2))) else f_x_run_22 F m)) else ((f_x_refuse F (-4 : Int32) m).bind fun q3 => some (q3.1, q3.2)))
theorem ok_x_run (X : mX) (d F : Nat) : ∀ (v1 : Int32)  (m : mM) (r : Int32) (m' : mM), f_x_run F v1 m = some (r, m') → m_R X (d + 7) 143 0 [some (.ref 0), some (.int v1), none] [] (SH, m) (some (.int r), (SH, m')) := by
  intro v1 m r m' h
  unfold f_x_run at h
  refine m_R_sg (by decide) [(.iload_n 1, 1, 0, 1, 0, 0, 0)] (by decide +kernel) (show m_sgl X _ _ _ _ _ = some (1, [some (.ref 0), some (.int v1), none], [.int v1], (SH, m.1, m.2)) from rfl) ?_
  rcases m_ite h with ⟨c1232, h⟩ | ⟨c1232, h⟩
  · refine m_R_1 (by decide) (m_opb_of (ins := .ifCond .ge 10) (len := 3) (tag := 0) (a := 11) (b := 0) (c := 0) (q := 0) (by decide +kernel)) (if_pos c1232) ?_
    refine m_R_sg (by decide) [(.iload_n 1, 1, 0, 1, 0, 0, 0), (.iconst 1, 1, 0, 1, 0, 0, 0)] (by decide +kernel) (show m_sgl X _ _ _ _ _ = some (13, [some (.ref 0), some (.int v1), none], [.int (1 : Int32), .int v1], (SH, m.1, m.2)) from rfl) ?_
    rcases m_ite h with ⟨c1233, h⟩ | ⟨c1233, h⟩
    · refine m_R_1 (by decide) (m_opb_of (ins := .if_icmp .lt 9) (len := 3) (tag := 0) (a := 22) (b := 0) (c := 0) (q := 0) (by decide +kernel)) (if_pos c1233) ?_
      exact ok_x_run_22 X d F _ _ _ _ _ h
    · refine m_R_1 (by decide) (m_opb_of (ins := .if_icmp .lt 9) (len := 3) (tag := 0) (a := 22) (b := 0) (c := 0) (q := 0) (by decide +kernel)) (if_neg c1233) ?_
      refine m_R_sg (by decide) [(.iload_n 1, 1, 0, 1, 0, 0, 0), (.bipush 70, 2, 0, 70, 0, 0, 0)] (by decide +kernel) (show m_sgl X _ _ _ _ _ = some (19, [some (.ref 0), some (.int v1), none], [.int (70 : Int32), .int v1], (SH, m.1, m.2)) from rfl) ?_
      rcases m_ite h with ⟨c1234, h⟩ | ⟨c1234, h⟩
      · refine m_R_1 (by decide) (m_opb_of (ins := .if_icmp .le 10) (len := 3) (tag := 0) (a := 29) (b := 0) (c := 0) (q := 0) (by decide +kernel)) (if_pos c1234) ?_
        refine m_R_sg (by decide) [(.aload_n 0, 1, 0, 0, 0, 0, 0), (.getfield 28, 3, 0, 11, 2, 3, 632), (.getfield 255, 3, 0, 10, 9, 0, 521), (.iload_n 1, 1, 0, 1, 0, 0, 0), (.iadd, 1, 0, 0, 0, 0, 0), (.sipush 700, 3, 0, 700, 0, 0, 0)] (by decide +kernel) (show m_sgl X _ _ _ _ _ = some (41, [some (.ref 0), some (.int v1), none], [.int (700 : Int32), .int ((m.1 16 9) + v1)], (SH, m.1, m.2)) from rfl) ?_
        rcases m_ite h with ⟨c1235, h⟩ | ⟨c1235, h⟩
        · refine m_R_1 (by decide) (m_opb_of (ins := .if_icmp .le 10) (len := 3) (tag := 0) (a := 51) (b := 0) (c := 0) (q := 0) (by decide +kernel)) (if_pos c1235) ?_
          refine m_R_sg (by decide) [(.aload_n 0, 1, 0, 0, 0, 0, 0), (.getfield 28, 3, 0, 11, 2, 3, 632), (.getfield 95, 3, 0, 10, 1, 3, 507), (.getfield 389, 3, 0, 1, 12, 0, 283), (.istore_n 2, 1, 0, 2, 0, 0, 0), (.aload_n 0, 1, 0, 0, 0, 0, 0), (.getfield 28, 3, 0, 11, 2, 3, 632), (.iload_n 1, 1, 0, 1, 0, 0, 0), (.iconst 1, 1, 0, 1, 0, 0, 0)] (by decide +kernel) (show m_sgl X _ _ _ _ _ = some (68, [some (.ref 0), some (.int v1), some (.int (m.1 19 12))], [.int (1 : Int32), .int v1, .ref 16], (SH, m.1, m.2)) from rfl) ?_
          obtain ⟨q1, hc1, h⟩ := Option.bind_eq_some_iff.mp h
          refine m_R_cV (v := none) (h1 := (SH, q1.2)) (rest := []) (lo' := [some (.ref 16), some (.int v1), some (.int (1 : Int32)), none]) (ml := 4) (k0 := 16) (by decide) (Or.inl rfl) (m_opb_of (ins := .invokevirtual 392) (len := 3) (tag := 5) (a := 144) (b := 2) (c := 0) (q := 1250) (by decide +kernel)) (by decide +kernel) rfl (show m_isO 144 16 (SH, _) = true from m_isO_of (by decide +kernel)) (Nat.le_of_ble_eq_true rfl) rfl rfl (ok_World_passDays X (d + 0) F _ _ _ _ _ hc1) ?_
          refine m_R_sg (by decide) [(.aload_n 0, 1, 0, 0, 0, 0, 0), (.getfield 28, 3, 0, 11, 2, 3, 632), (.getfield 95, 3, 0, 10, 1, 3, 507), (.getfield 389, 3, 0, 1, 12, 0, 283), (.iload_n 2, 1, 0, 2, 0, 0, 0), (.isub, 1, 0, 0, 0, 0, 0)] (by decide +kernel) (show m_sgl X _ _ _ _ _ = some (83, [some (.ref 0), some (.int v1), some (.int (m.1 19 12))], [.int ((q1.2.1 19 12) - (m.1 19 12))], (SH, q1.2.1, q1.2.2)) from rfl) ?_
          obtain ⟨rfl, rfl⟩ := m_some h
          exact m_R_iret (by decide) (m_opb_of (ins := .ireturn) (len := 1) (tag := 1) (a := 0) (b := 0) (c := 0) (q := 0) (by decide +kernel)) (Or.inl rfl)
        · refine m_R_1 (by decide) (m_opb_of (ins := .if_icmp .le 10) (len := 3) (tag := 0) (a := 51) (b := 0) (c := 0) (q := 0) (by decide +kernel)) (if_neg c1235) ?_
          refine m_R_sg (by decide) [(.aload_n 0, 1, 0, 0, 0, 0, 0), (.bipush (-8), 2, 0, 8, 1, 0, 0)] (by decide +kernel) (show m_sgl X _ _ _ _ _ = some (47, [some (.ref 0), some (.int v1), none], [.int (-8 : Int32), .ref 0], (SH, m.1, m.2)) from rfl) ?_
          obtain ⟨q2, hc2, h⟩ := Option.bind_eq_some_iff.mp h
          refine m_R_cV (v := (some (.int q2.1))) (h1 := (SH, q2.2)) (rest := []) (lo' := [some (.ref 0), some (.int (-8 : Int32))]) (ml := 2) (k0 := 0) (by decide) (Or.inl rfl) (m_opb_of (ins := .invokevirtual 76) (len := 3) (tag := 5) (a := 14) (b := 1) (c := 0) (q := 671) (by decide +kernel)) (by decide +kernel) rfl (show m_isO 14 0 (SH, _) = true from m_isO_of (by decide +kernel)) (Nat.le_of_ble_eq_true rfl) rfl rfl (ok_x_refuse X (d + 6) F _ _ _ _ hc2) ?_
          obtain ⟨rfl, rfl⟩ := m_some h
          exact m_R_iret (by decide) (m_opb_of (ins := .ireturn) (len := 1) (tag := 1) (a := 0) (b := 0) (c := 0) (q := 0) (by decide +kernel)) (Or.inl rfl)
      · refine m_R_1 (by decide) (m_opb_of (ins := .if_icmp .le 10) (len := 3) (tag := 0) (a := 29) (b := 0) (c := 0) (q := 0) (by decide +kernel)) (if_neg c1234) ?_
        exact ok_x_run_22 X d F _ _ _ _ _ h
  · refine m_R_1 (by decide) (m_opb_of (ins := .ifCond .ge 10) (len := 3) (tag := 0) (a := 11) (b := 0) (c := 0) (q := 0) (by decide +kernel)) (if_neg c1232) ?_
    refine m_R_sg (by decide) [(.aload_n 0, 1, 0, 0, 0, 0, 0), (.bipush (-4), 2, 0, 4, 1, 0, 0)] (by decide +kernel) (show m_sgl X _ _ _ _ _ = some (7, [some (.ref 0), some (.int v1), none], [.int (-4 : Int32), .ref 0], (SH, m.1, m.2)) from rfl) ?_
    obtain ⟨q3, hc3, h⟩ := Option.bind_eq_some_iff.mp h
    refine m_R_cV (v := (some (.int q3.1))) (h1 := (SH, q3.2)) (rest := []) (lo' := [some (.ref 0), some (.int (-4 : Int32))]) (ml := 2) (k0 := 0) (by decide) (Or.inl rfl) (m_opb_of (ins := .invokevirtual 76) (len := 3) (tag := 5) (a := 14) (b := 1) (c := 0) (q := 671) (by decide +kernel)) (by decide +kernel) rfl (show m_isO 14 0 (SH, _) = true from m_isO_of (by decide +kernel)) (Nat.le_of_ble_eq_true rfl) rfl rfl (ok_x_refuse X (d + 6) F _ _ _ _ hc3) ?_
    obtain ⟨rfl, rfl⟩ := m_some h
    exact m_R_iret (by decide) (m_opb_of (ins := .ireturn) (len := 1) (tag := 1) (a := 0) (b := 0) (c := 0) (q := 0) (by decide +kernel)) (Or.inl rfl)
def f_m_downMany_28 (F : Nat)  (k4 : Int32 → Int32 → mM → Option (Int32 × mM)) (v2 : Int32) (s0 : Int32) (s1 : Int32) (m : mM) : Option (Int32 × mM) := k4 (s0 + s1) (v2 + (1 : Int32)) m
theorem ok_m_downMany_28 (X : mX) (d F : Nat) (k4 : Int32 → Int32 → mM → Option (Int32 × mM)) (hk4 : ∀ (v1 : Int32) (v2 : Int32) (m : mM) (r : Int32) (m' : mM), k4 v1 v2 m = some (r, m') → m_R X (d + 2) 306 4 [some (.ref 304), some (.int v1), some (.int v2)] [] (SH, m) (some (.int r), (SH, m'))) : ∀ (v2 : Int32) (s0 : Int32) (s1 : Int32) (w1 : Option Value) (m : mM) (r : Int32) (m' : mM), f_m_downMany_28 F k4 v2 s0 s1 m = some (r, m') → m_R X (d + 2) 306 28 [some (.ref 304), w1, some (.int v2)] [.int s1, .int s0] (SH, m) (some (.int r), (SH, m')) := by
  intro v2 s0 s1 w1 m r m' h
  unfold f_m_downMany_28 at h
  refine m_R_sg (by decide) [(.iadd, 1, 0, 0, 0, 0, 0), (.istore_n 1, 1, 0, 1, 0, 0, 0), (.iinc 2 1, 3, 0, 2, 1, 0, 0), (.goto (-29), 3, 0, 4, 0, 0, 0)] (by decide +kernel) (show m_sgl X _ _ _ _ _ = some (4, [some (.ref 304), some (.int (s0 + s1)), some (.int (v2 + (1 : Int32)))], [], (SH, m.1, m.2)) from rfl) ?_
  exact hk4 _ _ _ _ _ h
def f_m_downMany_4 (F : Nat)   : Nat → Int32 → Int32 → mM → Option (Int32 × mM)
  | 0, _, _, _ => none
  | n + 1, v1, v2, m => (if (m.1 305 (2 : Int32).toNatClampNeg) ≤ v2 then some (v1, m) else ((f_m_isUp F v2 m).bind fun q1 => (if q1.1 = 0 then f_m_downMany_28 F (f_m_downMany_4 F n) v2 v1 (1 : Int32) q1.2 else f_m_downMany_28 F (f_m_downMany_4 F n) v2 v1 (0 : Int32) q1.2)))
theorem ok_m_downMany_4 (X : mX) (d F : Nat) : ∀ (n : Nat) (v1 : Int32) (v2 : Int32)  (m : mM) (r : Int32) (m' : mM), f_m_downMany_4 F n v1 v2 m = some (r, m') → m_R X (d + 2) 306 4 [some (.ref 304), some (.int v1), some (.int v2)] [] (SH, m) (some (.int r), (SH, m')) := by
  intro n
  induction n with
  | zero => intro v1 v2 m r m' h; cases h
  | succ n ih =>
    intro v1 v2 m r m' h
    simp only [f_m_downMany_4] at h
    refine m_R_sg (by decide) [(.iload_n 2, 1, 0, 2, 0, 0, 0), (.aload_n 0, 1, 0, 0, 0, 0, 0), (.getfield 13, 3, 0, 12, 1, 3, 1493), (.iconst 2, 1, 0, 2, 0, 0, 0)] (by decide +kernel) (show m_sgl X _ _ _ _ _ = some (10, [some (.ref 304), some (.int v1), some (.int v2)], [.int (2 : Int32), .ref 305, .int v2], (SH, m.1, m.2)) from rfl) ?_
    refine m_R_1 (by decide) (m_opb_of (ins := .iaload) (len := 1) (tag := 0) (a := 0) (b := 0) (c := 0) (q := 0) (by decide +kernel)) (m_s_iald sh_305 (by decide) (show ¬ ((2 : Int32) < 0 ∨ 9732 ≤ (2 : Int32).toNatClampNeg) by decide)) ?_
    rcases m_ite h with ⟨c1236, h⟩ | ⟨c1236, h⟩
    · refine m_R_1 (by decide) (m_opb_of (ins := .if_icmp .ge 25) (len := 3) (tag := 0) (a := 36) (b := 0) (c := 0) (q := 0) (by decide +kernel)) (if_pos c1236) ?_
      refine m_R_sg (by decide) [(.iload_n 1, 1, 0, 1, 0, 0, 0)] (by decide +kernel) (show m_sgl X _ _ _ _ _ = some (37, [some (.ref 304), some (.int v1), some (.int v2)], [.int v1], (SH, m.1, m.2)) from rfl) ?_
      obtain ⟨rfl, rfl⟩ := m_some h
      exact m_R_iret (by decide) (m_opb_of (ins := .ireturn) (len := 1) (tag := 1) (a := 0) (b := 0) (c := 0) (q := 0) (by decide +kernel)) (Or.inl rfl)
    · refine m_R_1 (by decide) (m_opb_of (ins := .if_icmp .ge 25) (len := 3) (tag := 0) (a := 36) (b := 0) (c := 0) (q := 0) (by decide +kernel)) (if_neg c1236) ?_
      refine m_R_sg (by decide) [(.iload_n 1, 1, 0, 1, 0, 0, 0), (.aload_n 0, 1, 0, 0, 0, 0, 0), (.iload_n 2, 1, 0, 2, 0, 0, 0)] (by decide +kernel) (show m_sgl X _ _ _ _ _ = some (17, [some (.ref 304), some (.int v1), some (.int v2)], [.int v2, .ref 304, .int v1], (SH, m.1, m.2)) from rfl) ?_
      obtain ⟨q1, hc1, h⟩ := Option.bind_eq_some_iff.mp h
      refine m_R_cV (v := (some (.int q1.1))) (h1 := (SH, q1.2)) (rest := [.int v1]) (lo' := [some (.ref 304), some (.int v2)]) (ml := 2) (k0 := 304) (by decide) (Or.inl rfl) (m_opb_of (ins := .invokevirtual 80) (len := 3) (tag := 5) (a := 211) (b := 1) (c := 0) (q := 1629) (by decide +kernel)) (by decide +kernel) rfl (show m_isO 211 304 (SH, _) = true from m_isO_of (by decide +kernel)) (Nat.le_of_ble_eq_true rfl) rfl rfl (ok_m_isUp X (d + 0) F _ _ _ _ hc1) ?_
      rcases m_ite h with ⟨c1237, h⟩ | ⟨c1237, h⟩
      · refine m_R_1 (by decide) (m_opb_of (ins := .ifCond .eq 7) (len := 3) (tag := 0) (a := 27) (b := 0) (c := 0) (q := 0) (by decide +kernel)) (if_pos c1237) ?_
        refine m_R_sg (by decide) [(.iconst 1, 1, 0, 1, 0, 0, 0)] (by decide +kernel) (show m_sgl X _ _ _ _ _ = some (28, [some (.ref 304), some (.int v1), some (.int v2)], [.int (1 : Int32), .int v1], (SH, q1.2.1, q1.2.2)) from rfl) ?_
        exact ok_m_downMany_28 X d F _ (fun a0 a1 m r m' h => ih a0 a1 m r m' h) _ _ _ _ _ _ _ h
      · refine m_R_1 (by decide) (m_opb_of (ins := .ifCond .eq 7) (len := 3) (tag := 0) (a := 27) (b := 0) (c := 0) (q := 0) (by decide +kernel)) (if_neg c1237) ?_
        refine m_R_sg (by decide) [(.iconst 0, 1, 0, 0, 0, 0, 0), (.goto 4, 3, 0, 28, 0, 0, 0)] (by decide +kernel) (show m_sgl X _ _ _ _ _ = some (28, [some (.ref 304), some (.int v1), some (.int v2)], [.int (0 : Int32), .int v1], (SH, q1.2.1, q1.2.2)) from rfl) ?_
        exact ok_m_downMany_28 X d F _ (fun a0 a1 m r m' h => ih a0 a1 m r m' h) _ _ _ _ _ _ _ h
def f_m_downMany (F : Nat)    (m : mM) : Option (Int32 × mM) := f_m_downMany_4 F F (0 : Int32) (1 : Int32) m
theorem ok_m_downMany (X : mX) (d F : Nat) : ∀   (m : mM) (r : Int32) (m' : mM), f_m_downMany F  m = some (r, m') → m_R X (d + 2) 306 0 [some (.ref 304), none, none] [] (SH, m) (some (.int r), (SH, m')) := by
  intro m r m' h
  unfold f_m_downMany at h
  refine m_R_sg (by decide) [(.iconst 0, 1, 0, 0, 0, 0, 0), (.istore_n 1, 1, 0, 1, 0, 0, 0), (.iconst 1, 1, 0, 1, 0, 0, 0), (.istore_n 2, 1, 0, 2, 0, 0, 0)] (by decide +kernel) (show m_sgl X _ _ _ _ _ = some (4, [some (.ref 304), some (.int (0 : Int32)), some (.int (1 : Int32))], [], (SH, m.1, m.2)) from rfl) ?_
  exact ok_m_downMany_4 X d F F _ _ _ _ _ h
def f_m_draws_62 (F : Nat)    (m : mM) : Option (Unit × mM) := some ((), m)
theorem ok_m_draws_62 (X : mX) (d F : Nat) : ∀  (w0 : Option Value) (w1 : Option Value) (w2 : Option Value) (w3 : Option Value) (w4 : Option Value) (w5 : Option Value) (w6 : Option Value) (m : mM) (r : Unit) (m' : mM), f_m_draws_62 F  m = some (r, m') → m_R X (d + 3) 308 62 [w0, w1, w2, w3, w4, w5, w6] [] (SH, m) (none, (SH, m')) := by
  intro w0 w1 w2 w3 w4 w5 w6 m r m' h
  unfold f_m_draws_62 at h
  obtain ⟨rfl, rfl⟩ := m_some h
  exact m_R_vret (by decide) (m_opb_of (ins := .return_) (len := 1) (tag := 3) (a := 0) (b := 0) (c := 0) (q := 0) (by decide +kernel))
def f_m_draws_89 (F : Nat)   (v2 : Int32) (v3 : Int32) (v4 : Int32) (v5 : Int32) (m : mM) : Option (Unit × mM) := (if v5 = 0 then some ((), m) else (if (v2 + (3 : Int32)) < 0 ∨ 9732 ≤ (v2 + (3 : Int32)).toNatClampNeg then none else ((f_m_makes F (1 : Int32) v5 v3 v4 ((m.1 305 (0 : Int32).toNatClampNeg) + (m.1 305 (v2 + (3 : Int32)).toNatClampNeg)) m).bind fun q4 => (if (((6200 : Int32) + ((20 : Int32) * q4.1)) + (18 : Int32)) < 0 ∨ 9732 ≤ (((6200 : Int32) + ((20 : Int32) * q4.1)) + (18 : Int32)).toNatClampNeg then none else some ((), ((m_up q4.2.1 305 (((6200 : Int32) + ((20 : Int32) * q4.1)) + (18 : Int32)).toNatClampNeg (1 : Int32)), q4.2.2))))))
theorem ok_m_draws_89 (X : mX) (d F : Nat) : ∀ (v2 : Int32) (v3 : Int32) (v4 : Int32) (v5 : Int32) (w1 : Option Value) (w6 : Option Value) (m : mM) (r : Unit) (m' : mM), f_m_draws_89 F v2 v3 v4 v5 m = some (r, m') → m_R X (d + 3) 308 89 [some (.ref 304), w1, some (.int v2), some (.int v3), some (.int v4), some (.int v5), w6] [] (SH, m) (none, (SH, m')) := by
  intro v2 v3 v4 v5 w1 w6 m r m' h
  unfold f_m_draws_89 at h
  refine m_R_sg (by decide) [(.iload 5, 2, 0, 5, 0, 0, 0)] (by decide +kernel) (show m_sgl X _ _ _ _ _ = some (91, [some (.ref 304), w1, some (.int v2), some (.int v3), some (.int v4), some (.int v5), w6], [.int v5], (SH, m.1, m.2)) from rfl) ?_
  rcases m_ite h with ⟨c1238, h⟩ | ⟨c1238, h⟩
  · refine m_R_1 (by decide) (m_opb_of (ins := .ifCond .ne 4) (len := 3) (tag := 0) (a := 95) (b := 0) (c := 0) (q := 0) (by decide +kernel)) (if_pos c1238) ?_
    obtain ⟨rfl, rfl⟩ := m_some h
    exact m_R_vret (by decide) (m_opb_of (ins := .return_) (len := 1) (tag := 3) (a := 0) (b := 0) (c := 0) (q := 0) (by decide +kernel))
  · refine m_R_1 (by decide) (m_opb_of (ins := .ifCond .ne 4) (len := 3) (tag := 0) (a := 95) (b := 0) (c := 0) (q := 0) (by decide +kernel)) (if_neg c1238) ?_
    refine m_R_sg (by decide) [(.aload_n 0, 1, 0, 0, 0, 0, 0), (.iconst 1, 1, 0, 1, 0, 0, 0), (.iload 5, 2, 0, 5, 0, 0, 0), (.iload_n 3, 1, 0, 3, 0, 0, 0), (.iload 4, 2, 0, 4, 0, 0, 0), (.aload_n 0, 1, 0, 0, 0, 0, 0), (.getfield 13, 3, 0, 12, 1, 3, 1493), (.iconst 0, 1, 0, 0, 0, 0, 0)] (by decide +kernel) (show m_sgl X _ _ _ _ _ = some (107, [some (.ref 304), w1, some (.int v2), some (.int v3), some (.int v4), some (.int v5), w6], [.int (0 : Int32), .ref 305, .int v4, .int v3, .int v5, .int (1 : Int32), .ref 304], (SH, m.1, m.2)) from rfl) ?_
    refine m_R_1 (by decide) (m_opb_of (ins := .iaload) (len := 1) (tag := 0) (a := 0) (b := 0) (c := 0) (q := 0) (by decide +kernel)) (m_s_iald sh_305 (by decide) (show ¬ ((0 : Int32) < 0 ∨ 9732 ≤ (0 : Int32).toNatClampNeg) by decide)) ?_
    refine m_R_sg (by decide) [(.aload_n 0, 1, 0, 0, 0, 0, 0), (.getfield 13, 3, 0, 12, 1, 3, 1493), (.iload_n 2, 1, 0, 2, 0, 0, 0), (.iconst 3, 1, 0, 3, 0, 0, 0), (.iadd, 1, 0, 0, 0, 0, 0)] (by decide +kernel) (show m_sgl X _ _ _ _ _ = some (115, [some (.ref 304), w1, some (.int v2), some (.int v3), some (.int v4), some (.int v5), w6], [.int (v2 + (3 : Int32)), .ref 305, .int (m.1 305 (0 : Int32).toNatClampNeg), .int v4, .int v3, .int v5, .int (1 : Int32), .ref 304], (SH, m.1, m.2)) from rfl) ?_
    obtain ⟨c1239, h⟩ := m_ite_n h
    refine m_R_1 (by decide) (m_opb_of (ins := .iaload) (len := 1) (tag := 0) (a := 0) (b := 0) (c := 0) (q := 0) (by decide +kernel)) (m_s_iald sh_305 (by decide) c1239) ?_
    refine m_R_sg (by decide) [(.iadd, 1, 0, 0, 0, 0, 0)] (by decide +kernel) (show m_sgl X _ _ _ _ _ = some (117, [some (.ref 304), w1, some (.int v2), some (.int v3), some (.int v4), some (.int v5), w6], [.int ((m.1 305 (0 : Int32).toNatClampNeg) + (m.1 305 (v2 + (3 : Int32)).toNatClampNeg)), .int v4, .int v3, .int v5, .int (1 : Int32), .ref 304], (SH, m.1, m.2)) from rfl) ?_
    obtain ⟨q4, hc4, h⟩ := Option.bind_eq_some_iff.mp h
    refine m_R_cV (v := (some (.int q4.1))) (h1 := (SH, q4.2)) (rest := []) (lo' := [some (.ref 304), some (.int (1 : Int32)), some (.int v5), some (.int v3), some (.int v4), some (.int ((m.1 305 (0 : Int32).toNatClampNeg) + (m.1 305 (v2 + (3 : Int32)).toNatClampNeg))), none, none, none]) (ml := 9) (k0 := 304) (by decide) (Or.inl rfl) (m_opb_of (ins := .invokevirtual 166) (len := 3) (tag := 5) (a := 268) (b := 5) (c := 0) (q := 1889) (by decide +kernel)) (by decide +kernel) rfl (show m_isO 268 304 (SH, _) = true from m_isO_of (by decide +kernel)) (Nat.le_of_ble_eq_true rfl) rfl rfl (ok_m_makes X (d + 0) F _ _ _ _ _ _ _ _ hc4) ?_
    refine m_R_sg (by decide) [(.istore 6, 2, 0, 6, 0, 0, 0), (.aload_n 0, 1, 0, 0, 0, 0, 0), (.getfield 13, 3, 0, 12, 1, 3, 1493), (.sipush 6200, 3, 0, 6200, 0, 0, 0), (.bipush 20, 2, 0, 20, 0, 0, 0), (.iload 6, 2, 0, 6, 0, 0, 0), (.imul, 1, 0, 0, 0, 0, 0), (.iadd, 1, 0, 0, 0, 0, 0), (.bipush 18, 2, 0, 18, 0, 0, 0), (.iadd, 1, 0, 0, 0, 0, 0), (.iconst 1, 1, 0, 1, 0, 0, 0)] (by decide +kernel) (show m_sgl X _ _ _ _ _ = some (139, [some (.ref 304), w1, some (.int v2), some (.int v3), some (.int v4), some (.int v5), some (.int q4.1)], [.int (1 : Int32), .int (((6200 : Int32) + ((20 : Int32) * q4.1)) + (18 : Int32)), .ref 305], (SH, q4.2.1, q4.2.2)) from rfl) ?_
    obtain ⟨c1240, h⟩ := m_ite_n h
    refine m_R_1 (by decide) (m_opb_of (ins := .iastore) (len := 1) (tag := 0) (a := 0) (b := 0) (c := 0) (q := 0) (by decide +kernel)) (m_s_iast sh_305 c1240) ?_
    obtain ⟨rfl, rfl⟩ := m_some h
    exact m_R_vret (by decide) (m_opb_of (ins := .return_) (len := 1) (tag := 3) (a := 0) (b := 0) (c := 0) (q := 0) (by decide +kernel))
def f_m_draws (F : Nat)   (v1 : Int32) (m : mM) : Option (Unit × mM) := (if ((7400 : Int32) + ((5 : Int32) * v1)) < 0 ∨ 9732 ≤ ((7400 : Int32) + ((5 : Int32) * v1)).toNatClampNeg then none else (if (((7400 : Int32) + ((5 : Int32) * v1)) + (1 : Int32)) < 0 ∨ 9732 ≤ (((7400 : Int32) + ((5 : Int32) * v1)) + (1 : Int32)).toNatClampNeg then none else (if (((7400 : Int32) + ((5 : Int32) * v1)) + (4 : Int32)) < 0 ∨ 9732 ≤ (((7400 : Int32) + ((5 : Int32) * v1)) + (4 : Int32)).toNatClampNeg then none else (if (m.1 305 (((7400 : Int32) + ((5 : Int32) * v1)) + (4 : Int32)).toNatClampNeg) = 0 then f_m_draws_62 F m else ((f_m_isUp F (m.1 305 ((7400 : Int32) + ((5 : Int32) * v1)).toNatClampNeg) m).bind fun q1 => (if q1.1 = 0 then f_m_draws_62 F q1.2 else ((f_m_isUp F (m.1 305 (((7400 : Int32) + ((5 : Int32) * v1)) + (1 : Int32)).toNatClampNeg) q1.2).bind fun q2 => (if q2.1 = 0 then f_m_draws_62 F q2.2 else ((f_m_free F q2.2).bind fun q3 => (if q3.1 = (60 : Int32) then f_m_draws_62 F q3.2 else (if (((7400 : Int32) + ((5 : Int32) * v1)) + (2 : Int32)) < 0 ∨ 9732 ≤ (((7400 : Int32) + ((5 : Int32) * v1)) + (2 : Int32)).toNatClampNeg then none else f_m_draws_89 F ((7400 : Int32) + ((5 : Int32) * v1)) (m.1 305 ((7400 : Int32) + ((5 : Int32) * v1)).toNatClampNeg) (m.1 305 (((7400 : Int32) + ((5 : Int32) * v1)) + (1 : Int32)).toNatClampNeg) (((q3.2.1 305 (((7400 : Int32) + ((5 : Int32) * v1)) + (2 : Int32)).toNatClampNeg) * ((100 : Int32) - ((2 : Int32) * (q3.2.1 305 (10 : Int32).toNatClampNeg)))) / (100 : Int32)) q3.2)))))))))))
theorem ok_m_draws (X : mX) (d F : Nat) : ∀ (v1 : Int32)  (m : mM) (r : Unit) (m' : mM), f_m_draws F v1 m = some (r, m') → m_R X (d + 3) 308 0 [some (.ref 304), some (.int v1), none, none, none, none, none] [] (SH, m) (none, (SH, m')) := by
  intro v1 m r m' h
  unfold f_m_draws at h
  refine m_R_sg (by decide) [(.sipush 7400, 3, 0, 7400, 0, 0, 0), (.iconst 5, 1, 0, 5, 0, 0, 0), (.iload_n 1, 1, 0, 1, 0, 0, 0), (.imul, 1, 0, 0, 0, 0, 0), (.iadd, 1, 0, 0, 0, 0, 0), (.istore_n 2, 1, 0, 2, 0, 0, 0), (.aload_n 0, 1, 0, 0, 0, 0, 0), (.getfield 13, 3, 0, 12, 1, 3, 1493), (.iload_n 2, 1, 0, 2, 0, 0, 0)] (by decide +kernel) (show m_sgl X _ _ _ _ _ = some (13, [some (.ref 304), some (.int v1), some (.int ((7400 : Int32) + ((5 : Int32) * v1))), none, none, none, none], [.int ((7400 : Int32) + ((5 : Int32) * v1)), .ref 305], (SH, m.1, m.2)) from rfl) ?_
  obtain ⟨c1241, h⟩ := m_ite_n h
  refine m_R_1 (by decide) (m_opb_of (ins := .iaload) (len := 1) (tag := 0) (a := 0) (b := 0) (c := 0) (q := 0) (by decide +kernel)) (m_s_iald sh_305 (by decide) c1241) ?_
  refine m_R_sg (by decide) [(.istore_n 3, 1, 0, 3, 0, 0, 0), (.aload_n 0, 1, 0, 0, 0, 0, 0), (.getfield 13, 3, 0, 12, 1, 3, 1493), (.iload_n 2, 1, 0, 2, 0, 0, 0), (.iconst 1, 1, 0, 1, 0, 0, 0), (.iadd, 1, 0, 0, 0, 0, 0)] (by decide +kernel) (show m_sgl X _ _ _ _ _ = some (22, [some (.ref 304), some (.int v1), some (.int ((7400 : Int32) + ((5 : Int32) * v1))), some (.int (m.1 305 ((7400 : Int32) + ((5 : Int32) * v1)).toNatClampNeg)), none, none, none], [.int (((7400 : Int32) + ((5 : Int32) * v1)) + (1 : Int32)), .ref 305], (SH, m.1, m.2)) from rfl) ?_
  obtain ⟨c1242, h⟩ := m_ite_n h
  refine m_R_1 (by decide) (m_opb_of (ins := .iaload) (len := 1) (tag := 0) (a := 0) (b := 0) (c := 0) (q := 0) (by decide +kernel)) (m_s_iald sh_305 (by decide) c1242) ?_
  refine m_R_sg (by decide) [(.istore 4, 2, 0, 4, 0, 0, 0), (.aload_n 0, 1, 0, 0, 0, 0, 0), (.getfield 13, 3, 0, 12, 1, 3, 1493), (.iload_n 2, 1, 0, 2, 0, 0, 0), (.iconst 4, 1, 0, 4, 0, 0, 0), (.iadd, 1, 0, 0, 0, 0, 0)] (by decide +kernel) (show m_sgl X _ _ _ _ _ = some (32, [some (.ref 304), some (.int v1), some (.int ((7400 : Int32) + ((5 : Int32) * v1))), some (.int (m.1 305 ((7400 : Int32) + ((5 : Int32) * v1)).toNatClampNeg)), some (.int (m.1 305 (((7400 : Int32) + ((5 : Int32) * v1)) + (1 : Int32)).toNatClampNeg)), none, none], [.int (((7400 : Int32) + ((5 : Int32) * v1)) + (4 : Int32)), .ref 305], (SH, m.1, m.2)) from rfl) ?_
  obtain ⟨c1243, h⟩ := m_ite_n h
  refine m_R_1 (by decide) (m_opb_of (ins := .iaload) (len := 1) (tag := 0) (a := 0) (b := 0) (c := 0) (q := 0) (by decide +kernel)) (m_s_iald sh_305 (by decide) c1243) ?_
  rcases m_ite h with ⟨c1244, h⟩ | ⟨c1244, h⟩
  · refine m_R_1 (by decide) (m_opb_of (ins := .ifCond .eq 29) (len := 3) (tag := 0) (a := 62) (b := 0) (c := 0) (q := 0) (by decide +kernel)) (if_pos c1244) ?_
    exact ok_m_draws_62 X d F _ _ _ _ _ _ _ _ _ _ h
  · refine m_R_1 (by decide) (m_opb_of (ins := .ifCond .eq 29) (len := 3) (tag := 0) (a := 62) (b := 0) (c := 0) (q := 0) (by decide +kernel)) (if_neg c1244) ?_
    refine m_R_sg (by decide) [(.aload_n 0, 1, 0, 0, 0, 0, 0), (.iload_n 3, 1, 0, 3, 0, 0, 0)] (by decide +kernel) (show m_sgl X _ _ _ _ _ = some (38, [some (.ref 304), some (.int v1), some (.int ((7400 : Int32) + ((5 : Int32) * v1))), some (.int (m.1 305 ((7400 : Int32) + ((5 : Int32) * v1)).toNatClampNeg)), some (.int (m.1 305 (((7400 : Int32) + ((5 : Int32) * v1)) + (1 : Int32)).toNatClampNeg)), none, none], [.int (m.1 305 ((7400 : Int32) + ((5 : Int32) * v1)).toNatClampNeg), .ref 304], (SH, m.1, m.2)) from rfl) ?_
    obtain ⟨q1, hc1, h⟩ := Option.bind_eq_some_iff.mp h
    refine m_R_cV (v := (some (.int q1.1))) (h1 := (SH, q1.2)) (rest := []) (lo' := [some (.ref 304), some (.int (m.1 305 ((7400 : Int32) + ((5 : Int32) * v1)).toNatClampNeg))]) (ml := 2) (k0 := 304) (by decide) (Or.inl rfl) (m_opb_of (ins := .invokevirtual 80) (len := 3) (tag := 5) (a := 211) (b := 1) (c := 0) (q := 1629) (by decide +kernel)) (by decide +kernel) rfl (show m_isO 211 304 (SH, _) = true from m_isO_of (by decide +kernel)) (Nat.le_of_ble_eq_true rfl) rfl rfl (ok_m_isUp X (d + 1) F _ _ _ _ hc1) ?_
    rcases m_ite h with ⟨c1245, h⟩ | ⟨c1245, h⟩
    · refine m_R_1 (by decide) (m_opb_of (ins := .ifCond .eq 21) (len := 3) (tag := 0) (a := 62) (b := 0) (c := 0) (q := 0) (by decide +kernel)) (if_pos c1245) ?_
      exact ok_m_draws_62 X d F _ _ _ _ _ _ _ _ _ _ h
    · refine m_R_1 (by decide) (m_opb_of (ins := .ifCond .eq 21) (len := 3) (tag := 0) (a := 62) (b := 0) (c := 0) (q := 0) (by decide +kernel)) (if_neg c1245) ?_
      refine m_R_sg (by decide) [(.aload_n 0, 1, 0, 0, 0, 0, 0), (.iload 4, 2, 0, 4, 0, 0, 0)] (by decide +kernel) (show m_sgl X _ _ _ _ _ = some (47, [some (.ref 304), some (.int v1), some (.int ((7400 : Int32) + ((5 : Int32) * v1))), some (.int (m.1 305 ((7400 : Int32) + ((5 : Int32) * v1)).toNatClampNeg)), some (.int (m.1 305 (((7400 : Int32) + ((5 : Int32) * v1)) + (1 : Int32)).toNatClampNeg)), none, none], [.int (m.1 305 (((7400 : Int32) + ((5 : Int32) * v1)) + (1 : Int32)).toNatClampNeg), .ref 304], (SH, q1.2.1, q1.2.2)) from rfl) ?_
      obtain ⟨q2, hc2, h⟩ := Option.bind_eq_some_iff.mp h
      refine m_R_cV (v := (some (.int q2.1))) (h1 := (SH, q2.2)) (rest := []) (lo' := [some (.ref 304), some (.int (m.1 305 (((7400 : Int32) + ((5 : Int32) * v1)) + (1 : Int32)).toNatClampNeg))]) (ml := 2) (k0 := 304) (by decide) (Or.inl rfl) (m_opb_of (ins := .invokevirtual 80) (len := 3) (tag := 5) (a := 211) (b := 1) (c := 0) (q := 1629) (by decide +kernel)) (by decide +kernel) rfl (show m_isO 211 304 (SH, _) = true from m_isO_of (by decide +kernel)) (Nat.le_of_ble_eq_true rfl) rfl rfl (ok_m_isUp X (d + 1) F _ _ _ _ hc2) ?_
      rcases m_ite h with ⟨c1246, h⟩ | ⟨c1246, h⟩
      · refine m_R_1 (by decide) (m_opb_of (ins := .ifCond .eq 12) (len := 3) (tag := 0) (a := 62) (b := 0) (c := 0) (q := 0) (by decide +kernel)) (if_pos c1246) ?_
        exact ok_m_draws_62 X d F _ _ _ _ _ _ _ _ _ _ h
      · refine m_R_1 (by decide) (m_opb_of (ins := .ifCond .eq 12) (len := 3) (tag := 0) (a := 62) (b := 0) (c := 0) (q := 0) (by decide +kernel)) (if_neg c1246) ?_
        refine m_R_sg (by decide) [(.aload_n 0, 1, 0, 0, 0, 0, 0)] (by decide +kernel) (show m_sgl X _ _ _ _ _ = some (54, [some (.ref 304), some (.int v1), some (.int ((7400 : Int32) + ((5 : Int32) * v1))), some (.int (m.1 305 ((7400 : Int32) + ((5 : Int32) * v1)).toNatClampNeg)), some (.int (m.1 305 (((7400 : Int32) + ((5 : Int32) * v1)) + (1 : Int32)).toNatClampNeg)), none, none], [.ref 304], (SH, q2.2.1, q2.2.2)) from rfl) ?_
        obtain ⟨q3, hc3, h⟩ := Option.bind_eq_some_iff.mp h
        refine m_R_cV (v := (some (.int q3.1))) (h1 := (SH, q3.2)) (rest := []) (lo' := [some (.ref 304), none]) (ml := 2) (k0 := 304) (by decide) (Or.inl rfl) (m_opb_of (ins := .invokevirtual 163) (len := 3) (tag := 5) (a := 267) (b := 0) (c := 0) (q := 1885) (by decide +kernel)) (by decide +kernel) rfl (show m_isO 267 304 (SH, _) = true from m_isO_of (by decide +kernel)) (Nat.le_of_ble_eq_true rfl) rfl rfl (ok_m_free X (d + 1) F _ _ _ hc3) ?_
        refine m_R_sg (by decide) [(.bipush 60, 2, 0, 60, 0, 0, 0)] (by decide +kernel) (show m_sgl X _ _ _ _ _ = some (59, [some (.ref 304), some (.int v1), some (.int ((7400 : Int32) + ((5 : Int32) * v1))), some (.int (m.1 305 ((7400 : Int32) + ((5 : Int32) * v1)).toNatClampNeg)), some (.int (m.1 305 (((7400 : Int32) + ((5 : Int32) * v1)) + (1 : Int32)).toNatClampNeg)), none, none], [.int (60 : Int32), .int q3.1], (SH, q3.2.1, q3.2.2)) from rfl) ?_
        rcases m_ite h with ⟨c1247, h⟩ | ⟨c1247, h⟩
        · refine m_R_1 (by decide) (m_opb_of (ins := .if_icmp .ne 4) (len := 3) (tag := 0) (a := 63) (b := 0) (c := 0) (q := 0) (by decide +kernel)) (if_pos c1247) ?_
          exact ok_m_draws_62 X d F _ _ _ _ _ _ _ _ _ _ h
        · refine m_R_1 (by decide) (m_opb_of (ins := .if_icmp .ne 4) (len := 3) (tag := 0) (a := 63) (b := 0) (c := 0) (q := 0) (by decide +kernel)) (if_neg c1247) ?_
          refine m_R_sg (by decide) [(.aload_n 0, 1, 0, 0, 0, 0, 0), (.getfield 13, 3, 0, 12, 1, 3, 1493), (.iload_n 2, 1, 0, 2, 0, 0, 0), (.iconst 2, 1, 0, 2, 0, 0, 0), (.iadd, 1, 0, 0, 0, 0, 0)] (by decide +kernel) (show m_sgl X _ _ _ _ _ = some (70, [some (.ref 304), some (.int v1), some (.int ((7400 : Int32) + ((5 : Int32) * v1))), some (.int (m.1 305 ((7400 : Int32) + ((5 : Int32) * v1)).toNatClampNeg)), some (.int (m.1 305 (((7400 : Int32) + ((5 : Int32) * v1)) + (1 : Int32)).toNatClampNeg)), none, none], [.int (((7400 : Int32) + ((5 : Int32) * v1)) + (2 : Int32)), .ref 305], (SH, q3.2.1, q3.2.2)) from rfl) ?_
          obtain ⟨c1248, h⟩ := m_ite_n h
          refine m_R_1 (by decide) (m_opb_of (ins := .iaload) (len := 1) (tag := 0) (a := 0) (b := 0) (c := 0) (q := 0) (by decide +kernel)) (m_s_iald sh_305 (by decide) c1248) ?_
          refine m_R_sg (by decide) [(.bipush 100, 2, 0, 100, 0, 0, 0), (.iconst 2, 1, 0, 2, 0, 0, 0), (.aload_n 0, 1, 0, 0, 0, 0, 0), (.getfield 13, 3, 0, 12, 1, 3, 1493), (.bipush 10, 2, 0, 10, 0, 0, 0)] (by decide +kernel) (show m_sgl X _ _ _ _ _ = some (80, [some (.ref 304), some (.int v1), some (.int ((7400 : Int32) + ((5 : Int32) * v1))), some (.int (m.1 305 ((7400 : Int32) + ((5 : Int32) * v1)).toNatClampNeg)), some (.int (m.1 305 (((7400 : Int32) + ((5 : Int32) * v1)) + (1 : Int32)).toNatClampNeg)), none, none], [.int (10 : Int32), .ref 305, .int (2 : Int32), .int (100 : Int32), .int (q3.2.1 305 (((7400 : Int32) + ((5 : Int32) * v1)) + (2 : Int32)).toNatClampNeg)], (SH, q3.2.1, q3.2.2)) from rfl) ?_
          refine m_R_1 (by decide) (m_opb_of (ins := .iaload) (len := 1) (tag := 0) (a := 0) (b := 0) (c := 0) (q := 0) (by decide +kernel)) (m_s_iald sh_305 (by decide) (show ¬ ((10 : Int32) < 0 ∨ 9732 ≤ (10 : Int32).toNatClampNeg) by decide)) ?_
          refine m_R_sg (by decide) [(.imul, 1, 0, 0, 0, 0, 0), (.isub, 1, 0, 0, 0, 0, 0), (.imul, 1, 0, 0, 0, 0, 0), (.bipush 100, 2, 0, 100, 0, 0, 0)] (by decide +kernel) (show m_sgl X _ _ _ _ _ = some (86, [some (.ref 304), some (.int v1), some (.int ((7400 : Int32) + ((5 : Int32) * v1))), some (.int (m.1 305 ((7400 : Int32) + ((5 : Int32) * v1)).toNatClampNeg)), some (.int (m.1 305 (((7400 : Int32) + ((5 : Int32) * v1)) + (1 : Int32)).toNatClampNeg)), none, none], [.int (100 : Int32), .int ((q3.2.1 305 (((7400 : Int32) + ((5 : Int32) * v1)) + (2 : Int32)).toNatClampNeg) * ((100 : Int32) - ((2 : Int32) * (q3.2.1 305 (10 : Int32).toNatClampNeg))))], (SH, q3.2.1, q3.2.2)) from rfl) ?_
          refine m_R_1 (by decide) (m_opb_of (ins := .idiv) (len := 1) (tag := 0) (a := 0) (b := 0) (c := 0) (q := 0) (by decide +kernel)) (m_s_idiv (by decide)) ?_
          refine m_R_sg (by decide) [(.istore 5, 2, 0, 5, 0, 0, 0)] (by decide +kernel) (show m_sgl X _ _ _ _ _ = some (89, [some (.ref 304), some (.int v1), some (.int ((7400 : Int32) + ((5 : Int32) * v1))), some (.int (m.1 305 ((7400 : Int32) + ((5 : Int32) * v1)).toNatClampNeg)), some (.int (m.1 305 (((7400 : Int32) + ((5 : Int32) * v1)) + (1 : Int32)).toNatClampNeg)), some (.int (((q3.2.1 305 (((7400 : Int32) + ((5 : Int32) * v1)) + (2 : Int32)).toNatClampNeg) * ((100 : Int32) - ((2 : Int32) * (q3.2.1 305 (10 : Int32).toNatClampNeg)))) / (100 : Int32))), none], [], (SH, q3.2.1, q3.2.2)) from rfl) ?_
          exact ok_m_draws_89 X d F _ _ _ _ _ _ _ _ _ h
def f_m_nextName_50 (F : Nat)  (k10 : Int32 → Int32 → mM → Option (Int32 × mM)) (v1 : Int32) (v2 : Int32) (m : mM) : Option (Int32 × mM) := k10 v1 (v2 + (-1 : Int32)) m
theorem ok_m_nextName_50 (X : mX) (d F : Nat) (k10 : Int32 → Int32 → mM → Option (Int32 × mM)) (hk10 : ∀ (v1 : Int32) (v2 : Int32) (m : mM) (r : Int32) (m' : mM), k10 v1 v2 m = some (r, m') → m_R X (d + 1) 312 10 [some (.ref 304), some (.int v1), some (.int v2)] [] (SH, m) (some (.int r), (SH, m'))) : ∀ (v1 : Int32) (v2 : Int32)  (m : mM) (r : Int32) (m' : mM), f_m_nextName_50 F k10 v1 v2 m = some (r, m') → m_R X (d + 1) 312 50 [some (.ref 304), some (.int v1), some (.int v2)] [] (SH, m) (some (.int r), (SH, m')) := by
  intro v1 v2 m r m' h
  unfold f_m_nextName_50 at h
  refine m_R_sg (by decide) [(.iinc 2 (-1), 3, 0, 2, 1, 1, 0), (.goto (-43), 3, 0, 10, 0, 0, 0)] (by decide +kernel) (show m_sgl X _ _ _ _ _ = some (10, [some (.ref 304), some (.int v1), some (.int (v2 + (-1 : Int32)))], [], (SH, m.1, m.2)) from rfl) ?_
  exact hk10 _ _ _ _ _ h
def f_m_nextName_56 (F : Nat)   (v2 : Int32) (m : mM) : Option (Int32 × mM) := some (v2, m)
theorem ok_m_nextName_56 (X : mX) (d F : Nat) : ∀ (v2 : Int32) (w0 : Option Value) (w1 : Option Value) (m : mM) (r : Int32) (m' : mM), f_m_nextName_56 F v2 m = some (r, m') → m_R X (d + 1) 312 56 [w0, w1, some (.int v2)] [] (SH, m) (some (.int r), (SH, m')) := by
  intro v2 w0 w1 m r m' h
  unfold f_m_nextName_56 at h
  refine m_R_sg (by decide) [(.iload_n 2, 1, 0, 2, 0, 0, 0)] (by decide +kernel) (show m_sgl X _ _ _ _ _ = some (57, [w0, w1, some (.int v2)], [.int v2], (SH, m.1, m.2)) from rfl) ?_
  obtain ⟨rfl, rfl⟩ := m_some h
  exact m_R_iret (by decide) (m_opb_of (ins := .ireturn) (len := 1) (tag := 1) (a := 0) (b := 0) (c := 0) (q := 0) (by decide +kernel)) (Or.inl rfl)
def f_m_nextName_10 (F : Nat)   : Nat → Int32 → Int32 → mM → Option (Int32 × mM)
  | 0, _, _, _ => none
  | n + 1, v1, v2, m => (if v2 ≤ 0 then f_m_nextName_56 F v2 m else ((f_m_paper F v1 ((8 : Int32) + v2) m).bind fun q2 => ((f_m_paper F v1 (4 : Int32) q2.2).bind fun q3 => (if q2.1 = q3.1 then f_m_nextName_50 F (f_m_nextName_10 F n) v1 v2 q3.2 else ((f_m_paper F v1 ((8 : Int32) + v2) q3.2).bind fun q4 => ((f_m_paper F v1 (3 : Int32) q4.2).bind fun q5 => (if q4.1 = q5.1 then f_m_nextName_50 F (f_m_nextName_10 F n) v1 v2 q5.2 else f_m_nextName_56 F v2 q5.2)))))))
theorem ok_m_nextName_10 (X : mX) (d F : Nat) : ∀ (n : Nat) (v1 : Int32) (v2 : Int32)  (m : mM) (r : Int32) (m' : mM), f_m_nextName_10 F n v1 v2 m = some (r, m') → m_R X (d + 1) 312 10 [some (.ref 304), some (.int v1), some (.int v2)] [] (SH, m) (some (.int r), (SH, m')) := by
  intro n
  induction n with
  | zero => intro v1 v2 m r m' h; cases h
  | succ n ih =>
    intro v1 v2 m r m' h
    simp only [f_m_nextName_10] at h
    refine m_R_sg (by decide) [(.iload_n 2, 1, 0, 2, 0, 0, 0)] (by decide +kernel) (show m_sgl X _ _ _ _ _ = some (11, [some (.ref 304), some (.int v1), some (.int v2)], [.int v2], (SH, m.1, m.2)) from rfl) ?_
    rcases m_ite h with ⟨c1249, h⟩ | ⟨c1249, h⟩
    · refine m_R_1 (by decide) (m_opb_of (ins := .ifCond .le 45) (len := 3) (tag := 0) (a := 56) (b := 0) (c := 0) (q := 0) (by decide +kernel)) (if_pos c1249) ?_
      exact ok_m_nextName_56 X d F _ _ _ _ _ _ h
    · refine m_R_1 (by decide) (m_opb_of (ins := .ifCond .le 45) (len := 3) (tag := 0) (a := 56) (b := 0) (c := 0) (q := 0) (by decide +kernel)) (if_neg c1249) ?_
      refine m_R_sg (by decide) [(.aload_n 0, 1, 0, 0, 0, 0, 0), (.iload_n 1, 1, 0, 1, 0, 0, 0), (.bipush 8, 2, 0, 8, 0, 0, 0), (.iload_n 2, 1, 0, 2, 0, 0, 0), (.iadd, 1, 0, 0, 0, 0, 0)] (by decide +kernel) (show m_sgl X _ _ _ _ _ = some (20, [some (.ref 304), some (.int v1), some (.int v2)], [.int ((8 : Int32) + v2), .int v1, .ref 304], (SH, m.1, m.2)) from rfl) ?_
      obtain ⟨q2, hc2, h⟩ := Option.bind_eq_some_iff.mp h
      refine m_R_cV (v := (some (.int q2.1))) (h1 := (SH, q2.2)) (rest := []) (lo' := [some (.ref 304), some (.int v1), some (.int ((8 : Int32) + v2))]) (ml := 3) (k0 := 304) (by decide) (Or.inl rfl) (m_opb_of (ins := .invokevirtual 160) (len := 3) (tag := 5) (a := 246) (b := 2) (c := 0) (q := 1791) (by decide +kernel)) (by decide +kernel) rfl (show m_isO 246 304 (SH, _) = true from m_isO_of (by decide +kernel)) (Nat.le_of_ble_eq_true rfl) rfl rfl (ok_m_paper X (d + 0) F _ _ _ _ _ hc2) ?_
      refine m_R_sg (by decide) [(.aload_n 0, 1, 0, 0, 0, 0, 0), (.iload_n 1, 1, 0, 1, 0, 0, 0), (.iconst 4, 1, 0, 4, 0, 0, 0)] (by decide +kernel) (show m_sgl X _ _ _ _ _ = some (26, [some (.ref 304), some (.int v1), some (.int v2)], [.int (4 : Int32), .int v1, .ref 304, .int q2.1], (SH, q2.2.1, q2.2.2)) from rfl) ?_
      obtain ⟨q3, hc3, h⟩ := Option.bind_eq_some_iff.mp h
      refine m_R_cV (v := (some (.int q3.1))) (h1 := (SH, q3.2)) (rest := [.int q2.1]) (lo' := [some (.ref 304), some (.int v1), some (.int (4 : Int32))]) (ml := 3) (k0 := 304) (by decide) (Or.inl rfl) (m_opb_of (ins := .invokevirtual 160) (len := 3) (tag := 5) (a := 246) (b := 2) (c := 0) (q := 1791) (by decide +kernel)) (by decide +kernel) rfl (show m_isO 246 304 (SH, _) = true from m_isO_of (by decide +kernel)) (Nat.le_of_ble_eq_true rfl) rfl rfl (ok_m_paper X (d + 0) F _ _ _ _ _ hc3) ?_
      rcases m_ite h with ⟨c1250, h⟩ | ⟨c1250, h⟩
      · refine m_R_1 (by decide) (m_opb_of (ins := .if_icmp .eq 21) (len := 3) (tag := 0) (a := 50) (b := 0) (c := 0) (q := 0) (by decide +kernel)) (if_pos c1250) ?_
        exact ok_m_nextName_50 X d F _ (fun a0 a1 m r m' h => ih a0 a1 m r m' h) _ _ _ _ _ h
      · refine m_R_1 (by decide) (m_opb_of (ins := .if_icmp .eq 21) (len := 3) (tag := 0) (a := 50) (b := 0) (c := 0) (q := 0) (by decide +kernel)) (if_neg c1250) ?_
        refine m_R_sg (by decide) [(.aload_n 0, 1, 0, 0, 0, 0, 0), (.iload_n 1, 1, 0, 1, 0, 0, 0), (.bipush 8, 2, 0, 8, 0, 0, 0), (.iload_n 2, 1, 0, 2, 0, 0, 0), (.iadd, 1, 0, 0, 0, 0, 0)] (by decide +kernel) (show m_sgl X _ _ _ _ _ = some (38, [some (.ref 304), some (.int v1), some (.int v2)], [.int ((8 : Int32) + v2), .int v1, .ref 304], (SH, q3.2.1, q3.2.2)) from rfl) ?_
        obtain ⟨q4, hc4, h⟩ := Option.bind_eq_some_iff.mp h
        refine m_R_cV (v := (some (.int q4.1))) (h1 := (SH, q4.2)) (rest := []) (lo' := [some (.ref 304), some (.int v1), some (.int ((8 : Int32) + v2))]) (ml := 3) (k0 := 304) (by decide) (Or.inl rfl) (m_opb_of (ins := .invokevirtual 160) (len := 3) (tag := 5) (a := 246) (b := 2) (c := 0) (q := 1791) (by decide +kernel)) (by decide +kernel) rfl (show m_isO 246 304 (SH, _) = true from m_isO_of (by decide +kernel)) (Nat.le_of_ble_eq_true rfl) rfl rfl (ok_m_paper X (d + 0) F _ _ _ _ _ hc4) ?_
        refine m_R_sg (by decide) [(.aload_n 0, 1, 0, 0, 0, 0, 0), (.iload_n 1, 1, 0, 1, 0, 0, 0), (.iconst 3, 1, 0, 3, 0, 0, 0)] (by decide +kernel) (show m_sgl X _ _ _ _ _ = some (44, [some (.ref 304), some (.int v1), some (.int v2)], [.int (3 : Int32), .int v1, .ref 304, .int q4.1], (SH, q4.2.1, q4.2.2)) from rfl) ?_
        obtain ⟨q5, hc5, h⟩ := Option.bind_eq_some_iff.mp h
        refine m_R_cV (v := (some (.int q5.1))) (h1 := (SH, q5.2)) (rest := [.int q4.1]) (lo' := [some (.ref 304), some (.int v1), some (.int (3 : Int32))]) (ml := 3) (k0 := 304) (by decide) (Or.inl rfl) (m_opb_of (ins := .invokevirtual 160) (len := 3) (tag := 5) (a := 246) (b := 2) (c := 0) (q := 1791) (by decide +kernel)) (by decide +kernel) rfl (show m_isO 246 304 (SH, _) = true from m_isO_of (by decide +kernel)) (Nat.le_of_ble_eq_true rfl) rfl rfl (ok_m_paper X (d + 0) F _ _ _ _ _ hc5) ?_
        rcases m_ite h with ⟨c1251, h⟩ | ⟨c1251, h⟩
        · refine m_R_1 (by decide) (m_opb_of (ins := .if_icmp .ne 9) (len := 3) (tag := 0) (a := 56) (b := 0) (c := 0) (q := 0) (by decide +kernel)) (if_pos c1251) ?_
          exact ok_m_nextName_50 X d F _ (fun a0 a1 m r m' h => ih a0 a1 m r m' h) _ _ _ _ _ h
        · refine m_R_1 (by decide) (m_opb_of (ins := .if_icmp .ne 9) (len := 3) (tag := 0) (a := 56) (b := 0) (c := 0) (q := 0) (by decide +kernel)) (if_neg c1251) ?_
          exact ok_m_nextName_56 X d F _ _ _ _ _ _ h
def f_m_nextName (F : Nat)   (v1 : Int32) (m : mM) : Option (Int32 × mM) := ((f_m_paper F v1 (7 : Int32) m).bind fun q1 => f_m_nextName_10 F F v1 (q1.1 - (1 : Int32)) q1.2)
theorem ok_m_nextName (X : mX) (d F : Nat) : ∀ (v1 : Int32)  (m : mM) (r : Int32) (m' : mM), f_m_nextName F v1 m = some (r, m') → m_R X (d + 1) 312 0 [some (.ref 304), some (.int v1), none] [] (SH, m) (some (.int r), (SH, m')) := by
  intro v1 m r m' h
  unfold f_m_nextName at h
  refine m_R_sg (by decide) [(.aload_n 0, 1, 0, 0, 0, 0, 0), (.iload_n 1, 1, 0, 1, 0, 0, 0), (.bipush 7, 2, 0, 7, 0, 0, 0)] (by decide +kernel) (show m_sgl X _ _ _ _ _ = some (4, [some (.ref 304), some (.int v1), none], [.int (7 : Int32), .int v1, .ref 304], (SH, m.1, m.2)) from rfl) ?_
  obtain ⟨q1, hc1, h⟩ := Option.bind_eq_some_iff.mp h
  refine m_R_cV (v := (some (.int q1.1))) (h1 := (SH, q1.2)) (rest := []) (lo' := [some (.ref 304), some (.int v1), some (.int (7 : Int32))]) (ml := 3) (k0 := 304) (by decide) (Or.inl rfl) (m_opb_of (ins := .invokevirtual 160) (len := 3) (tag := 5) (a := 246) (b := 2) (c := 0) (q := 1791) (by decide +kernel)) (by decide +kernel) rfl (show m_isO 246 304 (SH, _) = true from m_isO_of (by decide +kernel)) (Nat.le_of_ble_eq_true rfl) rfl rfl (ok_m_paper X (d + 0) F _ _ _ _ _ hc1) ?_
  refine m_R_sg (by decide) [(.iconst 1, 1, 0, 1, 0, 0, 0), (.isub, 1, 0, 0, 0, 0, 0), (.istore_n 2, 1, 0, 2, 0, 0, 0)] (by decide +kernel) (show m_sgl X _ _ _ _ _ = some (10, [some (.ref 304), some (.int v1), some (.int (q1.1 - (1 : Int32)))], [], (SH, q1.2.1, q1.2.2)) from rfl) ?_
  exact ok_m_nextName_10 X d F F _ _ _ _ _ h
def f_m_asksNext_117 (F : Nat)   (s1 : Int32) (s2 : Int32) (s3 : Int32) (m : mM) : Option (Unit × mM) := (if s1 < 0 ∨ 9732 ≤ s1.toNatClampNeg then none else some ((), ((m_up m.1 305 s1.toNatClampNeg (s2 + s3)), m.2)))
theorem ok_m_asksNext_117 (X : mX) (d F : Nat) : ∀ (s1 : Int32) (s2 : Int32) (s3 : Int32) (w0 : Option Value) (w1 : Option Value) (w2 : Option Value) (w3 : Option Value) (m : mM) (r : Unit) (m' : mM), f_m_asksNext_117 F s1 s2 s3 m = some (r, m') → m_R X (d + 2) 311 117 [w0, w1, w2, w3] [.int s3, .int s2, .int s1, .ref 305] (SH, m) (none, (SH, m')) := by
  intro s1 s2 s3 w0 w1 w2 w3 m r m' h
  unfold f_m_asksNext_117 at h
  refine m_R_sg (by decide) [(.iadd, 1, 0, 0, 0, 0, 0)] (by decide +kernel) (show m_sgl X _ _ _ _ _ = some (118, [w0, w1, w2, w3], [.int (s2 + s3), .int s1, .ref 305], (SH, m.1, m.2)) from rfl) ?_
  obtain ⟨c1252, h⟩ := m_ite_n h
  refine m_R_1 (by decide) (m_opb_of (ins := .iastore) (len := 1) (tag := 0) (a := 0) (b := 0) (c := 0) (q := 0) (by decide +kernel)) (m_s_iast sh_305 c1252) ?_
  obtain ⟨rfl, rfl⟩ := m_some h
  exact m_R_vret (by decide) (m_opb_of (ins := .return_) (len := 1) (tag := 3) (a := 0) (b := 0) (c := 0) (q := 0) (by decide +kernel))
def f_m_asksNext (F : Nat)   (v1 : Int32) (m : mM) : Option (Unit × mM) := ((f_m_nextName F v1 m).bind fun q1 => (if q1.1 = 0 then (if (((6200 : Int32) + ((20 : Int32) * v1)) + (6 : Int32)) < 0 ∨ 9732 ≤ (((6200 : Int32) + ((20 : Int32) * v1)) + (6 : Int32)).toNatClampNeg then none else (if (((6200 : Int32) + ((20 : Int32) * v1)) + (17 : Int32)) < 0 ∨ 9732 ≤ (((6200 : Int32) + ((20 : Int32) * v1)) + (17 : Int32)).toNatClampNeg then none else some ((), ((m_up (m_up q1.2.1 305 (((6200 : Int32) + ((20 : Int32) * v1)) + (6 : Int32)).toNatClampNeg (2 : Int32)) 305 (((6200 : Int32) + ((20 : Int32) * v1)) + (17 : Int32)).toNatClampNeg (-1 : Int32)), q1.2.2)))) else ((f_m_paper F v1 ((8 : Int32) + q1.1) q1.2).bind fun q2 => ((f_m_hs F q2.1 (1 : Int32) q2.2).bind fun q3 => ((f_m_paper F v1 (4 : Int32) q3.2).bind fun q4 => ((f_m_hs F q4.1 (1 : Int32) q4.2).bind fun q5 => ((f_m_farOf F q3.1 q5.1 q5.2).bind fun q6 => (if q6.1 < (999999 : Int32) then (if (1 : Int32) ≤ q6.1 then f_m_asksNext_117 F (((6200 : Int32) + ((20 : Int32) * v1)) + (17 : Int32)) (q6.2.1 305 (0 : Int32).toNatClampNeg) q6.1 q6.2 else f_m_asksNext_117 F (((6200 : Int32) + ((20 : Int32) * v1)) + (17 : Int32)) (q6.2.1 305 (0 : Int32).toNatClampNeg) (1 : Int32) q6.2) else f_m_asksNext_117 F (((6200 : Int32) + ((20 : Int32) * v1)) + (17 : Int32)) (q6.2.1 305 (0 : Int32).toNatClampNeg) (30 : Int32) q6.2))))))))
theorem ok_m_asksNext (X : mX) (d F : Nat) : ∀ (v1 : Int32)  (m : mM) (r : Unit) (m' : mM), f_m_asksNext F v1 m = some (r, m') → m_R X (d + 2) 311 0 [some (.ref 304), some (.int v1), none, none] [] (SH, m) (none, (SH, m')) := by
  intro v1 m r m' h
  unfold f_m_asksNext at h
  refine m_R_sg (by decide) [(.aload_n 0, 1, 0, 0, 0, 0, 0), (.iload_n 1, 1, 0, 1, 0, 0, 0)] (by decide +kernel) (show m_sgl X _ _ _ _ _ = some (2, [some (.ref 304), some (.int v1), none, none], [.int v1, .ref 304], (SH, m.1, m.2)) from rfl) ?_
  obtain ⟨q1, hc1, h⟩ := Option.bind_eq_some_iff.mp h
  refine m_R_cV (v := (some (.int q1.1))) (h1 := (SH, q1.2)) (rest := []) (lo' := [some (.ref 304), some (.int v1), none]) (ml := 3) (k0 := 304) (by decide) (Or.inl rfl) (m_opb_of (ins := .invokevirtual 196) (len := 3) (tag := 5) (a := 312) (b := 1) (c := 0) (q := 2065) (by decide +kernel)) (by decide +kernel) rfl (show m_isO 312 304 (SH, _) = true from m_isO_of (by decide +kernel)) (Nat.le_of_ble_eq_true rfl) rfl rfl (ok_m_nextName X (d + 0) F _ _ _ _ hc1) ?_
  refine m_R_sg (by decide) [(.istore_n 2, 1, 0, 2, 0, 0, 0), (.iload_n 2, 1, 0, 2, 0, 0, 0)] (by decide +kernel) (show m_sgl X _ _ _ _ _ = some (7, [some (.ref 304), some (.int v1), some (.int q1.1), none], [.int q1.1], (SH, q1.2.1, q1.2.2)) from rfl) ?_
  rcases m_ite h with ⟨c1253, h⟩ | ⟨c1253, h⟩
  · refine m_R_1 (by decide) (m_opb_of (ins := .ifCond .ne 38) (len := 3) (tag := 0) (a := 45) (b := 0) (c := 0) (q := 0) (by decide +kernel)) (if_pos c1253) ?_
    refine m_R_sg (by decide) [(.aload_n 0, 1, 0, 0, 0, 0, 0), (.getfield 13, 3, 0, 12, 1, 3, 1493), (.sipush 6200, 3, 0, 6200, 0, 0, 0), (.bipush 20, 2, 0, 20, 0, 0, 0), (.iload_n 1, 1, 0, 1, 0, 0, 0), (.imul, 1, 0, 0, 0, 0, 0), (.iadd, 1, 0, 0, 0, 0, 0), (.bipush 6, 2, 0, 6, 0, 0, 0), (.iadd, 1, 0, 0, 0, 0, 0), (.iconst 2, 1, 0, 2, 0, 0, 0)] (by decide +kernel) (show m_sgl X _ _ _ _ _ = some (26, [some (.ref 304), some (.int v1), some (.int q1.1), none], [.int (2 : Int32), .int (((6200 : Int32) + ((20 : Int32) * v1)) + (6 : Int32)), .ref 305], (SH, q1.2.1, q1.2.2)) from rfl) ?_
    obtain ⟨c1254, h⟩ := m_ite_n h
    refine m_R_1 (by decide) (m_opb_of (ins := .iastore) (len := 1) (tag := 0) (a := 0) (b := 0) (c := 0) (q := 0) (by decide +kernel)) (m_s_iast sh_305 c1254) ?_
    refine m_R_sg (by decide) [(.aload_n 0, 1, 0, 0, 0, 0, 0), (.getfield 13, 3, 0, 12, 1, 3, 1493), (.sipush 6200, 3, 0, 6200, 0, 0, 0), (.bipush 20, 2, 0, 20, 0, 0, 0), (.iload_n 1, 1, 0, 1, 0, 0, 0), (.imul, 1, 0, 0, 0, 0, 0), (.iadd, 1, 0, 0, 0, 0, 0), (.bipush 17, 2, 0, 17, 0, 0, 0), (.iadd, 1, 0, 0, 0, 0, 0), (.iconst (-1), 1, 0, 1, 1, 0, 0)] (by decide +kernel) (show m_sgl X _ _ _ _ _ = some (43, [some (.ref 304), some (.int v1), some (.int q1.1), none], [.int (-1 : Int32), .int (((6200 : Int32) + ((20 : Int32) * v1)) + (17 : Int32)), .ref 305], (SH, (m_up q1.2.1 305 (((6200 : Int32) + ((20 : Int32) * v1)) + (6 : Int32)).toNatClampNeg (2 : Int32)), q1.2.2)) from rfl) ?_
    obtain ⟨c1255, h⟩ := m_ite_n h
    refine m_R_1 (by decide) (m_opb_of (ins := .iastore) (len := 1) (tag := 0) (a := 0) (b := 0) (c := 0) (q := 0) (by decide +kernel)) (m_s_iast sh_305 c1255) ?_
    obtain ⟨rfl, rfl⟩ := m_some h
    exact m_R_vret (by decide) (m_opb_of (ins := .return_) (len := 1) (tag := 3) (a := 0) (b := 0) (c := 0) (q := 0) (by decide +kernel))
  · refine m_R_1 (by decide) (m_opb_of (ins := .ifCond .ne 38) (len := 3) (tag := 0) (a := 45) (b := 0) (c := 0) (q := 0) (by decide +kernel)) (if_neg c1253) ?_
    refine m_R_sg (by decide) [(.aload_n 0, 1, 0, 0, 0, 0, 0), (.aload_n 0, 1, 0, 0, 0, 0, 0), (.aload_n 0, 1, 0, 0, 0, 0, 0), (.iload_n 1, 1, 0, 1, 0, 0, 0), (.bipush 8, 2, 0, 8, 0, 0, 0), (.iload_n 2, 1, 0, 2, 0, 0, 0), (.iadd, 1, 0, 0, 0, 0, 0)] (by decide +kernel) (show m_sgl X _ _ _ _ _ = some (53, [some (.ref 304), some (.int v1), some (.int q1.1), none], [.int ((8 : Int32) + q1.1), .int v1, .ref 304, .ref 304, .ref 304], (SH, q1.2.1, q1.2.2)) from rfl) ?_
    obtain ⟨q2, hc2, h⟩ := Option.bind_eq_some_iff.mp h
    refine m_R_cV (v := (some (.int q2.1))) (h1 := (SH, q2.2)) (rest := [.ref 304, .ref 304]) (lo' := [some (.ref 304), some (.int v1), some (.int ((8 : Int32) + q1.1))]) (ml := 3) (k0 := 304) (by decide) (Or.inl rfl) (m_opb_of (ins := .invokevirtual 160) (len := 3) (tag := 5) (a := 246) (b := 2) (c := 0) (q := 1791) (by decide +kernel)) (by decide +kernel) rfl (show m_isO 246 304 (SH, _) = true from m_isO_of (by decide +kernel)) (Nat.le_of_ble_eq_true rfl) rfl rfl (ok_m_paper X (d + 1) F _ _ _ _ _ hc2) ?_
    refine m_R_sg (by decide) [(.iconst 1, 1, 0, 1, 0, 0, 0)] (by decide +kernel) (show m_sgl X _ _ _ _ _ = some (57, [some (.ref 304), some (.int v1), some (.int q1.1), none], [.int (1 : Int32), .int q2.1, .ref 304, .ref 304], (SH, q2.2.1, q2.2.2)) from rfl) ?_
    obtain ⟨q3, hc3, h⟩ := Option.bind_eq_some_iff.mp h
    refine m_R_cV (v := (some (.int q3.1))) (h1 := (SH, q3.2)) (rest := [.ref 304]) (lo' := [some (.ref 304), some (.int q2.1), some (.int (1 : Int32))]) (ml := 3) (k0 := 304) (by decide) (Or.inl rfl) (m_opb_of (ins := .invokevirtual 65) (len := 3) (tag := 5) (a := 212) (b := 2) (c := 0) (q := 1633) (by decide +kernel)) (by decide +kernel) rfl (show m_isO 212 304 (SH, _) = true from m_isO_of (by decide +kernel)) (Nat.le_of_ble_eq_true rfl) rfl rfl (ok_m_hs X (d + 1) F _ _ _ _ _ hc3) ?_
    refine m_R_sg (by decide) [(.aload_n 0, 1, 0, 0, 0, 0, 0), (.aload_n 0, 1, 0, 0, 0, 0, 0), (.iload_n 1, 1, 0, 1, 0, 0, 0), (.iconst 4, 1, 0, 4, 0, 0, 0)] (by decide +kernel) (show m_sgl X _ _ _ _ _ = some (64, [some (.ref 304), some (.int v1), some (.int q1.1), none], [.int (4 : Int32), .int v1, .ref 304, .ref 304, .int q3.1, .ref 304], (SH, q3.2.1, q3.2.2)) from rfl) ?_
    obtain ⟨q4, hc4, h⟩ := Option.bind_eq_some_iff.mp h
    refine m_R_cV (v := (some (.int q4.1))) (h1 := (SH, q4.2)) (rest := [.ref 304, .int q3.1, .ref 304]) (lo' := [some (.ref 304), some (.int v1), some (.int (4 : Int32))]) (ml := 3) (k0 := 304) (by decide) (Or.inl rfl) (m_opb_of (ins := .invokevirtual 160) (len := 3) (tag := 5) (a := 246) (b := 2) (c := 0) (q := 1791) (by decide +kernel)) (by decide +kernel) rfl (show m_isO 246 304 (SH, _) = true from m_isO_of (by decide +kernel)) (Nat.le_of_ble_eq_true rfl) rfl rfl (ok_m_paper X (d + 1) F _ _ _ _ _ hc4) ?_
    refine m_R_sg (by decide) [(.iconst 1, 1, 0, 1, 0, 0, 0)] (by decide +kernel) (show m_sgl X _ _ _ _ _ = some (68, [some (.ref 304), some (.int v1), some (.int q1.1), none], [.int (1 : Int32), .int q4.1, .ref 304, .int q3.1, .ref 304], (SH, q4.2.1, q4.2.2)) from rfl) ?_
    obtain ⟨q5, hc5, h⟩ := Option.bind_eq_some_iff.mp h
    refine m_R_cV (v := (some (.int q5.1))) (h1 := (SH, q5.2)) (rest := [.int q3.1, .ref 304]) (lo' := [some (.ref 304), some (.int q4.1), some (.int (1 : Int32))]) (ml := 3) (k0 := 304) (by decide) (Or.inl rfl) (m_opb_of (ins := .invokevirtual 65) (len := 3) (tag := 5) (a := 212) (b := 2) (c := 0) (q := 1633) (by decide +kernel)) (by decide +kernel) rfl (show m_isO 212 304 (SH, _) = true from m_isO_of (by decide +kernel)) (Nat.le_of_ble_eq_true rfl) rfl rfl (ok_m_hs X (d + 1) F _ _ _ _ _ hc5) ?_
    obtain ⟨q6, hc6, h⟩ := Option.bind_eq_some_iff.mp h
    refine m_R_cV (v := (some (.int q6.1))) (h1 := (SH, q6.2)) (rest := []) (lo' := [some (.ref 304), some (.int q3.1), some (.int q5.1)]) (ml := 3) (k0 := 304) (by decide) (Or.inl rfl) (m_opb_of (ins := .invokevirtual 74) (len := 3) (tag := 5) (a := 207) (b := 2) (c := 0) (q := 1613) (by decide +kernel)) (by decide +kernel) rfl (show m_isO 207 304 (SH, _) = true from m_isO_of (by decide +kernel)) (Nat.le_of_ble_eq_true rfl) rfl rfl (ok_m_farOf X (d + 1) F _ _ _ _ _ hc6) ?_
    refine m_R_sg (by decide) [(.istore_n 3, 1, 0, 3, 0, 0, 0), (.aload_n 0, 1, 0, 0, 0, 0, 0), (.getfield 13, 3, 0, 12, 1, 3, 1493), (.sipush 6200, 3, 0, 6200, 0, 0, 0), (.bipush 20, 2, 0, 20, 0, 0, 0), (.iload_n 1, 1, 0, 1, 0, 0, 0), (.imul, 1, 0, 0, 0, 0, 0), (.iadd, 1, 0, 0, 0, 0, 0), (.bipush 17, 2, 0, 17, 0, 0, 0), (.iadd, 1, 0, 0, 0, 0, 0), (.aload_n 0, 1, 0, 0, 0, 0, 0), (.getfield 13, 3, 0, 12, 1, 3, 1493), (.iconst 0, 1, 0, 0, 0, 0, 0)] (by decide +kernel) (show m_sgl X _ _ _ _ _ = some (95, [some (.ref 304), some (.int v1), some (.int q1.1), some (.int q6.1)], [.int (0 : Int32), .ref 305, .int (((6200 : Int32) + ((20 : Int32) * v1)) + (17 : Int32)), .ref 305], (SH, q6.2.1, q6.2.2)) from rfl) ?_
    refine m_R_1 (by decide) (m_opb_of (ins := .iaload) (len := 1) (tag := 0) (a := 0) (b := 0) (c := 0) (q := 0) (by decide +kernel)) (m_s_iald sh_305 (by decide) (show ¬ ((0 : Int32) < 0 ∨ 9732 ≤ (0 : Int32).toNatClampNeg) by decide)) ?_
    refine m_R_sg (by decide) [(.iload_n 3, 1, 0, 3, 0, 0, 0), (.ldc 69, 2, 0, 999999, 0, 0, 1492)] (by decide +kernel) (show m_sgl X _ _ _ _ _ = some (99, [some (.ref 304), some (.int v1), some (.int q1.1), some (.int q6.1)], [.int (999999 : Int32), .int q6.1, .int (q6.2.1 305 (0 : Int32).toNatClampNeg), .int (((6200 : Int32) + ((20 : Int32) * v1)) + (17 : Int32)), .ref 305], (SH, q6.2.1, q6.2.2)) from rfl) ?_
    rcases m_ite h with ⟨c1256, h⟩ | ⟨c1256, h⟩
    · refine m_R_1 (by decide) (m_opb_of (ins := .if_icmp .lt 8) (len := 3) (tag := 0) (a := 107) (b := 0) (c := 0) (q := 0) (by decide +kernel)) (if_pos c1256) ?_
      refine m_R_sg (by decide) [(.iload_n 3, 1, 0, 3, 0, 0, 0), (.iconst 1, 1, 0, 1, 0, 0, 0)] (by decide +kernel) (show m_sgl X _ _ _ _ _ = some (109, [some (.ref 304), some (.int v1), some (.int q1.1), some (.int q6.1)], [.int (1 : Int32), .int q6.1, .int (q6.2.1 305 (0 : Int32).toNatClampNeg), .int (((6200 : Int32) + ((20 : Int32) * v1)) + (17 : Int32)), .ref 305], (SH, q6.2.1, q6.2.2)) from rfl) ?_
      rcases m_ite h with ⟨c1257, h⟩ | ⟨c1257, h⟩
      · refine m_R_1 (by decide) (m_opb_of (ins := .if_icmp .ge 7) (len := 3) (tag := 0) (a := 116) (b := 0) (c := 0) (q := 0) (by decide +kernel)) (if_pos c1257) ?_
        refine m_R_sg (by decide) [(.iload_n 3, 1, 0, 3, 0, 0, 0)] (by decide +kernel) (show m_sgl X _ _ _ _ _ = some (117, [some (.ref 304), some (.int v1), some (.int q1.1), some (.int q6.1)], [.int q6.1, .int (q6.2.1 305 (0 : Int32).toNatClampNeg), .int (((6200 : Int32) + ((20 : Int32) * v1)) + (17 : Int32)), .ref 305], (SH, q6.2.1, q6.2.2)) from rfl) ?_
        exact ok_m_asksNext_117 X d F _ _ _ _ _ _ _ _ _ _ h
      · refine m_R_1 (by decide) (m_opb_of (ins := .if_icmp .ge 7) (len := 3) (tag := 0) (a := 116) (b := 0) (c := 0) (q := 0) (by decide +kernel)) (if_neg c1257) ?_
        refine m_R_sg (by decide) [(.iconst 1, 1, 0, 1, 0, 0, 0), (.goto 4, 3, 0, 117, 0, 0, 0)] (by decide +kernel) (show m_sgl X _ _ _ _ _ = some (117, [some (.ref 304), some (.int v1), some (.int q1.1), some (.int q6.1)], [.int (1 : Int32), .int (q6.2.1 305 (0 : Int32).toNatClampNeg), .int (((6200 : Int32) + ((20 : Int32) * v1)) + (17 : Int32)), .ref 305], (SH, q6.2.1, q6.2.2)) from rfl) ?_
        exact ok_m_asksNext_117 X d F _ _ _ _ _ _ _ _ _ _ h
    · refine m_R_1 (by decide) (m_opb_of (ins := .if_icmp .lt 8) (len := 3) (tag := 0) (a := 107) (b := 0) (c := 0) (q := 0) (by decide +kernel)) (if_neg c1256) ?_
      refine m_R_sg (by decide) [(.bipush 30, 2, 0, 30, 0, 0, 0), (.goto 13, 3, 0, 117, 0, 0, 0)] (by decide +kernel) (show m_sgl X _ _ _ _ _ = some (117, [some (.ref 304), some (.int v1), some (.int q1.1), some (.int q6.1)], [.int (30 : Int32), .int (q6.2.1 305 (0 : Int32).toNatClampNeg), .int (((6200 : Int32) + ((20 : Int32) * v1)) + (17 : Int32)), .ref 305], (SH, q6.2.1, q6.2.2)) from rfl) ?_
      exact ok_m_asksNext_117 X d F _ _ _ _ _ _ _ _ _ _ h
def f_m_protests_91 (F : Nat)   (v1 : Int32) (s1 : Int32) (s2 : Int32) (m : mM) : Option (Unit × mM) := (if s1 < 0 ∨ 9732 ≤ s1.toNatClampNeg then none else ((f_m_asksNext F v1 ((m_up m.1 305 s1.toNatClampNeg s2), m.2)).bind fun q6 => some ((), q6.2)))
theorem ok_m_protests_91 (X : mX) (d F : Nat) : ∀ (v1 : Int32) (s1 : Int32) (s2 : Int32) (w2 : Option Value) (m : mM) (r : Unit) (m' : mM), f_m_protests_91 F v1 s1 s2 m = some (r, m') → m_R X (d + 3) 310 91 [some (.ref 304), some (.int v1), w2] [.int s2, .int s1, .ref 305] (SH, m) (none, (SH, m')) := by
  intro v1 s1 s2 w2 m r m' h
  unfold f_m_protests_91 at h
  obtain ⟨c1258, h⟩ := m_ite_n h
  refine m_R_1 (by decide) (m_opb_of (ins := .iastore) (len := 1) (tag := 0) (a := 0) (b := 0) (c := 0) (q := 0) (by decide +kernel)) (m_s_iast sh_305 c1258) ?_
  refine m_R_sg (by decide) [(.aload_n 0, 1, 0, 0, 0, 0, 0), (.iload_n 1, 1, 0, 1, 0, 0, 0)] (by decide +kernel) (show m_sgl X _ _ _ _ _ = some (94, [some (.ref 304), some (.int v1), w2], [.int v1, .ref 304], (SH, (m_up m.1 305 s1.toNatClampNeg s2), m.2)) from rfl) ?_
  obtain ⟨q6, hc6, h⟩ := Option.bind_eq_some_iff.mp h
  refine m_R_cV (v := none) (h1 := (SH, q6.2)) (rest := []) (lo' := [some (.ref 304), some (.int v1), none, none]) (ml := 4) (k0 := 304) (by decide) (Or.inl rfl) (m_opb_of (ins := .invokevirtual 199) (len := 3) (tag := 5) (a := 311) (b := 1) (c := 0) (q := 2061) (by decide +kernel)) (by decide +kernel) rfl (show m_isO 311 304 (SH, _) = true from m_isO_of (by decide +kernel)) (Nat.le_of_ble_eq_true rfl) rfl rfl (ok_m_asksNext X (d + 0) F _ _ _ _ hc6) ?_
  obtain ⟨rfl, rfl⟩ := m_some h
  exact m_R_vret (by decide) (m_opb_of (ins := .return_) (len := 1) (tag := 3) (a := 0) (b := 0) (c := 0) (q := 0) (by decide +kernel))
def f_m_protests_54 (F : Nat)   (v1 : Int32) (v2 : Int32) (m : mM) : Option (Unit × mM) := ((f_m_paper F v1 (7 : Int32) m).bind fun q4 => (if q4.1 ≤ v2 then ((f_m_paper F v1 (7 : Int32) q4.2).bind fun q5 => f_m_protests_91 F v1 (((6200 : Int32) + ((20 : Int32) * v1)) + (7 : Int32)) q5.1 q5.2) else f_m_protests_91 F v1 (((6200 : Int32) + ((20 : Int32) * v1)) + (7 : Int32)) v2 q4.2))
theorem ok_m_protests_54 (X : mX) (d F : Nat) : ∀ (v1 : Int32) (v2 : Int32)  (m : mM) (r : Unit) (m' : mM), f_m_protests_54 F v1 v2 m = some (r, m') → m_R X (d + 3) 310 54 [some (.ref 304), some (.int v1), some (.int v2)] [] (SH, m) (none, (SH, m')) := by
  intro v1 v2 m r m' h
  unfold f_m_protests_54 at h
  refine m_R_sg (by decide) [(.aload_n 0, 1, 0, 0, 0, 0, 0), (.getfield 13, 3, 0, 12, 1, 3, 1493), (.sipush 6200, 3, 0, 6200, 0, 0, 0), (.bipush 20, 2, 0, 20, 0, 0, 0), (.iload_n 1, 1, 0, 1, 0, 0, 0), (.imul, 1, 0, 0, 0, 0, 0), (.iadd, 1, 0, 0, 0, 0, 0), (.bipush 7, 2, 0, 7, 0, 0, 0), (.iadd, 1, 0, 0, 0, 0, 0), (.iload_n 2, 1, 0, 2, 0, 0, 0), (.aload_n 0, 1, 0, 0, 0, 0, 0), (.iload_n 1, 1, 0, 1, 0, 0, 0), (.bipush 7, 2, 0, 7, 0, 0, 0)] (by decide +kernel) (show m_sgl X _ _ _ _ _ = some (74, [some (.ref 304), some (.int v1), some (.int v2)], [.int (7 : Int32), .int v1, .ref 304, .int v2, .int (((6200 : Int32) + ((20 : Int32) * v1)) + (7 : Int32)), .ref 305], (SH, m.1, m.2)) from rfl) ?_
  obtain ⟨q4, hc4, h⟩ := Option.bind_eq_some_iff.mp h
  refine m_R_cV (v := (some (.int q4.1))) (h1 := (SH, q4.2)) (rest := [.int v2, .int (((6200 : Int32) + ((20 : Int32) * v1)) + (7 : Int32)), .ref 305]) (lo' := [some (.ref 304), some (.int v1), some (.int (7 : Int32))]) (ml := 3) (k0 := 304) (by decide) (Or.inl rfl) (m_opb_of (ins := .invokevirtual 160) (len := 3) (tag := 5) (a := 246) (b := 2) (c := 0) (q := 1791) (by decide +kernel)) (by decide +kernel) rfl (show m_isO 246 304 (SH, _) = true from m_isO_of (by decide +kernel)) (Nat.le_of_ble_eq_true rfl) rfl rfl (ok_m_paper X (d + 2) F _ _ _ _ _ hc4) ?_
  rcases m_ite h with ⟨c1259, h⟩ | ⟨c1259, h⟩
  · refine m_R_1 (by decide) (m_opb_of (ins := .if_icmp .ge 7) (len := 3) (tag := 0) (a := 84) (b := 0) (c := 0) (q := 0) (by decide +kernel)) (if_pos c1259) ?_
    refine m_R_sg (by decide) [(.aload_n 0, 1, 0, 0, 0, 0, 0), (.iload_n 1, 1, 0, 1, 0, 0, 0), (.bipush 7, 2, 0, 7, 0, 0, 0)] (by decide +kernel) (show m_sgl X _ _ _ _ _ = some (88, [some (.ref 304), some (.int v1), some (.int v2)], [.int (7 : Int32), .int v1, .ref 304, .int (((6200 : Int32) + ((20 : Int32) * v1)) + (7 : Int32)), .ref 305], (SH, q4.2.1, q4.2.2)) from rfl) ?_
    obtain ⟨q5, hc5, h⟩ := Option.bind_eq_some_iff.mp h
    refine m_R_cV (v := (some (.int q5.1))) (h1 := (SH, q5.2)) (rest := [.int (((6200 : Int32) + ((20 : Int32) * v1)) + (7 : Int32)), .ref 305]) (lo' := [some (.ref 304), some (.int v1), some (.int (7 : Int32))]) (ml := 3) (k0 := 304) (by decide) (Or.inl rfl) (m_opb_of (ins := .invokevirtual 160) (len := 3) (tag := 5) (a := 246) (b := 2) (c := 0) (q := 1791) (by decide +kernel)) (by decide +kernel) rfl (show m_isO 246 304 (SH, _) = true from m_isO_of (by decide +kernel)) (Nat.le_of_ble_eq_true rfl) rfl rfl (ok_m_paper X (d + 2) F _ _ _ _ _ hc5) ?_
    exact ok_m_protests_91 X d F _ _ _ _ _ _ _ h
  · refine m_R_1 (by decide) (m_opb_of (ins := .if_icmp .ge 7) (len := 3) (tag := 0) (a := 84) (b := 0) (c := 0) (q := 0) (by decide +kernel)) (if_neg c1259) ?_
    refine m_R_sg (by decide) [(.iload_n 2, 1, 0, 2, 0, 0, 0), (.goto 10, 3, 0, 91, 0, 0, 0)] (by decide +kernel) (show m_sgl X _ _ _ _ _ = some (91, [some (.ref 304), some (.int v1), some (.int v2)], [.int v2, .int (((6200 : Int32) + ((20 : Int32) * v1)) + (7 : Int32)), .ref 305], (SH, q4.2.1, q4.2.2)) from rfl) ?_
    exact ok_m_protests_91 X d F _ _ _ _ _ _ _ h
def f_m_protests_19 (F : Nat)   : Nat → Int32 → Int32 → mM → Option (Unit × mM)
  | 0, _, _, _ => none
  | n + 1, v1, v2, m => ((f_m_paper F v1 (7 : Int32) m).bind fun q1 => (if q1.1 ≤ v2 then f_m_protests_54 F v1 v2 q1.2 else ((f_m_paper F v1 ((8 : Int32) + v2) q1.2).bind fun q2 => ((f_m_paper F v1 (4 : Int32) q2.2).bind fun q3 => (if q2.1 = q3.1 then f_m_protests_54 F v1 v2 q3.2 else f_m_protests_19 F n v1 (v2 + (1 : Int32)) q3.2)))))
theorem ok_m_protests_19 (X : mX) (d F : Nat) : ∀ (n : Nat) (v1 : Int32) (v2 : Int32)  (m : mM) (r : Unit) (m' : mM), f_m_protests_19 F n v1 v2 m = some (r, m') → m_R X (d + 3) 310 19 [some (.ref 304), some (.int v1), some (.int v2)] [] (SH, m) (none, (SH, m')) := by
  intro n
  induction n with
  | zero => intro v1 v2 m r m' h; cases h
  | succ n ih =>
    intro v1 v2 m r m' h
    simp only [f_m_protests_19] at h
    refine m_R_sg (by decide) [(.iload_n 2, 1, 0, 2, 0, 0, 0), (.aload_n 0, 1, 0, 0, 0, 0, 0), (.iload_n 1, 1, 0, 1, 0, 0, 0), (.bipush 7, 2, 0, 7, 0, 0, 0)] (by decide +kernel) (show m_sgl X _ _ _ _ _ = some (24, [some (.ref 304), some (.int v1), some (.int v2)], [.int (7 : Int32), .int v1, .ref 304, .int v2], (SH, m.1, m.2)) from rfl) ?_
    obtain ⟨q1, hc1, h⟩ := Option.bind_eq_some_iff.mp h
    refine m_R_cV (v := (some (.int q1.1))) (h1 := (SH, q1.2)) (rest := [.int v2]) (lo' := [some (.ref 304), some (.int v1), some (.int (7 : Int32))]) (ml := 3) (k0 := 304) (by decide) (Or.inl rfl) (m_opb_of (ins := .invokevirtual 160) (len := 3) (tag := 5) (a := 246) (b := 2) (c := 0) (q := 1791) (by decide +kernel)) (by decide +kernel) rfl (show m_isO 246 304 (SH, _) = true from m_isO_of (by decide +kernel)) (Nat.le_of_ble_eq_true rfl) rfl rfl (ok_m_paper X (d + 2) F _ _ _ _ _ hc1) ?_
    rcases m_ite h with ⟨c1260, h⟩ | ⟨c1260, h⟩
    · refine m_R_1 (by decide) (m_opb_of (ins := .if_icmp .ge 27) (len := 3) (tag := 0) (a := 54) (b := 0) (c := 0) (q := 0) (by decide +kernel)) (if_pos c1260) ?_
      exact ok_m_protests_54 X d F _ _ _ _ _ h
    · refine m_R_1 (by decide) (m_opb_of (ins := .if_icmp .ge 27) (len := 3) (tag := 0) (a := 54) (b := 0) (c := 0) (q := 0) (by decide +kernel)) (if_neg c1260) ?_
      refine m_R_sg (by decide) [(.aload_n 0, 1, 0, 0, 0, 0, 0), (.iload_n 1, 1, 0, 1, 0, 0, 0), (.bipush 8, 2, 0, 8, 0, 0, 0), (.iload_n 2, 1, 0, 2, 0, 0, 0), (.iadd, 1, 0, 0, 0, 0, 0)] (by decide +kernel) (show m_sgl X _ _ _ _ _ = some (36, [some (.ref 304), some (.int v1), some (.int v2)], [.int ((8 : Int32) + v2), .int v1, .ref 304], (SH, q1.2.1, q1.2.2)) from rfl) ?_
      obtain ⟨q2, hc2, h⟩ := Option.bind_eq_some_iff.mp h
      refine m_R_cV (v := (some (.int q2.1))) (h1 := (SH, q2.2)) (rest := []) (lo' := [some (.ref 304), some (.int v1), some (.int ((8 : Int32) + v2))]) (ml := 3) (k0 := 304) (by decide) (Or.inl rfl) (m_opb_of (ins := .invokevirtual 160) (len := 3) (tag := 5) (a := 246) (b := 2) (c := 0) (q := 1791) (by decide +kernel)) (by decide +kernel) rfl (show m_isO 246 304 (SH, _) = true from m_isO_of (by decide +kernel)) (Nat.le_of_ble_eq_true rfl) rfl rfl (ok_m_paper X (d + 2) F _ _ _ _ _ hc2) ?_
      refine m_R_sg (by decide) [(.aload_n 0, 1, 0, 0, 0, 0, 0), (.iload_n 1, 1, 0, 1, 0, 0, 0), (.iconst 4, 1, 0, 4, 0, 0, 0)] (by decide +kernel) (show m_sgl X _ _ _ _ _ = some (42, [some (.ref 304), some (.int v1), some (.int v2)], [.int (4 : Int32), .int v1, .ref 304, .int q2.1], (SH, q2.2.1, q2.2.2)) from rfl) ?_
      obtain ⟨q3, hc3, h⟩ := Option.bind_eq_some_iff.mp h
      refine m_R_cV (v := (some (.int q3.1))) (h1 := (SH, q3.2)) (rest := [.int q2.1]) (lo' := [some (.ref 304), some (.int v1), some (.int (4 : Int32))]) (ml := 3) (k0 := 304) (by decide) (Or.inl rfl) (m_opb_of (ins := .invokevirtual 160) (len := 3) (tag := 5) (a := 246) (b := 2) (c := 0) (q := 1791) (by decide +kernel)) (by decide +kernel) rfl (show m_isO 246 304 (SH, _) = true from m_isO_of (by decide +kernel)) (Nat.le_of_ble_eq_true rfl) rfl rfl (ok_m_paper X (d + 2) F _ _ _ _ _ hc3) ?_
      rcases m_ite h with ⟨c1261, h⟩ | ⟨c1261, h⟩
      · refine m_R_1 (by decide) (m_opb_of (ins := .if_icmp .eq 9) (len := 3) (tag := 0) (a := 54) (b := 0) (c := 0) (q := 0) (by decide +kernel)) (if_pos c1261) ?_
        exact ok_m_protests_54 X d F _ _ _ _ _ h
      · refine m_R_1 (by decide) (m_opb_of (ins := .if_icmp .eq 9) (len := 3) (tag := 0) (a := 54) (b := 0) (c := 0) (q := 0) (by decide +kernel)) (if_neg c1261) ?_
        refine m_R_sg (by decide) [(.iinc 2 1, 3, 0, 2, 1, 0, 0), (.goto (-32), 3, 0, 19, 0, 0, 0)] (by decide +kernel) (show m_sgl X _ _ _ _ _ = some (19, [some (.ref 304), some (.int v1), some (.int (v2 + (1 : Int32)))], [], (SH, q3.2.1, q3.2.2)) from rfl) ?_
        exact ih _ _ _ _ _ h
def f_m_protests (F : Nat)   (v1 : Int32) (m : mM) : Option (Unit × mM) := (if (((6200 : Int32) + ((20 : Int32) * v1)) + (6 : Int32)) < 0 ∨ 9732 ≤ (((6200 : Int32) + ((20 : Int32) * v1)) + (6 : Int32)).toNatClampNeg then none else f_m_protests_19 F F v1 (1 : Int32) ((m_up m.1 305 (((6200 : Int32) + ((20 : Int32) * v1)) + (6 : Int32)).toNatClampNeg (1 : Int32)), m.2))
theorem ok_m_protests (X : mX) (d F : Nat) : ∀ (v1 : Int32)  (m : mM) (r : Unit) (m' : mM), f_m_protests F v1 m = some (r, m') → m_R X (d + 3) 310 0 [some (.ref 304), some (.int v1), none] [] (SH, m) (none, (SH, m')) := by
  intro v1 m r m' h
  unfold f_m_protests at h
  refine m_R_sg (by decide) [(.aload_n 0, 1, 0, 0, 0, 0, 0), (.getfield 13, 3, 0, 12, 1, 3, 1493), (.sipush 6200, 3, 0, 6200, 0, 0, 0), (.bipush 20, 2, 0, 20, 0, 0, 0), (.iload_n 1, 1, 0, 1, 0, 0, 0), (.imul, 1, 0, 0, 0, 0, 0), (.iadd, 1, 0, 0, 0, 0, 0), (.bipush 6, 2, 0, 6, 0, 0, 0), (.iadd, 1, 0, 0, 0, 0, 0), (.iconst 1, 1, 0, 1, 0, 0, 0)] (by decide +kernel) (show m_sgl X _ _ _ _ _ = some (16, [some (.ref 304), some (.int v1), none], [.int (1 : Int32), .int (((6200 : Int32) + ((20 : Int32) * v1)) + (6 : Int32)), .ref 305], (SH, m.1, m.2)) from rfl) ?_
  obtain ⟨c1262, h⟩ := m_ite_n h
  refine m_R_1 (by decide) (m_opb_of (ins := .iastore) (len := 1) (tag := 0) (a := 0) (b := 0) (c := 0) (q := 0) (by decide +kernel)) (m_s_iast sh_305 c1262) ?_
  refine m_R_sg (by decide) [(.iconst 1, 1, 0, 1, 0, 0, 0), (.istore_n 2, 1, 0, 2, 0, 0, 0)] (by decide +kernel) (show m_sgl X _ _ _ _ _ = some (19, [some (.ref 304), some (.int v1), some (.int (1 : Int32))], [], (SH, (m_up m.1 305 (((6200 : Int32) + ((20 : Int32) * v1)) + (6 : Int32)).toNatClampNeg (1 : Int32)), m.2)) from rfl) ?_
  exact ok_m_protests_19 X d F F _ _ _ _ _ h
def f_m_comesDue_158 (F : Nat)   (v1 : Int32) (m : mM) : Option (Unit × mM) := (if ((6200 : Int32) + ((20 : Int32) * v1)) < 0 ∨ 9732 ≤ ((6200 : Int32) + ((20 : Int32) * v1)).toNatClampNeg then none else some ((), ((m_up m.1 305 ((6200 : Int32) + ((20 : Int32) * v1)).toNatClampNeg (0 : Int32)), m.2)))
theorem ok_m_comesDue_158 (X : mX) (d F : Nat) : ∀ (v1 : Int32) (w2 : Option Value) (w3 : Option Value) (w4 : Option Value) (w5 : Option Value) (m : mM) (r : Unit) (m' : mM), f_m_comesDue_158 F v1 m = some (r, m') → m_R X (d + 72) 309 158 [some (.ref 304), some (.int v1), w2, w3, w4, w5] [] (SH, m) (none, (SH, m')) := by
  intro v1 w2 w3 w4 w5 m r m' h
  unfold f_m_comesDue_158 at h
  refine m_R_sg (by decide) [(.aload_n 0, 1, 0, 0, 0, 0, 0), (.getfield 13, 3, 0, 12, 1, 3, 1493), (.sipush 6200, 3, 0, 6200, 0, 0, 0), (.bipush 20, 2, 0, 20, 0, 0, 0), (.iload_n 1, 1, 0, 1, 0, 0, 0), (.imul, 1, 0, 0, 0, 0, 0), (.iadd, 1, 0, 0, 0, 0, 0), (.iconst 0, 1, 0, 0, 0, 0, 0)] (by decide +kernel) (show m_sgl X _ _ _ _ _ = some (171, [some (.ref 304), some (.int v1), w2, w3, w4, w5], [.int (0 : Int32), .int ((6200 : Int32) + ((20 : Int32) * v1)), .ref 305], (SH, m.1, m.2)) from rfl) ?_
  obtain ⟨c1263, h⟩ := m_ite_n h
  refine m_R_1 (by decide) (m_opb_of (ins := .iastore) (len := 1) (tag := 0) (a := 0) (b := 0) (c := 0) (q := 0) (by decide +kernel)) (m_s_iast sh_305 c1263) ?_
  obtain ⟨rfl, rfl⟩ := m_some h
  exact m_R_vret (by decide) (m_opb_of (ins := .return_) (len := 1) (tag := 3) (a := 0) (b := 0) (c := 0) (q := 0) (by decide +kernel))
def f_m_comesDue_103 (F : Nat)   (v1 : Int32) (v2 : Int32) (v3 : Int32) (v4 : Int32) (m : mM) : Option (Unit × mM) := ((f_m_gives F v2 v3 v4 m).bind fun q9 => ((f_m_paper F v1 (1 : Int32) q9.2).bind fun q10 => (if q10.1 = (3 : Int32) then ((f_m_paper F v1 (15 : Int32) q10.2).bind fun q11 => (if (((6200 : Int32) + ((20 : Int32) * q11.1)) + (14 : Int32)) < 0 ∨ 9732 ≤ (((6200 : Int32) + ((20 : Int32) * q11.1)) + (14 : Int32)).toNatClampNeg then none else (if (((6200 : Int32) + ((20 : Int32) * q11.1)) + (4 : Int32)) < 0 ∨ 9732 ≤ (((6200 : Int32) + ((20 : Int32) * q11.1)) + (4 : Int32)).toNatClampNeg then none else f_m_comesDue_158 F v1 ((m_up (m_up q11.2.1 305 (((6200 : Int32) + ((20 : Int32) * q11.1)) + (14 : Int32)).toNatClampNeg (0 : Int32)) 305 (((6200 : Int32) + ((20 : Int32) * q11.1)) + (4 : Int32)).toNatClampNeg v2), q11.2.2)))) else f_m_comesDue_158 F v1 q10.2)))
theorem ok_m_comesDue_103 (X : mX) (d F : Nat) : ∀ (v1 : Int32) (v2 : Int32) (v3 : Int32) (v4 : Int32) (w5 : Option Value) (m : mM) (r : Unit) (m' : mM), f_m_comesDue_103 F v1 v2 v3 v4 m = some (r, m') → m_R X (d + 72) 309 103 [some (.ref 304), some (.int v1), some (.int v2), some (.int v3), some (.int v4), w5] [] (SH, m) (none, (SH, m')) := by
  intro v1 v2 v3 v4 w5 m r m' h
  unfold f_m_comesDue_103 at h
  refine m_R_sg (by decide) [(.aload_n 0, 1, 0, 0, 0, 0, 0), (.iload_n 2, 1, 0, 2, 0, 0, 0), (.iload_n 3, 1, 0, 3, 0, 0, 0), (.iload 4, 2, 0, 4, 0, 0, 0)] (by decide +kernel) (show m_sgl X _ _ _ _ _ = some (108, [some (.ref 304), some (.int v1), some (.int v2), some (.int v3), some (.int v4), w5], [.int v4, .int v3, .int v2, .ref 304], (SH, m.1, m.2)) from rfl) ?_
  obtain ⟨q9, hc9, h⟩ := Option.bind_eq_some_iff.mp h
  refine m_R_cV (v := none) (h1 := (SH, q9.2)) (rest := []) (lo' := [some (.ref 304), some (.int v2), some (.int v3), some (.int v4), none, none, none]) (ml := 7) (k0 := 304) (by decide) (Or.inl rfl) (m_opb_of (ins := .invokevirtual 147) (len := 3) (tag := 5) (a := 249) (b := 3) (c := 0) (q := 1814) (by decide +kernel)) (by decide +kernel) rfl (show m_isO 249 304 (SH, _) = true from m_isO_of (by decide +kernel)) (Nat.le_of_ble_eq_true rfl) rfl rfl (ok_m_gives X (d + 68) F _ _ _ _ _ _ hc9) ?_
  refine m_R_sg (by decide) [(.aload_n 0, 1, 0, 0, 0, 0, 0), (.iload_n 1, 1, 0, 1, 0, 0, 0), (.iconst 1, 1, 0, 1, 0, 0, 0)] (by decide +kernel) (show m_sgl X _ _ _ _ _ = some (114, [some (.ref 304), some (.int v1), some (.int v2), some (.int v3), some (.int v4), w5], [.int (1 : Int32), .int v1, .ref 304], (SH, q9.2.1, q9.2.2)) from rfl) ?_
  obtain ⟨q10, hc10, h⟩ := Option.bind_eq_some_iff.mp h
  refine m_R_cV (v := (some (.int q10.1))) (h1 := (SH, q10.2)) (rest := []) (lo' := [some (.ref 304), some (.int v1), some (.int (1 : Int32))]) (ml := 3) (k0 := 304) (by decide) (Or.inl rfl) (m_opb_of (ins := .invokevirtual 160) (len := 3) (tag := 5) (a := 246) (b := 2) (c := 0) (q := 1791) (by decide +kernel)) (by decide +kernel) rfl (show m_isO 246 304 (SH, _) = true from m_isO_of (by decide +kernel)) (Nat.le_of_ble_eq_true rfl) rfl rfl (ok_m_paper X (d + 71) F _ _ _ _ _ hc10) ?_
  refine m_R_sg (by decide) [(.iconst 3, 1, 0, 3, 0, 0, 0)] (by decide +kernel) (show m_sgl X _ _ _ _ _ = some (118, [some (.ref 304), some (.int v1), some (.int v2), some (.int v3), some (.int v4), w5], [.int (3 : Int32), .int q10.1], (SH, q10.2.1, q10.2.2)) from rfl) ?_
  rcases m_ite h with ⟨c1264, h⟩ | ⟨c1264, h⟩
  · refine m_R_1 (by decide) (m_opb_of (ins := .if_icmp .ne 40) (len := 3) (tag := 0) (a := 158) (b := 0) (c := 0) (q := 0) (by decide +kernel)) (if_pos c1264) ?_
    refine m_R_sg (by decide) [(.sipush 6200, 3, 0, 6200, 0, 0, 0), (.bipush 20, 2, 0, 20, 0, 0, 0), (.aload_n 0, 1, 0, 0, 0, 0, 0), (.iload_n 1, 1, 0, 1, 0, 0, 0), (.bipush 15, 2, 0, 15, 0, 0, 0)] (by decide +kernel) (show m_sgl X _ _ _ _ _ = some (130, [some (.ref 304), some (.int v1), some (.int v2), some (.int v3), some (.int v4), w5], [.int (15 : Int32), .int v1, .ref 304, .int (20 : Int32), .int (6200 : Int32)], (SH, q10.2.1, q10.2.2)) from rfl) ?_
    obtain ⟨q11, hc11, h⟩ := Option.bind_eq_some_iff.mp h
    refine m_R_cV (v := (some (.int q11.1))) (h1 := (SH, q11.2)) (rest := [.int (20 : Int32), .int (6200 : Int32)]) (lo' := [some (.ref 304), some (.int v1), some (.int (15 : Int32))]) (ml := 3) (k0 := 304) (by decide) (Or.inl rfl) (m_opb_of (ins := .invokevirtual 160) (len := 3) (tag := 5) (a := 246) (b := 2) (c := 0) (q := 1791) (by decide +kernel)) (by decide +kernel) rfl (show m_isO 246 304 (SH, _) = true from m_isO_of (by decide +kernel)) (Nat.le_of_ble_eq_true rfl) rfl rfl (ok_m_paper X (d + 71) F _ _ _ _ _ hc11) ?_
    refine m_R_sg (by decide) [(.imul, 1, 0, 0, 0, 0, 0), (.iadd, 1, 0, 0, 0, 0, 0), (.istore 5, 2, 0, 5, 0, 0, 0), (.aload_n 0, 1, 0, 0, 0, 0, 0), (.getfield 13, 3, 0, 12, 1, 3, 1493), (.iload 5, 2, 0, 5, 0, 0, 0), (.bipush 14, 2, 0, 14, 0, 0, 0), (.iadd, 1, 0, 0, 0, 0, 0), (.iconst 0, 1, 0, 0, 0, 0, 0)] (by decide +kernel) (show m_sgl X _ _ _ _ _ = some (147, [some (.ref 304), some (.int v1), some (.int v2), some (.int v3), some (.int v4), some (.int ((6200 : Int32) + ((20 : Int32) * q11.1)))], [.int (0 : Int32), .int (((6200 : Int32) + ((20 : Int32) * q11.1)) + (14 : Int32)), .ref 305], (SH, q11.2.1, q11.2.2)) from rfl) ?_
    obtain ⟨c1265, h⟩ := m_ite_n h
    refine m_R_1 (by decide) (m_opb_of (ins := .iastore) (len := 1) (tag := 0) (a := 0) (b := 0) (c := 0) (q := 0) (by decide +kernel)) (m_s_iast sh_305 c1265) ?_
    refine m_R_sg (by decide) [(.aload_n 0, 1, 0, 0, 0, 0, 0), (.getfield 13, 3, 0, 12, 1, 3, 1493), (.iload 5, 2, 0, 5, 0, 0, 0), (.iconst 4, 1, 0, 4, 0, 0, 0), (.iadd, 1, 0, 0, 0, 0, 0), (.iload_n 2, 1, 0, 2, 0, 0, 0)] (by decide +kernel) (show m_sgl X _ _ _ _ _ = some (157, [some (.ref 304), some (.int v1), some (.int v2), some (.int v3), some (.int v4), some (.int ((6200 : Int32) + ((20 : Int32) * q11.1)))], [.int v2, .int (((6200 : Int32) + ((20 : Int32) * q11.1)) + (4 : Int32)), .ref 305], (SH, (m_up q11.2.1 305 (((6200 : Int32) + ((20 : Int32) * q11.1)) + (14 : Int32)).toNatClampNeg (0 : Int32)), q11.2.2)) from rfl) ?_
    obtain ⟨c1266, h⟩ := m_ite_n h
    refine m_R_1 (by decide) (m_opb_of (ins := .iastore) (len := 1) (tag := 0) (a := 0) (b := 0) (c := 0) (q := 0) (by decide +kernel)) (m_s_iast sh_305 c1266) ?_
    exact ok_m_comesDue_158 X d F _ _ _ _ _ _ _ _ h
  · refine m_R_1 (by decide) (m_opb_of (ins := .if_icmp .ne 40) (len := 3) (tag := 0) (a := 158) (b := 0) (c := 0) (q := 0) (by decide +kernel)) (if_neg c1264) ?_
    exact ok_m_comesDue_158 X d F _ _ _ _ _ _ _ _ h
def f_m_comesDue_204 (F : Nat)    (m : mM) : Option (Unit × mM) := some ((), m)
theorem ok_m_comesDue_204 (X : mX) (d F : Nat) : ∀  (w0 : Option Value) (w1 : Option Value) (w2 : Option Value) (w3 : Option Value) (w4 : Option Value) (w5 : Option Value) (m : mM) (r : Unit) (m' : mM), f_m_comesDue_204 F  m = some (r, m') → m_R X (d + 72) 309 204 [w0, w1, w2, w3, w4, w5] [] (SH, m) (none, (SH, m')) := by
  intro w0 w1 w2 w3 w4 w5 m r m' h
  unfold f_m_comesDue_204 at h
  obtain ⟨rfl, rfl⟩ := m_some h
  exact m_R_vret (by decide) (m_opb_of (ins := .return_) (len := 1) (tag := 3) (a := 0) (b := 0) (c := 0) (q := 0) (by decide +kernel))
def f_m_comesDue_189 (F : Nat)   (v1 : Int32) (m : mM) : Option (Unit × mM) := ((f_m_paper F v1 (1 : Int32) m).bind fun q14 => (if q14.1 = (1 : Int32) then ((f_m_protests F v1 q14.2).bind fun q15 => f_m_comesDue_204 F q15.2) else f_m_comesDue_204 F q14.2))
theorem ok_m_comesDue_189 (X : mX) (d F : Nat) : ∀ (v1 : Int32) (w2 : Option Value) (w3 : Option Value) (w4 : Option Value) (w5 : Option Value) (m : mM) (r : Unit) (m' : mM), f_m_comesDue_189 F v1 m = some (r, m') → m_R X (d + 72) 309 189 [some (.ref 304), some (.int v1), w2, w3, w4, w5] [] (SH, m) (none, (SH, m')) := by
  intro v1 w2 w3 w4 w5 m r m' h
  unfold f_m_comesDue_189 at h
  refine m_R_sg (by decide) [(.aload_n 0, 1, 0, 0, 0, 0, 0), (.iload_n 1, 1, 0, 1, 0, 0, 0), (.iconst 1, 1, 0, 1, 0, 0, 0)] (by decide +kernel) (show m_sgl X _ _ _ _ _ = some (192, [some (.ref 304), some (.int v1), w2, w3, w4, w5], [.int (1 : Int32), .int v1, .ref 304], (SH, m.1, m.2)) from rfl) ?_
  obtain ⟨q14, hc14, h⟩ := Option.bind_eq_some_iff.mp h
  refine m_R_cV (v := (some (.int q14.1))) (h1 := (SH, q14.2)) (rest := []) (lo' := [some (.ref 304), some (.int v1), some (.int (1 : Int32))]) (ml := 3) (k0 := 304) (by decide) (Or.inl rfl) (m_opb_of (ins := .invokevirtual 160) (len := 3) (tag := 5) (a := 246) (b := 2) (c := 0) (q := 1791) (by decide +kernel)) (by decide +kernel) rfl (show m_isO 246 304 (SH, _) = true from m_isO_of (by decide +kernel)) (Nat.le_of_ble_eq_true rfl) rfl rfl (ok_m_paper X (d + 71) F _ _ _ _ _ hc14) ?_
  refine m_R_sg (by decide) [(.iconst 1, 1, 0, 1, 0, 0, 0)] (by decide +kernel) (show m_sgl X _ _ _ _ _ = some (196, [some (.ref 304), some (.int v1), w2, w3, w4, w5], [.int (1 : Int32), .int q14.1], (SH, q14.2.1, q14.2.2)) from rfl) ?_
  rcases m_ite h with ⟨c1267, h⟩ | ⟨c1267, h⟩
  · refine m_R_1 (by decide) (m_opb_of (ins := .if_icmp .ne 8) (len := 3) (tag := 0) (a := 204) (b := 0) (c := 0) (q := 0) (by decide +kernel)) (if_pos c1267) ?_
    refine m_R_sg (by decide) [(.aload_n 0, 1, 0, 0, 0, 0, 0), (.iload_n 1, 1, 0, 1, 0, 0, 0)] (by decide +kernel) (show m_sgl X _ _ _ _ _ = some (201, [some (.ref 304), some (.int v1), w2, w3, w4, w5], [.int v1, .ref 304], (SH, q14.2.1, q14.2.2)) from rfl) ?_
    obtain ⟨q15, hc15, h⟩ := Option.bind_eq_some_iff.mp h
    refine m_R_cV (v := none) (h1 := (SH, q15.2)) (rest := []) (lo' := [some (.ref 304), some (.int v1), none]) (ml := 3) (k0 := 304) (by decide) (Or.inl rfl) (m_opb_of (ins := .invokevirtual 387) (len := 3) (tag := 5) (a := 310) (b := 1) (c := 0) (q := 2057) (by decide +kernel)) (by decide +kernel) rfl (show m_isO 310 304 (SH, _) = true from m_isO_of (by decide +kernel)) (Nat.le_of_ble_eq_true rfl) rfl rfl (ok_m_protests X (d + 68) F _ _ _ _ hc15) ?_
    exact ok_m_comesDue_204 X d F _ _ _ _ _ _ _ _ _ h
  · refine m_R_1 (by decide) (m_opb_of (ins := .if_icmp .ne 8) (len := 3) (tag := 0) (a := 204) (b := 0) (c := 0) (q := 0) (by decide +kernel)) (if_neg c1267) ?_
    exact ok_m_comesDue_204 X d F _ _ _ _ _ _ _ _ _ h
def f_m_comesDue_173 (F : Nat)   (v1 : Int32) (v2 : Int32) (v3 : Int32) (m : mM) : Option (Unit × mM) := ((f_m_isUp F v2 m).bind fun q12 => (if q12.1 = 0 then f_m_comesDue_189 F v1 q12.2 else ((f_m_falls F v2 v1 v3 (0 : Int32) q12.2).bind fun q13 => f_m_comesDue_189 F v1 q13.2)))
theorem ok_m_comesDue_173 (X : mX) (d F : Nat) : ∀ (v1 : Int32) (v2 : Int32) (v3 : Int32) (w4 : Option Value) (w5 : Option Value) (m : mM) (r : Unit) (m' : mM), f_m_comesDue_173 F v1 v2 v3 m = some (r, m') → m_R X (d + 72) 309 173 [some (.ref 304), some (.int v1), some (.int v2), some (.int v3), w4, w5] [] (SH, m) (none, (SH, m')) := by
  intro v1 v2 v3 w4 w5 m r m' h
  unfold f_m_comesDue_173 at h
  refine m_R_sg (by decide) [(.aload_n 0, 1, 0, 0, 0, 0, 0), (.iload_n 2, 1, 0, 2, 0, 0, 0)] (by decide +kernel) (show m_sgl X _ _ _ _ _ = some (175, [some (.ref 304), some (.int v1), some (.int v2), some (.int v3), w4, w5], [.int v2, .ref 304], (SH, m.1, m.2)) from rfl) ?_
  obtain ⟨q12, hc12, h⟩ := Option.bind_eq_some_iff.mp h
  refine m_R_cV (v := (some (.int q12.1))) (h1 := (SH, q12.2)) (rest := []) (lo' := [some (.ref 304), some (.int v2)]) (ml := 2) (k0 := 304) (by decide) (Or.inl rfl) (m_opb_of (ins := .invokevirtual 80) (len := 3) (tag := 5) (a := 211) (b := 1) (c := 0) (q := 1629) (by decide +kernel)) (by decide +kernel) rfl (show m_isO 211 304 (SH, _) = true from m_isO_of (by decide +kernel)) (Nat.le_of_ble_eq_true rfl) rfl rfl (ok_m_isUp X (d + 70) F _ _ _ _ hc12) ?_
  rcases m_ite h with ⟨c1268, h⟩ | ⟨c1268, h⟩
  · refine m_R_1 (by decide) (m_opb_of (ins := .ifCond .eq 11) (len := 3) (tag := 0) (a := 189) (b := 0) (c := 0) (q := 0) (by decide +kernel)) (if_pos c1268) ?_
    exact ok_m_comesDue_189 X d F _ _ _ _ _ _ _ _ h
  · refine m_R_1 (by decide) (m_opb_of (ins := .ifCond .eq 11) (len := 3) (tag := 0) (a := 189) (b := 0) (c := 0) (q := 0) (by decide +kernel)) (if_neg c1268) ?_
    refine m_R_sg (by decide) [(.aload_n 0, 1, 0, 0, 0, 0, 0), (.iload_n 2, 1, 0, 2, 0, 0, 0), (.iload_n 1, 1, 0, 1, 0, 0, 0), (.iload_n 3, 1, 0, 3, 0, 0, 0), (.iconst 0, 1, 0, 0, 0, 0, 0)] (by decide +kernel) (show m_sgl X _ _ _ _ _ = some (186, [some (.ref 304), some (.int v1), some (.int v2), some (.int v3), w4, w5], [.int (0 : Int32), .int v3, .int v1, .int v2, .ref 304], (SH, q12.2.1, q12.2.2)) from rfl) ?_
    obtain ⟨q13, hc13, h⟩ := Option.bind_eq_some_iff.mp h
    refine m_R_cV (v := none) (h1 := (SH, q13.2)) (rest := []) (lo' := [some (.ref 304), some (.int v2), some (.int v1), some (.int v3), some (.int (0 : Int32)), none, none]) (ml := 7) (k0 := 304) (by decide) (Or.inl rfl) (m_opb_of (ins := .invokevirtual 189) (len := 3) (tag := 5) (a := 280) (b := 4) (c := 0) (q := 1938) (by decide +kernel)) (by decide +kernel) rfl (show m_isO 280 304 (SH, _) = true from m_isO_of (by decide +kernel)) (Nat.le_of_ble_eq_true rfl) rfl rfl (ok_m_falls X (d + 70) F _ _ _ _ _ _ _ hc13) ?_
    exact ok_m_comesDue_189 X d F _ _ _ _ _ _ _ _ h
def f_m_comesDue_79 (F : Nat)   (v1 : Int32) (v2 : Int32) (v3 : Int32) (v4 : Int32) (m : mM) : Option (Unit × mM) := (if v3 = v2 then f_m_comesDue_103 F v1 v2 v3 v4 m else ((f_m_isUp F v2 m).bind fun q7 => (if q7.1 = 0 then f_m_comesDue_173 F v1 v2 v3 q7.2 else ((f_m_can F v2 v3 v4 q7.2).bind fun q8 => (if q8.1 = 0 then f_m_comesDue_173 F v1 v2 v3 q8.2 else f_m_comesDue_103 F v1 v2 v3 v4 q8.2)))))
theorem ok_m_comesDue_79 (X : mX) (d F : Nat) : ∀ (v1 : Int32) (v2 : Int32) (v3 : Int32) (v4 : Int32) (w5 : Option Value) (m : mM) (r : Unit) (m' : mM), f_m_comesDue_79 F v1 v2 v3 v4 m = some (r, m') → m_R X (d + 72) 309 79 [some (.ref 304), some (.int v1), some (.int v2), some (.int v3), some (.int v4), w5] [] (SH, m) (none, (SH, m')) := by
  intro v1 v2 v3 v4 w5 m r m' h
  unfold f_m_comesDue_79 at h
  refine m_R_sg (by decide) [(.iload_n 3, 1, 0, 3, 0, 0, 0), (.iload_n 2, 1, 0, 2, 0, 0, 0)] (by decide +kernel) (show m_sgl X _ _ _ _ _ = some (81, [some (.ref 304), some (.int v1), some (.int v2), some (.int v3), some (.int v4), w5], [.int v2, .int v3], (SH, m.1, m.2)) from rfl) ?_
  rcases m_ite h with ⟨c1269, h⟩ | ⟨c1269, h⟩
  · refine m_R_1 (by decide) (m_opb_of (ins := .if_icmp .eq 22) (len := 3) (tag := 0) (a := 103) (b := 0) (c := 0) (q := 0) (by decide +kernel)) (if_pos c1269) ?_
    exact ok_m_comesDue_103 X d F _ _ _ _ _ _ _ _ h
  · refine m_R_1 (by decide) (m_opb_of (ins := .if_icmp .eq 22) (len := 3) (tag := 0) (a := 103) (b := 0) (c := 0) (q := 0) (by decide +kernel)) (if_neg c1269) ?_
    refine m_R_sg (by decide) [(.aload_n 0, 1, 0, 0, 0, 0, 0), (.iload_n 2, 1, 0, 2, 0, 0, 0)] (by decide +kernel) (show m_sgl X _ _ _ _ _ = some (86, [some (.ref 304), some (.int v1), some (.int v2), some (.int v3), some (.int v4), w5], [.int v2, .ref 304], (SH, m.1, m.2)) from rfl) ?_
    obtain ⟨q7, hc7, h⟩ := Option.bind_eq_some_iff.mp h
    refine m_R_cV (v := (some (.int q7.1))) (h1 := (SH, q7.2)) (rest := []) (lo' := [some (.ref 304), some (.int v2)]) (ml := 2) (k0 := 304) (by decide) (Or.inl rfl) (m_opb_of (ins := .invokevirtual 80) (len := 3) (tag := 5) (a := 211) (b := 1) (c := 0) (q := 1629) (by decide +kernel)) (by decide +kernel) rfl (show m_isO 211 304 (SH, _) = true from m_isO_of (by decide +kernel)) (Nat.le_of_ble_eq_true rfl) rfl rfl (ok_m_isUp X (d + 70) F _ _ _ _ hc7) ?_
    rcases m_ite h with ⟨c1270, h⟩ | ⟨c1270, h⟩
    · refine m_R_1 (by decide) (m_opb_of (ins := .ifCond .eq 84) (len := 3) (tag := 0) (a := 173) (b := 0) (c := 0) (q := 0) (by decide +kernel)) (if_pos c1270) ?_
      exact ok_m_comesDue_173 X d F _ _ _ _ _ _ _ _ h
    · refine m_R_1 (by decide) (m_opb_of (ins := .ifCond .eq 84) (len := 3) (tag := 0) (a := 173) (b := 0) (c := 0) (q := 0) (by decide +kernel)) (if_neg c1270) ?_
      refine m_R_sg (by decide) [(.aload_n 0, 1, 0, 0, 0, 0, 0), (.iload_n 2, 1, 0, 2, 0, 0, 0), (.iload_n 3, 1, 0, 3, 0, 0, 0), (.iload 4, 2, 0, 4, 0, 0, 0)] (by decide +kernel) (show m_sgl X _ _ _ _ _ = some (97, [some (.ref 304), some (.int v1), some (.int v2), some (.int v3), some (.int v4), w5], [.int v4, .int v3, .int v2, .ref 304], (SH, q7.2.1, q7.2.2)) from rfl) ?_
      obtain ⟨q8, hc8, h⟩ := Option.bind_eq_some_iff.mp h
      refine m_R_cV (v := (some (.int q8.1))) (h1 := (SH, q8.2)) (rest := []) (lo' := [some (.ref 304), some (.int v2), some (.int v3), some (.int v4), none, none, none]) (ml := 7) (k0 := 304) (by decide) (Or.inl rfl) (m_opb_of (ins := .invokevirtual 144) (len := 3) (tag := 5) (a := 221) (b := 3) (c := 0) (q := 1669) (by decide +kernel)) (by decide +kernel) rfl (show m_isO 221 304 (SH, _) = true from m_isO_of (by decide +kernel)) (Nat.le_of_ble_eq_true rfl) rfl rfl (ok_m_can X (d + 0) F _ _ _ _ _ _ hc8) ?_
      rcases m_ite h with ⟨c1271, h⟩ | ⟨c1271, h⟩
      · refine m_R_1 (by decide) (m_opb_of (ins := .ifCond .eq 73) (len := 3) (tag := 0) (a := 173) (b := 0) (c := 0) (q := 0) (by decide +kernel)) (if_pos c1271) ?_
        exact ok_m_comesDue_173 X d F _ _ _ _ _ _ _ _ h
      · refine m_R_1 (by decide) (m_opb_of (ins := .ifCond .eq 73) (len := 3) (tag := 0) (a := 173) (b := 0) (c := 0) (q := 0) (by decide +kernel)) (if_neg c1271) ?_
        exact ok_m_comesDue_103 X d F _ _ _ _ _ _ _ _ h
def f_m_comesDue (F : Nat)   (v1 : Int32) (m : mM) : Option (Unit × mM) := ((f_m_paper F v1 (3 : Int32) m).bind fun q1 => ((f_m_paper F v1 (4 : Int32) q1.2).bind fun q2 => ((f_m_paper F v1 (2 : Int32) q2.2).bind fun q3 => ((f_m_paper F v1 (18 : Int32) q3.2).bind fun q4 => (if q4.1 = (1 : Int32) then ((f_m_isUp F q1.1 q4.2).bind fun q5 => (if q5.1 = 0 then f_m_comesDue_79 F v1 q1.1 q2.1 q3.1 q5.2 else (if (((128 : Int32) + ((12 : Int32) * q1.1)) + (2 : Int32)) < 0 ∨ 9732 ≤ (((128 : Int32) + ((12 : Int32) * q1.1)) + (2 : Int32)).toNatClampNeg then none else ((f_m_weekOf F (0 : Int32) ((q5.2.1 305 (0 : Int32).toNatClampNeg) / (7 : Int32)) q5.2).bind fun q6 => f_m_comesDue_79 F v1 q1.1 q2.1 q3.1 ((m_up q6.2.1 305 (((128 : Int32) + ((12 : Int32) * q1.1)) + (2 : Int32)).toNatClampNeg ((q5.2.1 305 (((128 : Int32) + ((12 : Int32) * q1.1)) + (2 : Int32)).toNatClampNeg) + ((q3.1 * q6.1) / (100 : Int32)))), q6.2.2))))) else f_m_comesDue_79 F v1 q1.1 q2.1 q3.1 q4.2)))))
theorem ok_m_comesDue (X : mX) (d F : Nat) : ∀ (v1 : Int32)  (m : mM) (r : Unit) (m' : mM), f_m_comesDue F v1 m = some (r, m') → m_R X (d + 72) 309 0 [some (.ref 304), some (.int v1), none, none, none, none] [] (SH, m) (none, (SH, m')) := by
  intro v1 m r m' h
  unfold f_m_comesDue at h
  refine m_R_sg (by decide) [(.aload_n 0, 1, 0, 0, 0, 0, 0), (.iload_n 1, 1, 0, 1, 0, 0, 0), (.iconst 3, 1, 0, 3, 0, 0, 0)] (by decide +kernel) (show m_sgl X _ _ _ _ _ = some (3, [some (.ref 304), some (.int v1), none, none, none, none], [.int (3 : Int32), .int v1, .ref 304], (SH, m.1, m.2)) from rfl) ?_
  obtain ⟨q1, hc1, h⟩ := Option.bind_eq_some_iff.mp h
  refine m_R_cV (v := (some (.int q1.1))) (h1 := (SH, q1.2)) (rest := []) (lo' := [some (.ref 304), some (.int v1), some (.int (3 : Int32))]) (ml := 3) (k0 := 304) (by decide) (Or.inl rfl) (m_opb_of (ins := .invokevirtual 160) (len := 3) (tag := 5) (a := 246) (b := 2) (c := 0) (q := 1791) (by decide +kernel)) (by decide +kernel) rfl (show m_isO 246 304 (SH, _) = true from m_isO_of (by decide +kernel)) (Nat.le_of_ble_eq_true rfl) rfl rfl (ok_m_paper X (d + 71) F _ _ _ _ _ hc1) ?_
  refine m_R_sg (by decide) [(.istore_n 2, 1, 0, 2, 0, 0, 0), (.aload_n 0, 1, 0, 0, 0, 0, 0), (.iload_n 1, 1, 0, 1, 0, 0, 0), (.iconst 4, 1, 0, 4, 0, 0, 0)] (by decide +kernel) (show m_sgl X _ _ _ _ _ = some (10, [some (.ref 304), some (.int v1), some (.int q1.1), none, none, none], [.int (4 : Int32), .int v1, .ref 304], (SH, q1.2.1, q1.2.2)) from rfl) ?_
  obtain ⟨q2, hc2, h⟩ := Option.bind_eq_some_iff.mp h
  refine m_R_cV (v := (some (.int q2.1))) (h1 := (SH, q2.2)) (rest := []) (lo' := [some (.ref 304), some (.int v1), some (.int (4 : Int32))]) (ml := 3) (k0 := 304) (by decide) (Or.inl rfl) (m_opb_of (ins := .invokevirtual 160) (len := 3) (tag := 5) (a := 246) (b := 2) (c := 0) (q := 1791) (by decide +kernel)) (by decide +kernel) rfl (show m_isO 246 304 (SH, _) = true from m_isO_of (by decide +kernel)) (Nat.le_of_ble_eq_true rfl) rfl rfl (ok_m_paper X (d + 71) F _ _ _ _ _ hc2) ?_
  refine m_R_sg (by decide) [(.istore_n 3, 1, 0, 3, 0, 0, 0), (.aload_n 0, 1, 0, 0, 0, 0, 0), (.iload_n 1, 1, 0, 1, 0, 0, 0), (.iconst 2, 1, 0, 2, 0, 0, 0)] (by decide +kernel) (show m_sgl X _ _ _ _ _ = some (17, [some (.ref 304), some (.int v1), some (.int q1.1), some (.int q2.1), none, none], [.int (2 : Int32), .int v1, .ref 304], (SH, q2.2.1, q2.2.2)) from rfl) ?_
  obtain ⟨q3, hc3, h⟩ := Option.bind_eq_some_iff.mp h
  refine m_R_cV (v := (some (.int q3.1))) (h1 := (SH, q3.2)) (rest := []) (lo' := [some (.ref 304), some (.int v1), some (.int (2 : Int32))]) (ml := 3) (k0 := 304) (by decide) (Or.inl rfl) (m_opb_of (ins := .invokevirtual 160) (len := 3) (tag := 5) (a := 246) (b := 2) (c := 0) (q := 1791) (by decide +kernel)) (by decide +kernel) rfl (show m_isO 246 304 (SH, _) = true from m_isO_of (by decide +kernel)) (Nat.le_of_ble_eq_true rfl) rfl rfl (ok_m_paper X (d + 71) F _ _ _ _ _ hc3) ?_
  refine m_R_sg (by decide) [(.istore 4, 2, 0, 4, 0, 0, 0), (.aload_n 0, 1, 0, 0, 0, 0, 0), (.iload_n 1, 1, 0, 1, 0, 0, 0), (.bipush 18, 2, 0, 18, 0, 0, 0)] (by decide +kernel) (show m_sgl X _ _ _ _ _ = some (26, [some (.ref 304), some (.int v1), some (.int q1.1), some (.int q2.1), some (.int q3.1), none], [.int (18 : Int32), .int v1, .ref 304], (SH, q3.2.1, q3.2.2)) from rfl) ?_
  obtain ⟨q4, hc4, h⟩ := Option.bind_eq_some_iff.mp h
  refine m_R_cV (v := (some (.int q4.1))) (h1 := (SH, q4.2)) (rest := []) (lo' := [some (.ref 304), some (.int v1), some (.int (18 : Int32))]) (ml := 3) (k0 := 304) (by decide) (Or.inl rfl) (m_opb_of (ins := .invokevirtual 160) (len := 3) (tag := 5) (a := 246) (b := 2) (c := 0) (q := 1791) (by decide +kernel)) (by decide +kernel) rfl (show m_isO 246 304 (SH, _) = true from m_isO_of (by decide +kernel)) (Nat.le_of_ble_eq_true rfl) rfl rfl (ok_m_paper X (d + 71) F _ _ _ _ _ hc4) ?_
  refine m_R_sg (by decide) [(.iconst 1, 1, 0, 1, 0, 0, 0)] (by decide +kernel) (show m_sgl X _ _ _ _ _ = some (30, [some (.ref 304), some (.int v1), some (.int q1.1), some (.int q2.1), some (.int q3.1), none], [.int (1 : Int32), .int q4.1], (SH, q4.2.1, q4.2.2)) from rfl) ?_
  rcases m_ite h with ⟨c1272, h⟩ | ⟨c1272, h⟩
  · refine m_R_1 (by decide) (m_opb_of (ins := .if_icmp .ne 49) (len := 3) (tag := 0) (a := 79) (b := 0) (c := 0) (q := 0) (by decide +kernel)) (if_pos c1272) ?_
    refine m_R_sg (by decide) [(.aload_n 0, 1, 0, 0, 0, 0, 0), (.iload_n 2, 1, 0, 2, 0, 0, 0)] (by decide +kernel) (show m_sgl X _ _ _ _ _ = some (35, [some (.ref 304), some (.int v1), some (.int q1.1), some (.int q2.1), some (.int q3.1), none], [.int q1.1, .ref 304], (SH, q4.2.1, q4.2.2)) from rfl) ?_
    obtain ⟨q5, hc5, h⟩ := Option.bind_eq_some_iff.mp h
    refine m_R_cV (v := (some (.int q5.1))) (h1 := (SH, q5.2)) (rest := []) (lo' := [some (.ref 304), some (.int q1.1)]) (ml := 2) (k0 := 304) (by decide) (Or.inl rfl) (m_opb_of (ins := .invokevirtual 80) (len := 3) (tag := 5) (a := 211) (b := 1) (c := 0) (q := 1629) (by decide +kernel)) (by decide +kernel) rfl (show m_isO 211 304 (SH, _) = true from m_isO_of (by decide +kernel)) (Nat.le_of_ble_eq_true rfl) rfl rfl (ok_m_isUp X (d + 70) F _ _ _ _ hc5) ?_
    rcases m_ite h with ⟨c1273, h⟩ | ⟨c1273, h⟩
    · refine m_R_1 (by decide) (m_opb_of (ins := .ifCond .eq 41) (len := 3) (tag := 0) (a := 79) (b := 0) (c := 0) (q := 0) (by decide +kernel)) (if_pos c1273) ?_
      exact ok_m_comesDue_79 X d F _ _ _ _ _ _ _ _ h
    · refine m_R_1 (by decide) (m_opb_of (ins := .ifCond .eq 41) (len := 3) (tag := 0) (a := 79) (b := 0) (c := 0) (q := 0) (by decide +kernel)) (if_neg c1273) ?_
      refine m_R_sg (by decide) [(.aload_n 0, 1, 0, 0, 0, 0, 0), (.getfield 13, 3, 0, 12, 1, 3, 1493), (.sipush 128, 3, 0, 128, 0, 0, 0), (.bipush 12, 2, 0, 12, 0, 0, 0), (.iload_n 2, 1, 0, 2, 0, 0, 0), (.imul, 1, 0, 0, 0, 0, 0), (.iadd, 1, 0, 0, 0, 0, 0), (.iconst 2, 1, 0, 2, 0, 0, 0), (.iadd, 1, 0, 0, 0, 0, 0), (.dup2, 1, 0, 0, 0, 0, 0)] (by decide +kernel) (show m_sgl X _ _ _ _ _ = some (56, [some (.ref 304), some (.int v1), some (.int q1.1), some (.int q2.1), some (.int q3.1), none], [.int (((128 : Int32) + ((12 : Int32) * q1.1)) + (2 : Int32)), .ref 305, .int (((128 : Int32) + ((12 : Int32) * q1.1)) + (2 : Int32)), .ref 305], (SH, q5.2.1, q5.2.2)) from rfl) ?_
      obtain ⟨c1274, h⟩ := m_ite_n h
      refine m_R_1 (by decide) (m_opb_of (ins := .iaload) (len := 1) (tag := 0) (a := 0) (b := 0) (c := 0) (q := 0) (by decide +kernel)) (m_s_iald sh_305 (by decide) c1274) ?_
      refine m_R_sg (by decide) [(.iload 4, 2, 0, 4, 0, 0, 0), (.aload_n 0, 1, 0, 0, 0, 0, 0), (.iconst 0, 1, 0, 0, 0, 0, 0), (.aload_n 0, 1, 0, 0, 0, 0, 0), (.getfield 13, 3, 0, 12, 1, 3, 1493), (.iconst 0, 1, 0, 0, 0, 0, 0)] (by decide +kernel) (show m_sgl X _ _ _ _ _ = some (66, [some (.ref 304), some (.int v1), some (.int q1.1), some (.int q2.1), some (.int q3.1), none], [.int (0 : Int32), .ref 305, .int (0 : Int32), .ref 304, .int q3.1, .int (q5.2.1 305 (((128 : Int32) + ((12 : Int32) * q1.1)) + (2 : Int32)).toNatClampNeg), .int (((128 : Int32) + ((12 : Int32) * q1.1)) + (2 : Int32)), .ref 305], (SH, q5.2.1, q5.2.2)) from rfl) ?_
      refine m_R_1 (by decide) (m_opb_of (ins := .iaload) (len := 1) (tag := 0) (a := 0) (b := 0) (c := 0) (q := 0) (by decide +kernel)) (m_s_iald sh_305 (by decide) (show ¬ ((0 : Int32) < 0 ∨ 9732 ≤ (0 : Int32).toNatClampNeg) by decide)) ?_
      refine m_R_sg (by decide) [(.bipush 7, 2, 0, 7, 0, 0, 0)] (by decide +kernel) (show m_sgl X _ _ _ _ _ = some (69, [some (.ref 304), some (.int v1), some (.int q1.1), some (.int q2.1), some (.int q3.1), none], [.int (7 : Int32), .int (q5.2.1 305 (0 : Int32).toNatClampNeg), .int (0 : Int32), .ref 304, .int q3.1, .int (q5.2.1 305 (((128 : Int32) + ((12 : Int32) * q1.1)) + (2 : Int32)).toNatClampNeg), .int (((128 : Int32) + ((12 : Int32) * q1.1)) + (2 : Int32)), .ref 305], (SH, q5.2.1, q5.2.2)) from rfl) ?_
      refine m_R_1 (by decide) (m_opb_of (ins := .idiv) (len := 1) (tag := 0) (a := 0) (b := 0) (c := 0) (q := 0) (by decide +kernel)) (m_s_idiv (by decide)) ?_
      obtain ⟨q6, hc6, h⟩ := Option.bind_eq_some_iff.mp h
      refine m_R_cV (v := (some (.int q6.1))) (h1 := (SH, q6.2)) (rest := [.int q3.1, .int (q5.2.1 305 (((128 : Int32) + ((12 : Int32) * q1.1)) + (2 : Int32)).toNatClampNeg), .int (((128 : Int32) + ((12 : Int32) * q1.1)) + (2 : Int32)), .ref 305]) (lo' := [some (.ref 304), some (.int (0 : Int32)), some (.int ((q5.2.1 305 (0 : Int32).toNatClampNeg) / (7 : Int32))), none, none, none]) (ml := 6) (k0 := 304) (by decide) (Or.inl rfl) (m_opb_of (ins := .invokevirtual 221) (len := 3) (tag := 5) (a := 295) (b := 2) (c := 0) (q := 1997) (by decide +kernel)) (by decide +kernel) rfl (show m_isO 295 304 (SH, _) = true from m_isO_of (by decide +kernel)) (Nat.le_of_ble_eq_true rfl) rfl rfl (ok_m_weekOf X (d + 71) F _ _ _ _ _ hc6) ?_
      refine m_R_sg (by decide) [(.imul, 1, 0, 0, 0, 0, 0), (.bipush 100, 2, 0, 100, 0, 0, 0)] (by decide +kernel) (show m_sgl X _ _ _ _ _ = some (76, [some (.ref 304), some (.int v1), some (.int q1.1), some (.int q2.1), some (.int q3.1), none], [.int (100 : Int32), .int (q3.1 * q6.1), .int (q5.2.1 305 (((128 : Int32) + ((12 : Int32) * q1.1)) + (2 : Int32)).toNatClampNeg), .int (((128 : Int32) + ((12 : Int32) * q1.1)) + (2 : Int32)), .ref 305], (SH, q6.2.1, q6.2.2)) from rfl) ?_
      refine m_R_1 (by decide) (m_opb_of (ins := .idiv) (len := 1) (tag := 0) (a := 0) (b := 0) (c := 0) (q := 0) (by decide +kernel)) (m_s_idiv (by decide)) ?_
      refine m_R_sg (by decide) [(.iadd, 1, 0, 0, 0, 0, 0)] (by decide +kernel) (show m_sgl X _ _ _ _ _ = some (78, [some (.ref 304), some (.int v1), some (.int q1.1), some (.int q2.1), some (.int q3.1), none], [.int ((q5.2.1 305 (((128 : Int32) + ((12 : Int32) * q1.1)) + (2 : Int32)).toNatClampNeg) + ((q3.1 * q6.1) / (100 : Int32))), .int (((128 : Int32) + ((12 : Int32) * q1.1)) + (2 : Int32)), .ref 305], (SH, q6.2.1, q6.2.2)) from rfl) ?_
      refine m_R_1 (by decide) (m_opb_of (ins := .iastore) (len := 1) (tag := 0) (a := 0) (b := 0) (c := 0) (q := 0) (by decide +kernel)) (m_s_iast sh_305 c1274) ?_
      exact ok_m_comesDue_79 X d F _ _ _ _ _ _ _ _ h
  · refine m_R_1 (by decide) (m_opb_of (ins := .if_icmp .ne 49) (len := 3) (tag := 0) (a := 79) (b := 0) (c := 0) (q := 0) (by decide +kernel)) (if_neg c1272) ?_
    exact ok_m_comesDue_79 X d F _ _ _ _ _ _ _ _ h
def f_m_asksName_114 (F : Nat)   (v1 : Int32) (m : mM) : Option (Unit × mM) := ((f_m_asksNext F v1 m).bind fun q11 => some ((), q11.2))
theorem ok_m_asksName_114 (X : mX) (d F : Nat) : ∀ (v1 : Int32) (w2 : Option Value) (w3 : Option Value) (w4 : Option Value) (m : mM) (r : Unit) (m' : mM), f_m_asksName_114 F v1 m = some (r, m') → m_R X (d + 72) 313 114 [some (.ref 304), some (.int v1), w2, w3, w4] [] (SH, m) (none, (SH, m')) := by
  intro v1 w2 w3 w4 m r m' h
  unfold f_m_asksName_114 at h
  refine m_R_sg (by decide) [(.aload_n 0, 1, 0, 0, 0, 0, 0), (.iload_n 1, 1, 0, 1, 0, 0, 0)] (by decide +kernel) (show m_sgl X _ _ _ _ _ = some (116, [some (.ref 304), some (.int v1), w2, w3, w4], [.int v1, .ref 304], (SH, m.1, m.2)) from rfl) ?_
  obtain ⟨q11, hc11, h⟩ := Option.bind_eq_some_iff.mp h
  refine m_R_cV (v := none) (h1 := (SH, q11.2)) (rest := []) (lo' := [some (.ref 304), some (.int v1), none, none]) (ml := 4) (k0 := 304) (by decide) (Or.inl rfl) (m_opb_of (ins := .invokevirtual 199) (len := 3) (tag := 5) (a := 311) (b := 1) (c := 0) (q := 2061) (by decide +kernel)) (by decide +kernel) rfl (show m_isO 311 304 (SH, _) = true from m_isO_of (by decide +kernel)) (Nat.le_of_ble_eq_true rfl) rfl rfl (ok_m_asksNext X (d + 69) F _ _ _ _ hc11) ?_
  obtain ⟨rfl, rfl⟩ := m_some h
  exact m_R_vret (by decide) (m_opb_of (ins := .return_) (len := 1) (tag := 3) (a := 0) (b := 0) (c := 0) (q := 0) (by decide +kernel))
def f_m_asksName_97 (F : Nat)   (v1 : Int32) (v3 : Int32) (v4 : Int32) (m : mM) : Option (Unit × mM) := ((f_m_isUp F v3 m).bind fun q9 => (if q9.1 = 0 then f_m_asksName_114 F v1 q9.2 else ((f_m_falls F v3 v1 v4 (1 : Int32) q9.2).bind fun q10 => f_m_asksName_114 F v1 q10.2)))
theorem ok_m_asksName_97 (X : mX) (d F : Nat) : ∀ (v1 : Int32) (v3 : Int32) (v4 : Int32) (w2 : Option Value) (m : mM) (r : Unit) (m' : mM), f_m_asksName_97 F v1 v3 v4 m = some (r, m') → m_R X (d + 72) 313 97 [some (.ref 304), some (.int v1), w2, some (.int v3), some (.int v4)] [] (SH, m) (none, (SH, m')) := by
  intro v1 v3 v4 w2 m r m' h
  unfold f_m_asksName_97 at h
  refine m_R_sg (by decide) [(.aload_n 0, 1, 0, 0, 0, 0, 0), (.iload_n 3, 1, 0, 3, 0, 0, 0)] (by decide +kernel) (show m_sgl X _ _ _ _ _ = some (99, [some (.ref 304), some (.int v1), w2, some (.int v3), some (.int v4)], [.int v3, .ref 304], (SH, m.1, m.2)) from rfl) ?_
  obtain ⟨q9, hc9, h⟩ := Option.bind_eq_some_iff.mp h
  refine m_R_cV (v := (some (.int q9.1))) (h1 := (SH, q9.2)) (rest := []) (lo' := [some (.ref 304), some (.int v3)]) (ml := 2) (k0 := 304) (by decide) (Or.inl rfl) (m_opb_of (ins := .invokevirtual 80) (len := 3) (tag := 5) (a := 211) (b := 1) (c := 0) (q := 1629) (by decide +kernel)) (by decide +kernel) rfl (show m_isO 211 304 (SH, _) = true from m_isO_of (by decide +kernel)) (Nat.le_of_ble_eq_true rfl) rfl rfl (ok_m_isUp X (d + 70) F _ _ _ _ hc9) ?_
  rcases m_ite h with ⟨c1275, h⟩ | ⟨c1275, h⟩
  · refine m_R_1 (by decide) (m_opb_of (ins := .ifCond .eq 12) (len := 3) (tag := 0) (a := 114) (b := 0) (c := 0) (q := 0) (by decide +kernel)) (if_pos c1275) ?_
    exact ok_m_asksName_114 X d F _ _ _ _ _ _ _ h
  · refine m_R_1 (by decide) (m_opb_of (ins := .ifCond .eq 12) (len := 3) (tag := 0) (a := 114) (b := 0) (c := 0) (q := 0) (by decide +kernel)) (if_neg c1275) ?_
    refine m_R_sg (by decide) [(.aload_n 0, 1, 0, 0, 0, 0, 0), (.iload_n 3, 1, 0, 3, 0, 0, 0), (.iload_n 1, 1, 0, 1, 0, 0, 0), (.iload 4, 2, 0, 4, 0, 0, 0), (.iconst 1, 1, 0, 1, 0, 0, 0)] (by decide +kernel) (show m_sgl X _ _ _ _ _ = some (111, [some (.ref 304), some (.int v1), w2, some (.int v3), some (.int v4)], [.int (1 : Int32), .int v4, .int v1, .int v3, .ref 304], (SH, q9.2.1, q9.2.2)) from rfl) ?_
    obtain ⟨q10, hc10, h⟩ := Option.bind_eq_some_iff.mp h
    refine m_R_cV (v := none) (h1 := (SH, q10.2)) (rest := []) (lo' := [some (.ref 304), some (.int v3), some (.int v1), some (.int v4), some (.int (1 : Int32)), none, none]) (ml := 7) (k0 := 304) (by decide) (Or.inl rfl) (m_opb_of (ins := .invokevirtual 189) (len := 3) (tag := 5) (a := 280) (b := 4) (c := 0) (q := 1938) (by decide +kernel)) (by decide +kernel) rfl (show m_isO 280 304 (SH, _) = true from m_isO_of (by decide +kernel)) (Nat.le_of_ble_eq_true rfl) rfl rfl (ok_m_falls X (d + 70) F _ _ _ _ _ _ _ hc10) ?_
    exact ok_m_asksName_114 X d F _ _ _ _ _ _ _ h
def f_m_asksName (F : Nat)   (v1 : Int32) (m : mM) : Option (Unit × mM) := ((f_m_nextName F v1 m).bind fun q1 => ((f_m_paper F v1 ((8 : Int32) + q1.1) q1.2).bind fun q2 => ((f_m_paper F v1 (4 : Int32) q2.2).bind fun q3 => (if (((6200 : Int32) + ((20 : Int32) * v1)) + (7 : Int32)) < 0 ∨ 9732 ≤ (((6200 : Int32) + ((20 : Int32) * v1)) + (7 : Int32)).toNatClampNeg then none else ((f_m_isUp F q2.1 ((m_up q3.2.1 305 (((6200 : Int32) + ((20 : Int32) * v1)) + (7 : Int32)).toNatClampNeg q1.1), q3.2.2)).bind fun q4 => (if q4.1 = 0 then f_m_asksName_97 F v1 q2.1 q3.1 q4.2 else ((f_m_paper F v1 (2 : Int32) q4.2).bind fun q5 => ((f_m_can F q2.1 q3.1 q5.1 q5.2).bind fun q6 => (if q6.1 = 0 then f_m_asksName_97 F v1 q2.1 q3.1 q6.2 else ((f_m_paper F v1 (2 : Int32) q6.2).bind fun q7 => ((f_m_gives F q2.1 q3.1 q7.1 q7.2).bind fun q8 => (if (((6200 : Int32) + ((20 : Int32) * v1)) + (4 : Int32)) < 0 ∨ 9732 ≤ (((6200 : Int32) + ((20 : Int32) * v1)) + (4 : Int32)).toNatClampNeg then none else f_m_asksName_114 F v1 ((m_up q8.2.1 305 (((6200 : Int32) + ((20 : Int32) * v1)) + (4 : Int32)).toNatClampNeg q2.1), q8.2.2)))))))))))))
theorem ok_m_asksName (X : mX) (d F : Nat) : ∀ (v1 : Int32)  (m : mM) (r : Unit) (m' : mM), f_m_asksName F v1 m = some (r, m') → m_R X (d + 72) 313 0 [some (.ref 304), some (.int v1), none, none, none] [] (SH, m) (none, (SH, m')) := by
  intro v1 m r m' h
  unfold f_m_asksName at h
  refine m_R_sg (by decide) [(.aload_n 0, 1, 0, 0, 0, 0, 0), (.iload_n 1, 1, 0, 1, 0, 0, 0)] (by decide +kernel) (show m_sgl X _ _ _ _ _ = some (2, [some (.ref 304), some (.int v1), none, none, none], [.int v1, .ref 304], (SH, m.1, m.2)) from rfl) ?_
  obtain ⟨q1, hc1, h⟩ := Option.bind_eq_some_iff.mp h
  refine m_R_cV (v := (some (.int q1.1))) (h1 := (SH, q1.2)) (rest := []) (lo' := [some (.ref 304), some (.int v1), none]) (ml := 3) (k0 := 304) (by decide) (Or.inl rfl) (m_opb_of (ins := .invokevirtual 196) (len := 3) (tag := 5) (a := 312) (b := 1) (c := 0) (q := 2065) (by decide +kernel)) (by decide +kernel) rfl (show m_isO 312 304 (SH, _) = true from m_isO_of (by decide +kernel)) (Nat.le_of_ble_eq_true rfl) rfl rfl (ok_m_nextName X (d + 70) F _ _ _ _ hc1) ?_
  refine m_R_sg (by decide) [(.istore_n 2, 1, 0, 2, 0, 0, 0), (.aload_n 0, 1, 0, 0, 0, 0, 0), (.iload_n 1, 1, 0, 1, 0, 0, 0), (.bipush 8, 2, 0, 8, 0, 0, 0), (.iload_n 2, 1, 0, 2, 0, 0, 0), (.iadd, 1, 0, 0, 0, 0, 0)] (by decide +kernel) (show m_sgl X _ _ _ _ _ = some (12, [some (.ref 304), some (.int v1), some (.int q1.1), none, none], [.int ((8 : Int32) + q1.1), .int v1, .ref 304], (SH, q1.2.1, q1.2.2)) from rfl) ?_
  obtain ⟨q2, hc2, h⟩ := Option.bind_eq_some_iff.mp h
  refine m_R_cV (v := (some (.int q2.1))) (h1 := (SH, q2.2)) (rest := []) (lo' := [some (.ref 304), some (.int v1), some (.int ((8 : Int32) + q1.1))]) (ml := 3) (k0 := 304) (by decide) (Or.inl rfl) (m_opb_of (ins := .invokevirtual 160) (len := 3) (tag := 5) (a := 246) (b := 2) (c := 0) (q := 1791) (by decide +kernel)) (by decide +kernel) rfl (show m_isO 246 304 (SH, _) = true from m_isO_of (by decide +kernel)) (Nat.le_of_ble_eq_true rfl) rfl rfl (ok_m_paper X (d + 71) F _ _ _ _ _ hc2) ?_
  refine m_R_sg (by decide) [(.istore_n 3, 1, 0, 3, 0, 0, 0), (.aload_n 0, 1, 0, 0, 0, 0, 0), (.iload_n 1, 1, 0, 1, 0, 0, 0), (.iconst 4, 1, 0, 4, 0, 0, 0)] (by decide +kernel) (show m_sgl X _ _ _ _ _ = some (19, [some (.ref 304), some (.int v1), some (.int q1.1), some (.int q2.1), none], [.int (4 : Int32), .int v1, .ref 304], (SH, q2.2.1, q2.2.2)) from rfl) ?_
  obtain ⟨q3, hc3, h⟩ := Option.bind_eq_some_iff.mp h
  refine m_R_cV (v := (some (.int q3.1))) (h1 := (SH, q3.2)) (rest := []) (lo' := [some (.ref 304), some (.int v1), some (.int (4 : Int32))]) (ml := 3) (k0 := 304) (by decide) (Or.inl rfl) (m_opb_of (ins := .invokevirtual 160) (len := 3) (tag := 5) (a := 246) (b := 2) (c := 0) (q := 1791) (by decide +kernel)) (by decide +kernel) rfl (show m_isO 246 304 (SH, _) = true from m_isO_of (by decide +kernel)) (Nat.le_of_ble_eq_true rfl) rfl rfl (ok_m_paper X (d + 71) F _ _ _ _ _ hc3) ?_
  refine m_R_sg (by decide) [(.istore 4, 2, 0, 4, 0, 0, 0), (.aload_n 0, 1, 0, 0, 0, 0, 0), (.getfield 13, 3, 0, 12, 1, 3, 1493), (.sipush 6200, 3, 0, 6200, 0, 0, 0), (.bipush 20, 2, 0, 20, 0, 0, 0), (.iload_n 1, 1, 0, 1, 0, 0, 0), (.imul, 1, 0, 0, 0, 0, 0), (.iadd, 1, 0, 0, 0, 0, 0), (.bipush 7, 2, 0, 7, 0, 0, 0), (.iadd, 1, 0, 0, 0, 0, 0), (.iload_n 2, 1, 0, 2, 0, 0, 0)] (by decide +kernel) (show m_sgl X _ _ _ _ _ = some (40, [some (.ref 304), some (.int v1), some (.int q1.1), some (.int q2.1), some (.int q3.1)], [.int q1.1, .int (((6200 : Int32) + ((20 : Int32) * v1)) + (7 : Int32)), .ref 305], (SH, q3.2.1, q3.2.2)) from rfl) ?_
  obtain ⟨c1276, h⟩ := m_ite_n h
  refine m_R_1 (by decide) (m_opb_of (ins := .iastore) (len := 1) (tag := 0) (a := 0) (b := 0) (c := 0) (q := 0) (by decide +kernel)) (m_s_iast sh_305 c1276) ?_
  refine m_R_sg (by decide) [(.aload_n 0, 1, 0, 0, 0, 0, 0), (.iload_n 3, 1, 0, 3, 0, 0, 0)] (by decide +kernel) (show m_sgl X _ _ _ _ _ = some (43, [some (.ref 304), some (.int v1), some (.int q1.1), some (.int q2.1), some (.int q3.1)], [.int q2.1, .ref 304], (SH, (m_up q3.2.1 305 (((6200 : Int32) + ((20 : Int32) * v1)) + (7 : Int32)).toNatClampNeg q1.1), q3.2.2)) from rfl) ?_
  obtain ⟨q4, hc4, h⟩ := Option.bind_eq_some_iff.mp h
  refine m_R_cV (v := (some (.int q4.1))) (h1 := (SH, q4.2)) (rest := []) (lo' := [some (.ref 304), some (.int q2.1)]) (ml := 2) (k0 := 304) (by decide) (Or.inl rfl) (m_opb_of (ins := .invokevirtual 80) (len := 3) (tag := 5) (a := 211) (b := 1) (c := 0) (q := 1629) (by decide +kernel)) (by decide +kernel) rfl (show m_isO 211 304 (SH, _) = true from m_isO_of (by decide +kernel)) (Nat.le_of_ble_eq_true rfl) rfl rfl (ok_m_isUp X (d + 70) F _ _ _ _ hc4) ?_
  rcases m_ite h with ⟨c1277, h⟩ | ⟨c1277, h⟩
  · refine m_R_1 (by decide) (m_opb_of (ins := .ifCond .eq 51) (len := 3) (tag := 0) (a := 97) (b := 0) (c := 0) (q := 0) (by decide +kernel)) (if_pos c1277) ?_
    exact ok_m_asksName_97 X d F _ _ _ _ _ _ _ h
  · refine m_R_1 (by decide) (m_opb_of (ins := .ifCond .eq 51) (len := 3) (tag := 0) (a := 97) (b := 0) (c := 0) (q := 0) (by decide +kernel)) (if_neg c1277) ?_
    refine m_R_sg (by decide) [(.aload_n 0, 1, 0, 0, 0, 0, 0), (.iload_n 3, 1, 0, 3, 0, 0, 0), (.iload 4, 2, 0, 4, 0, 0, 0), (.aload_n 0, 1, 0, 0, 0, 0, 0), (.iload_n 1, 1, 0, 1, 0, 0, 0), (.iconst 2, 1, 0, 2, 0, 0, 0)] (by decide +kernel) (show m_sgl X _ _ _ _ _ = some (56, [some (.ref 304), some (.int v1), some (.int q1.1), some (.int q2.1), some (.int q3.1)], [.int (2 : Int32), .int v1, .ref 304, .int q3.1, .int q2.1, .ref 304], (SH, q4.2.1, q4.2.2)) from rfl) ?_
    obtain ⟨q5, hc5, h⟩ := Option.bind_eq_some_iff.mp h
    refine m_R_cV (v := (some (.int q5.1))) (h1 := (SH, q5.2)) (rest := [.int q3.1, .int q2.1, .ref 304]) (lo' := [some (.ref 304), some (.int v1), some (.int (2 : Int32))]) (ml := 3) (k0 := 304) (by decide) (Or.inl rfl) (m_opb_of (ins := .invokevirtual 160) (len := 3) (tag := 5) (a := 246) (b := 2) (c := 0) (q := 1791) (by decide +kernel)) (by decide +kernel) rfl (show m_isO 246 304 (SH, _) = true from m_isO_of (by decide +kernel)) (Nat.le_of_ble_eq_true rfl) rfl rfl (ok_m_paper X (d + 71) F _ _ _ _ _ hc5) ?_
    obtain ⟨q6, hc6, h⟩ := Option.bind_eq_some_iff.mp h
    refine m_R_cV (v := (some (.int q6.1))) (h1 := (SH, q6.2)) (rest := []) (lo' := [some (.ref 304), some (.int q2.1), some (.int q3.1), some (.int q5.1), none, none, none]) (ml := 7) (k0 := 304) (by decide) (Or.inl rfl) (m_opb_of (ins := .invokevirtual 144) (len := 3) (tag := 5) (a := 221) (b := 3) (c := 0) (q := 1669) (by decide +kernel)) (by decide +kernel) rfl (show m_isO 221 304 (SH, _) = true from m_isO_of (by decide +kernel)) (Nat.le_of_ble_eq_true rfl) rfl rfl (ok_m_can X (d + 0) F _ _ _ _ _ _ hc6) ?_
    rcases m_ite h with ⟨c1278, h⟩ | ⟨c1278, h⟩
    · refine m_R_1 (by decide) (m_opb_of (ins := .ifCond .eq 35) (len := 3) (tag := 0) (a := 97) (b := 0) (c := 0) (q := 0) (by decide +kernel)) (if_pos c1278) ?_
      exact ok_m_asksName_97 X d F _ _ _ _ _ _ _ h
    · refine m_R_1 (by decide) (m_opb_of (ins := .ifCond .eq 35) (len := 3) (tag := 0) (a := 97) (b := 0) (c := 0) (q := 0) (by decide +kernel)) (if_neg c1278) ?_
      refine m_R_sg (by decide) [(.aload_n 0, 1, 0, 0, 0, 0, 0), (.iload_n 3, 1, 0, 3, 0, 0, 0), (.iload 4, 2, 0, 4, 0, 0, 0), (.aload_n 0, 1, 0, 0, 0, 0, 0), (.iload_n 1, 1, 0, 1, 0, 0, 0), (.iconst 2, 1, 0, 2, 0, 0, 0)] (by decide +kernel) (show m_sgl X _ _ _ _ _ = some (72, [some (.ref 304), some (.int v1), some (.int q1.1), some (.int q2.1), some (.int q3.1)], [.int (2 : Int32), .int v1, .ref 304, .int q3.1, .int q2.1, .ref 304], (SH, q6.2.1, q6.2.2)) from rfl) ?_
      obtain ⟨q7, hc7, h⟩ := Option.bind_eq_some_iff.mp h
      refine m_R_cV (v := (some (.int q7.1))) (h1 := (SH, q7.2)) (rest := [.int q3.1, .int q2.1, .ref 304]) (lo' := [some (.ref 304), some (.int v1), some (.int (2 : Int32))]) (ml := 3) (k0 := 304) (by decide) (Or.inl rfl) (m_opb_of (ins := .invokevirtual 160) (len := 3) (tag := 5) (a := 246) (b := 2) (c := 0) (q := 1791) (by decide +kernel)) (by decide +kernel) rfl (show m_isO 246 304 (SH, _) = true from m_isO_of (by decide +kernel)) (Nat.le_of_ble_eq_true rfl) rfl rfl (ok_m_paper X (d + 71) F _ _ _ _ _ hc7) ?_
      obtain ⟨q8, hc8, h⟩ := Option.bind_eq_some_iff.mp h
      refine m_R_cV (v := none) (h1 := (SH, q8.2)) (rest := []) (lo' := [some (.ref 304), some (.int q2.1), some (.int q3.1), some (.int q7.1), none, none, none]) (ml := 7) (k0 := 304) (by decide) (Or.inl rfl) (m_opb_of (ins := .invokevirtual 147) (len := 3) (tag := 5) (a := 249) (b := 3) (c := 0) (q := 1814) (by decide +kernel)) (by decide +kernel) rfl (show m_isO 249 304 (SH, _) = true from m_isO_of (by decide +kernel)) (Nat.le_of_ble_eq_true rfl) rfl rfl (ok_m_gives X (d + 68) F _ _ _ _ _ _ hc8) ?_
      refine m_R_sg (by decide) [(.aload_n 0, 1, 0, 0, 0, 0, 0), (.getfield 13, 3, 0, 12, 1, 3, 1493), (.sipush 6200, 3, 0, 6200, 0, 0, 0), (.bipush 20, 2, 0, 20, 0, 0, 0), (.iload_n 1, 1, 0, 1, 0, 0, 0), (.imul, 1, 0, 0, 0, 0, 0), (.iadd, 1, 0, 0, 0, 0, 0), (.iconst 4, 1, 0, 4, 0, 0, 0), (.iadd, 1, 0, 0, 0, 0, 0), (.iload_n 3, 1, 0, 3, 0, 0, 0)] (by decide +kernel) (show m_sgl X _ _ _ _ _ = some (93, [some (.ref 304), some (.int v1), some (.int q1.1), some (.int q2.1), some (.int q3.1)], [.int q2.1, .int (((6200 : Int32) + ((20 : Int32) * v1)) + (4 : Int32)), .ref 305], (SH, q8.2.1, q8.2.2)) from rfl) ?_
      obtain ⟨c1279, h⟩ := m_ite_n h
      refine m_R_1 (by decide) (m_opb_of (ins := .iastore) (len := 1) (tag := 0) (a := 0) (b := 0) (c := 0) (q := 0) (by decide +kernel)) (m_s_iast sh_305 c1279) ?_
      refine m_R_sg (by decide) [(.goto 20, 3, 0, 114, 0, 0, 0)] (by decide +kernel) (show m_sgl X _ _ _ _ _ = some (114, [some (.ref 304), some (.int v1), some (.int q1.1), some (.int q2.1), some (.int q3.1)], [], (SH, (m_up q8.2.1 305 (((6200 : Int32) + ((20 : Int32) * v1)) + (4 : Int32)).toNatClampNeg q2.1), q8.2.2)) from rfl) ?_
      exact ok_m_asksName_114 X d F _ _ _ _ _ _ _ h
def f_m_offered_83 (F : Nat)  (k4 : Int32 → Int32 → Int32 → mM → Option (Int32 × mM)) (v1 : Int32) (v2 : Int32) (v3 : Int32) (m : mM) : Option (Int32 × mM) := k4 v1 v2 (v3 + (1 : Int32)) m
theorem ok_m_offered_83 (X : mX) (d F : Nat) (k4 : Int32 → Int32 → Int32 → mM → Option (Int32 × mM)) (hk4 : ∀ (v1 : Int32) (v2 : Int32) (v3 : Int32) (m : mM) (r : Int32) (m' : mM), k4 v1 v2 v3 m = some (r, m') → m_R X (d + 2) 315 4 [some (.ref 304), some (.int v1), some (.int v2), some (.int v3)] [] (SH, m) (some (.int r), (SH, m'))) : ∀ (v1 : Int32) (v2 : Int32) (v3 : Int32)  (m : mM) (r : Int32) (m' : mM), f_m_offered_83 F k4 v1 v2 v3 m = some (r, m') → m_R X (d + 2) 315 83 [some (.ref 304), some (.int v1), some (.int v2), some (.int v3)] [] (SH, m) (some (.int r), (SH, m')) := by
  intro v1 v2 v3 m r m' h
  unfold f_m_offered_83 at h
  refine m_R_sg (by decide) [(.iinc 3 1, 3, 0, 3, 1, 0, 0), (.goto (-82), 3, 0, 4, 0, 0, 0)] (by decide +kernel) (show m_sgl X _ _ _ _ _ = some (4, [some (.ref 304), some (.int v1), some (.int v2), some (.int (v3 + (1 : Int32)))], [], (SH, m.1, m.2)) from rfl) ?_
  exact hk4 _ _ _ _ _ _ h
def f_m_offered_81 (F : Nat)  (k4 : Int32 → Int32 → Int32 → mM → Option (Int32 × mM)) (v1 : Int32) (v3 : Int32) (m : mM) : Option (Int32 × mM) := f_m_offered_83 F k4 v1 v3 v3 m
theorem ok_m_offered_81 (X : mX) (d F : Nat) (k4 : Int32 → Int32 → Int32 → mM → Option (Int32 × mM)) (hk4 : ∀ (v1 : Int32) (v2 : Int32) (v3 : Int32) (m : mM) (r : Int32) (m' : mM), k4 v1 v2 v3 m = some (r, m') → m_R X (d + 2) 315 4 [some (.ref 304), some (.int v1), some (.int v2), some (.int v3)] [] (SH, m) (some (.int r), (SH, m'))) : ∀ (v1 : Int32) (v3 : Int32) (w2 : Option Value) (m : mM) (r : Int32) (m' : mM), f_m_offered_81 F k4 v1 v3 m = some (r, m') → m_R X (d + 2) 315 81 [some (.ref 304), some (.int v1), w2, some (.int v3)] [] (SH, m) (some (.int r), (SH, m')) := by
  intro v1 v3 w2 m r m' h
  unfold f_m_offered_81 at h
  refine m_R_sg (by decide) [(.iload_n 3, 1, 0, 3, 0, 0, 0), (.istore_n 2, 1, 0, 2, 0, 0, 0)] (by decide +kernel) (show m_sgl X _ _ _ _ _ = some (83, [some (.ref 304), some (.int v1), some (.int v3), some (.int v3)], [], (SH, m.1, m.2)) from rfl) ?_
  exact ok_m_offered_83 X d F _ hk4 _ _ _ _ _ _ h
def f_m_offered_4 (F : Nat)   : Nat → Int32 → Int32 → Int32 → mM → Option (Int32 × mM)
  | 0, _, _, _, _ => none
  | n + 1, v1, v2, v3, m => (if (60 : Int32) ≤ v3 then some (v2, m) else ((f_m_paper F v3 (0 : Int32) m).bind fun q1 => (if q1.1 = 0 then f_m_offered_83 F (f_m_offered_4 F n) v1 v2 v3 q1.2 else ((f_m_paper F v3 (1 : Int32) q1.2).bind fun q2 => (if q2.1 = (1 : Int32) then ((f_m_paper F v3 (4 : Int32) q2.2).bind fun q3 => (if q3.1 = v1 then ((f_m_maySell F v3 q3.2).bind fun q4 => (if q4.1 = 0 then f_m_offered_83 F (f_m_offered_4 F n) v1 v2 v3 q4.2 else ((f_m_paper F v3 (19 : Int32) q4.2).bind fun q5 => (if q5.1 = (1 : Int32) then f_m_offered_83 F (f_m_offered_4 F n) v1 v2 v3 q5.2 else (if v2 = (-1 : Int32) then f_m_offered_81 F (f_m_offered_4 F n) v1 v3 q5.2 else ((f_m_paper F v3 (5 : Int32) q5.2).bind fun q6 => ((f_m_paper F v2 (5 : Int32) q6.2).bind fun q7 => (if q7.1 ≤ q6.1 then f_m_offered_83 F (f_m_offered_4 F n) v1 v2 v3 q7.2 else f_m_offered_81 F (f_m_offered_4 F n) v1 v3 q7.2)))))))) else f_m_offered_83 F (f_m_offered_4 F n) v1 v2 v3 q3.2)) else f_m_offered_83 F (f_m_offered_4 F n) v1 v2 v3 q2.2)))))
theorem ok_m_offered_4 (X : mX) (d F : Nat) : ∀ (n : Nat) (v1 : Int32) (v2 : Int32) (v3 : Int32)  (m : mM) (r : Int32) (m' : mM), f_m_offered_4 F n v1 v2 v3 m = some (r, m') → m_R X (d + 2) 315 4 [some (.ref 304), some (.int v1), some (.int v2), some (.int v3)] [] (SH, m) (some (.int r), (SH, m')) := by
  intro n
  induction n with
  | zero => intro v1 v2 v3 m r m' h; cases h
  | succ n ih =>
    intro v1 v2 v3 m r m' h
    simp only [f_m_offered_4] at h
    refine m_R_sg (by decide) [(.iload_n 3, 1, 0, 3, 0, 0, 0), (.bipush 60, 2, 0, 60, 0, 0, 0)] (by decide +kernel) (show m_sgl X _ _ _ _ _ = some (7, [some (.ref 304), some (.int v1), some (.int v2), some (.int v3)], [.int (60 : Int32), .int v3], (SH, m.1, m.2)) from rfl) ?_
    rcases m_ite h with ⟨c1280, h⟩ | ⟨c1280, h⟩
    · refine m_R_1 (by decide) (m_opb_of (ins := .if_icmp .ge 82) (len := 3) (tag := 0) (a := 89) (b := 0) (c := 0) (q := 0) (by decide +kernel)) (if_pos c1280) ?_
      refine m_R_sg (by decide) [(.iload_n 2, 1, 0, 2, 0, 0, 0)] (by decide +kernel) (show m_sgl X _ _ _ _ _ = some (90, [some (.ref 304), some (.int v1), some (.int v2), some (.int v3)], [.int v2], (SH, m.1, m.2)) from rfl) ?_
      obtain ⟨rfl, rfl⟩ := m_some h
      exact m_R_iret (by decide) (m_opb_of (ins := .ireturn) (len := 1) (tag := 1) (a := 0) (b := 0) (c := 0) (q := 0) (by decide +kernel)) (Or.inl rfl)
    · refine m_R_1 (by decide) (m_opb_of (ins := .if_icmp .ge 82) (len := 3) (tag := 0) (a := 89) (b := 0) (c := 0) (q := 0) (by decide +kernel)) (if_neg c1280) ?_
      refine m_R_sg (by decide) [(.aload_n 0, 1, 0, 0, 0, 0, 0), (.iload_n 3, 1, 0, 3, 0, 0, 0), (.iconst 0, 1, 0, 0, 0, 0, 0)] (by decide +kernel) (show m_sgl X _ _ _ _ _ = some (13, [some (.ref 304), some (.int v1), some (.int v2), some (.int v3)], [.int (0 : Int32), .int v3, .ref 304], (SH, m.1, m.2)) from rfl) ?_
      obtain ⟨q1, hc1, h⟩ := Option.bind_eq_some_iff.mp h
      refine m_R_cV (v := (some (.int q1.1))) (h1 := (SH, q1.2)) (rest := []) (lo' := [some (.ref 304), some (.int v3), some (.int (0 : Int32))]) (ml := 3) (k0 := 304) (by decide) (Or.inl rfl) (m_opb_of (ins := .invokevirtual 160) (len := 3) (tag := 5) (a := 246) (b := 2) (c := 0) (q := 1791) (by decide +kernel)) (by decide +kernel) rfl (show m_isO 246 304 (SH, _) = true from m_isO_of (by decide +kernel)) (Nat.le_of_ble_eq_true rfl) rfl rfl (ok_m_paper X (d + 1) F _ _ _ _ _ hc1) ?_
      rcases m_ite h with ⟨c1281, h⟩ | ⟨c1281, h⟩
      · refine m_R_1 (by decide) (m_opb_of (ins := .ifCond .eq 67) (len := 3) (tag := 0) (a := 83) (b := 0) (c := 0) (q := 0) (by decide +kernel)) (if_pos c1281) ?_
        exact ok_m_offered_83 X d F _ (fun a0 a1 a2 m r m' h => ih a0 a1 a2 m r m' h) _ _ _ _ _ _ h
      · refine m_R_1 (by decide) (m_opb_of (ins := .ifCond .eq 67) (len := 3) (tag := 0) (a := 83) (b := 0) (c := 0) (q := 0) (by decide +kernel)) (if_neg c1281) ?_
        refine m_R_sg (by decide) [(.aload_n 0, 1, 0, 0, 0, 0, 0), (.iload_n 3, 1, 0, 3, 0, 0, 0), (.iconst 1, 1, 0, 1, 0, 0, 0)] (by decide +kernel) (show m_sgl X _ _ _ _ _ = some (22, [some (.ref 304), some (.int v1), some (.int v2), some (.int v3)], [.int (1 : Int32), .int v3, .ref 304], (SH, q1.2.1, q1.2.2)) from rfl) ?_
        obtain ⟨q2, hc2, h⟩ := Option.bind_eq_some_iff.mp h
        refine m_R_cV (v := (some (.int q2.1))) (h1 := (SH, q2.2)) (rest := []) (lo' := [some (.ref 304), some (.int v3), some (.int (1 : Int32))]) (ml := 3) (k0 := 304) (by decide) (Or.inl rfl) (m_opb_of (ins := .invokevirtual 160) (len := 3) (tag := 5) (a := 246) (b := 2) (c := 0) (q := 1791) (by decide +kernel)) (by decide +kernel) rfl (show m_isO 246 304 (SH, _) = true from m_isO_of (by decide +kernel)) (Nat.le_of_ble_eq_true rfl) rfl rfl (ok_m_paper X (d + 1) F _ _ _ _ _ hc2) ?_
        refine m_R_sg (by decide) [(.iconst 1, 1, 0, 1, 0, 0, 0)] (by decide +kernel) (show m_sgl X _ _ _ _ _ = some (26, [some (.ref 304), some (.int v1), some (.int v2), some (.int v3)], [.int (1 : Int32), .int q2.1], (SH, q2.2.1, q2.2.2)) from rfl) ?_
        rcases m_ite h with ⟨c1282, h⟩ | ⟨c1282, h⟩
        · refine m_R_1 (by decide) (m_opb_of (ins := .if_icmp .ne 57) (len := 3) (tag := 0) (a := 83) (b := 0) (c := 0) (q := 0) (by decide +kernel)) (if_pos c1282) ?_
          refine m_R_sg (by decide) [(.aload_n 0, 1, 0, 0, 0, 0, 0), (.iload_n 3, 1, 0, 3, 0, 0, 0), (.iconst 4, 1, 0, 4, 0, 0, 0)] (by decide +kernel) (show m_sgl X _ _ _ _ _ = some (32, [some (.ref 304), some (.int v1), some (.int v2), some (.int v3)], [.int (4 : Int32), .int v3, .ref 304], (SH, q2.2.1, q2.2.2)) from rfl) ?_
          obtain ⟨q3, hc3, h⟩ := Option.bind_eq_some_iff.mp h
          refine m_R_cV (v := (some (.int q3.1))) (h1 := (SH, q3.2)) (rest := []) (lo' := [some (.ref 304), some (.int v3), some (.int (4 : Int32))]) (ml := 3) (k0 := 304) (by decide) (Or.inl rfl) (m_opb_of (ins := .invokevirtual 160) (len := 3) (tag := 5) (a := 246) (b := 2) (c := 0) (q := 1791) (by decide +kernel)) (by decide +kernel) rfl (show m_isO 246 304 (SH, _) = true from m_isO_of (by decide +kernel)) (Nat.le_of_ble_eq_true rfl) rfl rfl (ok_m_paper X (d + 1) F _ _ _ _ _ hc3) ?_
          refine m_R_sg (by decide) [(.iload_n 1, 1, 0, 1, 0, 0, 0)] (by decide +kernel) (show m_sgl X _ _ _ _ _ = some (36, [some (.ref 304), some (.int v1), some (.int v2), some (.int v3)], [.int v1, .int q3.1], (SH, q3.2.1, q3.2.2)) from rfl) ?_
          rcases m_ite h with ⟨c1283, h⟩ | ⟨c1283, h⟩
          · refine m_R_1 (by decide) (m_opb_of (ins := .if_icmp .ne 47) (len := 3) (tag := 0) (a := 83) (b := 0) (c := 0) (q := 0) (by decide +kernel)) (if_pos c1283) ?_
            refine m_R_sg (by decide) [(.aload_n 0, 1, 0, 0, 0, 0, 0), (.iload_n 3, 1, 0, 3, 0, 0, 0)] (by decide +kernel) (show m_sgl X _ _ _ _ _ = some (41, [some (.ref 304), some (.int v1), some (.int v2), some (.int v3)], [.int v3, .ref 304], (SH, q3.2.1, q3.2.2)) from rfl) ?_
            obtain ⟨q4, hc4, h⟩ := Option.bind_eq_some_iff.mp h
            refine m_R_cV (v := (some (.int q4.1))) (h1 := (SH, q4.2)) (rest := []) (lo' := [some (.ref 304), some (.int v3)]) (ml := 2) (k0 := 304) (by decide) (Or.inl rfl) (m_opb_of (ins := .invokevirtual 183) (len := 3) (tag := 5) (a := 275) (b := 1) (c := 0) (q := 1918) (by decide +kernel)) (by decide +kernel) rfl (show m_isO 275 304 (SH, _) = true from m_isO_of (by decide +kernel)) (Nat.le_of_ble_eq_true rfl) rfl rfl (ok_m_maySell X (d + 0) F _ _ _ _ hc4) ?_
            rcases m_ite h with ⟨c1284, h⟩ | ⟨c1284, h⟩
            · refine m_R_1 (by decide) (m_opb_of (ins := .ifCond .eq 39) (len := 3) (tag := 0) (a := 83) (b := 0) (c := 0) (q := 0) (by decide +kernel)) (if_pos c1284) ?_
              exact ok_m_offered_83 X d F _ (fun a0 a1 a2 m r m' h => ih a0 a1 a2 m r m' h) _ _ _ _ _ _ h
            · refine m_R_1 (by decide) (m_opb_of (ins := .ifCond .eq 39) (len := 3) (tag := 0) (a := 83) (b := 0) (c := 0) (q := 0) (by decide +kernel)) (if_neg c1284) ?_
              refine m_R_sg (by decide) [(.aload_n 0, 1, 0, 0, 0, 0, 0), (.iload_n 3, 1, 0, 3, 0, 0, 0), (.bipush 19, 2, 0, 19, 0, 0, 0)] (by decide +kernel) (show m_sgl X _ _ _ _ _ = some (51, [some (.ref 304), some (.int v1), some (.int v2), some (.int v3)], [.int (19 : Int32), .int v3, .ref 304], (SH, q4.2.1, q4.2.2)) from rfl) ?_
              obtain ⟨q5, hc5, h⟩ := Option.bind_eq_some_iff.mp h
              refine m_R_cV (v := (some (.int q5.1))) (h1 := (SH, q5.2)) (rest := []) (lo' := [some (.ref 304), some (.int v3), some (.int (19 : Int32))]) (ml := 3) (k0 := 304) (by decide) (Or.inl rfl) (m_opb_of (ins := .invokevirtual 160) (len := 3) (tag := 5) (a := 246) (b := 2) (c := 0) (q := 1791) (by decide +kernel)) (by decide +kernel) rfl (show m_isO 246 304 (SH, _) = true from m_isO_of (by decide +kernel)) (Nat.le_of_ble_eq_true rfl) rfl rfl (ok_m_paper X (d + 1) F _ _ _ _ _ hc5) ?_
              refine m_R_sg (by decide) [(.iconst 1, 1, 0, 1, 0, 0, 0)] (by decide +kernel) (show m_sgl X _ _ _ _ _ = some (55, [some (.ref 304), some (.int v1), some (.int v2), some (.int v3)], [.int (1 : Int32), .int q5.1], (SH, q5.2.1, q5.2.2)) from rfl) ?_
              rcases m_ite h with ⟨c1285, h⟩ | ⟨c1285, h⟩
              · refine m_R_1 (by decide) (m_opb_of (ins := .if_icmp .ne 6) (len := 3) (tag := 0) (a := 61) (b := 0) (c := 0) (q := 0) (by decide +kernel)) (if_pos c1285) ?_
                refine m_R_sg (by decide) [(.goto 25, 3, 0, 83, 0, 0, 0)] (by decide +kernel) (show m_sgl X _ _ _ _ _ = some (83, [some (.ref 304), some (.int v1), some (.int v2), some (.int v3)], [], (SH, q5.2.1, q5.2.2)) from rfl) ?_
                exact ok_m_offered_83 X d F _ (fun a0 a1 a2 m r m' h => ih a0 a1 a2 m r m' h) _ _ _ _ _ _ h
              · refine m_R_1 (by decide) (m_opb_of (ins := .if_icmp .ne 6) (len := 3) (tag := 0) (a := 61) (b := 0) (c := 0) (q := 0) (by decide +kernel)) (if_neg c1285) ?_
                refine m_R_sg (by decide) [(.iload_n 2, 1, 0, 2, 0, 0, 0), (.iconst (-1), 1, 0, 1, 1, 0, 0)] (by decide +kernel) (show m_sgl X _ _ _ _ _ = some (63, [some (.ref 304), some (.int v1), some (.int v2), some (.int v3)], [.int (-1 : Int32), .int v2], (SH, q5.2.1, q5.2.2)) from rfl) ?_
                rcases m_ite h with ⟨c1286, h⟩ | ⟨c1286, h⟩
                · refine m_R_1 (by decide) (m_opb_of (ins := .if_icmp .eq 18) (len := 3) (tag := 0) (a := 81) (b := 0) (c := 0) (q := 0) (by decide +kernel)) (if_pos c1286) ?_
                  exact ok_m_offered_81 X d F _ (fun a0 a1 a2 m r m' h => ih a0 a1 a2 m r m' h) _ _ _ _ _ _ h
                · refine m_R_1 (by decide) (m_opb_of (ins := .if_icmp .eq 18) (len := 3) (tag := 0) (a := 81) (b := 0) (c := 0) (q := 0) (by decide +kernel)) (if_neg c1286) ?_
                  refine m_R_sg (by decide) [(.aload_n 0, 1, 0, 0, 0, 0, 0), (.iload_n 3, 1, 0, 3, 0, 0, 0), (.iconst 5, 1, 0, 5, 0, 0, 0)] (by decide +kernel) (show m_sgl X _ _ _ _ _ = some (69, [some (.ref 304), some (.int v1), some (.int v2), some (.int v3)], [.int (5 : Int32), .int v3, .ref 304], (SH, q5.2.1, q5.2.2)) from rfl) ?_
                  obtain ⟨q6, hc6, h⟩ := Option.bind_eq_some_iff.mp h
                  refine m_R_cV (v := (some (.int q6.1))) (h1 := (SH, q6.2)) (rest := []) (lo' := [some (.ref 304), some (.int v3), some (.int (5 : Int32))]) (ml := 3) (k0 := 304) (by decide) (Or.inl rfl) (m_opb_of (ins := .invokevirtual 160) (len := 3) (tag := 5) (a := 246) (b := 2) (c := 0) (q := 1791) (by decide +kernel)) (by decide +kernel) rfl (show m_isO 246 304 (SH, _) = true from m_isO_of (by decide +kernel)) (Nat.le_of_ble_eq_true rfl) rfl rfl (ok_m_paper X (d + 1) F _ _ _ _ _ hc6) ?_
                  refine m_R_sg (by decide) [(.aload_n 0, 1, 0, 0, 0, 0, 0), (.iload_n 2, 1, 0, 2, 0, 0, 0), (.iconst 5, 1, 0, 5, 0, 0, 0)] (by decide +kernel) (show m_sgl X _ _ _ _ _ = some (75, [some (.ref 304), some (.int v1), some (.int v2), some (.int v3)], [.int (5 : Int32), .int v2, .ref 304, .int q6.1], (SH, q6.2.1, q6.2.2)) from rfl) ?_
                  obtain ⟨q7, hc7, h⟩ := Option.bind_eq_some_iff.mp h
                  refine m_R_cV (v := (some (.int q7.1))) (h1 := (SH, q7.2)) (rest := [.int q6.1]) (lo' := [some (.ref 304), some (.int v2), some (.int (5 : Int32))]) (ml := 3) (k0 := 304) (by decide) (Or.inl rfl) (m_opb_of (ins := .invokevirtual 160) (len := 3) (tag := 5) (a := 246) (b := 2) (c := 0) (q := 1791) (by decide +kernel)) (by decide +kernel) rfl (show m_isO 246 304 (SH, _) = true from m_isO_of (by decide +kernel)) (Nat.le_of_ble_eq_true rfl) rfl rfl (ok_m_paper X (d + 1) F _ _ _ _ _ hc7) ?_
                  rcases m_ite h with ⟨c1287, h⟩ | ⟨c1287, h⟩
                  · refine m_R_1 (by decide) (m_opb_of (ins := .if_icmp .ge 5) (len := 3) (tag := 0) (a := 83) (b := 0) (c := 0) (q := 0) (by decide +kernel)) (if_pos c1287) ?_
                    exact ok_m_offered_83 X d F _ (fun a0 a1 a2 m r m' h => ih a0 a1 a2 m r m' h) _ _ _ _ _ _ h
                  · refine m_R_1 (by decide) (m_opb_of (ins := .if_icmp .ge 5) (len := 3) (tag := 0) (a := 83) (b := 0) (c := 0) (q := 0) (by decide +kernel)) (if_neg c1287) ?_
                    exact ok_m_offered_81 X d F _ (fun a0 a1 a2 m r m' h => ih a0 a1 a2 m r m' h) _ _ _ _ _ _ h
          · refine m_R_1 (by decide) (m_opb_of (ins := .if_icmp .ne 47) (len := 3) (tag := 0) (a := 83) (b := 0) (c := 0) (q := 0) (by decide +kernel)) (if_neg c1283) ?_
            exact ok_m_offered_83 X d F _ (fun a0 a1 a2 m r m' h => ih a0 a1 a2 m r m' h) _ _ _ _ _ _ h
        · refine m_R_1 (by decide) (m_opb_of (ins := .if_icmp .ne 57) (len := 3) (tag := 0) (a := 83) (b := 0) (c := 0) (q := 0) (by decide +kernel)) (if_neg c1282) ?_
          exact ok_m_offered_83 X d F _ (fun a0 a1 a2 m r m' h => ih a0 a1 a2 m r m' h) _ _ _ _ _ _ h
def f_m_offered (F : Nat)   (v1 : Int32) (m : mM) : Option (Int32 × mM) := f_m_offered_4 F F v1 (-1 : Int32) (0 : Int32) m
theorem ok_m_offered (X : mX) (d F : Nat) : ∀ (v1 : Int32)  (m : mM) (r : Int32) (m' : mM), f_m_offered F v1 m = some (r, m') → m_R X (d + 2) 315 0 [some (.ref 304), some (.int v1), none, none] [] (SH, m) (some (.int r), (SH, m')) := by
  intro v1 m r m' h
  unfold f_m_offered at h
  refine m_R_sg (by decide) [(.iconst (-1), 1, 0, 1, 1, 0, 0), (.istore_n 2, 1, 0, 2, 0, 0, 0), (.iconst 0, 1, 0, 0, 0, 0, 0), (.istore_n 3, 1, 0, 3, 0, 0, 0)] (by decide +kernel) (show m_sgl X _ _ _ _ _ = some (4, [some (.ref 304), some (.int v1), some (.int (-1 : Int32)), some (.int (0 : Int32))], [], (SH, m.1, m.2)) from rfl) ?_
  exact ok_m_offered_4 X d F F _ _ _ _ _ _ h
def f_m_sells_75 (F : Nat)  (k22 : Int32 → Int32 → mM → Option (Unit × mM)) (v1 : Int32) (s0 : Int32) (m : mM) : Option (Unit × mM) := k22 v1 s0 m
theorem ok_m_sells_75 (X : mX) (d F : Nat) (k22 : Int32 → Int32 → mM → Option (Unit × mM)) (hk22 : ∀ (v1 : Int32) (v2 : Int32) (m : mM) (r : Unit) (m' : mM), k22 v1 v2 m = some (r, m') → m_R X (d + 73) 314 22 [some (.ref 304), some (.int v1), some (.int v2)] [] (SH, m) (none, (SH, m'))) : ∀ (v1 : Int32) (s0 : Int32) (w2 : Option Value) (m : mM) (r : Unit) (m' : mM), f_m_sells_75 F k22 v1 s0 m = some (r, m') → m_R X (d + 73) 314 75 [some (.ref 304), some (.int v1), w2] [.int s0] (SH, m) (none, (SH, m')) := by
  intro v1 s0 w2 m r m' h
  unfold f_m_sells_75 at h
  refine m_R_sg (by decide) [(.istore_n 2, 1, 0, 2, 0, 0, 0), (.goto (-54), 3, 0, 22, 0, 0, 0)] (by decide +kernel) (show m_sgl X _ _ _ _ _ = some (22, [some (.ref 304), some (.int v1), some (.int s0)], [], (SH, m.1, m.2)) from rfl) ?_
  exact hk22 _ _ _ _ _ h
def f_m_sells_52 (F : Nat)  (k22 : Int32 → Int32 → mM → Option (Unit × mM)) (v1 : Int32) (m : mM) : Option (Unit × mM) := ((f_m_coinOf F v1 m).bind fun q5 => ((f_m_hs F v1 (4 : Int32) q5.2).bind fun q6 => (if q6.1 ≤ q5.1 then f_m_sells_75 F k22 v1 (-1 : Int32) q6.2 else ((f_m_offered F v1 q6.2).bind fun q7 => f_m_sells_75 F k22 v1 q7.1 q7.2))))
theorem ok_m_sells_52 (X : mX) (d F : Nat) (k22 : Int32 → Int32 → mM → Option (Unit × mM)) (hk22 : ∀ (v1 : Int32) (v2 : Int32) (m : mM) (r : Unit) (m' : mM), k22 v1 v2 m = some (r, m') → m_R X (d + 73) 314 22 [some (.ref 304), some (.int v1), some (.int v2)] [] (SH, m) (none, (SH, m'))) : ∀ (v1 : Int32) (w2 : Option Value) (m : mM) (r : Unit) (m' : mM), f_m_sells_52 F k22 v1 m = some (r, m') → m_R X (d + 73) 314 52 [some (.ref 304), some (.int v1), w2] [] (SH, m) (none, (SH, m')) := by
  intro v1 w2 m r m' h
  unfold f_m_sells_52 at h
  refine m_R_sg (by decide) [(.aload_n 0, 1, 0, 0, 0, 0, 0), (.iload_n 1, 1, 0, 1, 0, 0, 0)] (by decide +kernel) (show m_sgl X _ _ _ _ _ = some (54, [some (.ref 304), some (.int v1), w2], [.int v1, .ref 304], (SH, m.1, m.2)) from rfl) ?_
  obtain ⟨q5, hc5, h⟩ := Option.bind_eq_some_iff.mp h
  refine m_R_cV (v := (some (.int q5.1))) (h1 := (SH, q5.2)) (rest := []) (lo' := [some (.ref 304), some (.int v1)]) (ml := 2) (k0 := 304) (by decide) (Or.inl rfl) (m_opb_of (ins := .invokevirtual 86) (len := 3) (tag := 5) (a := 217) (b := 1) (c := 0) (q := 1653) (by decide +kernel)) (by decide +kernel) rfl (show m_isO 217 304 (SH, _) = true from m_isO_of (by decide +kernel)) (Nat.le_of_ble_eq_true rfl) rfl rfl (ok_m_coinOf X (d + 71) F _ _ _ _ hc5) ?_
  refine m_R_sg (by decide) [(.aload_n 0, 1, 0, 0, 0, 0, 0), (.iload_n 1, 1, 0, 1, 0, 0, 0), (.iconst 4, 1, 0, 4, 0, 0, 0)] (by decide +kernel) (show m_sgl X _ _ _ _ _ = some (60, [some (.ref 304), some (.int v1), w2], [.int (4 : Int32), .int v1, .ref 304, .int q5.1], (SH, q5.2.1, q5.2.2)) from rfl) ?_
  obtain ⟨q6, hc6, h⟩ := Option.bind_eq_some_iff.mp h
  refine m_R_cV (v := (some (.int q6.1))) (h1 := (SH, q6.2)) (rest := [.int q5.1]) (lo' := [some (.ref 304), some (.int v1), some (.int (4 : Int32))]) (ml := 3) (k0 := 304) (by decide) (Or.inl rfl) (m_opb_of (ins := .invokevirtual 65) (len := 3) (tag := 5) (a := 212) (b := 2) (c := 0) (q := 1633) (by decide +kernel)) (by decide +kernel) rfl (show m_isO 212 304 (SH, _) = true from m_isO_of (by decide +kernel)) (Nat.le_of_ble_eq_true rfl) rfl rfl (ok_m_hs X (d + 72) F _ _ _ _ _ hc6) ?_
  rcases m_ite h with ⟨c1288, h⟩ | ⟨c1288, h⟩
  · refine m_R_1 (by decide) (m_opb_of (ins := .if_icmp .ge 11) (len := 3) (tag := 0) (a := 74) (b := 0) (c := 0) (q := 0) (by decide +kernel)) (if_pos c1288) ?_
    refine m_R_sg (by decide) [(.iconst (-1), 1, 0, 1, 1, 0, 0)] (by decide +kernel) (show m_sgl X _ _ _ _ _ = some (75, [some (.ref 304), some (.int v1), w2], [.int (-1 : Int32)], (SH, q6.2.1, q6.2.2)) from rfl) ?_
    exact ok_m_sells_75 X d F _ hk22 _ _ _ _ _ _ h
  · refine m_R_1 (by decide) (m_opb_of (ins := .if_icmp .ge 11) (len := 3) (tag := 0) (a := 74) (b := 0) (c := 0) (q := 0) (by decide +kernel)) (if_neg c1288) ?_
    refine m_R_sg (by decide) [(.aload_n 0, 1, 0, 0, 0, 0, 0), (.iload_n 1, 1, 0, 1, 0, 0, 0)] (by decide +kernel) (show m_sgl X _ _ _ _ _ = some (68, [some (.ref 304), some (.int v1), w2], [.int v1, .ref 304], (SH, q6.2.1, q6.2.2)) from rfl) ?_
    obtain ⟨q7, hc7, h⟩ := Option.bind_eq_some_iff.mp h
    refine m_R_cV (v := (some (.int q7.1))) (h1 := (SH, q7.2)) (rest := []) (lo' := [some (.ref 304), some (.int v1), none, none]) (ml := 4) (k0 := 304) (by decide) (Or.inl rfl) (m_opb_of (ins := .invokevirtual 390) (len := 3) (tag := 5) (a := 315) (b := 1) (c := 0) (q := 2077) (by decide +kernel)) (by decide +kernel) rfl (show m_isO 315 304 (SH, _) = true from m_isO_of (by decide +kernel)) (Nat.le_of_ble_eq_true rfl) rfl rfl (ok_m_offered X (d + 70) F _ _ _ _ hc7) ?_
    refine m_R_sg (by decide) [(.goto 4, 3, 0, 75, 0, 0, 0)] (by decide +kernel) (show m_sgl X _ _ _ _ _ = some (75, [some (.ref 304), some (.int v1), w2], [.int q7.1], (SH, q7.2.1, q7.2.2)) from rfl) ?_
    exact ok_m_sells_75 X d F _ hk22 _ _ _ _ _ _ h
def f_m_sells_22 (F : Nat)   : Nat → Int32 → Int32 → mM → Option (Unit × mM)
  | 0, _, _, _ => none
  | n + 1, v1, v2, m => (if v2 = (-1 : Int32) then some ((), m) else ((f_m_offer F v2 m).bind fun q4 => (if q4.1 = 0 then (if (((6200 : Int32) + ((20 : Int32) * v2)) + (19 : Int32)) < 0 ∨ 9732 ≤ (((6200 : Int32) + ((20 : Int32) * v2)) + (19 : Int32)).toNatClampNeg then none else f_m_sells_52 F (f_m_sells_22 F n) v1 ((m_up q4.2.1 305 (((6200 : Int32) + ((20 : Int32) * v2)) + (19 : Int32)).toNatClampNeg (1 : Int32)), q4.2.2)) else f_m_sells_52 F (f_m_sells_22 F n) v1 q4.2)))
theorem ok_m_sells_22 (X : mX) (d F : Nat) : ∀ (n : Nat) (v1 : Int32) (v2 : Int32)  (m : mM) (r : Unit) (m' : mM), f_m_sells_22 F n v1 v2 m = some (r, m') → m_R X (d + 73) 314 22 [some (.ref 304), some (.int v1), some (.int v2)] [] (SH, m) (none, (SH, m')) := by
  intro n
  induction n with
  | zero => intro v1 v2 m r m' h; cases h
  | succ n ih =>
    intro v1 v2 m r m' h
    simp only [f_m_sells_22] at h
    refine m_R_sg (by decide) [(.iload_n 2, 1, 0, 2, 0, 0, 0), (.iconst (-1), 1, 0, 1, 1, 0, 0)] (by decide +kernel) (show m_sgl X _ _ _ _ _ = some (24, [some (.ref 304), some (.int v1), some (.int v2)], [.int (-1 : Int32), .int v2], (SH, m.1, m.2)) from rfl) ?_
    rcases m_ite h with ⟨c1289, h⟩ | ⟨c1289, h⟩
    · refine m_R_1 (by decide) (m_opb_of (ins := .if_icmp .eq 55) (len := 3) (tag := 0) (a := 79) (b := 0) (c := 0) (q := 0) (by decide +kernel)) (if_pos c1289) ?_
      obtain ⟨rfl, rfl⟩ := m_some h
      exact m_R_vret (by decide) (m_opb_of (ins := .return_) (len := 1) (tag := 3) (a := 0) (b := 0) (c := 0) (q := 0) (by decide +kernel))
    · refine m_R_1 (by decide) (m_opb_of (ins := .if_icmp .eq 55) (len := 3) (tag := 0) (a := 79) (b := 0) (c := 0) (q := 0) (by decide +kernel)) (if_neg c1289) ?_
      refine m_R_sg (by decide) [(.aload_n 0, 1, 0, 0, 0, 0, 0), (.iload_n 2, 1, 0, 2, 0, 0, 0)] (by decide +kernel) (show m_sgl X _ _ _ _ _ = some (29, [some (.ref 304), some (.int v1), some (.int v2)], [.int v2, .ref 304], (SH, m.1, m.2)) from rfl) ?_
      obtain ⟨q4, hc4, h⟩ := Option.bind_eq_some_iff.mp h
      refine m_R_cV (v := (some (.int q4.1))) (h1 := (SH, q4.2)) (rest := []) (lo' := [some (.ref 304), some (.int v2), none, none, none, none, none]) (ml := 7) (k0 := 304) (by decide) (Or.inl rfl) (m_opb_of (ins := .invokevirtual 186) (len := 3) (tag := 5) (a := 276) (b := 1) (c := 0) (q := 1922) (by decide +kernel)) (by decide +kernel) rfl (show m_isO 276 304 (SH, _) = true from m_isO_of (by decide +kernel)) (Nat.le_of_ble_eq_true rfl) rfl rfl (ok_m_offer X (d + 0) F _ _ _ _ hc4) ?_
      rcases m_ite h with ⟨c1290, h⟩ | ⟨c1290, h⟩
      · refine m_R_1 (by decide) (m_opb_of (ins := .ifCond .ne 20) (len := 3) (tag := 0) (a := 52) (b := 0) (c := 0) (q := 0) (by decide +kernel)) (if_pos c1290) ?_
        refine m_R_sg (by decide) [(.aload_n 0, 1, 0, 0, 0, 0, 0), (.getfield 13, 3, 0, 12, 1, 3, 1493), (.sipush 6200, 3, 0, 6200, 0, 0, 0), (.bipush 20, 2, 0, 20, 0, 0, 0), (.iload_n 2, 1, 0, 2, 0, 0, 0), (.imul, 1, 0, 0, 0, 0, 0), (.iadd, 1, 0, 0, 0, 0, 0), (.bipush 19, 2, 0, 19, 0, 0, 0), (.iadd, 1, 0, 0, 0, 0, 0), (.iconst 1, 1, 0, 1, 0, 0, 0)] (by decide +kernel) (show m_sgl X _ _ _ _ _ = some (51, [some (.ref 304), some (.int v1), some (.int v2)], [.int (1 : Int32), .int (((6200 : Int32) + ((20 : Int32) * v2)) + (19 : Int32)), .ref 305], (SH, q4.2.1, q4.2.2)) from rfl) ?_
        obtain ⟨c1291, h⟩ := m_ite_n h
        refine m_R_1 (by decide) (m_opb_of (ins := .iastore) (len := 1) (tag := 0) (a := 0) (b := 0) (c := 0) (q := 0) (by decide +kernel)) (m_s_iast sh_305 c1291) ?_
        exact ok_m_sells_52 X d F _ (fun a0 a1 m r m' h => ih a0 a1 m r m' h) _ _ _ _ _ h
      · refine m_R_1 (by decide) (m_opb_of (ins := .ifCond .ne 20) (len := 3) (tag := 0) (a := 52) (b := 0) (c := 0) (q := 0) (by decide +kernel)) (if_neg c1290) ?_
        exact ok_m_sells_52 X d F _ (fun a0 a1 m r m' h => ih a0 a1 m r m' h) _ _ _ _ _ h
def f_m_sells (F : Nat)   (v1 : Int32) (m : mM) : Option (Unit × mM) := ((f_m_coinOf F v1 m).bind fun q1 => ((f_m_hs F v1 (4 : Int32) q1.2).bind fun q2 => (if q2.1 ≤ q1.1 then f_m_sells_22 F F v1 (-1 : Int32) q2.2 else ((f_m_offered F v1 q2.2).bind fun q3 => f_m_sells_22 F F v1 q3.1 q3.2))))
theorem ok_m_sells (X : mX) (d F : Nat) : ∀ (v1 : Int32)  (m : mM) (r : Unit) (m' : mM), f_m_sells F v1 m = some (r, m') → m_R X (d + 73) 314 0 [some (.ref 304), some (.int v1), none] [] (SH, m) (none, (SH, m')) := by
  intro v1 m r m' h
  unfold f_m_sells at h
  refine m_R_sg (by decide) [(.iconst (-1), 1, 0, 1, 1, 0, 0), (.istore_n 2, 1, 0, 2, 0, 0, 0), (.aload_n 0, 1, 0, 0, 0, 0, 0), (.iload_n 1, 1, 0, 1, 0, 0, 0)] (by decide +kernel) (show m_sgl X _ _ _ _ _ = some (4, [some (.ref 304), some (.int v1), some (.int (-1 : Int32))], [.int v1, .ref 304], (SH, m.1, m.2)) from rfl) ?_
  obtain ⟨q1, hc1, h⟩ := Option.bind_eq_some_iff.mp h
  refine m_R_cV (v := (some (.int q1.1))) (h1 := (SH, q1.2)) (rest := []) (lo' := [some (.ref 304), some (.int v1)]) (ml := 2) (k0 := 304) (by decide) (Or.inl rfl) (m_opb_of (ins := .invokevirtual 86) (len := 3) (tag := 5) (a := 217) (b := 1) (c := 0) (q := 1653) (by decide +kernel)) (by decide +kernel) rfl (show m_isO 217 304 (SH, _) = true from m_isO_of (by decide +kernel)) (Nat.le_of_ble_eq_true rfl) rfl rfl (ok_m_coinOf X (d + 71) F _ _ _ _ hc1) ?_
  refine m_R_sg (by decide) [(.aload_n 0, 1, 0, 0, 0, 0, 0), (.iload_n 1, 1, 0, 1, 0, 0, 0), (.iconst 4, 1, 0, 4, 0, 0, 0)] (by decide +kernel) (show m_sgl X _ _ _ _ _ = some (10, [some (.ref 304), some (.int v1), some (.int (-1 : Int32))], [.int (4 : Int32), .int v1, .ref 304, .int q1.1], (SH, q1.2.1, q1.2.2)) from rfl) ?_
  obtain ⟨q2, hc2, h⟩ := Option.bind_eq_some_iff.mp h
  refine m_R_cV (v := (some (.int q2.1))) (h1 := (SH, q2.2)) (rest := [.int q1.1]) (lo' := [some (.ref 304), some (.int v1), some (.int (4 : Int32))]) (ml := 3) (k0 := 304) (by decide) (Or.inl rfl) (m_opb_of (ins := .invokevirtual 65) (len := 3) (tag := 5) (a := 212) (b := 2) (c := 0) (q := 1633) (by decide +kernel)) (by decide +kernel) rfl (show m_isO 212 304 (SH, _) = true from m_isO_of (by decide +kernel)) (Nat.le_of_ble_eq_true rfl) rfl rfl (ok_m_hs X (d + 72) F _ _ _ _ _ hc2) ?_
  rcases m_ite h with ⟨c1292, h⟩ | ⟨c1292, h⟩
  · refine m_R_1 (by decide) (m_opb_of (ins := .if_icmp .ge 9) (len := 3) (tag := 0) (a := 22) (b := 0) (c := 0) (q := 0) (by decide +kernel)) (if_pos c1292) ?_
    exact ok_m_sells_22 X d F F _ _ _ _ _ h
  · refine m_R_1 (by decide) (m_opb_of (ins := .if_icmp .ge 9) (len := 3) (tag := 0) (a := 22) (b := 0) (c := 0) (q := 0) (by decide +kernel)) (if_neg c1292) ?_
    refine m_R_sg (by decide) [(.aload_n 0, 1, 0, 0, 0, 0, 0), (.iload_n 1, 1, 0, 1, 0, 0, 0)] (by decide +kernel) (show m_sgl X _ _ _ _ _ = some (18, [some (.ref 304), some (.int v1), some (.int (-1 : Int32))], [.int v1, .ref 304], (SH, q2.2.1, q2.2.2)) from rfl) ?_
    obtain ⟨q3, hc3, h⟩ := Option.bind_eq_some_iff.mp h
    refine m_R_cV (v := (some (.int q3.1))) (h1 := (SH, q3.2)) (rest := []) (lo' := [some (.ref 304), some (.int v1), none, none]) (ml := 4) (k0 := 304) (by decide) (Or.inl rfl) (m_opb_of (ins := .invokevirtual 390) (len := 3) (tag := 5) (a := 315) (b := 1) (c := 0) (q := 2077) (by decide +kernel)) (by decide +kernel) rfl (show m_isO 315 304 (SH, _) = true from m_isO_of (by decide +kernel)) (Nat.le_of_ble_eq_true rfl) rfl rfl (ok_m_offered X (d + 70) F _ _ _ _ hc3) ?_
    refine m_R_sg (by decide) [(.istore_n 2, 1, 0, 2, 0, 0, 0)] (by decide +kernel) (show m_sgl X _ _ _ _ _ = some (22, [some (.ref 304), some (.int v1), some (.int q3.1)], [], (SH, q3.2.1, q3.2.2)) from rfl) ?_
    exact ok_m_sells_22 X d F F _ _ _ _ _ h
def f_m_ships_83 (F : Nat)    (m : mM) : Option (Unit × mM) := some ((), m)
theorem ok_m_ships_83 (X : mX) (d F : Nat) : ∀  (w0 : Option Value) (w1 : Option Value) (w2 : Option Value) (m : mM) (r : Unit) (m' : mM), f_m_ships_83 F  m = some (r, m') → m_R X (d + 1) 320 83 [w0, w1, w2] [] (SH, m) (none, (SH, m')) := by
  intro w0 w1 w2 m r m' h
  unfold f_m_ships_83 at h
  obtain ⟨rfl, rfl⟩ := m_some h
  exact m_R_vret (by decide) (m_opb_of (ins := .return_) (len := 1) (tag := 3) (a := 0) (b := 0) (c := 0) (q := 0) (by decide +kernel))
def f_m_ships_84 (F : Nat)   (v1 : Int32) (v2 : Int32) (m : mM) : Option (Unit × mM) := some ((), ((m_up m.1 305 (130 : Int32).toNatClampNeg (v2 + v1)), m.2))
theorem ok_m_ships_84 (X : mX) (d F : Nat) : ∀ (v1 : Int32) (v2 : Int32)  (m : mM) (r : Unit) (m' : mM), f_m_ships_84 F v1 v2 m = some (r, m') → m_R X (d + 1) 320 84 [some (.ref 304), some (.int v1), some (.int v2)] [] (SH, m) (none, (SH, m')) := by
  intro v1 v2 m r m' h
  unfold f_m_ships_84 at h
  refine m_R_sg (by decide) [(.aload_n 0, 1, 0, 0, 0, 0, 0), (.getfield 13, 3, 0, 12, 1, 3, 1493), (.sipush 130, 3, 0, 130, 0, 0, 0), (.iload_n 2, 1, 0, 2, 0, 0, 0), (.iload_n 1, 1, 0, 1, 0, 0, 0), (.iadd, 1, 0, 0, 0, 0, 0)] (by decide +kernel) (show m_sgl X _ _ _ _ _ = some (94, [some (.ref 304), some (.int v1), some (.int v2)], [.int (v2 + v1), .int (130 : Int32), .ref 305], (SH, m.1, m.2)) from rfl) ?_
  refine m_R_1 (by decide) (m_opb_of (ins := .iastore) (len := 1) (tag := 0) (a := 0) (b := 0) (c := 0) (q := 0) (by decide +kernel)) (m_s_iast sh_305 (show ¬ ((130 : Int32) < 0 ∨ 9732 ≤ (130 : Int32).toNatClampNeg) by decide)) ?_
  obtain ⟨rfl, rfl⟩ := m_some h
  exact m_R_vret (by decide) (m_opb_of (ins := .return_) (len := 1) (tag := 3) (a := 0) (b := 0) (c := 0) (q := 0) (by decide +kernel))
def f_m_ships (F : Nat)    (m : mM) : Option (Unit × mM) := ((f_m_weekOf F (1 : Int32) ((m.1 305 (0 : Int32).toNatClampNeg) / (7 : Int32)) m).bind fun q1 => (if 0 ≤ ((m.1 305 (11 : Int32).toNatClampNeg) * ((m.1 305 (10 : Int32).toNatClampNeg) - q1.1)) then f_m_ships_84 F ((m.1 305 (11 : Int32).toNatClampNeg) * ((m.1 305 (10 : Int32).toNatClampNeg) - q1.1)) (q1.2.1 305 (130 : Int32).toNatClampNeg) q1.2 else (if 0 ≤ ((q1.2.1 305 (130 : Int32).toNatClampNeg) + ((m.1 305 (11 : Int32).toNatClampNeg) * ((m.1 305 (10 : Int32).toNatClampNeg) - q1.1))) then f_m_ships_84 F ((m.1 305 (11 : Int32).toNatClampNeg) * ((m.1 305 (10 : Int32).toNatClampNeg) - q1.1)) (q1.2.1 305 (130 : Int32).toNatClampNeg) q1.2 else (if ((m_up q1.2.1 305 (130 : Int32).toNatClampNeg (0 : Int32)) 305 (9 : Int32).toNatClampNeg) = (-1 : Int32) then f_m_ships_83 F ((m_up (m_up q1.2.1 305 (130 : Int32).toNatClampNeg (0 : Int32)) 305 (9 : Int32).toNatClampNeg ((m_up q1.2.1 305 (130 : Int32).toNatClampNeg (0 : Int32)) 305 (0 : Int32).toNatClampNeg)), q1.2.2) else f_m_ships_83 F ((m_up q1.2.1 305 (130 : Int32).toNatClampNeg (0 : Int32)), q1.2.2)))))
theorem ok_m_ships (X : mX) (d F : Nat) : ∀   (m : mM) (r : Unit) (m' : mM), f_m_ships F  m = some (r, m') → m_R X (d + 1) 320 0 [some (.ref 304), none, none] [] (SH, m) (none, (SH, m')) := by
  intro m r m' h
  unfold f_m_ships at h
  refine m_R_sg (by decide) [(.aload_n 0, 1, 0, 0, 0, 0, 0), (.getfield 13, 3, 0, 12, 1, 3, 1493), (.bipush 11, 2, 0, 11, 0, 0, 0)] (by decide +kernel) (show m_sgl X _ _ _ _ _ = some (6, [some (.ref 304), none, none], [.int (11 : Int32), .ref 305], (SH, m.1, m.2)) from rfl) ?_
  refine m_R_1 (by decide) (m_opb_of (ins := .iaload) (len := 1) (tag := 0) (a := 0) (b := 0) (c := 0) (q := 0) (by decide +kernel)) (m_s_iald sh_305 (by decide) (show ¬ ((11 : Int32) < 0 ∨ 9732 ≤ (11 : Int32).toNatClampNeg) by decide)) ?_
  refine m_R_sg (by decide) [(.aload_n 0, 1, 0, 0, 0, 0, 0), (.getfield 13, 3, 0, 12, 1, 3, 1493), (.bipush 10, 2, 0, 10, 0, 0, 0)] (by decide +kernel) (show m_sgl X _ _ _ _ _ = some (13, [some (.ref 304), none, none], [.int (10 : Int32), .ref 305, .int (m.1 305 (11 : Int32).toNatClampNeg)], (SH, m.1, m.2)) from rfl) ?_
  refine m_R_1 (by decide) (m_opb_of (ins := .iaload) (len := 1) (tag := 0) (a := 0) (b := 0) (c := 0) (q := 0) (by decide +kernel)) (m_s_iald sh_305 (by decide) (show ¬ ((10 : Int32) < 0 ∨ 9732 ≤ (10 : Int32).toNatClampNeg) by decide)) ?_
  refine m_R_sg (by decide) [(.aload_n 0, 1, 0, 0, 0, 0, 0), (.iconst 1, 1, 0, 1, 0, 0, 0), (.aload_n 0, 1, 0, 0, 0, 0, 0), (.getfield 13, 3, 0, 12, 1, 3, 1493), (.iconst 0, 1, 0, 0, 0, 0, 0)] (by decide +kernel) (show m_sgl X _ _ _ _ _ = some (21, [some (.ref 304), none, none], [.int (0 : Int32), .ref 305, .int (1 : Int32), .ref 304, .int (m.1 305 (10 : Int32).toNatClampNeg), .int (m.1 305 (11 : Int32).toNatClampNeg)], (SH, m.1, m.2)) from rfl) ?_
  refine m_R_1 (by decide) (m_opb_of (ins := .iaload) (len := 1) (tag := 0) (a := 0) (b := 0) (c := 0) (q := 0) (by decide +kernel)) (m_s_iald sh_305 (by decide) (show ¬ ((0 : Int32) < 0 ∨ 9732 ≤ (0 : Int32).toNatClampNeg) by decide)) ?_
  refine m_R_sg (by decide) [(.bipush 7, 2, 0, 7, 0, 0, 0)] (by decide +kernel) (show m_sgl X _ _ _ _ _ = some (24, [some (.ref 304), none, none], [.int (7 : Int32), .int (m.1 305 (0 : Int32).toNatClampNeg), .int (1 : Int32), .ref 304, .int (m.1 305 (10 : Int32).toNatClampNeg), .int (m.1 305 (11 : Int32).toNatClampNeg)], (SH, m.1, m.2)) from rfl) ?_
  refine m_R_1 (by decide) (m_opb_of (ins := .idiv) (len := 1) (tag := 0) (a := 0) (b := 0) (c := 0) (q := 0) (by decide +kernel)) (m_s_idiv (by decide)) ?_
  obtain ⟨q1, hc1, h⟩ := Option.bind_eq_some_iff.mp h
  refine m_R_cV (v := (some (.int q1.1))) (h1 := (SH, q1.2)) (rest := [.int (m.1 305 (10 : Int32).toNatClampNeg), .int (m.1 305 (11 : Int32).toNatClampNeg)]) (lo' := [some (.ref 304), some (.int (1 : Int32)), some (.int ((m.1 305 (0 : Int32).toNatClampNeg) / (7 : Int32))), none, none, none]) (ml := 6) (k0 := 304) (by decide) (Or.inl rfl) (m_opb_of (ins := .invokevirtual 221) (len := 3) (tag := 5) (a := 295) (b := 2) (c := 0) (q := 1997) (by decide +kernel)) (by decide +kernel) rfl (show m_isO 295 304 (SH, _) = true from m_isO_of (by decide +kernel)) (Nat.le_of_ble_eq_true rfl) rfl rfl (ok_m_weekOf X (d + 0) F _ _ _ _ _ hc1) ?_
  refine m_R_sg (by decide) [(.isub, 1, 0, 0, 0, 0, 0), (.imul, 1, 0, 0, 0, 0, 0), (.istore_n 1, 1, 0, 1, 0, 0, 0), (.aload_n 0, 1, 0, 0, 0, 0, 0), (.getfield 13, 3, 0, 12, 1, 3, 1493), (.sipush 130, 3, 0, 130, 0, 0, 0)] (by decide +kernel) (show m_sgl X _ _ _ _ _ = some (38, [some (.ref 304), some (.int ((m.1 305 (11 : Int32).toNatClampNeg) * ((m.1 305 (10 : Int32).toNatClampNeg) - q1.1))), none], [.int (130 : Int32), .ref 305], (SH, q1.2.1, q1.2.2)) from rfl) ?_
  refine m_R_1 (by decide) (m_opb_of (ins := .iaload) (len := 1) (tag := 0) (a := 0) (b := 0) (c := 0) (q := 0) (by decide +kernel)) (m_s_iald sh_305 (by decide) (show ¬ ((130 : Int32) < 0 ∨ 9732 ≤ (130 : Int32).toNatClampNeg) by decide)) ?_
  refine m_R_sg (by decide) [(.istore_n 2, 1, 0, 2, 0, 0, 0), (.iload_n 1, 1, 0, 1, 0, 0, 0)] (by decide +kernel) (show m_sgl X _ _ _ _ _ = some (41, [some (.ref 304), some (.int ((m.1 305 (11 : Int32).toNatClampNeg) * ((m.1 305 (10 : Int32).toNatClampNeg) - q1.1))), some (.int (q1.2.1 305 (130 : Int32).toNatClampNeg))], [.int ((m.1 305 (11 : Int32).toNatClampNeg) * ((m.1 305 (10 : Int32).toNatClampNeg) - q1.1))], (SH, q1.2.1, q1.2.2)) from rfl) ?_
  rcases m_ite h with ⟨c1293, h⟩ | ⟨c1293, h⟩
  · refine m_R_1 (by decide) (m_opb_of (ins := .ifCond .ge 43) (len := 3) (tag := 0) (a := 84) (b := 0) (c := 0) (q := 0) (by decide +kernel)) (if_pos c1293) ?_
    exact ok_m_ships_84 X d F _ _ _ _ _ h
  · refine m_R_1 (by decide) (m_opb_of (ins := .ifCond .ge 43) (len := 3) (tag := 0) (a := 84) (b := 0) (c := 0) (q := 0) (by decide +kernel)) (if_neg c1293) ?_
    refine m_R_sg (by decide) [(.iload_n 2, 1, 0, 2, 0, 0, 0), (.iload_n 1, 1, 0, 1, 0, 0, 0), (.iadd, 1, 0, 0, 0, 0, 0)] (by decide +kernel) (show m_sgl X _ _ _ _ _ = some (47, [some (.ref 304), some (.int ((m.1 305 (11 : Int32).toNatClampNeg) * ((m.1 305 (10 : Int32).toNatClampNeg) - q1.1))), some (.int (q1.2.1 305 (130 : Int32).toNatClampNeg))], [.int ((q1.2.1 305 (130 : Int32).toNatClampNeg) + ((m.1 305 (11 : Int32).toNatClampNeg) * ((m.1 305 (10 : Int32).toNatClampNeg) - q1.1)))], (SH, q1.2.1, q1.2.2)) from rfl) ?_
    rcases m_ite h with ⟨c1294, h⟩ | ⟨c1294, h⟩
    · refine m_R_1 (by decide) (m_opb_of (ins := .ifCond .ge 37) (len := 3) (tag := 0) (a := 84) (b := 0) (c := 0) (q := 0) (by decide +kernel)) (if_pos c1294) ?_
      exact ok_m_ships_84 X d F _ _ _ _ _ h
    · refine m_R_1 (by decide) (m_opb_of (ins := .ifCond .ge 37) (len := 3) (tag := 0) (a := 84) (b := 0) (c := 0) (q := 0) (by decide +kernel)) (if_neg c1294) ?_
      refine m_R_sg (by decide) [(.aload_n 0, 1, 0, 0, 0, 0, 0), (.getfield 13, 3, 0, 12, 1, 3, 1493), (.sipush 130, 3, 0, 130, 0, 0, 0), (.iconst 0, 1, 0, 0, 0, 0, 0)] (by decide +kernel) (show m_sgl X _ _ _ _ _ = some (58, [some (.ref 304), some (.int ((m.1 305 (11 : Int32).toNatClampNeg) * ((m.1 305 (10 : Int32).toNatClampNeg) - q1.1))), some (.int (q1.2.1 305 (130 : Int32).toNatClampNeg))], [.int (0 : Int32), .int (130 : Int32), .ref 305], (SH, q1.2.1, q1.2.2)) from rfl) ?_
      refine m_R_1 (by decide) (m_opb_of (ins := .iastore) (len := 1) (tag := 0) (a := 0) (b := 0) (c := 0) (q := 0) (by decide +kernel)) (m_s_iast sh_305 (show ¬ ((130 : Int32) < 0 ∨ 9732 ≤ (130 : Int32).toNatClampNeg) by decide)) ?_
      refine m_R_sg (by decide) [(.aload_n 0, 1, 0, 0, 0, 0, 0), (.getfield 13, 3, 0, 12, 1, 3, 1493), (.bipush 9, 2, 0, 9, 0, 0, 0)] (by decide +kernel) (show m_sgl X _ _ _ _ _ = some (65, [some (.ref 304), some (.int ((m.1 305 (11 : Int32).toNatClampNeg) * ((m.1 305 (10 : Int32).toNatClampNeg) - q1.1))), some (.int (q1.2.1 305 (130 : Int32).toNatClampNeg))], [.int (9 : Int32), .ref 305], (SH, (m_up q1.2.1 305 (130 : Int32).toNatClampNeg (0 : Int32)), q1.2.2)) from rfl) ?_
      refine m_R_1 (by decide) (m_opb_of (ins := .iaload) (len := 1) (tag := 0) (a := 0) (b := 0) (c := 0) (q := 0) (by decide +kernel)) (m_s_iald sh_305 (by decide) (show ¬ ((9 : Int32) < 0 ∨ 9732 ≤ (9 : Int32).toNatClampNeg) by decide)) ?_
      refine m_R_sg (by decide) [(.iconst (-1), 1, 0, 1, 1, 0, 0)] (by decide +kernel) (show m_sgl X _ _ _ _ _ = some (67, [some (.ref 304), some (.int ((m.1 305 (11 : Int32).toNatClampNeg) * ((m.1 305 (10 : Int32).toNatClampNeg) - q1.1))), some (.int (q1.2.1 305 (130 : Int32).toNatClampNeg))], [.int (-1 : Int32), .int ((m_up q1.2.1 305 (130 : Int32).toNatClampNeg (0 : Int32)) 305 (9 : Int32).toNatClampNeg)], (SH, (m_up q1.2.1 305 (130 : Int32).toNatClampNeg (0 : Int32)), q1.2.2)) from rfl) ?_
      rcases m_ite h with ⟨c1295, h⟩ | ⟨c1295, h⟩
      · refine m_R_1 (by decide) (m_opb_of (ins := .if_icmp .ne 16) (len := 3) (tag := 0) (a := 83) (b := 0) (c := 0) (q := 0) (by decide +kernel)) (if_pos c1295) ?_
        refine m_R_sg (by decide) [(.aload_n 0, 1, 0, 0, 0, 0, 0), (.getfield 13, 3, 0, 12, 1, 3, 1493), (.bipush 9, 2, 0, 9, 0, 0, 0), (.aload_n 0, 1, 0, 0, 0, 0, 0), (.getfield 13, 3, 0, 12, 1, 3, 1493), (.iconst 0, 1, 0, 0, 0, 0, 0)] (by decide +kernel) (show m_sgl X _ _ _ _ _ = some (81, [some (.ref 304), some (.int ((m.1 305 (11 : Int32).toNatClampNeg) * ((m.1 305 (10 : Int32).toNatClampNeg) - q1.1))), some (.int (q1.2.1 305 (130 : Int32).toNatClampNeg))], [.int (0 : Int32), .ref 305, .int (9 : Int32), .ref 305], (SH, (m_up q1.2.1 305 (130 : Int32).toNatClampNeg (0 : Int32)), q1.2.2)) from rfl) ?_
        refine m_R_1 (by decide) (m_opb_of (ins := .iaload) (len := 1) (tag := 0) (a := 0) (b := 0) (c := 0) (q := 0) (by decide +kernel)) (m_s_iald sh_305 (by decide) (show ¬ ((0 : Int32) < 0 ∨ 9732 ≤ (0 : Int32).toNatClampNeg) by decide)) ?_
        refine m_R_1 (by decide) (m_opb_of (ins := .iastore) (len := 1) (tag := 0) (a := 0) (b := 0) (c := 0) (q := 0) (by decide +kernel)) (m_s_iast sh_305 (show ¬ ((9 : Int32) < 0 ∨ 9732 ≤ (9 : Int32).toNatClampNeg) by decide)) ?_
        exact ok_m_ships_83 X d F _ _ _ _ _ _ h
      · refine m_R_1 (by decide) (m_opb_of (ins := .if_icmp .ne 16) (len := 3) (tag := 0) (a := 83) (b := 0) (c := 0) (q := 0) (by decide +kernel)) (if_neg c1295) ?_
        exact ok_m_ships_83 X d F _ _ _ _ _ _ h
def f_m_sheets_181 (F : Nat)  (k33 : Int32 → Int32 → Int32 → Int32 → Int32 → mM → Option (Unit × mM)) (v1 : Int32) (v2 : Int32) (v3 : Int32) (v4 : Int32) (v5 : Int32) (m : mM) : Option (Unit × mM) := k33 v1 v2 v3 v4 (v5 + (1 : Int32)) m
theorem ok_m_sheets_181 (X : mX) (d F : Nat) (k33 : Int32 → Int32 → Int32 → Int32 → Int32 → mM → Option (Unit × mM)) (hk33 : ∀ (v1 : Int32) (v2 : Int32) (v3 : Int32) (v4 : Int32) (v5 : Int32) (w6 : Option Value) (m : mM) (r : Unit) (m' : mM), k33 v1 v2 v3 v4 v5 m = some (r, m') → m_R X (d + 69) 321 33 [some (.ref 304), some (.int v1), some (.int v2), some (.int v3), some (.int v4), some (.int v5), w6] [] (SH, m) (none, (SH, m'))) : ∀ (v1 : Int32) (v2 : Int32) (v3 : Int32) (v4 : Int32) (v5 : Int32) (w6 : Option Value) (m : mM) (r : Unit) (m' : mM), f_m_sheets_181 F k33 v1 v2 v3 v4 v5 m = some (r, m') → m_R X (d + 69) 321 181 [some (.ref 304), some (.int v1), some (.int v2), some (.int v3), some (.int v4), some (.int v5), w6] [] (SH, m) (none, (SH, m')) := by
  intro v1 v2 v3 v4 v5 w6 m r m' h
  unfold f_m_sheets_181 at h
  refine m_R_sg (by decide) [(.iinc 5 1, 3, 0, 5, 1, 0, 0), (.goto (-151), 3, 0, 33, 0, 0, 0)] (by decide +kernel) (show m_sgl X _ _ _ _ _ = some (33, [some (.ref 304), some (.int v1), some (.int v2), some (.int v3), some (.int v4), some (.int (v5 + (1 : Int32))), w6], [], (SH, m.1, m.2)) from rfl) ?_
  exact hk33 _ _ _ _ _ _ _ _ _ h
def f_m_sheets_112 (F : Nat)  (k33 : Int32 → Int32 → Int32 → Int32 → Int32 → mM → Option (Unit × mM)) (v1 : Int32) (v2 : Int32) (v4 : Int32) (v5 : Int32) (s0 : Int32) (s1 : Int32) (m : mM) : Option (Unit × mM) := f_m_sheets_181 F k33 v1 v2 (s0 + s1) v4 v5 m
theorem ok_m_sheets_112 (X : mX) (d F : Nat) (k33 : Int32 → Int32 → Int32 → Int32 → Int32 → mM → Option (Unit × mM)) (hk33 : ∀ (v1 : Int32) (v2 : Int32) (v3 : Int32) (v4 : Int32) (v5 : Int32) (w6 : Option Value) (m : mM) (r : Unit) (m' : mM), k33 v1 v2 v3 v4 v5 m = some (r, m') → m_R X (d + 69) 321 33 [some (.ref 304), some (.int v1), some (.int v2), some (.int v3), some (.int v4), some (.int v5), w6] [] (SH, m) (none, (SH, m'))) : ∀ (v1 : Int32) (v2 : Int32) (v4 : Int32) (v5 : Int32) (s0 : Int32) (s1 : Int32) (w3 : Option Value) (w6 : Option Value) (m : mM) (r : Unit) (m' : mM), f_m_sheets_112 F k33 v1 v2 v4 v5 s0 s1 m = some (r, m') → m_R X (d + 69) 321 112 [some (.ref 304), some (.int v1), some (.int v2), w3, some (.int v4), some (.int v5), w6] [.int s1, .int s0] (SH, m) (none, (SH, m')) := by
  intro v1 v2 v4 v5 s0 s1 w3 w6 m r m' h
  unfold f_m_sheets_112 at h
  refine m_R_sg (by decide) [(.iadd, 1, 0, 0, 0, 0, 0), (.istore_n 3, 1, 0, 3, 0, 0, 0), (.goto 67, 3, 0, 181, 0, 0, 0)] (by decide +kernel) (show m_sgl X _ _ _ _ _ = some (181, [some (.ref 304), some (.int v1), some (.int v2), some (.int (s0 + s1)), some (.int v4), some (.int v5), w6], [], (SH, m.1, m.2)) from rfl) ?_
  exact ok_m_sheets_181 X d F _ hk33 _ _ _ _ _ _ _ _ _ h
def f_m_sheets_163 (F : Nat)  (k33 : Int32 → Int32 → Int32 → Int32 → Int32 → mM → Option (Unit × mM)) (v1 : Int32) (v2 : Int32) (v3 : Int32) (v4 : Int32) (v5 : Int32) (v6 : Int32) (m : mM) : Option (Unit × mM) := ((f_m_paper F v5 (1 : Int32) m).bind fun q12 => (if q12.1 = (3 : Int32) then f_m_sheets_181 F k33 v1 v2 v3 (v4 + v6) v5 q12.2 else f_m_sheets_181 F k33 v1 v2 v3 v4 v5 q12.2))
theorem ok_m_sheets_163 (X : mX) (d F : Nat) (k33 : Int32 → Int32 → Int32 → Int32 → Int32 → mM → Option (Unit × mM)) (hk33 : ∀ (v1 : Int32) (v2 : Int32) (v3 : Int32) (v4 : Int32) (v5 : Int32) (w6 : Option Value) (m : mM) (r : Unit) (m' : mM), k33 v1 v2 v3 v4 v5 m = some (r, m') → m_R X (d + 69) 321 33 [some (.ref 304), some (.int v1), some (.int v2), some (.int v3), some (.int v4), some (.int v5), w6] [] (SH, m) (none, (SH, m'))) : ∀ (v1 : Int32) (v2 : Int32) (v3 : Int32) (v4 : Int32) (v5 : Int32) (v6 : Int32)  (m : mM) (r : Unit) (m' : mM), f_m_sheets_163 F k33 v1 v2 v3 v4 v5 v6 m = some (r, m') → m_R X (d + 69) 321 163 [some (.ref 304), some (.int v1), some (.int v2), some (.int v3), some (.int v4), some (.int v5), some (.int v6)] [] (SH, m) (none, (SH, m')) := by
  intro v1 v2 v3 v4 v5 v6 m r m' h
  unfold f_m_sheets_163 at h
  refine m_R_sg (by decide) [(.aload_n 0, 1, 0, 0, 0, 0, 0), (.iload 5, 2, 0, 5, 0, 0, 0), (.iconst 1, 1, 0, 1, 0, 0, 0)] (by decide +kernel) (show m_sgl X _ _ _ _ _ = some (167, [some (.ref 304), some (.int v1), some (.int v2), some (.int v3), some (.int v4), some (.int v5), some (.int v6)], [.int (1 : Int32), .int v5, .ref 304], (SH, m.1, m.2)) from rfl) ?_
  obtain ⟨q12, hc12, h⟩ := Option.bind_eq_some_iff.mp h
  refine m_R_cV (v := (some (.int q12.1))) (h1 := (SH, q12.2)) (rest := []) (lo' := [some (.ref 304), some (.int v5), some (.int (1 : Int32))]) (ml := 3) (k0 := 304) (by decide) (Or.inl rfl) (m_opb_of (ins := .invokevirtual 160) (len := 3) (tag := 5) (a := 246) (b := 2) (c := 0) (q := 1791) (by decide +kernel)) (by decide +kernel) rfl (show m_isO 246 304 (SH, _) = true from m_isO_of (by decide +kernel)) (Nat.le_of_ble_eq_true rfl) rfl rfl (ok_m_paper X (d + 68) F _ _ _ _ _ hc12) ?_
  refine m_R_sg (by decide) [(.iconst 3, 1, 0, 3, 0, 0, 0)] (by decide +kernel) (show m_sgl X _ _ _ _ _ = some (171, [some (.ref 304), some (.int v1), some (.int v2), some (.int v3), some (.int v4), some (.int v5), some (.int v6)], [.int (3 : Int32), .int q12.1], (SH, q12.2.1, q12.2.2)) from rfl) ?_
  rcases m_ite h with ⟨c1296, h⟩ | ⟨c1296, h⟩
  · refine m_R_1 (by decide) (m_opb_of (ins := .if_icmp .ne 10) (len := 3) (tag := 0) (a := 181) (b := 0) (c := 0) (q := 0) (by decide +kernel)) (if_pos c1296) ?_
    refine m_R_sg (by decide) [(.iload 4, 2, 0, 4, 0, 0, 0), (.iload 6, 2, 0, 6, 0, 0, 0), (.iadd, 1, 0, 0, 0, 0, 0), (.istore 4, 2, 0, 4, 0, 0, 0)] (by decide +kernel) (show m_sgl X _ _ _ _ _ = some (181, [some (.ref 304), some (.int v1), some (.int v2), some (.int v3), some (.int (v4 + v6)), some (.int v5), some (.int v6)], [], (SH, q12.2.1, q12.2.2)) from rfl) ?_
    exact ok_m_sheets_181 X d F _ hk33 _ _ _ _ _ _ _ _ _ h
  · refine m_R_1 (by decide) (m_opb_of (ins := .if_icmp .ne 10) (len := 3) (tag := 0) (a := 181) (b := 0) (c := 0) (q := 0) (by decide +kernel)) (if_neg c1296) ?_
    exact ok_m_sheets_181 X d F _ hk33 _ _ _ _ _ _ _ _ _ h
def f_m_sheets_152 (F : Nat)  (k33 : Int32 → Int32 → Int32 → Int32 → Int32 → mM → Option (Unit × mM)) (v1 : Int32) (v2 : Int32) (v3 : Int32) (v4 : Int32) (v5 : Int32) (v6 : Int32) (s0 : Int32) (s1 : Int32) (m : mM) : Option (Unit × mM) := (if s1 < s0 then f_m_sheets_163 F k33 v1 v2 v3 v4 v5 v6 m else f_m_sheets_181 F k33 v1 v2 (v3 + v6) v4 v5 m)
theorem ok_m_sheets_152 (X : mX) (d F : Nat) (k33 : Int32 → Int32 → Int32 → Int32 → Int32 → mM → Option (Unit × mM)) (hk33 : ∀ (v1 : Int32) (v2 : Int32) (v3 : Int32) (v4 : Int32) (v5 : Int32) (w6 : Option Value) (m : mM) (r : Unit) (m' : mM), k33 v1 v2 v3 v4 v5 m = some (r, m') → m_R X (d + 69) 321 33 [some (.ref 304), some (.int v1), some (.int v2), some (.int v3), some (.int v4), some (.int v5), w6] [] (SH, m) (none, (SH, m'))) : ∀ (v1 : Int32) (v2 : Int32) (v3 : Int32) (v4 : Int32) (v5 : Int32) (v6 : Int32) (s0 : Int32) (s1 : Int32)  (m : mM) (r : Unit) (m' : mM), f_m_sheets_152 F k33 v1 v2 v3 v4 v5 v6 s0 s1 m = some (r, m') → m_R X (d + 69) 321 152 [some (.ref 304), some (.int v1), some (.int v2), some (.int v3), some (.int v4), some (.int v5), some (.int v6)] [.int s1, .int s0] (SH, m) (none, (SH, m')) := by
  intro v1 v2 v3 v4 v5 v6 s0 s1 m r m' h
  unfold f_m_sheets_152 at h
  rcases m_ite h with ⟨c1297, h⟩ | ⟨c1297, h⟩
  · refine m_R_1 (by decide) (m_opb_of (ins := .if_icmp .gt 11) (len := 3) (tag := 0) (a := 163) (b := 0) (c := 0) (q := 0) (by decide +kernel)) (if_pos c1297) ?_
    exact ok_m_sheets_163 X d F _ hk33 _ _ _ _ _ _ _ _ _ h
  · refine m_R_1 (by decide) (m_opb_of (ins := .if_icmp .gt 11) (len := 3) (tag := 0) (a := 163) (b := 0) (c := 0) (q := 0) (by decide +kernel)) (if_neg c1297) ?_
    refine m_R_sg (by decide) [(.iload_n 3, 1, 0, 3, 0, 0, 0), (.iload 6, 2, 0, 6, 0, 0, 0), (.iadd, 1, 0, 0, 0, 0, 0), (.istore_n 3, 1, 0, 3, 0, 0, 0), (.goto 21, 3, 0, 181, 0, 0, 0)] (by decide +kernel) (show m_sgl X _ _ _ _ _ = some (181, [some (.ref 304), some (.int v1), some (.int v2), some (.int (v3 + v6)), some (.int v4), some (.int v5), some (.int v6)], [], (SH, m.1, m.2)) from rfl) ?_
    exact ok_m_sheets_181 X d F _ hk33 _ _ _ _ _ _ _ _ _ h
def f_m_sheets_245 (F : Nat)   (v1 : Int32) (m : mM) : Option (Unit × mM) := ((f_m_reserve F m).bind fun q13 => (if (v1 + (5 : Int32)) < 0 ∨ 9732 ≤ (v1 + (5 : Int32)).toNatClampNeg then none else ((f_m_ruled F (5 : Int32) (-1 : Int32) (63 : Int32) ((m_up q13.2.1 305 (v1 + (5 : Int32)).toNatClampNeg q13.1), q13.2.2)).bind fun q14 => (if (v1 + (6 : Int32)) < 0 ∨ 9732 ≤ (v1 + (6 : Int32)).toNatClampNeg then none else some ((), ((m_up q14.2.1 305 (v1 + (6 : Int32)).toNatClampNeg q14.1), q14.2.2))))))
theorem ok_m_sheets_245 (X : mX) (d F : Nat) : ∀ (v1 : Int32) (w2 : Option Value) (w3 : Option Value) (w4 : Option Value) (w5 : Option Value) (w6 : Option Value) (m : mM) (r : Unit) (m' : mM), f_m_sheets_245 F v1 m = some (r, m') → m_R X (d + 69) 321 245 [some (.ref 304), some (.int v1), w2, w3, w4, w5, w6] [] (SH, m) (none, (SH, m')) := by
  intro v1 w2 w3 w4 w5 w6 m r m' h
  unfold f_m_sheets_245 at h
  refine m_R_sg (by decide) [(.aload_n 0, 1, 0, 0, 0, 0, 0), (.getfield 13, 3, 0, 12, 1, 3, 1493), (.iload_n 1, 1, 0, 1, 0, 0, 0), (.iconst 5, 1, 0, 5, 0, 0, 0), (.iadd, 1, 0, 0, 0, 0, 0), (.aload_n 0, 1, 0, 0, 0, 0, 0)] (by decide +kernel) (show m_sgl X _ _ _ _ _ = some (253, [some (.ref 304), some (.int v1), w2, w3, w4, w5, w6], [.ref 304, .int (v1 + (5 : Int32)), .ref 305], (SH, m.1, m.2)) from rfl) ?_
  obtain ⟨q13, hc13, h⟩ := Option.bind_eq_some_iff.mp h
  refine m_R_cV (v := (some (.int q13.1))) (h1 := (SH, q13.2)) (rest := [.int (v1 + (5 : Int32)), .ref 305]) (lo' := [some (.ref 304), none, none, none]) (ml := 4) (k0 := 304) (by decide) (Or.inl rfl) (m_opb_of (ins := .invokevirtual 281) (len := 3) (tag := 5) (a := 245) (b := 0) (c := 0) (q := 1781) (by decide +kernel)) (by decide +kernel) rfl (show m_isO 245 304 (SH, _) = true from m_isO_of (by decide +kernel)) (Nat.le_of_ble_eq_true rfl) rfl rfl (ok_m_reserve X (d + 65) F _ _ _ hc13) ?_
  obtain ⟨c1298, h⟩ := m_ite_n h
  refine m_R_1 (by decide) (m_opb_of (ins := .iastore) (len := 1) (tag := 0) (a := 0) (b := 0) (c := 0) (q := 0) (by decide +kernel)) (m_s_iast sh_305 c1298) ?_
  refine m_R_sg (by decide) [(.aload_n 0, 1, 0, 0, 0, 0, 0), (.getfield 13, 3, 0, 12, 1, 3, 1493), (.iload_n 1, 1, 0, 1, 0, 0, 0), (.bipush 6, 2, 0, 6, 0, 0, 0), (.iadd, 1, 0, 0, 0, 0, 0), (.aload_n 0, 1, 0, 0, 0, 0, 0), (.iconst 5, 1, 0, 5, 0, 0, 0), (.iconst (-1), 1, 0, 1, 1, 0, 0), (.bipush 63, 2, 0, 63, 0, 0, 0)] (by decide +kernel) (show m_sgl X _ _ _ _ _ = some (270, [some (.ref 304), some (.int v1), w2, w3, w4, w5, w6], [.int (63 : Int32), .int (-1 : Int32), .int (5 : Int32), .ref 304, .int (v1 + (6 : Int32)), .ref 305], (SH, (m_up q13.2.1 305 (v1 + (5 : Int32)).toNatClampNeg q13.1), q13.2.2)) from rfl) ?_
  obtain ⟨q14, hc14, h⟩ := Option.bind_eq_some_iff.mp h
  refine m_R_cV (v := (some (.int q14.1))) (h1 := (SH, q14.2)) (rest := [.int (v1 + (6 : Int32)), .ref 305]) (lo' := [some (.ref 304), some (.int (5 : Int32)), some (.int (-1 : Int32)), some (.int (63 : Int32))]) (ml := 4) (k0 := 304) (by decide) (Or.inl rfl) (m_opb_of (ins := .invokevirtual 120) (len := 3) (tag := 5) (a := 226) (b := 3) (c := 0) (q := 1689) (by decide +kernel)) (by decide +kernel) rfl (show m_isO 226 304 (SH, _) = true from m_isO_of (by decide +kernel)) (Nat.le_of_ble_eq_true rfl) rfl rfl (ok_m_ruled X (d + 0) F _ _ _ _ _ _ hc14) ?_
  obtain ⟨c1299, h⟩ := m_ite_n h
  refine m_R_1 (by decide) (m_opb_of (ins := .iastore) (len := 1) (tag := 0) (a := 0) (b := 0) (c := 0) (q := 0) (by decide +kernel)) (m_s_iast sh_305 c1299) ?_
  obtain ⟨rfl, rfl⟩ := m_some h
  exact m_R_vret (by decide) (m_opb_of (ins := .return_) (len := 1) (tag := 3) (a := 0) (b := 0) (c := 0) (q := 0) (by decide +kernel))
def f_m_sheets_33 (F : Nat)   : Nat → Int32 → Int32 → Int32 → Int32 → Int32 → mM → Option (Unit × mM)
  | 0, _, _, _, _, _, _ => none
  | n + 1, v1, v2, v3, v4, v5, m => (if (60 : Int32) ≤ v5 then ((f_m_hs F (0 : Int32) (2 : Int32) m).bind fun q2 => (if v1 < 0 ∨ 9732 ≤ v1.toNatClampNeg then none else ((f_m_out F ((m_up q2.2.1 305 v1.toNatClampNeg q2.1), q2.2.2)).bind fun q3 => (if (v1 + (1 : Int32)) < 0 ∨ 9732 ≤ (v1 + (1 : Int32)).toNatClampNeg then none else (if (v1 + (2 : Int32)) < 0 ∨ 9732 ≤ (v1 + (2 : Int32)).toNatClampNeg then none else (if (v1 + (3 : Int32)) < 0 ∨ 9732 ≤ (v1 + (3 : Int32)).toNatClampNeg then none else (if (v1 + (4 : Int32)) < 0 ∨ 9732 ≤ (v1 + (4 : Int32)).toNatClampNeg then none else f_m_sheets_245 F v1 ((m_up (m_up (m_up (m_up q3.2.1 305 (v1 + (1 : Int32)).toNatClampNeg q3.1) 305 (v1 + (2 : Int32)).toNatClampNeg v3) 305 (v1 + (3 : Int32)).toNatClampNeg v4) 305 (v1 + (4 : Int32)).toNatClampNeg ((m_up (m_up (m_up q3.2.1 305 (v1 + (1 : Int32)).toNatClampNeg q3.1) 305 (v1 + (2 : Int32)).toNatClampNeg v3) 305 (v1 + (3 : Int32)).toNatClampNeg v4) 305 (10 : Int32).toNatClampNeg)), q3.2.2)))))))) else ((f_m_paper F v5 (0 : Int32) m).bind fun q4 => (if q4.1 = 0 then f_m_sheets_181 F (f_m_sheets_33 F n) v1 v2 v3 v4 v5 q4.2 else ((f_m_paper F v5 (4 : Int32) q4.2).bind fun q5 => (if q5.1 = 0 then ((f_m_paper F v5 (6 : Int32) q5.2).bind fun q6 => (if q6.1 = 0 then ((f_m_paper F v5 (2 : Int32) q6.2).bind fun q7 => ((f_m_paper F v5 (1 : Int32) q7.2).bind fun q8 => (if q8.1 = (1 : Int32) then ((f_m_paper F v5 (14 : Int32) q8.2).bind fun q9 => (if q9.1 = 0 then f_m_sheets_112 F (f_m_sheets_33 F n) v1 v2 v4 v5 v3 q7.1 q9.2 else f_m_sheets_112 F (f_m_sheets_33 F n) v1 v2 v4 v5 v3 (0 : Int32) q9.2)) else ((f_m_paper F v5 (1 : Int32) q8.2).bind fun q10 => (if q10.1 = (3 : Int32) then ((f_m_paper F v5 (16 : Int32) q10.2).bind fun q11 => (if 0 ≤ v2 then f_m_sheets_152 F (f_m_sheets_33 F n) v1 v2 v3 v4 v5 q7.1 ((q10.2.1 305 (0 : Int32).toNatClampNeg) - q11.1) v2 q11.2 else f_m_sheets_152 F (f_m_sheets_33 F n) v1 v2 v3 v4 v5 q7.1 ((q10.2.1 305 (0 : Int32).toNatClampNeg) - q11.1) (0 : Int32) q11.2)) else f_m_sheets_163 F (f_m_sheets_33 F n) v1 v2 v3 v4 v5 q7.1 q10.2))))) else f_m_sheets_181 F (f_m_sheets_33 F n) v1 v2 v3 v4 v5 q6.2)) else f_m_sheets_181 F (f_m_sheets_33 F n) v1 v2 v3 v4 v5 q5.2)))))
theorem ok_m_sheets_33 (X : mX) (d F : Nat) : ∀ (n : Nat) (v1 : Int32) (v2 : Int32) (v3 : Int32) (v4 : Int32) (v5 : Int32) (w6 : Option Value) (m : mM) (r : Unit) (m' : mM), f_m_sheets_33 F n v1 v2 v3 v4 v5 m = some (r, m') → m_R X (d + 69) 321 33 [some (.ref 304), some (.int v1), some (.int v2), some (.int v3), some (.int v4), some (.int v5), w6] [] (SH, m) (none, (SH, m')) := by
  intro n
  induction n with
  | zero => intro v1 v2 v3 v4 v5 w6 m r m' h; cases h
  | succ n ih =>
    intro v1 v2 v3 v4 v5 w6 m r m' h
    simp only [f_m_sheets_33] at h
    refine m_R_sg (by decide) [(.iload 5, 2, 0, 5, 0, 0, 0), (.bipush 60, 2, 0, 60, 0, 0, 0)] (by decide +kernel) (show m_sgl X _ _ _ _ _ = some (37, [some (.ref 304), some (.int v1), some (.int v2), some (.int v3), some (.int v4), some (.int v5), w6], [.int (60 : Int32), .int v5], (SH, m.1, m.2)) from rfl) ?_
    rcases m_ite h with ⟨c1300, h⟩ | ⟨c1300, h⟩
    · refine m_R_1 (by decide) (m_opb_of (ins := .if_icmp .ge 150) (len := 3) (tag := 0) (a := 187) (b := 0) (c := 0) (q := 0) (by decide +kernel)) (if_pos c1300) ?_
      refine m_R_sg (by decide) [(.aload_n 0, 1, 0, 0, 0, 0, 0), (.getfield 13, 3, 0, 12, 1, 3, 1493), (.iload_n 1, 1, 0, 1, 0, 0, 0), (.aload_n 0, 1, 0, 0, 0, 0, 0), (.iconst 0, 1, 0, 0, 0, 0, 0), (.iconst 2, 1, 0, 2, 0, 0, 0)] (by decide +kernel) (show m_sgl X _ _ _ _ _ = some (195, [some (.ref 304), some (.int v1), some (.int v2), some (.int v3), some (.int v4), some (.int v5), w6], [.int (2 : Int32), .int (0 : Int32), .ref 304, .int v1, .ref 305], (SH, m.1, m.2)) from rfl) ?_
      obtain ⟨q2, hc2, h⟩ := Option.bind_eq_some_iff.mp h
      refine m_R_cV (v := (some (.int q2.1))) (h1 := (SH, q2.2)) (rest := [.int v1, .ref 305]) (lo' := [some (.ref 304), some (.int (0 : Int32)), some (.int (2 : Int32))]) (ml := 3) (k0 := 304) (by decide) (Or.inl rfl) (m_opb_of (ins := .invokevirtual 65) (len := 3) (tag := 5) (a := 212) (b := 2) (c := 0) (q := 1633) (by decide +kernel)) (by decide +kernel) rfl (show m_isO 212 304 (SH, _) = true from m_isO_of (by decide +kernel)) (Nat.le_of_ble_eq_true rfl) rfl rfl (ok_m_hs X (d + 68) F _ _ _ _ _ hc2) ?_
      obtain ⟨c1301, h⟩ := m_ite_n h
      refine m_R_1 (by decide) (m_opb_of (ins := .iastore) (len := 1) (tag := 0) (a := 0) (b := 0) (c := 0) (q := 0) (by decide +kernel)) (m_s_iast sh_305 c1301) ?_
      refine m_R_sg (by decide) [(.aload_n 0, 1, 0, 0, 0, 0, 0), (.getfield 13, 3, 0, 12, 1, 3, 1493), (.iload_n 1, 1, 0, 1, 0, 0, 0), (.iconst 1, 1, 0, 1, 0, 0, 0), (.iadd, 1, 0, 0, 0, 0, 0), (.aload_n 0, 1, 0, 0, 0, 0, 0)] (by decide +kernel) (show m_sgl X _ _ _ _ _ = some (207, [some (.ref 304), some (.int v1), some (.int v2), some (.int v3), some (.int v4), some (.int v5), w6], [.ref 304, .int (v1 + (1 : Int32)), .ref 305], (SH, (m_up q2.2.1 305 v1.toNatClampNeg q2.1), q2.2.2)) from rfl) ?_
      obtain ⟨q3, hc3, h⟩ := Option.bind_eq_some_iff.mp h
      refine m_R_cV (v := (some (.int q3.1))) (h1 := (SH, q3.2)) (rest := [.int (v1 + (1 : Int32)), .ref 305]) (lo' := [some (.ref 304)]) (ml := 1) (k0 := 304) (by decide) (Or.inl rfl) (m_opb_of (ins := .invokevirtual 112) (len := 3) (tag := 5) (a := 244) (b := 0) (c := 0) (q := 1776) (by decide +kernel)) (by decide +kernel) rfl (show m_isO 244 304 (SH, _) = true from m_isO_of (by decide +kernel)) (Nat.le_of_ble_eq_true rfl) rfl rfl (ok_m_out X (d + 66) F _ _ _ hc3) ?_
      obtain ⟨c1302, h⟩ := m_ite_n h
      refine m_R_1 (by decide) (m_opb_of (ins := .iastore) (len := 1) (tag := 0) (a := 0) (b := 0) (c := 0) (q := 0) (by decide +kernel)) (m_s_iast sh_305 c1302) ?_
      refine m_R_sg (by decide) [(.aload_n 0, 1, 0, 0, 0, 0, 0), (.getfield 13, 3, 0, 12, 1, 3, 1493), (.iload_n 1, 1, 0, 1, 0, 0, 0), (.iconst 2, 1, 0, 2, 0, 0, 0), (.iadd, 1, 0, 0, 0, 0, 0), (.iload_n 3, 1, 0, 3, 0, 0, 0)] (by decide +kernel) (show m_sgl X _ _ _ _ _ = some (219, [some (.ref 304), some (.int v1), some (.int v2), some (.int v3), some (.int v4), some (.int v5), w6], [.int v3, .int (v1 + (2 : Int32)), .ref 305], (SH, (m_up q3.2.1 305 (v1 + (1 : Int32)).toNatClampNeg q3.1), q3.2.2)) from rfl) ?_
      obtain ⟨c1303, h⟩ := m_ite_n h
      refine m_R_1 (by decide) (m_opb_of (ins := .iastore) (len := 1) (tag := 0) (a := 0) (b := 0) (c := 0) (q := 0) (by decide +kernel)) (m_s_iast sh_305 c1303) ?_
      refine m_R_sg (by decide) [(.aload_n 0, 1, 0, 0, 0, 0, 0), (.getfield 13, 3, 0, 12, 1, 3, 1493), (.iload_n 1, 1, 0, 1, 0, 0, 0), (.iconst 3, 1, 0, 3, 0, 0, 0), (.iadd, 1, 0, 0, 0, 0, 0), (.iload 4, 2, 0, 4, 0, 0, 0)] (by decide +kernel) (show m_sgl X _ _ _ _ _ = some (229, [some (.ref 304), some (.int v1), some (.int v2), some (.int v3), some (.int v4), some (.int v5), w6], [.int v4, .int (v1 + (3 : Int32)), .ref 305], (SH, (m_up (m_up q3.2.1 305 (v1 + (1 : Int32)).toNatClampNeg q3.1) 305 (v1 + (2 : Int32)).toNatClampNeg v3), q3.2.2)) from rfl) ?_
      obtain ⟨c1304, h⟩ := m_ite_n h
      refine m_R_1 (by decide) (m_opb_of (ins := .iastore) (len := 1) (tag := 0) (a := 0) (b := 0) (c := 0) (q := 0) (by decide +kernel)) (m_s_iast sh_305 c1304) ?_
      refine m_R_sg (by decide) [(.aload_n 0, 1, 0, 0, 0, 0, 0), (.getfield 13, 3, 0, 12, 1, 3, 1493), (.iload_n 1, 1, 0, 1, 0, 0, 0), (.iconst 4, 1, 0, 4, 0, 0, 0), (.iadd, 1, 0, 0, 0, 0, 0), (.aload_n 0, 1, 0, 0, 0, 0, 0), (.getfield 13, 3, 0, 12, 1, 3, 1493), (.bipush 10, 2, 0, 10, 0, 0, 0)] (by decide +kernel) (show m_sgl X _ _ _ _ _ = some (243, [some (.ref 304), some (.int v1), some (.int v2), some (.int v3), some (.int v4), some (.int v5), w6], [.int (10 : Int32), .ref 305, .int (v1 + (4 : Int32)), .ref 305], (SH, (m_up (m_up (m_up q3.2.1 305 (v1 + (1 : Int32)).toNatClampNeg q3.1) 305 (v1 + (2 : Int32)).toNatClampNeg v3) 305 (v1 + (3 : Int32)).toNatClampNeg v4), q3.2.2)) from rfl) ?_
      refine m_R_1 (by decide) (m_opb_of (ins := .iaload) (len := 1) (tag := 0) (a := 0) (b := 0) (c := 0) (q := 0) (by decide +kernel)) (m_s_iald sh_305 (by decide) (show ¬ ((10 : Int32) < 0 ∨ 9732 ≤ (10 : Int32).toNatClampNeg) by decide)) ?_
      obtain ⟨c1305, h⟩ := m_ite_n h
      refine m_R_1 (by decide) (m_opb_of (ins := .iastore) (len := 1) (tag := 0) (a := 0) (b := 0) (c := 0) (q := 0) (by decide +kernel)) (m_s_iast sh_305 c1305) ?_
      exact ok_m_sheets_245 X d F _ _ _ _ _ _ _ _ _ h
    · refine m_R_1 (by decide) (m_opb_of (ins := .if_icmp .ge 150) (len := 3) (tag := 0) (a := 187) (b := 0) (c := 0) (q := 0) (by decide +kernel)) (if_neg c1300) ?_
      refine m_R_sg (by decide) [(.aload_n 0, 1, 0, 0, 0, 0, 0), (.iload 5, 2, 0, 5, 0, 0, 0), (.iconst 0, 1, 0, 0, 0, 0, 0)] (by decide +kernel) (show m_sgl X _ _ _ _ _ = some (44, [some (.ref 304), some (.int v1), some (.int v2), some (.int v3), some (.int v4), some (.int v5), w6], [.int (0 : Int32), .int v5, .ref 304], (SH, m.1, m.2)) from rfl) ?_
      obtain ⟨q4, hc4, h⟩ := Option.bind_eq_some_iff.mp h
      refine m_R_cV (v := (some (.int q4.1))) (h1 := (SH, q4.2)) (rest := []) (lo' := [some (.ref 304), some (.int v5), some (.int (0 : Int32))]) (ml := 3) (k0 := 304) (by decide) (Or.inl rfl) (m_opb_of (ins := .invokevirtual 160) (len := 3) (tag := 5) (a := 246) (b := 2) (c := 0) (q := 1791) (by decide +kernel)) (by decide +kernel) rfl (show m_isO 246 304 (SH, _) = true from m_isO_of (by decide +kernel)) (Nat.le_of_ble_eq_true rfl) rfl rfl (ok_m_paper X (d + 68) F _ _ _ _ _ hc4) ?_
      rcases m_ite h with ⟨c1306, h⟩ | ⟨c1306, h⟩
      · refine m_R_1 (by decide) (m_opb_of (ins := .ifCond .eq 134) (len := 3) (tag := 0) (a := 181) (b := 0) (c := 0) (q := 0) (by decide +kernel)) (if_pos c1306) ?_
        exact ok_m_sheets_181 X d F _ (fun a0 a1 a2 a3 a4 a5 m r m' h => ih a0 a1 a2 a3 a4 a5 m r m' h) _ _ _ _ _ _ _ _ _ h
      · refine m_R_1 (by decide) (m_opb_of (ins := .ifCond .eq 134) (len := 3) (tag := 0) (a := 181) (b := 0) (c := 0) (q := 0) (by decide +kernel)) (if_neg c1306) ?_
        refine m_R_sg (by decide) [(.aload_n 0, 1, 0, 0, 0, 0, 0), (.iload 5, 2, 0, 5, 0, 0, 0), (.iconst 4, 1, 0, 4, 0, 0, 0)] (by decide +kernel) (show m_sgl X _ _ _ _ _ = some (54, [some (.ref 304), some (.int v1), some (.int v2), some (.int v3), some (.int v4), some (.int v5), w6], [.int (4 : Int32), .int v5, .ref 304], (SH, q4.2.1, q4.2.2)) from rfl) ?_
        obtain ⟨q5, hc5, h⟩ := Option.bind_eq_some_iff.mp h
        refine m_R_cV (v := (some (.int q5.1))) (h1 := (SH, q5.2)) (rest := []) (lo' := [some (.ref 304), some (.int v5), some (.int (4 : Int32))]) (ml := 3) (k0 := 304) (by decide) (Or.inl rfl) (m_opb_of (ins := .invokevirtual 160) (len := 3) (tag := 5) (a := 246) (b := 2) (c := 0) (q := 1791) (by decide +kernel)) (by decide +kernel) rfl (show m_isO 246 304 (SH, _) = true from m_isO_of (by decide +kernel)) (Nat.le_of_ble_eq_true rfl) rfl rfl (ok_m_paper X (d + 68) F _ _ _ _ _ hc5) ?_
        rcases m_ite h with ⟨c1307, h⟩ | ⟨c1307, h⟩
        · refine m_R_1 (by decide) (m_opb_of (ins := .ifCond .ne 124) (len := 3) (tag := 0) (a := 181) (b := 0) (c := 0) (q := 0) (by decide +kernel)) (if_pos c1307) ?_
          refine m_R_sg (by decide) [(.aload_n 0, 1, 0, 0, 0, 0, 0), (.iload 5, 2, 0, 5, 0, 0, 0), (.bipush 6, 2, 0, 6, 0, 0, 0)] (by decide +kernel) (show m_sgl X _ _ _ _ _ = some (65, [some (.ref 304), some (.int v1), some (.int v2), some (.int v3), some (.int v4), some (.int v5), w6], [.int (6 : Int32), .int v5, .ref 304], (SH, q5.2.1, q5.2.2)) from rfl) ?_
          obtain ⟨q6, hc6, h⟩ := Option.bind_eq_some_iff.mp h
          refine m_R_cV (v := (some (.int q6.1))) (h1 := (SH, q6.2)) (rest := []) (lo' := [some (.ref 304), some (.int v5), some (.int (6 : Int32))]) (ml := 3) (k0 := 304) (by decide) (Or.inl rfl) (m_opb_of (ins := .invokevirtual 160) (len := 3) (tag := 5) (a := 246) (b := 2) (c := 0) (q := 1791) (by decide +kernel)) (by decide +kernel) rfl (show m_isO 246 304 (SH, _) = true from m_isO_of (by decide +kernel)) (Nat.le_of_ble_eq_true rfl) rfl rfl (ok_m_paper X (d + 68) F _ _ _ _ _ hc6) ?_
          rcases m_ite h with ⟨c1308, h⟩ | ⟨c1308, h⟩
          · refine m_R_1 (by decide) (m_opb_of (ins := .ifCond .eq 6) (len := 3) (tag := 0) (a := 74) (b := 0) (c := 0) (q := 0) (by decide +kernel)) (if_pos c1308) ?_
            refine m_R_sg (by decide) [(.aload_n 0, 1, 0, 0, 0, 0, 0), (.iload 5, 2, 0, 5, 0, 0, 0), (.iconst 2, 1, 0, 2, 0, 0, 0)] (by decide +kernel) (show m_sgl X _ _ _ _ _ = some (78, [some (.ref 304), some (.int v1), some (.int v2), some (.int v3), some (.int v4), some (.int v5), w6], [.int (2 : Int32), .int v5, .ref 304], (SH, q6.2.1, q6.2.2)) from rfl) ?_
            obtain ⟨q7, hc7, h⟩ := Option.bind_eq_some_iff.mp h
            refine m_R_cV (v := (some (.int q7.1))) (h1 := (SH, q7.2)) (rest := []) (lo' := [some (.ref 304), some (.int v5), some (.int (2 : Int32))]) (ml := 3) (k0 := 304) (by decide) (Or.inl rfl) (m_opb_of (ins := .invokevirtual 160) (len := 3) (tag := 5) (a := 246) (b := 2) (c := 0) (q := 1791) (by decide +kernel)) (by decide +kernel) rfl (show m_isO 246 304 (SH, _) = true from m_isO_of (by decide +kernel)) (Nat.le_of_ble_eq_true rfl) rfl rfl (ok_m_paper X (d + 68) F _ _ _ _ _ hc7) ?_
            refine m_R_sg (by decide) [(.istore 6, 2, 0, 6, 0, 0, 0), (.aload_n 0, 1, 0, 0, 0, 0, 0), (.iload 5, 2, 0, 5, 0, 0, 0), (.iconst 1, 1, 0, 1, 0, 0, 0)] (by decide +kernel) (show m_sgl X _ _ _ _ _ = some (87, [some (.ref 304), some (.int v1), some (.int v2), some (.int v3), some (.int v4), some (.int v5), some (.int q7.1)], [.int (1 : Int32), .int v5, .ref 304], (SH, q7.2.1, q7.2.2)) from rfl) ?_
            obtain ⟨q8, hc8, h⟩ := Option.bind_eq_some_iff.mp h
            refine m_R_cV (v := (some (.int q8.1))) (h1 := (SH, q8.2)) (rest := []) (lo' := [some (.ref 304), some (.int v5), some (.int (1 : Int32))]) (ml := 3) (k0 := 304) (by decide) (Or.inl rfl) (m_opb_of (ins := .invokevirtual 160) (len := 3) (tag := 5) (a := 246) (b := 2) (c := 0) (q := 1791) (by decide +kernel)) (by decide +kernel) rfl (show m_isO 246 304 (SH, _) = true from m_isO_of (by decide +kernel)) (Nat.le_of_ble_eq_true rfl) rfl rfl (ok_m_paper X (d + 68) F _ _ _ _ _ hc8) ?_
            refine m_R_sg (by decide) [(.iconst 1, 1, 0, 1, 0, 0, 0)] (by decide +kernel) (show m_sgl X _ _ _ _ _ = some (91, [some (.ref 304), some (.int v1), some (.int v2), some (.int v3), some (.int v4), some (.int v5), some (.int q7.1)], [.int (1 : Int32), .int q8.1], (SH, q8.2.1, q8.2.2)) from rfl) ?_
            rcases m_ite h with ⟨c1309, h⟩ | ⟨c1309, h⟩
            · refine m_R_1 (by decide) (m_opb_of (ins := .if_icmp .ne 26) (len := 3) (tag := 0) (a := 117) (b := 0) (c := 0) (q := 0) (by decide +kernel)) (if_pos c1309) ?_
              refine m_R_sg (by decide) [(.iload_n 3, 1, 0, 3, 0, 0, 0), (.aload_n 0, 1, 0, 0, 0, 0, 0), (.iload 5, 2, 0, 5, 0, 0, 0), (.bipush 14, 2, 0, 14, 0, 0, 0)] (by decide +kernel) (show m_sgl X _ _ _ _ _ = some (100, [some (.ref 304), some (.int v1), some (.int v2), some (.int v3), some (.int v4), some (.int v5), some (.int q7.1)], [.int (14 : Int32), .int v5, .ref 304, .int v3], (SH, q8.2.1, q8.2.2)) from rfl) ?_
              obtain ⟨q9, hc9, h⟩ := Option.bind_eq_some_iff.mp h
              refine m_R_cV (v := (some (.int q9.1))) (h1 := (SH, q9.2)) (rest := [.int v3]) (lo' := [some (.ref 304), some (.int v5), some (.int (14 : Int32))]) (ml := 3) (k0 := 304) (by decide) (Or.inl rfl) (m_opb_of (ins := .invokevirtual 160) (len := 3) (tag := 5) (a := 246) (b := 2) (c := 0) (q := 1791) (by decide +kernel)) (by decide +kernel) rfl (show m_isO 246 304 (SH, _) = true from m_isO_of (by decide +kernel)) (Nat.le_of_ble_eq_true rfl) rfl rfl (ok_m_paper X (d + 68) F _ _ _ _ _ hc9) ?_
              rcases m_ite h with ⟨c1310, h⟩ | ⟨c1310, h⟩
              · refine m_R_1 (by decide) (m_opb_of (ins := .ifCond .ne 8) (len := 3) (tag := 0) (a := 111) (b := 0) (c := 0) (q := 0) (by decide +kernel)) (if_pos c1310) ?_
                refine m_R_sg (by decide) [(.iload 6, 2, 0, 6, 0, 0, 0), (.goto 4, 3, 0, 112, 0, 0, 0)] (by decide +kernel) (show m_sgl X _ _ _ _ _ = some (112, [some (.ref 304), some (.int v1), some (.int v2), some (.int v3), some (.int v4), some (.int v5), some (.int q7.1)], [.int q7.1, .int v3], (SH, q9.2.1, q9.2.2)) from rfl) ?_
                exact ok_m_sheets_112 X d F _ (fun a0 a1 a2 a3 a4 a5 m r m' h => ih a0 a1 a2 a3 a4 a5 m r m' h) _ _ _ _ _ _ _ _ _ _ _ h
              · refine m_R_1 (by decide) (m_opb_of (ins := .ifCond .ne 8) (len := 3) (tag := 0) (a := 111) (b := 0) (c := 0) (q := 0) (by decide +kernel)) (if_neg c1310) ?_
                refine m_R_sg (by decide) [(.iconst 0, 1, 0, 0, 0, 0, 0)] (by decide +kernel) (show m_sgl X _ _ _ _ _ = some (112, [some (.ref 304), some (.int v1), some (.int v2), some (.int v3), some (.int v4), some (.int v5), some (.int q7.1)], [.int (0 : Int32), .int v3], (SH, q9.2.1, q9.2.2)) from rfl) ?_
                exact ok_m_sheets_112 X d F _ (fun a0 a1 a2 a3 a4 a5 m r m' h => ih a0 a1 a2 a3 a4 a5 m r m' h) _ _ _ _ _ _ _ _ _ _ _ h
            · refine m_R_1 (by decide) (m_opb_of (ins := .if_icmp .ne 26) (len := 3) (tag := 0) (a := 117) (b := 0) (c := 0) (q := 0) (by decide +kernel)) (if_neg c1309) ?_
              refine m_R_sg (by decide) [(.aload_n 0, 1, 0, 0, 0, 0, 0), (.iload 5, 2, 0, 5, 0, 0, 0), (.iconst 1, 1, 0, 1, 0, 0, 0)] (by decide +kernel) (show m_sgl X _ _ _ _ _ = some (121, [some (.ref 304), some (.int v1), some (.int v2), some (.int v3), some (.int v4), some (.int v5), some (.int q7.1)], [.int (1 : Int32), .int v5, .ref 304], (SH, q8.2.1, q8.2.2)) from rfl) ?_
              obtain ⟨q10, hc10, h⟩ := Option.bind_eq_some_iff.mp h
              refine m_R_cV (v := (some (.int q10.1))) (h1 := (SH, q10.2)) (rest := []) (lo' := [some (.ref 304), some (.int v5), some (.int (1 : Int32))]) (ml := 3) (k0 := 304) (by decide) (Or.inl rfl) (m_opb_of (ins := .invokevirtual 160) (len := 3) (tag := 5) (a := 246) (b := 2) (c := 0) (q := 1791) (by decide +kernel)) (by decide +kernel) rfl (show m_isO 246 304 (SH, _) = true from m_isO_of (by decide +kernel)) (Nat.le_of_ble_eq_true rfl) rfl rfl (ok_m_paper X (d + 68) F _ _ _ _ _ hc10) ?_
              refine m_R_sg (by decide) [(.iconst 3, 1, 0, 3, 0, 0, 0)] (by decide +kernel) (show m_sgl X _ _ _ _ _ = some (125, [some (.ref 304), some (.int v1), some (.int v2), some (.int v3), some (.int v4), some (.int v5), some (.int q7.1)], [.int (3 : Int32), .int q10.1], (SH, q10.2.1, q10.2.2)) from rfl) ?_
              rcases m_ite h with ⟨c1311, h⟩ | ⟨c1311, h⟩
              · refine m_R_1 (by decide) (m_opb_of (ins := .if_icmp .ne 38) (len := 3) (tag := 0) (a := 163) (b := 0) (c := 0) (q := 0) (by decide +kernel)) (if_pos c1311) ?_
                refine m_R_sg (by decide) [(.aload_n 0, 1, 0, 0, 0, 0, 0), (.getfield 13, 3, 0, 12, 1, 3, 1493), (.iconst 0, 1, 0, 0, 0, 0, 0)] (by decide +kernel) (show m_sgl X _ _ _ _ _ = some (133, [some (.ref 304), some (.int v1), some (.int v2), some (.int v3), some (.int v4), some (.int v5), some (.int q7.1)], [.int (0 : Int32), .ref 305], (SH, q10.2.1, q10.2.2)) from rfl) ?_
                refine m_R_1 (by decide) (m_opb_of (ins := .iaload) (len := 1) (tag := 0) (a := 0) (b := 0) (c := 0) (q := 0) (by decide +kernel)) (m_s_iald sh_305 (by decide) (show ¬ ((0 : Int32) < 0 ∨ 9732 ≤ (0 : Int32).toNatClampNeg) by decide)) ?_
                refine m_R_sg (by decide) [(.aload_n 0, 1, 0, 0, 0, 0, 0), (.iload 5, 2, 0, 5, 0, 0, 0), (.bipush 16, 2, 0, 16, 0, 0, 0)] (by decide +kernel) (show m_sgl X _ _ _ _ _ = some (139, [some (.ref 304), some (.int v1), some (.int v2), some (.int v3), some (.int v4), some (.int v5), some (.int q7.1)], [.int (16 : Int32), .int v5, .ref 304, .int (q10.2.1 305 (0 : Int32).toNatClampNeg)], (SH, q10.2.1, q10.2.2)) from rfl) ?_
                obtain ⟨q11, hc11, h⟩ := Option.bind_eq_some_iff.mp h
                refine m_R_cV (v := (some (.int q11.1))) (h1 := (SH, q11.2)) (rest := [.int (q10.2.1 305 (0 : Int32).toNatClampNeg)]) (lo' := [some (.ref 304), some (.int v5), some (.int (16 : Int32))]) (ml := 3) (k0 := 304) (by decide) (Or.inl rfl) (m_opb_of (ins := .invokevirtual 160) (len := 3) (tag := 5) (a := 246) (b := 2) (c := 0) (q := 1791) (by decide +kernel)) (by decide +kernel) rfl (show m_isO 246 304 (SH, _) = true from m_isO_of (by decide +kernel)) (Nat.le_of_ble_eq_true rfl) rfl rfl (ok_m_paper X (d + 68) F _ _ _ _ _ hc11) ?_
                refine m_R_sg (by decide) [(.isub, 1, 0, 0, 0, 0, 0), (.iload_n 2, 1, 0, 2, 0, 0, 0)] (by decide +kernel) (show m_sgl X _ _ _ _ _ = some (144, [some (.ref 304), some (.int v1), some (.int v2), some (.int v3), some (.int v4), some (.int v5), some (.int q7.1)], [.int v2, .int ((q10.2.1 305 (0 : Int32).toNatClampNeg) - q11.1)], (SH, q11.2.1, q11.2.2)) from rfl) ?_
                rcases m_ite h with ⟨c1312, h⟩ | ⟨c1312, h⟩
                · refine m_R_1 (by decide) (m_opb_of (ins := .ifCond .ge 7) (len := 3) (tag := 0) (a := 151) (b := 0) (c := 0) (q := 0) (by decide +kernel)) (if_pos c1312) ?_
                  refine m_R_sg (by decide) [(.iload_n 2, 1, 0, 2, 0, 0, 0)] (by decide +kernel) (show m_sgl X _ _ _ _ _ = some (152, [some (.ref 304), some (.int v1), some (.int v2), some (.int v3), some (.int v4), some (.int v5), some (.int q7.1)], [.int v2, .int ((q10.2.1 305 (0 : Int32).toNatClampNeg) - q11.1)], (SH, q11.2.1, q11.2.2)) from rfl) ?_
                  exact ok_m_sheets_152 X d F _ (fun a0 a1 a2 a3 a4 a5 m r m' h => ih a0 a1 a2 a3 a4 a5 m r m' h) _ _ _ _ _ _ _ _ _ _ _ h
                · refine m_R_1 (by decide) (m_opb_of (ins := .ifCond .ge 7) (len := 3) (tag := 0) (a := 151) (b := 0) (c := 0) (q := 0) (by decide +kernel)) (if_neg c1312) ?_
                  refine m_R_sg (by decide) [(.iconst 0, 1, 0, 0, 0, 0, 0), (.goto 4, 3, 0, 152, 0, 0, 0)] (by decide +kernel) (show m_sgl X _ _ _ _ _ = some (152, [some (.ref 304), some (.int v1), some (.int v2), some (.int v3), some (.int v4), some (.int v5), some (.int q7.1)], [.int (0 : Int32), .int ((q10.2.1 305 (0 : Int32).toNatClampNeg) - q11.1)], (SH, q11.2.1, q11.2.2)) from rfl) ?_
                  exact ok_m_sheets_152 X d F _ (fun a0 a1 a2 a3 a4 a5 m r m' h => ih a0 a1 a2 a3 a4 a5 m r m' h) _ _ _ _ _ _ _ _ _ _ _ h
              · refine m_R_1 (by decide) (m_opb_of (ins := .if_icmp .ne 38) (len := 3) (tag := 0) (a := 163) (b := 0) (c := 0) (q := 0) (by decide +kernel)) (if_neg c1311) ?_
                exact ok_m_sheets_163 X d F _ (fun a0 a1 a2 a3 a4 a5 m r m' h => ih a0 a1 a2 a3 a4 a5 m r m' h) _ _ _ _ _ _ _ _ _ h
          · refine m_R_1 (by decide) (m_opb_of (ins := .ifCond .eq 6) (len := 3) (tag := 0) (a := 74) (b := 0) (c := 0) (q := 0) (by decide +kernel)) (if_neg c1308) ?_
            refine m_R_sg (by decide) [(.goto 110, 3, 0, 181, 0, 0, 0)] (by decide +kernel) (show m_sgl X _ _ _ _ _ = some (181, [some (.ref 304), some (.int v1), some (.int v2), some (.int v3), some (.int v4), some (.int v5), w6], [], (SH, q6.2.1, q6.2.2)) from rfl) ?_
            exact ok_m_sheets_181 X d F _ (fun a0 a1 a2 a3 a4 a5 m r m' h => ih a0 a1 a2 a3 a4 a5 m r m' h) _ _ _ _ _ _ _ _ _ h
        · refine m_R_1 (by decide) (m_opb_of (ins := .ifCond .ne 124) (len := 3) (tag := 0) (a := 181) (b := 0) (c := 0) (q := 0) (by decide +kernel)) (if_neg c1307) ?_
          exact ok_m_sheets_181 X d F _ (fun a0 a1 a2 a3 a4 a5 m r m' h => ih a0 a1 a2 a3 a4 a5 m r m' h) _ _ _ _ _ _ _ _ _ h
def f_m_sheets (F : Nat)    (m : mM) : Option (Unit × mM) := ((f_m_ruled F (4 : Int32) (-1 : Int32) (0 : Int32) m).bind fun q1 => f_m_sheets_33 F F ((9032 : Int32) + ((7 : Int32) * ((m.1 305 (0 : Int32).toNatClampNeg) / (7 : Int32)))) q1.1 (0 : Int32) (0 : Int32) (0 : Int32) q1.2)
theorem ok_m_sheets (X : mX) (d F : Nat) : ∀   (m : mM) (r : Unit) (m' : mM), f_m_sheets F  m = some (r, m') → m_R X (d + 69) 321 0 [some (.ref 304), none, none, none, none, none, none] [] (SH, m) (none, (SH, m')) := by
  intro m r m' h
  unfold f_m_sheets at h
  refine m_R_sg (by decide) [(.sipush 9032, 3, 0, 9032, 0, 0, 0), (.bipush 7, 2, 0, 7, 0, 0, 0), (.aload_n 0, 1, 0, 0, 0, 0, 0), (.getfield 13, 3, 0, 12, 1, 3, 1493), (.iconst 0, 1, 0, 0, 0, 0, 0)] (by decide +kernel) (show m_sgl X _ _ _ _ _ = some (10, [some (.ref 304), none, none, none, none, none, none], [.int (0 : Int32), .ref 305, .int (7 : Int32), .int (9032 : Int32)], (SH, m.1, m.2)) from rfl) ?_
  refine m_R_1 (by decide) (m_opb_of (ins := .iaload) (len := 1) (tag := 0) (a := 0) (b := 0) (c := 0) (q := 0) (by decide +kernel)) (m_s_iald sh_305 (by decide) (show ¬ ((0 : Int32) < 0 ∨ 9732 ≤ (0 : Int32).toNatClampNeg) by decide)) ?_
  refine m_R_sg (by decide) [(.bipush 7, 2, 0, 7, 0, 0, 0)] (by decide +kernel) (show m_sgl X _ _ _ _ _ = some (13, [some (.ref 304), none, none, none, none, none, none], [.int (7 : Int32), .int (m.1 305 (0 : Int32).toNatClampNeg), .int (7 : Int32), .int (9032 : Int32)], (SH, m.1, m.2)) from rfl) ?_
  refine m_R_1 (by decide) (m_opb_of (ins := .idiv) (len := 1) (tag := 0) (a := 0) (b := 0) (c := 0) (q := 0) (by decide +kernel)) (m_s_idiv (by decide)) ?_
  refine m_R_sg (by decide) [(.imul, 1, 0, 0, 0, 0, 0), (.iadd, 1, 0, 0, 0, 0, 0), (.istore_n 1, 1, 0, 1, 0, 0, 0), (.aload_n 0, 1, 0, 0, 0, 0, 0), (.iconst 4, 1, 0, 4, 0, 0, 0), (.iconst (-1), 1, 0, 1, 1, 0, 0), (.iconst 0, 1, 0, 0, 0, 0, 0)] (by decide +kernel) (show m_sgl X _ _ _ _ _ = some (21, [some (.ref 304), some (.int ((9032 : Int32) + ((7 : Int32) * ((m.1 305 (0 : Int32).toNatClampNeg) / (7 : Int32))))), none, none, none, none, none], [.int (0 : Int32), .int (-1 : Int32), .int (4 : Int32), .ref 304], (SH, m.1, m.2)) from rfl) ?_
  obtain ⟨q1, hc1, h⟩ := Option.bind_eq_some_iff.mp h
  refine m_R_cV (v := (some (.int q1.1))) (h1 := (SH, q1.2)) (rest := []) (lo' := [some (.ref 304), some (.int (4 : Int32)), some (.int (-1 : Int32)), some (.int (0 : Int32))]) (ml := 4) (k0 := 304) (by decide) (Or.inl rfl) (m_opb_of (ins := .invokevirtual 120) (len := 3) (tag := 5) (a := 226) (b := 3) (c := 0) (q := 1689) (by decide +kernel)) (by decide +kernel) rfl (show m_isO 226 304 (SH, _) = true from m_isO_of (by decide +kernel)) (Nat.le_of_ble_eq_true rfl) rfl rfl (ok_m_ruled X (d + 0) F _ _ _ _ _ _ hc1) ?_
  refine m_R_sg (by decide) [(.istore_n 2, 1, 0, 2, 0, 0, 0), (.iconst 0, 1, 0, 0, 0, 0, 0), (.istore_n 3, 1, 0, 3, 0, 0, 0), (.iconst 0, 1, 0, 0, 0, 0, 0), (.istore 4, 2, 0, 4, 0, 0, 0), (.iconst 0, 1, 0, 0, 0, 0, 0), (.istore 5, 2, 0, 5, 0, 0, 0)] (by decide +kernel) (show m_sgl X _ _ _ _ _ = some (33, [some (.ref 304), some (.int ((9032 : Int32) + ((7 : Int32) * ((m.1 305 (0 : Int32).toNatClampNeg) / (7 : Int32))))), some (.int q1.1), some (.int (0 : Int32)), some (.int (0 : Int32)), some (.int (0 : Int32)), none], [], (SH, q1.2.1, q1.2.2)) from rfl) ?_
  exact ok_m_sheets_33 X d F F _ _ _ _ _ _ _ _ _ h
def f_m_heardOf_85 (F : Nat)  (k5 : Int32 → Int32 → Int32 → Int32 → mM → Option (Int32 × mM)) (v1 : Int32) (v2 : Int32) (v3 : Int32) (v4 : Int32) (m : mM) : Option (Int32 × mM) := k5 v1 v2 v3 (v4 + (1 : Int32)) m
theorem ok_m_heardOf_85 (X : mX) (d F : Nat) (k5 : Int32 → Int32 → Int32 → Int32 → mM → Option (Int32 × mM)) (hk5 : ∀ (v1 : Int32) (v2 : Int32) (v3 : Int32) (v4 : Int32) (w5 : Option Value) (m : mM) (r : Int32) (m' : mM), k5 v1 v2 v3 v4 m = some (r, m') → m_R X (d + 2) 317 5 [some (.ref 304), some (.int v1), some (.int v2), some (.int v3), some (.int v4), w5] [] (SH, m) (some (.int r), (SH, m'))) : ∀ (v1 : Int32) (v2 : Int32) (v3 : Int32) (v4 : Int32) (w5 : Option Value) (m : mM) (r : Int32) (m' : mM), f_m_heardOf_85 F k5 v1 v2 v3 v4 m = some (r, m') → m_R X (d + 2) 317 85 [some (.ref 304), some (.int v1), some (.int v2), some (.int v3), some (.int v4), w5] [] (SH, m) (some (.int r), (SH, m')) := by
  intro v1 v2 v3 v4 w5 m r m' h
  unfold f_m_heardOf_85 at h
  refine m_R_sg (by decide) [(.iinc 4 1, 3, 0, 4, 1, 0, 0), (.goto (-83), 3, 0, 5, 0, 0, 0)] (by decide +kernel) (show m_sgl X _ _ _ _ _ = some (5, [some (.ref 304), some (.int v1), some (.int v2), some (.int v3), some (.int (v4 + (1 : Int32))), w5], [], (SH, m.1, m.2)) from rfl) ?_
  exact hk5 _ _ _ _ _ _ _ _ h
def f_m_heardOf_83 (F : Nat)  (k5 : Int32 → Int32 → Int32 → Int32 → mM → Option (Int32 × mM)) (v1 : Int32) (v2 : Int32) (v4 : Int32) (s0 : Int32) (s1 : Int32) (m : mM) : Option (Int32 × mM) := f_m_heardOf_85 F k5 v1 v2 (s0 + s1) v4 m
theorem ok_m_heardOf_83 (X : mX) (d F : Nat) (k5 : Int32 → Int32 → Int32 → Int32 → mM → Option (Int32 × mM)) (hk5 : ∀ (v1 : Int32) (v2 : Int32) (v3 : Int32) (v4 : Int32) (w5 : Option Value) (m : mM) (r : Int32) (m' : mM), k5 v1 v2 v3 v4 m = some (r, m') → m_R X (d + 2) 317 5 [some (.ref 304), some (.int v1), some (.int v2), some (.int v3), some (.int v4), w5] [] (SH, m) (some (.int r), (SH, m'))) : ∀ (v1 : Int32) (v2 : Int32) (v4 : Int32) (s0 : Int32) (s1 : Int32) (w3 : Option Value) (w5 : Option Value) (m : mM) (r : Int32) (m' : mM), f_m_heardOf_83 F k5 v1 v2 v4 s0 s1 m = some (r, m') → m_R X (d + 2) 317 83 [some (.ref 304), some (.int v1), some (.int v2), w3, some (.int v4), w5] [.int s1, .int s0] (SH, m) (some (.int r), (SH, m')) := by
  intro v1 v2 v4 s0 s1 w3 w5 m r m' h
  unfold f_m_heardOf_83 at h
  refine m_R_sg (by decide) [(.iadd, 1, 0, 0, 0, 0, 0), (.istore_n 3, 1, 0, 3, 0, 0, 0)] (by decide +kernel) (show m_sgl X _ _ _ _ _ = some (85, [some (.ref 304), some (.int v1), some (.int v2), some (.int (s0 + s1)), some (.int v4), w5], [], (SH, m.1, m.2)) from rfl) ?_
  exact ok_m_heardOf_85 X d F _ hk5 _ _ _ _ _ _ _ _ h
def f_m_heardOf_82 (F : Nat)  (k5 : Int32 → Int32 → Int32 → Int32 → mM → Option (Int32 × mM)) (v1 : Int32) (v2 : Int32) (v4 : Int32) (s0 : Int32) (m : mM) : Option (Int32 × mM) := f_m_heardOf_83 F k5 v1 v2 v4 s0 (0 : Int32) m
theorem ok_m_heardOf_82 (X : mX) (d F : Nat) (k5 : Int32 → Int32 → Int32 → Int32 → mM → Option (Int32 × mM)) (hk5 : ∀ (v1 : Int32) (v2 : Int32) (v3 : Int32) (v4 : Int32) (w5 : Option Value) (m : mM) (r : Int32) (m' : mM), k5 v1 v2 v3 v4 m = some (r, m') → m_R X (d + 2) 317 5 [some (.ref 304), some (.int v1), some (.int v2), some (.int v3), some (.int v4), w5] [] (SH, m) (some (.int r), (SH, m'))) : ∀ (v1 : Int32) (v2 : Int32) (v4 : Int32) (s0 : Int32) (w3 : Option Value) (w5 : Option Value) (m : mM) (r : Int32) (m' : mM), f_m_heardOf_82 F k5 v1 v2 v4 s0 m = some (r, m') → m_R X (d + 2) 317 82 [some (.ref 304), some (.int v1), some (.int v2), w3, some (.int v4), w5] [.int s0] (SH, m) (some (.int r), (SH, m')) := by
  intro v1 v2 v4 s0 w3 w5 m r m' h
  unfold f_m_heardOf_82 at h
  refine m_R_sg (by decide) [(.iconst 0, 1, 0, 0, 0, 0, 0)] (by decide +kernel) (show m_sgl X _ _ _ _ _ = some (83, [some (.ref 304), some (.int v1), some (.int v2), w3, some (.int v4), w5], [.int (0 : Int32), .int s0], (SH, m.1, m.2)) from rfl) ?_
  exact ok_m_heardOf_83 X d F _ hk5 _ _ _ _ _ _ _ _ _ _ h
def f_m_heardOf_5 (F : Nat)   : Nat → Int32 → Int32 → Int32 → Int32 → mM → Option (Int32 × mM)
  | 0, _, _, _, _, _ => none
  | n + 1, v1, v2, v3, v4, m => (if (m.1 305 (2 : Int32).toNatClampNeg) ≤ v4 then some (v3, m) else ((f_m_isUp F v4 m).bind fun q1 => (if q1.1 = 0 then ((f_m_hs F v4 (8 : Int32) q1.2).bind fun q2 => (if q2.1 < (v2 - (29 : Int32)) then f_m_heardOf_82 F (f_m_heardOf_5 F n) v1 v2 v4 v3 q2.2 else (if v2 < q2.1 then f_m_heardOf_82 F (f_m_heardOf_5 F n) v1 v2 v4 v3 q2.2 else ((f_m_hs F v4 (1 : Int32) q2.2).bind fun q3 => ((f_m_hs F v1 (1 : Int32) q3.2).bind fun q4 => ((f_m_farOf F q3.1 q4.1 q4.2).bind fun q5 => (if v2 < (q2.1 + q5.1) then f_m_heardOf_82 F (f_m_heardOf_5 F n) v1 v2 v4 v3 q5.2 else f_m_heardOf_83 F (f_m_heardOf_5 F n) v1 v2 v4 v3 (1 : Int32) q5.2))))))) else f_m_heardOf_85 F (f_m_heardOf_5 F n) v1 v2 v3 v4 q1.2)))
theorem ok_m_heardOf_5 (X : mX) (d F : Nat) : ∀ (n : Nat) (v1 : Int32) (v2 : Int32) (v3 : Int32) (v4 : Int32) (w5 : Option Value) (m : mM) (r : Int32) (m' : mM), f_m_heardOf_5 F n v1 v2 v3 v4 m = some (r, m') → m_R X (d + 2) 317 5 [some (.ref 304), some (.int v1), some (.int v2), some (.int v3), some (.int v4), w5] [] (SH, m) (some (.int r), (SH, m')) := by
  intro n
  induction n with
  | zero => intro v1 v2 v3 v4 w5 m r m' h; cases h
  | succ n ih =>
    intro v1 v2 v3 v4 w5 m r m' h
    simp only [f_m_heardOf_5] at h
    refine m_R_sg (by decide) [(.iload 4, 2, 0, 4, 0, 0, 0), (.aload_n 0, 1, 0, 0, 0, 0, 0), (.getfield 13, 3, 0, 12, 1, 3, 1493), (.iconst 2, 1, 0, 2, 0, 0, 0)] (by decide +kernel) (show m_sgl X _ _ _ _ _ = some (12, [some (.ref 304), some (.int v1), some (.int v2), some (.int v3), some (.int v4), w5], [.int (2 : Int32), .ref 305, .int v4], (SH, m.1, m.2)) from rfl) ?_
    refine m_R_1 (by decide) (m_opb_of (ins := .iaload) (len := 1) (tag := 0) (a := 0) (b := 0) (c := 0) (q := 0) (by decide +kernel)) (m_s_iald sh_305 (by decide) (show ¬ ((2 : Int32) < 0 ∨ 9732 ≤ (2 : Int32).toNatClampNeg) by decide)) ?_
    rcases m_ite h with ⟨c1313, h⟩ | ⟨c1313, h⟩
    · refine m_R_1 (by decide) (m_opb_of (ins := .if_icmp .ge 78) (len := 3) (tag := 0) (a := 91) (b := 0) (c := 0) (q := 0) (by decide +kernel)) (if_pos c1313) ?_
      refine m_R_sg (by decide) [(.iload_n 3, 1, 0, 3, 0, 0, 0)] (by decide +kernel) (show m_sgl X _ _ _ _ _ = some (92, [some (.ref 304), some (.int v1), some (.int v2), some (.int v3), some (.int v4), w5], [.int v3], (SH, m.1, m.2)) from rfl) ?_
      obtain ⟨rfl, rfl⟩ := m_some h
      exact m_R_iret (by decide) (m_opb_of (ins := .ireturn) (len := 1) (tag := 1) (a := 0) (b := 0) (c := 0) (q := 0) (by decide +kernel)) (Or.inl rfl)
    · refine m_R_1 (by decide) (m_opb_of (ins := .if_icmp .ge 78) (len := 3) (tag := 0) (a := 91) (b := 0) (c := 0) (q := 0) (by decide +kernel)) (if_neg c1313) ?_
      refine m_R_sg (by decide) [(.aload_n 0, 1, 0, 0, 0, 0, 0), (.iload 4, 2, 0, 4, 0, 0, 0)] (by decide +kernel) (show m_sgl X _ _ _ _ _ = some (19, [some (.ref 304), some (.int v1), some (.int v2), some (.int v3), some (.int v4), w5], [.int v4, .ref 304], (SH, m.1, m.2)) from rfl) ?_
      obtain ⟨q1, hc1, h⟩ := Option.bind_eq_some_iff.mp h
      refine m_R_cV (v := (some (.int q1.1))) (h1 := (SH, q1.2)) (rest := []) (lo' := [some (.ref 304), some (.int v4)]) (ml := 2) (k0 := 304) (by decide) (Or.inl rfl) (m_opb_of (ins := .invokevirtual 80) (len := 3) (tag := 5) (a := 211) (b := 1) (c := 0) (q := 1629) (by decide +kernel)) (by decide +kernel) rfl (show m_isO 211 304 (SH, _) = true from m_isO_of (by decide +kernel)) (Nat.le_of_ble_eq_true rfl) rfl rfl (ok_m_isUp X (d + 0) F _ _ _ _ hc1) ?_
      rcases m_ite h with ⟨c1314, h⟩ | ⟨c1314, h⟩
      · refine m_R_1 (by decide) (m_opb_of (ins := .ifCond .eq 6) (len := 3) (tag := 0) (a := 28) (b := 0) (c := 0) (q := 0) (by decide +kernel)) (if_pos c1314) ?_
        refine m_R_sg (by decide) [(.aload_n 0, 1, 0, 0, 0, 0, 0), (.iload 4, 2, 0, 4, 0, 0, 0), (.bipush 8, 2, 0, 8, 0, 0, 0)] (by decide +kernel) (show m_sgl X _ _ _ _ _ = some (33, [some (.ref 304), some (.int v1), some (.int v2), some (.int v3), some (.int v4), w5], [.int (8 : Int32), .int v4, .ref 304], (SH, q1.2.1, q1.2.2)) from rfl) ?_
        obtain ⟨q2, hc2, h⟩ := Option.bind_eq_some_iff.mp h
        refine m_R_cV (v := (some (.int q2.1))) (h1 := (SH, q2.2)) (rest := []) (lo' := [some (.ref 304), some (.int v4), some (.int (8 : Int32))]) (ml := 3) (k0 := 304) (by decide) (Or.inl rfl) (m_opb_of (ins := .invokevirtual 65) (len := 3) (tag := 5) (a := 212) (b := 2) (c := 0) (q := 1633) (by decide +kernel)) (by decide +kernel) rfl (show m_isO 212 304 (SH, _) = true from m_isO_of (by decide +kernel)) (Nat.le_of_ble_eq_true rfl) rfl rfl (ok_m_hs X (d + 1) F _ _ _ _ _ hc2) ?_
        refine m_R_sg (by decide) [(.istore 5, 2, 0, 5, 0, 0, 0), (.iload_n 3, 1, 0, 3, 0, 0, 0), (.iload 5, 2, 0, 5, 0, 0, 0), (.iload_n 2, 1, 0, 2, 0, 0, 0), (.bipush 29, 2, 0, 29, 0, 0, 0), (.isub, 1, 0, 0, 0, 0, 0)] (by decide +kernel) (show m_sgl X _ _ _ _ _ = some (45, [some (.ref 304), some (.int v1), some (.int v2), some (.int v3), some (.int v4), some (.int q2.1)], [.int (v2 - (29 : Int32)), .int q2.1, .int v3], (SH, q2.2.1, q2.2.2)) from rfl) ?_
        rcases m_ite h with ⟨c1315, h⟩ | ⟨c1315, h⟩
        · refine m_R_1 (by decide) (m_opb_of (ins := .if_icmp .lt 37) (len := 3) (tag := 0) (a := 82) (b := 0) (c := 0) (q := 0) (by decide +kernel)) (if_pos c1315) ?_
          exact ok_m_heardOf_82 X d F _ (fun a0 a1 a2 a3 a4 m r m' h => ih a0 a1 a2 a3 a4 m r m' h) _ _ _ _ _ _ _ _ _ h
        · refine m_R_1 (by decide) (m_opb_of (ins := .if_icmp .lt 37) (len := 3) (tag := 0) (a := 82) (b := 0) (c := 0) (q := 0) (by decide +kernel)) (if_neg c1315) ?_
          refine m_R_sg (by decide) [(.iload 5, 2, 0, 5, 0, 0, 0), (.iload_n 2, 1, 0, 2, 0, 0, 0)] (by decide +kernel) (show m_sgl X _ _ _ _ _ = some (51, [some (.ref 304), some (.int v1), some (.int v2), some (.int v3), some (.int v4), some (.int q2.1)], [.int v2, .int q2.1, .int v3], (SH, q2.2.1, q2.2.2)) from rfl) ?_
          rcases m_ite h with ⟨c1316, h⟩ | ⟨c1316, h⟩
          · refine m_R_1 (by decide) (m_opb_of (ins := .if_icmp .gt 31) (len := 3) (tag := 0) (a := 82) (b := 0) (c := 0) (q := 0) (by decide +kernel)) (if_pos c1316) ?_
            exact ok_m_heardOf_82 X d F _ (fun a0 a1 a2 a3 a4 m r m' h => ih a0 a1 a2 a3 a4 m r m' h) _ _ _ _ _ _ _ _ _ h
          · refine m_R_1 (by decide) (m_opb_of (ins := .if_icmp .gt 31) (len := 3) (tag := 0) (a := 82) (b := 0) (c := 0) (q := 0) (by decide +kernel)) (if_neg c1316) ?_
            refine m_R_sg (by decide) [(.iload 5, 2, 0, 5, 0, 0, 0), (.aload_n 0, 1, 0, 0, 0, 0, 0), (.aload_n 0, 1, 0, 0, 0, 0, 0), (.iload 4, 2, 0, 4, 0, 0, 0), (.iconst 1, 1, 0, 1, 0, 0, 0)] (by decide +kernel) (show m_sgl X _ _ _ _ _ = some (61, [some (.ref 304), some (.int v1), some (.int v2), some (.int v3), some (.int v4), some (.int q2.1)], [.int (1 : Int32), .int v4, .ref 304, .ref 304, .int q2.1, .int v3], (SH, q2.2.1, q2.2.2)) from rfl) ?_
            obtain ⟨q3, hc3, h⟩ := Option.bind_eq_some_iff.mp h
            refine m_R_cV (v := (some (.int q3.1))) (h1 := (SH, q3.2)) (rest := [.ref 304, .int q2.1, .int v3]) (lo' := [some (.ref 304), some (.int v4), some (.int (1 : Int32))]) (ml := 3) (k0 := 304) (by decide) (Or.inl rfl) (m_opb_of (ins := .invokevirtual 65) (len := 3) (tag := 5) (a := 212) (b := 2) (c := 0) (q := 1633) (by decide +kernel)) (by decide +kernel) rfl (show m_isO 212 304 (SH, _) = true from m_isO_of (by decide +kernel)) (Nat.le_of_ble_eq_true rfl) rfl rfl (ok_m_hs X (d + 1) F _ _ _ _ _ hc3) ?_
            refine m_R_sg (by decide) [(.aload_n 0, 1, 0, 0, 0, 0, 0), (.iload_n 1, 1, 0, 1, 0, 0, 0), (.iconst 1, 1, 0, 1, 0, 0, 0)] (by decide +kernel) (show m_sgl X _ _ _ _ _ = some (67, [some (.ref 304), some (.int v1), some (.int v2), some (.int v3), some (.int v4), some (.int q2.1)], [.int (1 : Int32), .int v1, .ref 304, .int q3.1, .ref 304, .int q2.1, .int v3], (SH, q3.2.1, q3.2.2)) from rfl) ?_
            obtain ⟨q4, hc4, h⟩ := Option.bind_eq_some_iff.mp h
            refine m_R_cV (v := (some (.int q4.1))) (h1 := (SH, q4.2)) (rest := [.int q3.1, .ref 304, .int q2.1, .int v3]) (lo' := [some (.ref 304), some (.int v1), some (.int (1 : Int32))]) (ml := 3) (k0 := 304) (by decide) (Or.inl rfl) (m_opb_of (ins := .invokevirtual 65) (len := 3) (tag := 5) (a := 212) (b := 2) (c := 0) (q := 1633) (by decide +kernel)) (by decide +kernel) rfl (show m_isO 212 304 (SH, _) = true from m_isO_of (by decide +kernel)) (Nat.le_of_ble_eq_true rfl) rfl rfl (ok_m_hs X (d + 1) F _ _ _ _ _ hc4) ?_
            obtain ⟨q5, hc5, h⟩ := Option.bind_eq_some_iff.mp h
            refine m_R_cV (v := (some (.int q5.1))) (h1 := (SH, q5.2)) (rest := [.int q2.1, .int v3]) (lo' := [some (.ref 304), some (.int q3.1), some (.int q4.1)]) (ml := 3) (k0 := 304) (by decide) (Or.inl rfl) (m_opb_of (ins := .invokevirtual 74) (len := 3) (tag := 5) (a := 207) (b := 2) (c := 0) (q := 1613) (by decide +kernel)) (by decide +kernel) rfl (show m_isO 207 304 (SH, _) = true from m_isO_of (by decide +kernel)) (Nat.le_of_ble_eq_true rfl) rfl rfl (ok_m_farOf X (d + 1) F _ _ _ _ _ hc5) ?_
            refine m_R_sg (by decide) [(.iadd, 1, 0, 0, 0, 0, 0), (.iload_n 2, 1, 0, 2, 0, 0, 0)] (by decide +kernel) (show m_sgl X _ _ _ _ _ = some (75, [some (.ref 304), some (.int v1), some (.int v2), some (.int v3), some (.int v4), some (.int q2.1)], [.int v2, .int (q2.1 + q5.1), .int v3], (SH, q5.2.1, q5.2.2)) from rfl) ?_
            rcases m_ite h with ⟨c1317, h⟩ | ⟨c1317, h⟩
            · refine m_R_1 (by decide) (m_opb_of (ins := .if_icmp .gt 7) (len := 3) (tag := 0) (a := 82) (b := 0) (c := 0) (q := 0) (by decide +kernel)) (if_pos c1317) ?_
              exact ok_m_heardOf_82 X d F _ (fun a0 a1 a2 a3 a4 m r m' h => ih a0 a1 a2 a3 a4 m r m' h) _ _ _ _ _ _ _ _ _ h
            · refine m_R_1 (by decide) (m_opb_of (ins := .if_icmp .gt 7) (len := 3) (tag := 0) (a := 82) (b := 0) (c := 0) (q := 0) (by decide +kernel)) (if_neg c1317) ?_
              refine m_R_sg (by decide) [(.iconst 1, 1, 0, 1, 0, 0, 0), (.goto 4, 3, 0, 83, 0, 0, 0)] (by decide +kernel) (show m_sgl X _ _ _ _ _ = some (83, [some (.ref 304), some (.int v1), some (.int v2), some (.int v3), some (.int v4), some (.int q2.1)], [.int (1 : Int32), .int v3], (SH, q5.2.1, q5.2.2)) from rfl) ?_
              exact ok_m_heardOf_83 X d F _ (fun a0 a1 a2 a3 a4 m r m' h => ih a0 a1 a2 a3 a4 m r m' h) _ _ _ _ _ _ _ _ _ _ h
      · refine m_R_1 (by decide) (m_opb_of (ins := .ifCond .eq 6) (len := 3) (tag := 0) (a := 28) (b := 0) (c := 0) (q := 0) (by decide +kernel)) (if_neg c1314) ?_
        refine m_R_sg (by decide) [(.goto 60, 3, 0, 85, 0, 0, 0)] (by decide +kernel) (show m_sgl X _ _ _ _ _ = some (85, [some (.ref 304), some (.int v1), some (.int v2), some (.int v3), some (.int v4), w5], [], (SH, q1.2.1, q1.2.2)) from rfl) ?_
        exact ok_m_heardOf_85 X d F _ (fun a0 a1 a2 a3 a4 m r m' h => ih a0 a1 a2 a3 a4 m r m' h) _ _ _ _ _ _ _ _ h
def f_m_heardOf (F : Nat)   (v1 : Int32) (v2 : Int32) (m : mM) : Option (Int32 × mM) := f_m_heardOf_5 F F v1 v2 (0 : Int32) (1 : Int32) m
theorem ok_m_heardOf (X : mX) (d F : Nat) : ∀ (v1 : Int32) (v2 : Int32)  (m : mM) (r : Int32) (m' : mM), f_m_heardOf F v1 v2 m = some (r, m') → m_R X (d + 2) 317 0 [some (.ref 304), some (.int v1), some (.int v2), none, none, none] [] (SH, m) (some (.int r), (SH, m')) := by
  intro v1 v2 m r m' h
  unfold f_m_heardOf at h
  refine m_R_sg (by decide) [(.iconst 0, 1, 0, 0, 0, 0, 0), (.istore_n 3, 1, 0, 3, 0, 0, 0), (.iconst 1, 1, 0, 1, 0, 0, 0), (.istore 4, 2, 0, 4, 0, 0, 0)] (by decide +kernel) (show m_sgl X _ _ _ _ _ = some (5, [some (.ref 304), some (.int v1), some (.int v2), some (.int (0 : Int32)), some (.int (1 : Int32)), none], [], (SH, m.1, m.2)) from rfl) ?_
  exact ok_m_heardOf_5 X d F F _ _ _ _ _ _ _ _ h
def f_m_sheetOf_46 (F : Nat)  (k3 : Int32 → Int32 → Int32 → mM → Option (Int32 × mM)) (v1 : Int32) (v2 : Int32) (v3 : Int32) (m : mM) : Option (Int32 × mM) := k3 v1 v2 (v3 + (-1 : Int32)) m
theorem ok_m_sheetOf_46 (X : mX) (d F : Nat) (k3 : Int32 → Int32 → Int32 → mM → Option (Int32 × mM)) (hk3 : ∀ (v1 : Int32) (v2 : Int32) (v3 : Int32) (m : mM) (r : Int32) (m' : mM), k3 v1 v2 v3 m = some (r, m') → m_R X (d + 1) 318 3 [some (.ref 304), some (.int v1), some (.int v2), some (.int v3)] [] (SH, m) (some (.int r), (SH, m'))) : ∀ (v1 : Int32) (v2 : Int32) (v3 : Int32)  (m : mM) (r : Int32) (m' : mM), f_m_sheetOf_46 F k3 v1 v2 v3 m = some (r, m') → m_R X (d + 1) 318 46 [some (.ref 304), some (.int v1), some (.int v2), some (.int v3)] [] (SH, m) (some (.int r), (SH, m')) := by
  intro v1 v2 v3 m r m' h
  unfold f_m_sheetOf_46 at h
  refine m_R_sg (by decide) [(.iinc 3 (-1), 3, 0, 3, 1, 1, 0), (.goto (-46), 3, 0, 3, 0, 0, 0)] (by decide +kernel) (show m_sgl X _ _ _ _ _ = some (3, [some (.ref 304), some (.int v1), some (.int v2), some (.int (v3 + (-1 : Int32)))], [], (SH, m.1, m.2)) from rfl) ?_
  exact hk3 _ _ _ _ _ _ h
def f_m_sheetOf_52 (F : Nat)   (v3 : Int32) (m : mM) : Option (Int32 × mM) := some (v3, m)
theorem ok_m_sheetOf_52 (X : mX) (d F : Nat) : ∀ (v3 : Int32) (w0 : Option Value) (w1 : Option Value) (w2 : Option Value) (m : mM) (r : Int32) (m' : mM), f_m_sheetOf_52 F v3 m = some (r, m') → m_R X (d + 1) 318 52 [w0, w1, w2, some (.int v3)] [] (SH, m) (some (.int r), (SH, m')) := by
  intro v3 w0 w1 w2 m r m' h
  unfold f_m_sheetOf_52 at h
  refine m_R_sg (by decide) [(.iload_n 3, 1, 0, 3, 0, 0, 0)] (by decide +kernel) (show m_sgl X _ _ _ _ _ = some (53, [w0, w1, w2, some (.int v3)], [.int v3], (SH, m.1, m.2)) from rfl) ?_
  obtain ⟨rfl, rfl⟩ := m_some h
  exact m_R_iret (by decide) (m_opb_of (ins := .ireturn) (len := 1) (tag := 1) (a := 0) (b := 0) (c := 0) (q := 0) (by decide +kernel)) (Or.inl rfl)
def f_m_sheetOf_3 (F : Nat)   : Nat → Int32 → Int32 → Int32 → mM → Option (Int32 × mM)
  | 0, _, _, _, _ => none
  | n + 1, v1, v2, v3, m => (if v3 < 0 then f_m_sheetOf_52 F v3 m else (if (m.1 305 (0 : Int32).toNatClampNeg) ≤ (((7 : Int32) * v3) + (6 : Int32)) then f_m_sheetOf_46 F (f_m_sheetOf_3 F n) v1 v2 v3 m else ((f_m_hs F v1 (1 : Int32) m).bind fun q1 => ((f_m_farOf F (0 : Int32) q1.1 q1.2).bind fun q2 => (if ((((7 : Int32) * v3) + (6 : Int32)) + q2.1) ≤ v2 then f_m_sheetOf_52 F v3 q2.2 else f_m_sheetOf_46 F (f_m_sheetOf_3 F n) v1 v2 v3 q2.2)))))
theorem ok_m_sheetOf_3 (X : mX) (d F : Nat) : ∀ (n : Nat) (v1 : Int32) (v2 : Int32) (v3 : Int32)  (m : mM) (r : Int32) (m' : mM), f_m_sheetOf_3 F n v1 v2 v3 m = some (r, m') → m_R X (d + 1) 318 3 [some (.ref 304), some (.int v1), some (.int v2), some (.int v3)] [] (SH, m) (some (.int r), (SH, m')) := by
  intro n
  induction n with
  | zero => intro v1 v2 v3 m r m' h; cases h
  | succ n ih =>
    intro v1 v2 v3 m r m' h
    simp only [f_m_sheetOf_3] at h
    refine m_R_sg (by decide) [(.iload_n 3, 1, 0, 3, 0, 0, 0)] (by decide +kernel) (show m_sgl X _ _ _ _ _ = some (4, [some (.ref 304), some (.int v1), some (.int v2), some (.int v3)], [.int v3], (SH, m.1, m.2)) from rfl) ?_
    rcases m_ite h with ⟨c1318, h⟩ | ⟨c1318, h⟩
    · refine m_R_1 (by decide) (m_opb_of (ins := .ifCond .lt 48) (len := 3) (tag := 0) (a := 52) (b := 0) (c := 0) (q := 0) (by decide +kernel)) (if_pos c1318) ?_
      exact ok_m_sheetOf_52 X d F _ _ _ _ _ _ _ h
    · refine m_R_1 (by decide) (m_opb_of (ins := .ifCond .lt 48) (len := 3) (tag := 0) (a := 52) (b := 0) (c := 0) (q := 0) (by decide +kernel)) (if_neg c1318) ?_
      refine m_R_sg (by decide) [(.bipush 7, 2, 0, 7, 0, 0, 0), (.iload_n 3, 1, 0, 3, 0, 0, 0), (.imul, 1, 0, 0, 0, 0, 0), (.bipush 6, 2, 0, 6, 0, 0, 0), (.iadd, 1, 0, 0, 0, 0, 0), (.aload_n 0, 1, 0, 0, 0, 0, 0), (.getfield 13, 3, 0, 12, 1, 3, 1493), (.iconst 0, 1, 0, 0, 0, 0, 0)] (by decide +kernel) (show m_sgl X _ _ _ _ _ = some (19, [some (.ref 304), some (.int v1), some (.int v2), some (.int v3)], [.int (0 : Int32), .ref 305, .int (((7 : Int32) * v3) + (6 : Int32))], (SH, m.1, m.2)) from rfl) ?_
      refine m_R_1 (by decide) (m_opb_of (ins := .iaload) (len := 1) (tag := 0) (a := 0) (b := 0) (c := 0) (q := 0) (by decide +kernel)) (m_s_iald sh_305 (by decide) (show ¬ ((0 : Int32) < 0 ∨ 9732 ≤ (0 : Int32).toNatClampNeg) by decide)) ?_
      rcases m_ite h with ⟨c1319, h⟩ | ⟨c1319, h⟩
      · refine m_R_1 (by decide) (m_opb_of (ins := .if_icmp .ge 26) (len := 3) (tag := 0) (a := 46) (b := 0) (c := 0) (q := 0) (by decide +kernel)) (if_pos c1319) ?_
        exact ok_m_sheetOf_46 X d F _ (fun a0 a1 a2 m r m' h => ih a0 a1 a2 m r m' h) _ _ _ _ _ _ h
      · refine m_R_1 (by decide) (m_opb_of (ins := .if_icmp .ge 26) (len := 3) (tag := 0) (a := 46) (b := 0) (c := 0) (q := 0) (by decide +kernel)) (if_neg c1319) ?_
        refine m_R_sg (by decide) [(.bipush 7, 2, 0, 7, 0, 0, 0), (.iload_n 3, 1, 0, 3, 0, 0, 0), (.imul, 1, 0, 0, 0, 0, 0), (.bipush 6, 2, 0, 6, 0, 0, 0), (.iadd, 1, 0, 0, 0, 0, 0), (.aload_n 0, 1, 0, 0, 0, 0, 0), (.iconst 0, 1, 0, 0, 0, 0, 0), (.aload_n 0, 1, 0, 0, 0, 0, 0), (.iload_n 1, 1, 0, 1, 0, 0, 0), (.iconst 1, 1, 0, 1, 0, 0, 0)] (by decide +kernel) (show m_sgl X _ _ _ _ _ = some (35, [some (.ref 304), some (.int v1), some (.int v2), some (.int v3)], [.int (1 : Int32), .int v1, .ref 304, .int (0 : Int32), .ref 304, .int (((7 : Int32) * v3) + (6 : Int32))], (SH, m.1, m.2)) from rfl) ?_
        obtain ⟨q1, hc1, h⟩ := Option.bind_eq_some_iff.mp h
        refine m_R_cV (v := (some (.int q1.1))) (h1 := (SH, q1.2)) (rest := [.int (0 : Int32), .ref 304, .int (((7 : Int32) * v3) + (6 : Int32))]) (lo' := [some (.ref 304), some (.int v1), some (.int (1 : Int32))]) (ml := 3) (k0 := 304) (by decide) (Or.inl rfl) (m_opb_of (ins := .invokevirtual 65) (len := 3) (tag := 5) (a := 212) (b := 2) (c := 0) (q := 1633) (by decide +kernel)) (by decide +kernel) rfl (show m_isO 212 304 (SH, _) = true from m_isO_of (by decide +kernel)) (Nat.le_of_ble_eq_true rfl) rfl rfl (ok_m_hs X (d + 0) F _ _ _ _ _ hc1) ?_
        obtain ⟨q2, hc2, h⟩ := Option.bind_eq_some_iff.mp h
        refine m_R_cV (v := (some (.int q2.1))) (h1 := (SH, q2.2)) (rest := [.int (((7 : Int32) * v3) + (6 : Int32))]) (lo' := [some (.ref 304), some (.int (0 : Int32)), some (.int q1.1)]) (ml := 3) (k0 := 304) (by decide) (Or.inl rfl) (m_opb_of (ins := .invokevirtual 74) (len := 3) (tag := 5) (a := 207) (b := 2) (c := 0) (q := 1613) (by decide +kernel)) (by decide +kernel) rfl (show m_isO 207 304 (SH, _) = true from m_isO_of (by decide +kernel)) (Nat.le_of_ble_eq_true rfl) rfl rfl (ok_m_farOf X (d + 0) F _ _ _ _ _ hc2) ?_
        refine m_R_sg (by decide) [(.iadd, 1, 0, 0, 0, 0, 0), (.iload_n 2, 1, 0, 2, 0, 0, 0)] (by decide +kernel) (show m_sgl X _ _ _ _ _ = some (43, [some (.ref 304), some (.int v1), some (.int v2), some (.int v3)], [.int v2, .int ((((7 : Int32) * v3) + (6 : Int32)) + q2.1)], (SH, q2.2.1, q2.2.2)) from rfl) ?_
        rcases m_ite h with ⟨c1320, h⟩ | ⟨c1320, h⟩
        · refine m_R_1 (by decide) (m_opb_of (ins := .if_icmp .le 9) (len := 3) (tag := 0) (a := 52) (b := 0) (c := 0) (q := 0) (by decide +kernel)) (if_pos c1320) ?_
          exact ok_m_sheetOf_52 X d F _ _ _ _ _ _ _ h
        · refine m_R_1 (by decide) (m_opb_of (ins := .if_icmp .le 9) (len := 3) (tag := 0) (a := 52) (b := 0) (c := 0) (q := 0) (by decide +kernel)) (if_neg c1320) ?_
          exact ok_m_sheetOf_46 X d F _ (fun a0 a1 a2 m r m' h => ih a0 a1 a2 m r m' h) _ _ _ _ _ _ h
def f_m_sheetOf (F : Nat)   (v1 : Int32) (v2 : Int32) (m : mM) : Option (Int32 × mM) := f_m_sheetOf_3 F F v1 v2 (99 : Int32) m
theorem ok_m_sheetOf (X : mX) (d F : Nat) : ∀ (v1 : Int32) (v2 : Int32)  (m : mM) (r : Int32) (m' : mM), f_m_sheetOf F v1 v2 m = some (r, m') → m_R X (d + 1) 318 0 [some (.ref 304), some (.int v1), some (.int v2), none] [] (SH, m) (some (.int r), (SH, m')) := by
  intro v1 v2 m r m' h
  unfold f_m_sheetOf at h
  refine m_R_sg (by decide) [(.bipush 99, 2, 0, 99, 0, 0, 0), (.istore_n 3, 1, 0, 3, 0, 0, 0)] (by decide +kernel) (show m_sgl X _ _ _ _ _ = some (3, [some (.ref 304), some (.int v1), some (.int v2), some (.int (99 : Int32))], [], (SH, m.1, m.2)) from rfl) ?_
  exact ok_m_sheetOf_3 X d F F _ _ _ _ _ _ h
def f_m_shown_43 (F : Nat)   (s0 : Int32) (m : mM) : Option (Int32 × mM) := some (s0, m)
theorem ok_m_shown_43 (X : mX) (d F : Nat) : ∀ (s0 : Int32) (w0 : Option Value) (w1 : Option Value) (w2 : Option Value) (m : mM) (r : Int32) (m' : mM), f_m_shown_43 F s0 m = some (r, m') → m_R X (d + 0) 319 43 [w0, w1, w2] [.int s0] (SH, m) (some (.int r), (SH, m')) := by
  intro s0 w0 w1 w2 m r m' h
  unfold f_m_shown_43 at h
  obtain ⟨rfl, rfl⟩ := m_some h
  exact m_R_iret (by decide) (m_opb_of (ins := .ireturn) (len := 1) (tag := 1) (a := 0) (b := 0) (c := 0) (q := 0) (by decide +kernel)) (Or.inl rfl)
def f_m_shown (F : Nat)   (v1 : Int32) (v2 : Int32) (m : mM) : Option (Int32 × mM) := (if (((9032 : Int32) + ((7 : Int32) * v1)) + (6 : Int32)) < 0 ∨ 9732 ≤ (((9032 : Int32) + ((7 : Int32) * v1)) + (6 : Int32)).toNatClampNeg then none else (if (((m.1 305 (((9032 : Int32) + ((7 : Int32) * v1)) + (6 : Int32)).toNatClampNeg) >>> (v2 &&& 31)) &&& (1 : Int32)) = (1 : Int32) then (if (((9032 : Int32) + ((7 : Int32) * v1)) + v2) < 0 ∨ 9732 ≤ (((9032 : Int32) + ((7 : Int32) * v1)) + v2).toNatClampNeg then none else f_m_shown_43 F (m.1 305 (((9032 : Int32) + ((7 : Int32) * v1)) + v2).toNatClampNeg) m) else f_m_shown_43 F (-1 : Int32) m))
theorem ok_m_shown (X : mX) (d F : Nat) : ∀ (v1 : Int32) (v2 : Int32)  (m : mM) (r : Int32) (m' : mM), f_m_shown F v1 v2 m = some (r, m') → m_R X (d + 0) 319 0 [some (.ref 304), some (.int v1), some (.int v2)] [] (SH, m) (some (.int r), (SH, m')) := by
  intro v1 v2 m r m' h
  unfold f_m_shown at h
  refine m_R_sg (by decide) [(.aload_n 0, 1, 0, 0, 0, 0, 0), (.getfield 13, 3, 0, 12, 1, 3, 1493), (.sipush 9032, 3, 0, 9032, 0, 0, 0), (.bipush 7, 2, 0, 7, 0, 0, 0), (.iload_n 1, 1, 0, 1, 0, 0, 0), (.imul, 1, 0, 0, 0, 0, 0), (.iadd, 1, 0, 0, 0, 0, 0), (.bipush 6, 2, 0, 6, 0, 0, 0), (.iadd, 1, 0, 0, 0, 0, 0)] (by decide +kernel) (show m_sgl X _ _ _ _ _ = some (15, [some (.ref 304), some (.int v1), some (.int v2)], [.int (((9032 : Int32) + ((7 : Int32) * v1)) + (6 : Int32)), .ref 305], (SH, m.1, m.2)) from rfl) ?_
  obtain ⟨c1321, h⟩ := m_ite_n h
  refine m_R_1 (by decide) (m_opb_of (ins := .iaload) (len := 1) (tag := 0) (a := 0) (b := 0) (c := 0) (q := 0) (by decide +kernel)) (m_s_iald sh_305 (by decide) c1321) ?_
  refine m_R_sg (by decide) [(.iload_n 2, 1, 0, 2, 0, 0, 0), (.ishr, 1, 0, 0, 0, 0, 0), (.iconst 1, 1, 0, 1, 0, 0, 0), (.iand, 1, 0, 0, 0, 0, 0), (.iconst 1, 1, 0, 1, 0, 0, 0)] (by decide +kernel) (show m_sgl X _ _ _ _ _ = some (21, [some (.ref 304), some (.int v1), some (.int v2)], [.int (1 : Int32), .int (((m.1 305 (((9032 : Int32) + ((7 : Int32) * v1)) + (6 : Int32)).toNatClampNeg) >>> (v2 &&& 31)) &&& (1 : Int32))], (SH, m.1, m.2)) from rfl) ?_
  rcases m_ite h with ⟨c1322, h⟩ | ⟨c1322, h⟩
  · refine m_R_1 (by decide) (m_opb_of (ins := .if_icmp .ne 21) (len := 3) (tag := 0) (a := 42) (b := 0) (c := 0) (q := 0) (by decide +kernel)) (if_pos c1322) ?_
    refine m_R_sg (by decide) [(.aload_n 0, 1, 0, 0, 0, 0, 0), (.getfield 13, 3, 0, 12, 1, 3, 1493), (.sipush 9032, 3, 0, 9032, 0, 0, 0), (.bipush 7, 2, 0, 7, 0, 0, 0), (.iload_n 1, 1, 0, 1, 0, 0, 0), (.imul, 1, 0, 0, 0, 0, 0), (.iadd, 1, 0, 0, 0, 0, 0), (.iload_n 2, 1, 0, 2, 0, 0, 0), (.iadd, 1, 0, 0, 0, 0, 0)] (by decide +kernel) (show m_sgl X _ _ _ _ _ = some (38, [some (.ref 304), some (.int v1), some (.int v2)], [.int (((9032 : Int32) + ((7 : Int32) * v1)) + v2), .ref 305], (SH, m.1, m.2)) from rfl) ?_
    obtain ⟨c1323, h⟩ := m_ite_n h
    refine m_R_1 (by decide) (m_opb_of (ins := .iaload) (len := 1) (tag := 0) (a := 0) (b := 0) (c := 0) (q := 0) (by decide +kernel)) (m_s_iald sh_305 (by decide) c1323) ?_
    refine m_R_sg (by decide) [(.goto 4, 3, 0, 43, 0, 0, 0)] (by decide +kernel) (show m_sgl X _ _ _ _ _ = some (43, [some (.ref 304), some (.int v1), some (.int v2)], [.int (m.1 305 (((9032 : Int32) + ((7 : Int32) * v1)) + v2).toNatClampNeg)], (SH, m.1, m.2)) from rfl) ?_
    exact ok_m_shown_43 X d F _ _ _ _ _ _ _ h
  · refine m_R_1 (by decide) (m_opb_of (ins := .if_icmp .ne 21) (len := 3) (tag := 0) (a := 42) (b := 0) (c := 0) (q := 0) (by decide +kernel)) (if_neg c1322) ?_
    refine m_R_sg (by decide) [(.iconst (-1), 1, 0, 1, 1, 0, 0)] (by decide +kernel) (show m_sgl X _ _ _ _ _ = some (43, [some (.ref 304), some (.int v1), some (.int v2)], [.int (-1 : Int32)], (SH, m.1, m.2)) from rfl) ?_
    exact ok_m_shown_43 X d F _ _ _ _ _ _ _ h
def f_m_goesAfter_77 (F : Nat)  (k23 : Int32 → Int32 → mM → Option (Unit × mM)) (v1 : Int32) (v2 : Int32) (m : mM) : Option (Unit × mM) := k23 v1 (v2 + (1 : Int32)) m
theorem ok_m_goesAfter_77 (X : mX) (d F : Nat) (k23 : Int32 → Int32 → mM → Option (Unit × mM)) (hk23 : ∀ (v1 : Int32) (v2 : Int32) (w3 : Option Value) (w4 : Option Value) (m : mM) (r : Unit) (m' : mM), k23 v1 v2 m = some (r, m') → m_R X (d + 73) 316 23 [some (.ref 304), some (.int v1), some (.int v2), w3, w4] [] (SH, m) (none, (SH, m'))) : ∀ (v1 : Int32) (v2 : Int32) (w3 : Option Value) (w4 : Option Value) (m : mM) (r : Unit) (m' : mM), f_m_goesAfter_77 F k23 v1 v2 m = some (r, m') → m_R X (d + 73) 316 77 [some (.ref 304), some (.int v1), some (.int v2), w3, w4] [] (SH, m) (none, (SH, m')) := by
  intro v1 v2 w3 w4 m r m' h
  unfold f_m_goesAfter_77 at h
  refine m_R_sg (by decide) [(.iinc 2 1, 3, 0, 2, 1, 0, 0), (.goto (-57), 3, 0, 23, 0, 0, 0)] (by decide +kernel) (show m_sgl X _ _ _ _ _ = some (23, [some (.ref 304), some (.int v1), some (.int (v2 + (1 : Int32))), w3, w4], [], (SH, m.1, m.2)) from rfl) ?_
  exact hk23 _ _ _ _ _ _ _ h
def f_m_goesAfter_147 (F : Nat)    (m : mM) : Option (Unit × mM) := some ((), m)
theorem ok_m_goesAfter_147 (X : mX) (d F : Nat) : ∀  (w0 : Option Value) (w1 : Option Value) (w2 : Option Value) (w3 : Option Value) (w4 : Option Value) (m : mM) (r : Unit) (m' : mM), f_m_goesAfter_147 F  m = some (r, m') → m_R X (d + 73) 316 147 [w0, w1, w2, w3, w4] [] (SH, m) (none, (SH, m')) := by
  intro w0 w1 w2 w3 w4 m r m' h
  unfold f_m_goesAfter_147 at h
  obtain ⟨rfl, rfl⟩ := m_some h
  exact m_R_vret (by decide) (m_opb_of (ins := .return_) (len := 1) (tag := 3) (a := 0) (b := 0) (c := 0) (q := 0) (by decide +kernel))
def f_m_goesAfter_109 (F : Nat)   (v1 : Int32) (s0 : Int32) (m : mM) : Option (Unit × mM) := (if s0 = (-1 : Int32) then f_m_goesAfter_147 F m else ((f_m_hs F v1 (7 : Int32) m).bind fun q10 => (if q10.1 ≤ s0 then f_m_goesAfter_147 F q10.2 else (if (q10.2.1 305 (9 : Int32).toNatClampNeg) = (-1 : Int32) then ((f_m_presents F v1 (400 : Int32) q10.2).bind fun q11 => f_m_goesAfter_147 F q11.2) else f_m_goesAfter_147 F q10.2))))
theorem ok_m_goesAfter_109 (X : mX) (d F : Nat) : ∀ (v1 : Int32) (s0 : Int32) (w2 : Option Value) (w3 : Option Value) (w4 : Option Value) (m : mM) (r : Unit) (m' : mM), f_m_goesAfter_109 F v1 s0 m = some (r, m') → m_R X (d + 73) 316 109 [some (.ref 304), some (.int v1), w2, w3, w4] [.int s0] (SH, m) (none, (SH, m')) := by
  intro v1 s0 w2 w3 w4 m r m' h
  unfold f_m_goesAfter_109 at h
  refine m_R_sg (by decide) [(.istore_n 3, 1, 0, 3, 0, 0, 0), (.iload_n 3, 1, 0, 3, 0, 0, 0), (.iconst (-1), 1, 0, 1, 1, 0, 0)] (by decide +kernel) (show m_sgl X _ _ _ _ _ = some (112, [some (.ref 304), some (.int v1), (m_cl w2), some (.int s0), w4], [.int (-1 : Int32), .int s0], (SH, m.1, m.2)) from rfl) ?_
  rcases m_ite h with ⟨c1324, h⟩ | ⟨c1324, h⟩
  · refine m_R_1 (by decide) (m_opb_of (ins := .if_icmp .eq 35) (len := 3) (tag := 0) (a := 147) (b := 0) (c := 0) (q := 0) (by decide +kernel)) (if_pos c1324) ?_
    exact ok_m_goesAfter_147 X d F _ _ _ _ _ _ _ _ h
  · refine m_R_1 (by decide) (m_opb_of (ins := .if_icmp .eq 35) (len := 3) (tag := 0) (a := 147) (b := 0) (c := 0) (q := 0) (by decide +kernel)) (if_neg c1324) ?_
    refine m_R_sg (by decide) [(.iload_n 3, 1, 0, 3, 0, 0, 0), (.aload_n 0, 1, 0, 0, 0, 0, 0), (.iload_n 1, 1, 0, 1, 0, 0, 0), (.bipush 7, 2, 0, 7, 0, 0, 0)] (by decide +kernel) (show m_sgl X _ _ _ _ _ = some (120, [some (.ref 304), some (.int v1), (m_cl w2), some (.int s0), w4], [.int (7 : Int32), .int v1, .ref 304, .int s0], (SH, m.1, m.2)) from rfl) ?_
    obtain ⟨q10, hc10, h⟩ := Option.bind_eq_some_iff.mp h
    refine m_R_cV (v := (some (.int q10.1))) (h1 := (SH, q10.2)) (rest := [.int s0]) (lo' := [some (.ref 304), some (.int v1), some (.int (7 : Int32))]) (ml := 3) (k0 := 304) (by decide) (Or.inl rfl) (m_opb_of (ins := .invokevirtual 65) (len := 3) (tag := 5) (a := 212) (b := 2) (c := 0) (q := 1633) (by decide +kernel)) (by decide +kernel) rfl (show m_isO 212 304 (SH, _) = true from m_isO_of (by decide +kernel)) (Nat.le_of_ble_eq_true rfl) rfl rfl (ok_m_hs X (d + 72) F _ _ _ _ _ hc10) ?_
    rcases m_ite h with ⟨c1325, h⟩ | ⟨c1325, h⟩
    · refine m_R_1 (by decide) (m_opb_of (ins := .if_icmp .ge 24) (len := 3) (tag := 0) (a := 147) (b := 0) (c := 0) (q := 0) (by decide +kernel)) (if_pos c1325) ?_
      exact ok_m_goesAfter_147 X d F _ _ _ _ _ _ _ _ h
    · refine m_R_1 (by decide) (m_opb_of (ins := .if_icmp .ge 24) (len := 3) (tag := 0) (a := 147) (b := 0) (c := 0) (q := 0) (by decide +kernel)) (if_neg c1325) ?_
      refine m_R_sg (by decide) [(.aload_n 0, 1, 0, 0, 0, 0, 0), (.getfield 13, 3, 0, 12, 1, 3, 1493), (.bipush 9, 2, 0, 9, 0, 0, 0)] (by decide +kernel) (show m_sgl X _ _ _ _ _ = some (132, [some (.ref 304), some (.int v1), (m_cl w2), some (.int s0), w4], [.int (9 : Int32), .ref 305], (SH, q10.2.1, q10.2.2)) from rfl) ?_
      refine m_R_1 (by decide) (m_opb_of (ins := .iaload) (len := 1) (tag := 0) (a := 0) (b := 0) (c := 0) (q := 0) (by decide +kernel)) (m_s_iald sh_305 (by decide) (show ¬ ((9 : Int32) < 0 ∨ 9732 ≤ (9 : Int32).toNatClampNeg) by decide)) ?_
      refine m_R_sg (by decide) [(.iconst (-1), 1, 0, 1, 1, 0, 0)] (by decide +kernel) (show m_sgl X _ _ _ _ _ = some (134, [some (.ref 304), some (.int v1), (m_cl w2), some (.int s0), w4], [.int (-1 : Int32), .int (q10.2.1 305 (9 : Int32).toNatClampNeg)], (SH, q10.2.1, q10.2.2)) from rfl) ?_
      rcases m_ite h with ⟨c1326, h⟩ | ⟨c1326, h⟩
      · refine m_R_1 (by decide) (m_opb_of (ins := .if_icmp .ne 13) (len := 3) (tag := 0) (a := 147) (b := 0) (c := 0) (q := 0) (by decide +kernel)) (if_pos c1326) ?_
        refine m_R_sg (by decide) [(.aload_n 0, 1, 0, 0, 0, 0, 0), (.iload_n 1, 1, 0, 1, 0, 0, 0), (.sipush 400, 3, 0, 400, 0, 0, 0)] (by decide +kernel) (show m_sgl X _ _ _ _ _ = some (142, [some (.ref 304), some (.int v1), (m_cl w2), some (.int s0), w4], [.int (400 : Int32), .int v1, .ref 304], (SH, q10.2.1, q10.2.2)) from rfl) ?_
        obtain ⟨q11, hc11, h⟩ := Option.bind_eq_some_iff.mp h
        refine m_R_cV (v := (some (.int q11.1))) (h1 := (SH, q11.2)) (rest := []) (lo' := [some (.ref 304), some (.int v1), some (.int (400 : Int32)), none, none, none]) (ml := 6) (k0 := 304) (by decide) (Or.inl rfl) (m_opb_of (ins := .invokevirtual 151) (len := 3) (tag := 5) (a := 256) (b := 2) (c := 0) (q := 1842) (by decide +kernel)) (by decide +kernel) rfl (show m_isO 256 304 (SH, _) = true from m_isO_of (by decide +kernel)) (Nat.le_of_ble_eq_true rfl) rfl rfl (ok_m_presents X (d + 69) F _ _ _ _ _ hc11) ?_
        refine m_R_sg (by decide) [(.istore 4, 2, 0, 4, 0, 0, 0)] (by decide +kernel) (show m_sgl X _ _ _ _ _ = some (147, [some (.ref 304), some (.int v1), (m_cl w2), some (.int s0), some (.int q11.1)], [], (SH, q11.2.1, q11.2.2)) from rfl) ?_
        exact ok_m_goesAfter_147 X d F _ _ _ _ _ _ _ _ h
      · refine m_R_1 (by decide) (m_opb_of (ins := .if_icmp .ne 13) (len := 3) (tag := 0) (a := 147) (b := 0) (c := 0) (q := 0) (by decide +kernel)) (if_neg c1326) ?_
        exact ok_m_goesAfter_147 X d F _ _ _ _ _ _ _ _ h
def f_m_goesAfter_83 (F : Nat)   (v1 : Int32) (m : mM) : Option (Unit × mM) := ((f_m_sheetOf F v1 (m.1 305 (0 : Int32).toNatClampNeg) m).bind fun q8 => (if 0 ≤ q8.1 then ((f_m_shown F q8.1 (5 : Int32) q8.2).bind fun q9 => f_m_goesAfter_109 F v1 q9.1 q9.2) else f_m_goesAfter_109 F v1 (-1 : Int32) q8.2))
theorem ok_m_goesAfter_83 (X : mX) (d F : Nat) : ∀ (v1 : Int32) (w2 : Option Value) (w3 : Option Value) (w4 : Option Value) (m : mM) (r : Unit) (m' : mM), f_m_goesAfter_83 F v1 m = some (r, m') → m_R X (d + 73) 316 83 [some (.ref 304), some (.int v1), w2, w3, w4] [] (SH, m) (none, (SH, m')) := by
  intro v1 w2 w3 w4 m r m' h
  unfold f_m_goesAfter_83 at h
  refine m_R_sg (by decide) [(.aload_n 0, 1, 0, 0, 0, 0, 0), (.iload_n 1, 1, 0, 1, 0, 0, 0), (.aload_n 0, 1, 0, 0, 0, 0, 0), (.getfield 13, 3, 0, 12, 1, 3, 1493), (.iconst 0, 1, 0, 0, 0, 0, 0)] (by decide +kernel) (show m_sgl X _ _ _ _ _ = some (90, [some (.ref 304), some (.int v1), w2, w3, w4], [.int (0 : Int32), .ref 305, .int v1, .ref 304], (SH, m.1, m.2)) from rfl) ?_
  refine m_R_1 (by decide) (m_opb_of (ins := .iaload) (len := 1) (tag := 0) (a := 0) (b := 0) (c := 0) (q := 0) (by decide +kernel)) (m_s_iald sh_305 (by decide) (show ¬ ((0 : Int32) < 0 ∨ 9732 ≤ (0 : Int32).toNatClampNeg) by decide)) ?_
  obtain ⟨q8, hc8, h⟩ := Option.bind_eq_some_iff.mp h
  refine m_R_cV (v := (some (.int q8.1))) (h1 := (SH, q8.2)) (rest := []) (lo' := [some (.ref 304), some (.int v1), some (.int (m.1 305 (0 : Int32).toNatClampNeg)), none]) (ml := 4) (k0 := 304) (by decide) (Or.inl rfl) (m_opb_of (ins := .invokevirtual 396) (len := 3) (tag := 5) (a := 318) (b := 2) (c := 0) (q := 2089) (by decide +kernel)) (by decide +kernel) rfl (show m_isO 318 304 (SH, _) = true from m_isO_of (by decide +kernel)) (Nat.le_of_ble_eq_true rfl) rfl rfl (ok_m_sheetOf X (d + 71) F _ _ _ _ _ hc8) ?_
  refine m_R_sg (by decide) [(.istore_n 2, 1, 0, 2, 0, 0, 0), (.iload_n 2, 1, 0, 2, 0, 0, 0)] (by decide +kernel) (show m_sgl X _ _ _ _ _ = some (96, [some (.ref 304), some (.int v1), some (.int q8.1), w3, w4], [.int q8.1], (SH, q8.2.1, q8.2.2)) from rfl) ?_
  rcases m_ite h with ⟨c1327, h⟩ | ⟨c1327, h⟩
  · refine m_R_1 (by decide) (m_opb_of (ins := .ifCond .ge 7) (len := 3) (tag := 0) (a := 103) (b := 0) (c := 0) (q := 0) (by decide +kernel)) (if_pos c1327) ?_
    refine m_R_sg (by decide) [(.aload_n 0, 1, 0, 0, 0, 0, 0), (.iload_n 2, 1, 0, 2, 0, 0, 0), (.iconst 5, 1, 0, 5, 0, 0, 0)] (by decide +kernel) (show m_sgl X _ _ _ _ _ = some (106, [some (.ref 304), some (.int v1), some (.int q8.1), w3, w4], [.int (5 : Int32), .int q8.1, .ref 304], (SH, q8.2.1, q8.2.2)) from rfl) ?_
    obtain ⟨q9, hc9, h⟩ := Option.bind_eq_some_iff.mp h
    refine m_R_cV (v := (some (.int q9.1))) (h1 := (SH, q9.2)) (rest := []) (lo' := [some (.ref 304), some (.int q8.1), some (.int (5 : Int32))]) (ml := 3) (k0 := 304) (by decide) (Or.inl rfl) (m_opb_of (ins := .invokevirtual 399) (len := 3) (tag := 5) (a := 319) (b := 2) (c := 0) (q := 2093) (by decide +kernel)) (by decide +kernel) rfl (show m_isO 319 304 (SH, _) = true from m_isO_of (by decide +kernel)) (Nat.le_of_ble_eq_true rfl) rfl rfl (ok_m_shown X (d + 72) F _ _ _ _ _ hc9) ?_
    exact ok_m_goesAfter_109 X d F _ _ _ _ _ _ _ _ h
  · refine m_R_1 (by decide) (m_opb_of (ins := .ifCond .ge 7) (len := 3) (tag := 0) (a := 103) (b := 0) (c := 0) (q := 0) (by decide +kernel)) (if_neg c1327) ?_
    refine m_R_sg (by decide) [(.iconst (-1), 1, 0, 1, 1, 0, 0), (.goto 9, 3, 0, 109, 0, 0, 0)] (by decide +kernel) (show m_sgl X _ _ _ _ _ = some (109, [some (.ref 304), some (.int v1), some (.int q8.1), w3, w4], [.int (-1 : Int32)], (SH, q8.2.1, q8.2.2)) from rfl) ?_
    exact ok_m_goesAfter_109 X d F _ _ _ _ _ _ _ _ h
def f_m_goesAfter_23 (F : Nat)   : Nat → Int32 → Int32 → mM → Option (Unit × mM)
  | 0, _, _, _ => none
  | n + 1, v1, v2, m => (if (60 : Int32) ≤ v2 then f_m_goesAfter_83 F v1 m else ((f_m_paper F v2 (0 : Int32) m).bind fun q3 => (if q3.1 = 0 then f_m_goesAfter_77 F (f_m_goesAfter_23 F n) v1 v2 q3.2 else ((f_m_paper F v2 (1 : Int32) q3.2).bind fun q4 => (if q4.1 = (2 : Int32) then ((f_m_paper F v2 (4 : Int32) q4.2).bind fun q5 => (if q5.1 = v1 then ((f_m_paper F v2 (6 : Int32) q5.2).bind fun q6 => (if q6.1 = 0 then ((f_m_asked F v2 q6.2).bind fun q7 => f_m_goesAfter_77 F (f_m_goesAfter_23 F n) v1 v2 q7.2) else f_m_goesAfter_77 F (f_m_goesAfter_23 F n) v1 v2 q6.2)) else f_m_goesAfter_77 F (f_m_goesAfter_23 F n) v1 v2 q5.2)) else f_m_goesAfter_77 F (f_m_goesAfter_23 F n) v1 v2 q4.2)))))
theorem ok_m_goesAfter_23 (X : mX) (d F : Nat) : ∀ (n : Nat) (v1 : Int32) (v2 : Int32) (w3 : Option Value) (w4 : Option Value) (m : mM) (r : Unit) (m' : mM), f_m_goesAfter_23 F n v1 v2 m = some (r, m') → m_R X (d + 73) 316 23 [some (.ref 304), some (.int v1), some (.int v2), w3, w4] [] (SH, m) (none, (SH, m')) := by
  intro n
  induction n with
  | zero => intro v1 v2 w3 w4 m r m' h; cases h
  | succ n ih =>
    intro v1 v2 w3 w4 m r m' h
    simp only [f_m_goesAfter_23] at h
    refine m_R_sg (by decide) [(.iload_n 2, 1, 0, 2, 0, 0, 0), (.bipush 60, 2, 0, 60, 0, 0, 0)] (by decide +kernel) (show m_sgl X _ _ _ _ _ = some (26, [some (.ref 304), some (.int v1), some (.int v2), w3, w4], [.int (60 : Int32), .int v2], (SH, m.1, m.2)) from rfl) ?_
    rcases m_ite h with ⟨c1328, h⟩ | ⟨c1328, h⟩
    · refine m_R_1 (by decide) (m_opb_of (ins := .if_icmp .ge 57) (len := 3) (tag := 0) (a := 83) (b := 0) (c := 0) (q := 0) (by decide +kernel)) (if_pos c1328) ?_
      exact ok_m_goesAfter_83 X d F _ _ _ _ _ _ _ h
    · refine m_R_1 (by decide) (m_opb_of (ins := .if_icmp .ge 57) (len := 3) (tag := 0) (a := 83) (b := 0) (c := 0) (q := 0) (by decide +kernel)) (if_neg c1328) ?_
      refine m_R_sg (by decide) [(.aload_n 0, 1, 0, 0, 0, 0, 0), (.iload_n 2, 1, 0, 2, 0, 0, 0), (.iconst 0, 1, 0, 0, 0, 0, 0)] (by decide +kernel) (show m_sgl X _ _ _ _ _ = some (32, [some (.ref 304), some (.int v1), some (.int v2), w3, w4], [.int (0 : Int32), .int v2, .ref 304], (SH, m.1, m.2)) from rfl) ?_
      obtain ⟨q3, hc3, h⟩ := Option.bind_eq_some_iff.mp h
      refine m_R_cV (v := (some (.int q3.1))) (h1 := (SH, q3.2)) (rest := []) (lo' := [some (.ref 304), some (.int v2), some (.int (0 : Int32))]) (ml := 3) (k0 := 304) (by decide) (Or.inl rfl) (m_opb_of (ins := .invokevirtual 160) (len := 3) (tag := 5) (a := 246) (b := 2) (c := 0) (q := 1791) (by decide +kernel)) (by decide +kernel) rfl (show m_isO 246 304 (SH, _) = true from m_isO_of (by decide +kernel)) (Nat.le_of_ble_eq_true rfl) rfl rfl (ok_m_paper X (d + 72) F _ _ _ _ _ hc3) ?_
      rcases m_ite h with ⟨c1329, h⟩ | ⟨c1329, h⟩
      · refine m_R_1 (by decide) (m_opb_of (ins := .ifCond .eq 42) (len := 3) (tag := 0) (a := 77) (b := 0) (c := 0) (q := 0) (by decide +kernel)) (if_pos c1329) ?_
        exact ok_m_goesAfter_77 X d F _ (fun a0 a1 a2 a3 m r m' h => ih a0 a1 a2 a3 m r m' h) _ _ _ _ _ _ _ h
      · refine m_R_1 (by decide) (m_opb_of (ins := .ifCond .eq 42) (len := 3) (tag := 0) (a := 77) (b := 0) (c := 0) (q := 0) (by decide +kernel)) (if_neg c1329) ?_
        refine m_R_sg (by decide) [(.aload_n 0, 1, 0, 0, 0, 0, 0), (.iload_n 2, 1, 0, 2, 0, 0, 0), (.iconst 1, 1, 0, 1, 0, 0, 0)] (by decide +kernel) (show m_sgl X _ _ _ _ _ = some (41, [some (.ref 304), some (.int v1), some (.int v2), w3, w4], [.int (1 : Int32), .int v2, .ref 304], (SH, q3.2.1, q3.2.2)) from rfl) ?_
        obtain ⟨q4, hc4, h⟩ := Option.bind_eq_some_iff.mp h
        refine m_R_cV (v := (some (.int q4.1))) (h1 := (SH, q4.2)) (rest := []) (lo' := [some (.ref 304), some (.int v2), some (.int (1 : Int32))]) (ml := 3) (k0 := 304) (by decide) (Or.inl rfl) (m_opb_of (ins := .invokevirtual 160) (len := 3) (tag := 5) (a := 246) (b := 2) (c := 0) (q := 1791) (by decide +kernel)) (by decide +kernel) rfl (show m_isO 246 304 (SH, _) = true from m_isO_of (by decide +kernel)) (Nat.le_of_ble_eq_true rfl) rfl rfl (ok_m_paper X (d + 72) F _ _ _ _ _ hc4) ?_
        refine m_R_sg (by decide) [(.iconst 2, 1, 0, 2, 0, 0, 0)] (by decide +kernel) (show m_sgl X _ _ _ _ _ = some (45, [some (.ref 304), some (.int v1), some (.int v2), w3, w4], [.int (2 : Int32), .int q4.1], (SH, q4.2.1, q4.2.2)) from rfl) ?_
        rcases m_ite h with ⟨c1330, h⟩ | ⟨c1330, h⟩
        · refine m_R_1 (by decide) (m_opb_of (ins := .if_icmp .ne 32) (len := 3) (tag := 0) (a := 77) (b := 0) (c := 0) (q := 0) (by decide +kernel)) (if_pos c1330) ?_
          refine m_R_sg (by decide) [(.aload_n 0, 1, 0, 0, 0, 0, 0), (.iload_n 2, 1, 0, 2, 0, 0, 0), (.iconst 4, 1, 0, 4, 0, 0, 0)] (by decide +kernel) (show m_sgl X _ _ _ _ _ = some (51, [some (.ref 304), some (.int v1), some (.int v2), w3, w4], [.int (4 : Int32), .int v2, .ref 304], (SH, q4.2.1, q4.2.2)) from rfl) ?_
          obtain ⟨q5, hc5, h⟩ := Option.bind_eq_some_iff.mp h
          refine m_R_cV (v := (some (.int q5.1))) (h1 := (SH, q5.2)) (rest := []) (lo' := [some (.ref 304), some (.int v2), some (.int (4 : Int32))]) (ml := 3) (k0 := 304) (by decide) (Or.inl rfl) (m_opb_of (ins := .invokevirtual 160) (len := 3) (tag := 5) (a := 246) (b := 2) (c := 0) (q := 1791) (by decide +kernel)) (by decide +kernel) rfl (show m_isO 246 304 (SH, _) = true from m_isO_of (by decide +kernel)) (Nat.le_of_ble_eq_true rfl) rfl rfl (ok_m_paper X (d + 72) F _ _ _ _ _ hc5) ?_
          refine m_R_sg (by decide) [(.iload_n 1, 1, 0, 1, 0, 0, 0)] (by decide +kernel) (show m_sgl X _ _ _ _ _ = some (55, [some (.ref 304), some (.int v1), some (.int v2), w3, w4], [.int v1, .int q5.1], (SH, q5.2.1, q5.2.2)) from rfl) ?_
          rcases m_ite h with ⟨c1331, h⟩ | ⟨c1331, h⟩
          · refine m_R_1 (by decide) (m_opb_of (ins := .if_icmp .ne 22) (len := 3) (tag := 0) (a := 77) (b := 0) (c := 0) (q := 0) (by decide +kernel)) (if_pos c1331) ?_
            refine m_R_sg (by decide) [(.aload_n 0, 1, 0, 0, 0, 0, 0), (.iload_n 2, 1, 0, 2, 0, 0, 0), (.bipush 6, 2, 0, 6, 0, 0, 0)] (by decide +kernel) (show m_sgl X _ _ _ _ _ = some (62, [some (.ref 304), some (.int v1), some (.int v2), w3, w4], [.int (6 : Int32), .int v2, .ref 304], (SH, q5.2.1, q5.2.2)) from rfl) ?_
            obtain ⟨q6, hc6, h⟩ := Option.bind_eq_some_iff.mp h
            refine m_R_cV (v := (some (.int q6.1))) (h1 := (SH, q6.2)) (rest := []) (lo' := [some (.ref 304), some (.int v2), some (.int (6 : Int32))]) (ml := 3) (k0 := 304) (by decide) (Or.inl rfl) (m_opb_of (ins := .invokevirtual 160) (len := 3) (tag := 5) (a := 246) (b := 2) (c := 0) (q := 1791) (by decide +kernel)) (by decide +kernel) rfl (show m_isO 246 304 (SH, _) = true from m_isO_of (by decide +kernel)) (Nat.le_of_ble_eq_true rfl) rfl rfl (ok_m_paper X (d + 72) F _ _ _ _ _ hc6) ?_
            rcases m_ite h with ⟨c1332, h⟩ | ⟨c1332, h⟩
            · refine m_R_1 (by decide) (m_opb_of (ins := .ifCond .eq 6) (len := 3) (tag := 0) (a := 71) (b := 0) (c := 0) (q := 0) (by decide +kernel)) (if_pos c1332) ?_
              refine m_R_sg (by decide) [(.aload_n 0, 1, 0, 0, 0, 0, 0), (.iload_n 2, 1, 0, 2, 0, 0, 0)] (by decide +kernel) (show m_sgl X _ _ _ _ _ = some (73, [some (.ref 304), some (.int v1), some (.int v2), w3, w4], [.int v2, .ref 304], (SH, q6.2.1, q6.2.2)) from rfl) ?_
              obtain ⟨q7, hc7, h⟩ := Option.bind_eq_some_iff.mp h
              refine m_R_cV (v := (some (.int q7.1))) (h1 := (SH, q7.2)) (rest := []) (lo' := [some (.ref 304), some (.int v2), none, none]) (ml := 4) (k0 := 304) (by decide) (Or.inl rfl) (m_opb_of (ins := .invokevirtual 193) (len := 3) (tag := 5) (a := 279) (b := 1) (c := 0) (q := 1934) (by decide +kernel)) (by decide +kernel) rfl (show m_isO 279 304 (SH, _) = true from m_isO_of (by decide +kernel)) (Nat.le_of_ble_eq_true rfl) rfl rfl (ok_m_asked X (d + 0) F _ _ _ _ hc7) ?_
              refine m_R_sg (by decide) [(.istore_n 3, 1, 0, 3, 0, 0, 0)] (by decide +kernel) (show m_sgl X _ _ _ _ _ = some (77, [some (.ref 304), some (.int v1), some (.int v2), some (.int q7.1), w4], [], (SH, q7.2.1, q7.2.2)) from rfl) ?_
              exact ok_m_goesAfter_77 X d F _ (fun a0 a1 a2 a3 m r m' h => ih a0 a1 a2 a3 m r m' h) _ _ _ _ _ _ _ h
            · refine m_R_1 (by decide) (m_opb_of (ins := .ifCond .eq 6) (len := 3) (tag := 0) (a := 71) (b := 0) (c := 0) (q := 0) (by decide +kernel)) (if_neg c1332) ?_
              refine m_R_sg (by decide) [(.goto 9, 3, 0, 77, 0, 0, 0)] (by decide +kernel) (show m_sgl X _ _ _ _ _ = some (77, [some (.ref 304), some (.int v1), some (.int v2), w3, w4], [], (SH, q6.2.1, q6.2.2)) from rfl) ?_
              exact ok_m_goesAfter_77 X d F _ (fun a0 a1 a2 a3 m r m' h => ih a0 a1 a2 a3 m r m' h) _ _ _ _ _ _ _ h
          · refine m_R_1 (by decide) (m_opb_of (ins := .if_icmp .ne 22) (len := 3) (tag := 0) (a := 77) (b := 0) (c := 0) (q := 0) (by decide +kernel)) (if_neg c1331) ?_
            exact ok_m_goesAfter_77 X d F _ (fun a0 a1 a2 a3 m r m' h => ih a0 a1 a2 a3 m r m' h) _ _ _ _ _ _ _ h
        · refine m_R_1 (by decide) (m_opb_of (ins := .if_icmp .ne 32) (len := 3) (tag := 0) (a := 77) (b := 0) (c := 0) (q := 0) (by decide +kernel)) (if_neg c1330) ?_
          exact ok_m_goesAfter_77 X d F _ (fun a0 a1 a2 a3 m r m' h => ih a0 a1 a2 a3 m r m' h) _ _ _ _ _ _ _ h
def f_m_goesAfter (F : Nat)   (v1 : Int32) (m : mM) : Option (Unit × mM) := ((f_m_heardOf F v1 (m.1 305 (0 : Int32).toNatClampNeg) m).bind fun q1 => ((f_m_hs F v1 (6 : Int32) q1.2).bind fun q2 => (if q1.1 ≤ q2.1 then f_m_goesAfter_83 F v1 q2.2 else f_m_goesAfter_23 F F v1 (0 : Int32) q2.2)))
theorem ok_m_goesAfter (X : mX) (d F : Nat) : ∀ (v1 : Int32)  (m : mM) (r : Unit) (m' : mM), f_m_goesAfter F v1 m = some (r, m') → m_R X (d + 73) 316 0 [some (.ref 304), some (.int v1), none, none, none] [] (SH, m) (none, (SH, m')) := by
  intro v1 m r m' h
  unfold f_m_goesAfter at h
  refine m_R_sg (by decide) [(.aload_n 0, 1, 0, 0, 0, 0, 0), (.iload_n 1, 1, 0, 1, 0, 0, 0), (.aload_n 0, 1, 0, 0, 0, 0, 0), (.getfield 13, 3, 0, 12, 1, 3, 1493), (.iconst 0, 1, 0, 0, 0, 0, 0)] (by decide +kernel) (show m_sgl X _ _ _ _ _ = some (7, [some (.ref 304), some (.int v1), none, none, none], [.int (0 : Int32), .ref 305, .int v1, .ref 304], (SH, m.1, m.2)) from rfl) ?_
  refine m_R_1 (by decide) (m_opb_of (ins := .iaload) (len := 1) (tag := 0) (a := 0) (b := 0) (c := 0) (q := 0) (by decide +kernel)) (m_s_iald sh_305 (by decide) (show ¬ ((0 : Int32) < 0 ∨ 9732 ≤ (0 : Int32).toNatClampNeg) by decide)) ?_
  obtain ⟨q1, hc1, h⟩ := Option.bind_eq_some_iff.mp h
  refine m_R_cV (v := (some (.int q1.1))) (h1 := (SH, q1.2)) (rest := []) (lo' := [some (.ref 304), some (.int v1), some (.int (m.1 305 (0 : Int32).toNatClampNeg)), none, none, none]) (ml := 6) (k0 := 304) (by decide) (Or.inl rfl) (m_opb_of (ins := .invokevirtual 393) (len := 3) (tag := 5) (a := 317) (b := 2) (c := 0) (q := 2085) (by decide +kernel)) (by decide +kernel) rfl (show m_isO 317 304 (SH, _) = true from m_isO_of (by decide +kernel)) (Nat.le_of_ble_eq_true rfl) rfl rfl (ok_m_heardOf X (d + 70) F _ _ _ _ _ hc1) ?_
  refine m_R_sg (by decide) [(.aload_n 0, 1, 0, 0, 0, 0, 0), (.iload_n 1, 1, 0, 1, 0, 0, 0), (.bipush 6, 2, 0, 6, 0, 0, 0)] (by decide +kernel) (show m_sgl X _ _ _ _ _ = some (15, [some (.ref 304), some (.int v1), none, none, none], [.int (6 : Int32), .int v1, .ref 304, .int q1.1], (SH, q1.2.1, q1.2.2)) from rfl) ?_
  obtain ⟨q2, hc2, h⟩ := Option.bind_eq_some_iff.mp h
  refine m_R_cV (v := (some (.int q2.1))) (h1 := (SH, q2.2)) (rest := [.int q1.1]) (lo' := [some (.ref 304), some (.int v1), some (.int (6 : Int32))]) (ml := 3) (k0 := 304) (by decide) (Or.inl rfl) (m_opb_of (ins := .invokevirtual 65) (len := 3) (tag := 5) (a := 212) (b := 2) (c := 0) (q := 1633) (by decide +kernel)) (by decide +kernel) rfl (show m_isO 212 304 (SH, _) = true from m_isO_of (by decide +kernel)) (Nat.le_of_ble_eq_true rfl) rfl rfl (ok_m_hs X (d + 72) F _ _ _ _ _ hc2) ?_
  rcases m_ite h with ⟨c1333, h⟩ | ⟨c1333, h⟩
  · refine m_R_1 (by decide) (m_opb_of (ins := .if_icmp .le 65) (len := 3) (tag := 0) (a := 83) (b := 0) (c := 0) (q := 0) (by decide +kernel)) (if_pos c1333) ?_
    exact ok_m_goesAfter_83 X d F _ _ _ _ _ _ _ h
  · refine m_R_1 (by decide) (m_opb_of (ins := .if_icmp .le 65) (len := 3) (tag := 0) (a := 83) (b := 0) (c := 0) (q := 0) (by decide +kernel)) (if_neg c1333) ?_
    refine m_R_sg (by decide) [(.iconst 0, 1, 0, 0, 0, 0, 0), (.istore_n 2, 1, 0, 2, 0, 0, 0)] (by decide +kernel) (show m_sgl X _ _ _ _ _ = some (23, [some (.ref 304), some (.int v1), some (.int (0 : Int32)), none, none], [], (SH, q2.2.1, q2.2.2)) from rfl) ?_
    exact ok_m_goesAfter_23 X d F F _ _ _ _ _ _ _ h
def f_m_close_90 (F : Nat)  (k39 : Int32 → Int32 → Int32 → mM → Option (Unit × mM)) (v1 : Int32) (v2 : Int32) (v3 : Int32) (m : mM) : Option (Unit × mM) := k39 v1 v2 (v3 + (1 : Int32)) m
theorem ok_m_close_90 (X : mX) (d F : Nat) (k39 : Int32 → Int32 → Int32 → mM → Option (Unit × mM)) (hk39 : ∀ (v1 : Int32) (v2 : Int32) (v3 : Int32) (m : mM) (r : Unit) (m' : mM), k39 v1 v2 v3 m = some (r, m') → m_R X (d + 74) 307 39 [some (.ref 304), some (.int v1), some (.int v2), some (.int v3)] [] (SH, m) (none, (SH, m'))) : ∀ (v1 : Int32) (v2 : Int32) (v3 : Int32)  (m : mM) (r : Unit) (m' : mM), f_m_close_90 F k39 v1 v2 v3 m = some (r, m') → m_R X (d + 74) 307 90 [some (.ref 304), some (.int v1), some (.int v2), some (.int v3)] [] (SH, m) (none, (SH, m')) := by
  intro v1 v2 v3 m r m' h
  unfold f_m_close_90 at h
  refine m_R_sg (by decide) [(.iinc 3 1, 3, 0, 3, 1, 0, 0), (.goto (-54), 3, 0, 39, 0, 0, 0)] (by decide +kernel) (show m_sgl X _ _ _ _ _ = some (39, [some (.ref 304), some (.int v1), some (.int v2), some (.int (v3 + (1 : Int32)))], [], (SH, m.1, m.2)) from rfl) ?_
  exact hk39 _ _ _ _ _ _ h
def f_m_close_141 (F : Nat)  (k98 : Int32 → Int32 → Int32 → mM → Option (Unit × mM)) (v1 : Int32) (v2 : Int32) (v3 : Int32) (m : mM) : Option (Unit × mM) := (if (((6200 : Int32) + ((20 : Int32) * v3)) + (19 : Int32)) < 0 ∨ 9732 ≤ (((6200 : Int32) + ((20 : Int32) * v3)) + (19 : Int32)).toNatClampNeg then none else k98 v1 v2 (v3 + (1 : Int32)) ((m_up m.1 305 (((6200 : Int32) + ((20 : Int32) * v3)) + (19 : Int32)).toNatClampNeg (0 : Int32)), m.2))
theorem ok_m_close_141 (X : mX) (d F : Nat) (k98 : Int32 → Int32 → Int32 → mM → Option (Unit × mM)) (hk98 : ∀ (v1 : Int32) (v2 : Int32) (v3 : Int32) (m : mM) (r : Unit) (m' : mM), k98 v1 v2 v3 m = some (r, m') → m_R X (d + 74) 307 98 [some (.ref 304), some (.int v1), some (.int v2), some (.int v3)] [] (SH, m) (none, (SH, m'))) : ∀ (v1 : Int32) (v2 : Int32) (v3 : Int32)  (m : mM) (r : Unit) (m' : mM), f_m_close_141 F k98 v1 v2 v3 m = some (r, m') → m_R X (d + 74) 307 141 [some (.ref 304), some (.int v1), some (.int v2), some (.int v3)] [] (SH, m) (none, (SH, m')) := by
  intro v1 v2 v3 m r m' h
  unfold f_m_close_141 at h
  refine m_R_sg (by decide) [(.aload_n 0, 1, 0, 0, 0, 0, 0), (.getfield 13, 3, 0, 12, 1, 3, 1493), (.sipush 6200, 3, 0, 6200, 0, 0, 0), (.bipush 20, 2, 0, 20, 0, 0, 0), (.iload_n 3, 1, 0, 3, 0, 0, 0), (.imul, 1, 0, 0, 0, 0, 0), (.iadd, 1, 0, 0, 0, 0, 0), (.bipush 19, 2, 0, 19, 0, 0, 0), (.iadd, 1, 0, 0, 0, 0, 0), (.iconst 0, 1, 0, 0, 0, 0, 0)] (by decide +kernel) (show m_sgl X _ _ _ _ _ = some (157, [some (.ref 304), some (.int v1), some (.int v2), some (.int v3)], [.int (0 : Int32), .int (((6200 : Int32) + ((20 : Int32) * v3)) + (19 : Int32)), .ref 305], (SH, m.1, m.2)) from rfl) ?_
  obtain ⟨c1334, h⟩ := m_ite_n h
  refine m_R_1 (by decide) (m_opb_of (ins := .iastore) (len := 1) (tag := 0) (a := 0) (b := 0) (c := 0) (q := 0) (by decide +kernel)) (m_s_iast sh_305 c1334) ?_
  refine m_R_sg (by decide) [(.iinc 3 1, 3, 0, 3, 1, 0, 0), (.goto (-63), 3, 0, 98, 0, 0, 0)] (by decide +kernel) (show m_sgl X _ _ _ _ _ = some (98, [some (.ref 304), some (.int v1), some (.int v2), some (.int (v3 + (1 : Int32)))], [], (SH, (m_up m.1 305 (((6200 : Int32) + ((20 : Int32) * v3)) + (19 : Int32)).toNatClampNeg (0 : Int32)), m.2)) from rfl) ?_
  exact hk98 _ _ _ _ _ _ h
def f_m_close_189 (F : Nat)  (k166 : Int32 → Int32 → Int32 → mM → Option (Unit × mM)) (v1 : Int32) (v2 : Int32) (v3 : Int32) (m : mM) : Option (Unit × mM) := k166 v1 v2 (v3 + (1 : Int32)) m
theorem ok_m_close_189 (X : mX) (d F : Nat) (k166 : Int32 → Int32 → Int32 → mM → Option (Unit × mM)) (hk166 : ∀ (v1 : Int32) (v2 : Int32) (v3 : Int32) (m : mM) (r : Unit) (m' : mM), k166 v1 v2 v3 m = some (r, m') → m_R X (d + 74) 307 166 [some (.ref 304), some (.int v1), some (.int v2), some (.int v3)] [] (SH, m) (none, (SH, m'))) : ∀ (v1 : Int32) (v2 : Int32) (v3 : Int32)  (m : mM) (r : Unit) (m' : mM), f_m_close_189 F k166 v1 v2 v3 m = some (r, m') → m_R X (d + 74) 307 189 [some (.ref 304), some (.int v1), some (.int v2), some (.int v3)] [] (SH, m) (none, (SH, m')) := by
  intro v1 v2 v3 m r m' h
  unfold f_m_close_189 at h
  refine m_R_sg (by decide) [(.iinc 3 1, 3, 0, 3, 1, 0, 0), (.goto (-26), 3, 0, 166, 0, 0, 0)] (by decide +kernel) (show m_sgl X _ _ _ _ _ = some (166, [some (.ref 304), some (.int v1), some (.int v2), some (.int (v3 + (1 : Int32)))], [], (SH, m.1, m.2)) from rfl) ?_
  exact hk166 _ _ _ _ _ _ h
def f_m_close_220 (F : Nat)  (k197 : Int32 → Int32 → Int32 → mM → Option (Unit × mM)) (v1 : Int32) (v2 : Int32) (v3 : Int32) (m : mM) : Option (Unit × mM) := k197 v1 v2 (v3 + (1 : Int32)) m
theorem ok_m_close_220 (X : mX) (d F : Nat) (k197 : Int32 → Int32 → Int32 → mM → Option (Unit × mM)) (hk197 : ∀ (v1 : Int32) (v2 : Int32) (v3 : Int32) (m : mM) (r : Unit) (m' : mM), k197 v1 v2 v3 m = some (r, m') → m_R X (d + 74) 307 197 [some (.ref 304), some (.int v1), some (.int v2), some (.int v3)] [] (SH, m) (none, (SH, m'))) : ∀ (v1 : Int32) (v2 : Int32) (v3 : Int32)  (m : mM) (r : Unit) (m' : mM), f_m_close_220 F k197 v1 v2 v3 m = some (r, m') → m_R X (d + 74) 307 220 [some (.ref 304), some (.int v1), some (.int v2), some (.int v3)] [] (SH, m) (none, (SH, m')) := by
  intro v1 v2 v3 m r m' h
  unfold f_m_close_220 at h
  refine m_R_sg (by decide) [(.iinc 3 1, 3, 0, 3, 1, 0, 0), (.goto (-26), 3, 0, 197, 0, 0, 0)] (by decide +kernel) (show m_sgl X _ _ _ _ _ = some (197, [some (.ref 304), some (.int v1), some (.int v2), some (.int (v3 + (1 : Int32)))], [], (SH, m.1, m.2)) from rfl) ?_
  exact hk197 _ _ _ _ _ _ h
def f_m_close_274 (F : Nat)   (v2 : Int32) (m : mM) : Option (Unit × mM) := some ((), ((m_up m.1 305 (0 : Int32).toNatClampNeg (v2 + (1 : Int32))), m.2))
theorem ok_m_close_274 (X : mX) (d F : Nat) : ∀ (v2 : Int32) (w1 : Option Value) (w3 : Option Value) (m : mM) (r : Unit) (m' : mM), f_m_close_274 F v2 m = some (r, m') → m_R X (d + 74) 307 274 [some (.ref 304), w1, some (.int v2), w3] [] (SH, m) (none, (SH, m')) := by
  intro v2 w1 w3 m r m' h
  unfold f_m_close_274 at h
  refine m_R_sg (by decide) [(.aload_n 0, 1, 0, 0, 0, 0, 0), (.getfield 13, 3, 0, 12, 1, 3, 1493), (.iconst 0, 1, 0, 0, 0, 0, 0), (.iload_n 2, 1, 0, 2, 0, 0, 0), (.iconst 1, 1, 0, 1, 0, 0, 0), (.iadd, 1, 0, 0, 0, 0, 0)] (by decide +kernel) (show m_sgl X _ _ _ _ _ = some (282, [some (.ref 304), w1, some (.int v2), w3], [.int (v2 + (1 : Int32)), .int (0 : Int32), .ref 305], (SH, m.1, m.2)) from rfl) ?_
  refine m_R_1 (by decide) (m_opb_of (ins := .iastore) (len := 1) (tag := 0) (a := 0) (b := 0) (c := 0) (q := 0) (by decide +kernel)) (m_s_iast sh_305 (show ¬ ((0 : Int32) < 0 ∨ 9732 ≤ (0 : Int32).toNatClampNeg) by decide)) ?_
  obtain ⟨rfl, rfl⟩ := m_some h
  exact m_R_vret (by decide) (m_opb_of (ins := .return_) (len := 1) (tag := 3) (a := 0) (b := 0) (c := 0) (q := 0) (by decide +kernel))
def f_m_close_197 (F : Nat)   : Nat → Int32 → Int32 → Int32 → mM → Option (Unit × mM)
  | 0, _, _, _, _ => none
  | n + 1, v1, v2, v3, m => (if (m.1 305 (2 : Int32).toNatClampNeg) ≤ v3 then (if (v2 - v2 / (7 : Int32) * (7 : Int32)) = (6 : Int32) then ((f_m_ships F m).bind fun q13 => ((f_m_sheets F q13.2).bind fun q14 => (if v1 = 0 then f_m_close_274 F v2 q14.2 else ((f_m_rules F (1 : Int32) (-1 : Int32) q14.2).bind fun q15 => (if q15.1 = 0 then f_m_close_274 F v2 q15.2 else ((f_m_within F (q15.2.1 304 21) (0 : Int32) (20 : Int32) q15.2).bind fun q16 => f_m_close_274 F v2 ((m_up q16.2.1 305 (10 : Int32).toNatClampNeg q16.1), q16.2.2))))))) else f_m_close_274 F v2 m) else ((f_m_isUp F v3 m).bind fun q17 => (if q17.1 = 0 then f_m_close_220 F (f_m_close_197 F n) v1 v2 v3 q17.2 else ((f_m_goesAfter F v3 q17.2).bind fun q18 => f_m_close_220 F (f_m_close_197 F n) v1 v2 v3 q18.2))))
theorem ok_m_close_197 (X : mX) (d F : Nat) : ∀ (n : Nat) (v1 : Int32) (v2 : Int32) (v3 : Int32)  (m : mM) (r : Unit) (m' : mM), f_m_close_197 F n v1 v2 v3 m = some (r, m') → m_R X (d + 74) 307 197 [some (.ref 304), some (.int v1), some (.int v2), some (.int v3)] [] (SH, m) (none, (SH, m')) := by
  intro n
  induction n with
  | zero => intro v1 v2 v3 m r m' h; cases h
  | succ n ih =>
    intro v1 v2 v3 m r m' h
    simp only [f_m_close_197] at h
    refine m_R_sg (by decide) [(.iload_n 3, 1, 0, 3, 0, 0, 0), (.aload_n 0, 1, 0, 0, 0, 0, 0), (.getfield 13, 3, 0, 12, 1, 3, 1493), (.iconst 2, 1, 0, 2, 0, 0, 0)] (by decide +kernel) (show m_sgl X _ _ _ _ _ = some (203, [some (.ref 304), some (.int v1), some (.int v2), some (.int v3)], [.int (2 : Int32), .ref 305, .int v3], (SH, m.1, m.2)) from rfl) ?_
    refine m_R_1 (by decide) (m_opb_of (ins := .iaload) (len := 1) (tag := 0) (a := 0) (b := 0) (c := 0) (q := 0) (by decide +kernel)) (m_s_iald sh_305 (by decide) (show ¬ ((2 : Int32) < 0 ∨ 9732 ≤ (2 : Int32).toNatClampNeg) by decide)) ?_
    rcases m_ite h with ⟨c1335, h⟩ | ⟨c1335, h⟩
    · refine m_R_1 (by decide) (m_opb_of (ins := .if_icmp .ge 22) (len := 3) (tag := 0) (a := 226) (b := 0) (c := 0) (q := 0) (by decide +kernel)) (if_pos c1335) ?_
      refine m_R_sg (by decide) [(.iload_n 2, 1, 0, 2, 0, 0, 0), (.bipush 7, 2, 0, 7, 0, 0, 0)] (by decide +kernel) (show m_sgl X _ _ _ _ _ = some (229, [some (.ref 304), some (.int v1), some (.int v2), some (.int v3)], [.int (7 : Int32), .int v2], (SH, m.1, m.2)) from rfl) ?_
      refine m_R_1 (by decide) (m_opb_of (ins := .irem) (len := 1) (tag := 0) (a := 0) (b := 0) (c := 0) (q := 0) (by decide +kernel)) (m_s_irem (by decide)) ?_
      refine m_R_sg (by decide) [(.bipush 6, 2, 0, 6, 0, 0, 0)] (by decide +kernel) (show m_sgl X _ _ _ _ _ = some (232, [some (.ref 304), some (.int v1), some (.int v2), some (.int v3)], [.int (6 : Int32), .int (v2 - v2 / (7 : Int32) * (7 : Int32))], (SH, m.1, m.2)) from rfl) ?_
      rcases m_ite h with ⟨c1336, h⟩ | ⟨c1336, h⟩
      · refine m_R_1 (by decide) (m_opb_of (ins := .if_icmp .ne 42) (len := 3) (tag := 0) (a := 274) (b := 0) (c := 0) (q := 0) (by decide +kernel)) (if_pos c1336) ?_
        refine m_R_sg (by decide) [(.aload_n 0, 1, 0, 0, 0, 0, 0)] (by decide +kernel) (show m_sgl X _ _ _ _ _ = some (236, [some (.ref 304), some (.int v1), some (.int v2), some (.int v3)], [.ref 304], (SH, m.1, m.2)) from rfl) ?_
        obtain ⟨q13, hc13, h⟩ := Option.bind_eq_some_iff.mp h
        refine m_R_cV (v := none) (h1 := (SH, q13.2)) (rest := []) (lo' := [some (.ref 304), none, none]) (ml := 3) (k0 := 304) (by decide) (Or.inl rfl) (m_opb_of (ins := .invokevirtual 417) (len := 3) (tag := 5) (a := 320) (b := 0) (c := 0) (q := 2097) (by decide +kernel)) (by decide +kernel) rfl (show m_isO 320 304 (SH, _) = true from m_isO_of (by decide +kernel)) (Nat.le_of_ble_eq_true rfl) rfl rfl (ok_m_ships X (d + 72) F _ _ _ hc13) ?_
        refine m_R_sg (by decide) [(.aload_n 0, 1, 0, 0, 0, 0, 0)] (by decide +kernel) (show m_sgl X _ _ _ _ _ = some (240, [some (.ref 304), some (.int v1), some (.int v2), some (.int v3)], [.ref 304], (SH, q13.2.1, q13.2.2)) from rfl) ?_
        obtain ⟨q14, hc14, h⟩ := Option.bind_eq_some_iff.mp h
        refine m_R_cV (v := none) (h1 := (SH, q14.2)) (rest := []) (lo' := [some (.ref 304), none, none, none, none, none, none]) (ml := 7) (k0 := 304) (by decide) (Or.inl rfl) (m_opb_of (ins := .invokevirtual 420) (len := 3) (tag := 5) (a := 321) (b := 0) (c := 0) (q := 2101) (by decide +kernel)) (by decide +kernel) rfl (show m_isO 321 304 (SH, _) = true from m_isO_of (by decide +kernel)) (Nat.le_of_ble_eq_true rfl) rfl rfl (ok_m_sheets X (d + 4) F _ _ _ hc14) ?_
        refine m_R_sg (by decide) [(.iload_n 1, 1, 0, 1, 0, 0, 0)] (by decide +kernel) (show m_sgl X _ _ _ _ _ = some (244, [some (.ref 304), some (.int v1), some (.int v2), some (.int v3)], [.int v1], (SH, q14.2.1, q14.2.2)) from rfl) ?_
        rcases m_ite h with ⟨c1337, h⟩ | ⟨c1337, h⟩
        · refine m_R_1 (by decide) (m_opb_of (ins := .ifCond .eq 30) (len := 3) (tag := 0) (a := 274) (b := 0) (c := 0) (q := 0) (by decide +kernel)) (if_pos c1337) ?_
          exact ok_m_close_274 X d F _ _ _ _ _ _ h
        · refine m_R_1 (by decide) (m_opb_of (ins := .ifCond .eq 30) (len := 3) (tag := 0) (a := 274) (b := 0) (c := 0) (q := 0) (by decide +kernel)) (if_neg c1337) ?_
          refine m_R_sg (by decide) [(.aload_n 0, 1, 0, 0, 0, 0, 0), (.iconst 1, 1, 0, 1, 0, 0, 0), (.iconst (-1), 1, 0, 1, 1, 0, 0)] (by decide +kernel) (show m_sgl X _ _ _ _ _ = some (250, [some (.ref 304), some (.int v1), some (.int v2), some (.int v3)], [.int (-1 : Int32), .int (1 : Int32), .ref 304], (SH, q14.2.1, q14.2.2)) from rfl) ?_
          obtain ⟨q15, hc15, h⟩ := Option.bind_eq_some_iff.mp h
          refine m_R_cV (v := (some (.int q15.1))) (h1 := (SH, q15.2)) (rest := []) (lo' := [some (.ref 304), some (.int (1 : Int32)), some (.int (-1 : Int32))]) (ml := 3) (k0 := 304) (by decide) (Or.inl rfl) (m_opb_of (ins := .invokevirtual 224) (len := 3) (tag := 5) (a := 227) (b := 2) (c := 0) (q := 1693) (by decide +kernel)) (by decide +kernel) rfl (show m_isO 227 304 (SH, _) = true from m_isO_of (by decide +kernel)) (Nat.le_of_ble_eq_true rfl) rfl rfl (ok_m_rules X (d + 6) F _ _ _ _ _ hc15) ?_
          rcases m_ite h with ⟨c1338, h⟩ | ⟨c1338, h⟩
          · refine m_R_1 (by decide) (m_opb_of (ins := .ifCond .eq 21) (len := 3) (tag := 0) (a := 274) (b := 0) (c := 0) (q := 0) (by decide +kernel)) (if_pos c1338) ?_
            exact ok_m_close_274 X d F _ _ _ _ _ _ h
          · refine m_R_1 (by decide) (m_opb_of (ins := .ifCond .eq 21) (len := 3) (tag := 0) (a := 274) (b := 0) (c := 0) (q := 0) (by decide +kernel)) (if_neg c1338) ?_
            refine m_R_sg (by decide) [(.aload_n 0, 1, 0, 0, 0, 0, 0), (.getfield 13, 3, 0, 12, 1, 3, 1493), (.bipush 10, 2, 0, 10, 0, 0, 0), (.aload_n 0, 1, 0, 0, 0, 0, 0), (.aload_n 0, 1, 0, 0, 0, 0, 0), (.getfield 364, 3, 0, 12, 21, 0, 1513), (.iconst 0, 1, 0, 0, 0, 0, 0), (.bipush 20, 2, 0, 20, 0, 0, 0)] (by decide +kernel) (show m_sgl X _ _ _ _ _ = some (270, [some (.ref 304), some (.int v1), some (.int v2), some (.int v3)], [.int (20 : Int32), .int (0 : Int32), .int (q15.2.1 304 21), .ref 304, .int (10 : Int32), .ref 305], (SH, q15.2.1, q15.2.2)) from rfl) ?_
            obtain ⟨q16, hc16, h⟩ := Option.bind_eq_some_iff.mp h
            refine m_R_cV (v := (some (.int q16.1))) (h1 := (SH, q16.2)) (rest := [.int (10 : Int32), .ref 305]) (lo' := [some (.ref 304), some (.int (q15.2.1 304 21)), some (.int (0 : Int32)), some (.int (20 : Int32))]) (ml := 4) (k0 := 304) (by decide) (Or.inl rfl) (m_opb_of (ins := .invokevirtual 176) (len := 3) (tag := 5) (a := 273) (b := 3) (c := 0) (q := 1909) (by decide +kernel)) (by decide +kernel) rfl (show m_isO 273 304 (SH, _) = true from m_isO_of (by decide +kernel)) (Nat.le_of_ble_eq_true rfl) rfl rfl (ok_m_within X (d + 73) F _ _ _ _ _ _ hc16) ?_
            refine m_R_1 (by decide) (m_opb_of (ins := .iastore) (len := 1) (tag := 0) (a := 0) (b := 0) (c := 0) (q := 0) (by decide +kernel)) (m_s_iast sh_305 (show ¬ ((10 : Int32) < 0 ∨ 9732 ≤ (10 : Int32).toNatClampNeg) by decide)) ?_
            exact ok_m_close_274 X d F _ _ _ _ _ _ h
      · refine m_R_1 (by decide) (m_opb_of (ins := .if_icmp .ne 42) (len := 3) (tag := 0) (a := 274) (b := 0) (c := 0) (q := 0) (by decide +kernel)) (if_neg c1336) ?_
        exact ok_m_close_274 X d F _ _ _ _ _ _ h
    · refine m_R_1 (by decide) (m_opb_of (ins := .if_icmp .ge 22) (len := 3) (tag := 0) (a := 226) (b := 0) (c := 0) (q := 0) (by decide +kernel)) (if_neg c1335) ?_
      refine m_R_sg (by decide) [(.aload_n 0, 1, 0, 0, 0, 0, 0), (.iload_n 3, 1, 0, 3, 0, 0, 0)] (by decide +kernel) (show m_sgl X _ _ _ _ _ = some (209, [some (.ref 304), some (.int v1), some (.int v2), some (.int v3)], [.int v3, .ref 304], (SH, m.1, m.2)) from rfl) ?_
      obtain ⟨q17, hc17, h⟩ := Option.bind_eq_some_iff.mp h
      refine m_R_cV (v := (some (.int q17.1))) (h1 := (SH, q17.2)) (rest := []) (lo' := [some (.ref 304), some (.int v3)]) (ml := 2) (k0 := 304) (by decide) (Or.inl rfl) (m_opb_of (ins := .invokevirtual 80) (len := 3) (tag := 5) (a := 211) (b := 1) (c := 0) (q := 1629) (by decide +kernel)) (by decide +kernel) rfl (show m_isO 211 304 (SH, _) = true from m_isO_of (by decide +kernel)) (Nat.le_of_ble_eq_true rfl) rfl rfl (ok_m_isUp X (d + 72) F _ _ _ _ hc17) ?_
      rcases m_ite h with ⟨c1339, h⟩ | ⟨c1339, h⟩
      · refine m_R_1 (by decide) (m_opb_of (ins := .ifCond .eq 8) (len := 3) (tag := 0) (a := 220) (b := 0) (c := 0) (q := 0) (by decide +kernel)) (if_pos c1339) ?_
        exact ok_m_close_220 X d F _ (fun a0 a1 a2 m r m' h => ih a0 a1 a2 m r m' h) _ _ _ _ _ _ h
      · refine m_R_1 (by decide) (m_opb_of (ins := .ifCond .eq 8) (len := 3) (tag := 0) (a := 220) (b := 0) (c := 0) (q := 0) (by decide +kernel)) (if_neg c1339) ?_
        refine m_R_sg (by decide) [(.aload_n 0, 1, 0, 0, 0, 0, 0), (.iload_n 3, 1, 0, 3, 0, 0, 0)] (by decide +kernel) (show m_sgl X _ _ _ _ _ = some (217, [some (.ref 304), some (.int v1), some (.int v2), some (.int v3)], [.int v3, .ref 304], (SH, q17.2.1, q17.2.2)) from rfl) ?_
        obtain ⟨q18, hc18, h⟩ := Option.bind_eq_some_iff.mp h
        refine m_R_cV (v := none) (h1 := (SH, q18.2)) (rest := []) (lo' := [some (.ref 304), some (.int v3), none, none, none]) (ml := 5) (k0 := 304) (by decide) (Or.inl rfl) (m_opb_of (ins := .invokevirtual 414) (len := 3) (tag := 5) (a := 316) (b := 1) (c := 0) (q := 2081) (by decide +kernel)) (by decide +kernel) rfl (show m_isO 316 304 (SH, _) = true from m_isO_of (by decide +kernel)) (Nat.le_of_ble_eq_true rfl) rfl rfl (ok_m_goesAfter X (d + 0) F _ _ _ _ hc18) ?_
        exact ok_m_close_220 X d F _ (fun a0 a1 a2 m r m' h => ih a0 a1 a2 m r m' h) _ _ _ _ _ _ h
def f_m_close_166 (F : Nat)   : Nat → Int32 → Int32 → Int32 → mM → Option (Unit × mM)
  | 0, _, _, _, _ => none
  | n + 1, v1, v2, v3, m => (if (m.1 305 (2 : Int32).toNatClampNeg) ≤ v3 then f_m_close_197 F F v1 v2 (1 : Int32) m else ((f_m_isUp F v3 m).bind fun q11 => (if q11.1 = 0 then f_m_close_189 F (f_m_close_166 F n) v1 v2 v3 q11.2 else ((f_m_sells F v3 q11.2).bind fun q12 => f_m_close_189 F (f_m_close_166 F n) v1 v2 v3 q12.2))))
theorem ok_m_close_166 (X : mX) (d F : Nat) : ∀ (n : Nat) (v1 : Int32) (v2 : Int32) (v3 : Int32)  (m : mM) (r : Unit) (m' : mM), f_m_close_166 F n v1 v2 v3 m = some (r, m') → m_R X (d + 74) 307 166 [some (.ref 304), some (.int v1), some (.int v2), some (.int v3)] [] (SH, m) (none, (SH, m')) := by
  intro n
  induction n with
  | zero => intro v1 v2 v3 m r m' h; cases h
  | succ n ih =>
    intro v1 v2 v3 m r m' h
    simp only [f_m_close_166] at h
    refine m_R_sg (by decide) [(.iload_n 3, 1, 0, 3, 0, 0, 0), (.aload_n 0, 1, 0, 0, 0, 0, 0), (.getfield 13, 3, 0, 12, 1, 3, 1493), (.iconst 2, 1, 0, 2, 0, 0, 0)] (by decide +kernel) (show m_sgl X _ _ _ _ _ = some (172, [some (.ref 304), some (.int v1), some (.int v2), some (.int v3)], [.int (2 : Int32), .ref 305, .int v3], (SH, m.1, m.2)) from rfl) ?_
    refine m_R_1 (by decide) (m_opb_of (ins := .iaload) (len := 1) (tag := 0) (a := 0) (b := 0) (c := 0) (q := 0) (by decide +kernel)) (m_s_iald sh_305 (by decide) (show ¬ ((2 : Int32) < 0 ∨ 9732 ≤ (2 : Int32).toNatClampNeg) by decide)) ?_
    rcases m_ite h with ⟨c1340, h⟩ | ⟨c1340, h⟩
    · refine m_R_1 (by decide) (m_opb_of (ins := .if_icmp .ge 22) (len := 3) (tag := 0) (a := 195) (b := 0) (c := 0) (q := 0) (by decide +kernel)) (if_pos c1340) ?_
      refine m_R_sg (by decide) [(.iconst 1, 1, 0, 1, 0, 0, 0), (.istore_n 3, 1, 0, 3, 0, 0, 0)] (by decide +kernel) (show m_sgl X _ _ _ _ _ = some (197, [some (.ref 304), some (.int v1), some (.int v2), some (.int (1 : Int32))], [], (SH, m.1, m.2)) from rfl) ?_
      exact ok_m_close_197 X d F F _ _ _ _ _ _ h
    · refine m_R_1 (by decide) (m_opb_of (ins := .if_icmp .ge 22) (len := 3) (tag := 0) (a := 195) (b := 0) (c := 0) (q := 0) (by decide +kernel)) (if_neg c1340) ?_
      refine m_R_sg (by decide) [(.aload_n 0, 1, 0, 0, 0, 0, 0), (.iload_n 3, 1, 0, 3, 0, 0, 0)] (by decide +kernel) (show m_sgl X _ _ _ _ _ = some (178, [some (.ref 304), some (.int v1), some (.int v2), some (.int v3)], [.int v3, .ref 304], (SH, m.1, m.2)) from rfl) ?_
      obtain ⟨q11, hc11, h⟩ := Option.bind_eq_some_iff.mp h
      refine m_R_cV (v := (some (.int q11.1))) (h1 := (SH, q11.2)) (rest := []) (lo' := [some (.ref 304), some (.int v3)]) (ml := 2) (k0 := 304) (by decide) (Or.inl rfl) (m_opb_of (ins := .invokevirtual 80) (len := 3) (tag := 5) (a := 211) (b := 1) (c := 0) (q := 1629) (by decide +kernel)) (by decide +kernel) rfl (show m_isO 211 304 (SH, _) = true from m_isO_of (by decide +kernel)) (Nat.le_of_ble_eq_true rfl) rfl rfl (ok_m_isUp X (d + 72) F _ _ _ _ hc11) ?_
      rcases m_ite h with ⟨c1341, h⟩ | ⟨c1341, h⟩
      · refine m_R_1 (by decide) (m_opb_of (ins := .ifCond .eq 8) (len := 3) (tag := 0) (a := 189) (b := 0) (c := 0) (q := 0) (by decide +kernel)) (if_pos c1341) ?_
        exact ok_m_close_189 X d F _ (fun a0 a1 a2 m r m' h => ih a0 a1 a2 m r m' h) _ _ _ _ _ _ h
      · refine m_R_1 (by decide) (m_opb_of (ins := .ifCond .eq 8) (len := 3) (tag := 0) (a := 189) (b := 0) (c := 0) (q := 0) (by decide +kernel)) (if_neg c1341) ?_
        refine m_R_sg (by decide) [(.aload_n 0, 1, 0, 0, 0, 0, 0), (.iload_n 3, 1, 0, 3, 0, 0, 0)] (by decide +kernel) (show m_sgl X _ _ _ _ _ = some (186, [some (.ref 304), some (.int v1), some (.int v2), some (.int v3)], [.int v3, .ref 304], (SH, q11.2.1, q11.2.2)) from rfl) ?_
        obtain ⟨q12, hc12, h⟩ := Option.bind_eq_some_iff.mp h
        refine m_R_cV (v := none) (h1 := (SH, q12.2)) (rest := []) (lo' := [some (.ref 304), some (.int v3), none]) (ml := 3) (k0 := 304) (by decide) (Or.inl rfl) (m_opb_of (ins := .invokevirtual 411) (len := 3) (tag := 5) (a := 314) (b := 1) (c := 0) (q := 2073) (by decide +kernel)) (by decide +kernel) rfl (show m_isO 314 304 (SH, _) = true from m_isO_of (by decide +kernel)) (Nat.le_of_ble_eq_true rfl) rfl rfl (ok_m_sells X (d + 0) F _ _ _ _ hc12) ?_
        exact ok_m_close_189 X d F _ (fun a0 a1 a2 m r m' h => ih a0 a1 a2 m r m' h) _ _ _ _ _ _ h
def f_m_close_98 (F : Nat)   : Nat → Int32 → Int32 → Int32 → mM → Option (Unit × mM)
  | 0, _, _, _, _ => none
  | n + 1, v1, v2, v3, m => (if (60 : Int32) ≤ v3 then f_m_close_166 F F v1 v2 (1 : Int32) m else ((f_m_paper F v3 (0 : Int32) m).bind fun q7 => (if q7.1 = (1 : Int32) then ((f_m_paper F v3 (6 : Int32) q7.2).bind fun q8 => (if q8.1 = (1 : Int32) then ((f_m_paper F v3 (17 : Int32) q8.2).bind fun q9 => (if q9.1 = v2 then ((f_m_asksName F v3 q9.2).bind fun q10 => f_m_close_141 F (f_m_close_98 F n) v1 v2 v3 q10.2) else f_m_close_141 F (f_m_close_98 F n) v1 v2 v3 q9.2)) else f_m_close_141 F (f_m_close_98 F n) v1 v2 v3 q8.2)) else f_m_close_141 F (f_m_close_98 F n) v1 v2 v3 q7.2)))
theorem ok_m_close_98 (X : mX) (d F : Nat) : ∀ (n : Nat) (v1 : Int32) (v2 : Int32) (v3 : Int32)  (m : mM) (r : Unit) (m' : mM), f_m_close_98 F n v1 v2 v3 m = some (r, m') → m_R X (d + 74) 307 98 [some (.ref 304), some (.int v1), some (.int v2), some (.int v3)] [] (SH, m) (none, (SH, m')) := by
  intro n
  induction n with
  | zero => intro v1 v2 v3 m r m' h; cases h
  | succ n ih =>
    intro v1 v2 v3 m r m' h
    simp only [f_m_close_98] at h
    refine m_R_sg (by decide) [(.iload_n 3, 1, 0, 3, 0, 0, 0), (.bipush 60, 2, 0, 60, 0, 0, 0)] (by decide +kernel) (show m_sgl X _ _ _ _ _ = some (101, [some (.ref 304), some (.int v1), some (.int v2), some (.int v3)], [.int (60 : Int32), .int v3], (SH, m.1, m.2)) from rfl) ?_
    rcases m_ite h with ⟨c1342, h⟩ | ⟨c1342, h⟩
    · refine m_R_1 (by decide) (m_opb_of (ins := .if_icmp .ge 63) (len := 3) (tag := 0) (a := 164) (b := 0) (c := 0) (q := 0) (by decide +kernel)) (if_pos c1342) ?_
      refine m_R_sg (by decide) [(.iconst 1, 1, 0, 1, 0, 0, 0), (.istore_n 3, 1, 0, 3, 0, 0, 0)] (by decide +kernel) (show m_sgl X _ _ _ _ _ = some (166, [some (.ref 304), some (.int v1), some (.int v2), some (.int (1 : Int32))], [], (SH, m.1, m.2)) from rfl) ?_
      exact ok_m_close_166 X d F F _ _ _ _ _ _ h
    · refine m_R_1 (by decide) (m_opb_of (ins := .if_icmp .ge 63) (len := 3) (tag := 0) (a := 164) (b := 0) (c := 0) (q := 0) (by decide +kernel)) (if_neg c1342) ?_
      refine m_R_sg (by decide) [(.aload_n 0, 1, 0, 0, 0, 0, 0), (.iload_n 3, 1, 0, 3, 0, 0, 0), (.iconst 0, 1, 0, 0, 0, 0, 0)] (by decide +kernel) (show m_sgl X _ _ _ _ _ = some (107, [some (.ref 304), some (.int v1), some (.int v2), some (.int v3)], [.int (0 : Int32), .int v3, .ref 304], (SH, m.1, m.2)) from rfl) ?_
      obtain ⟨q7, hc7, h⟩ := Option.bind_eq_some_iff.mp h
      refine m_R_cV (v := (some (.int q7.1))) (h1 := (SH, q7.2)) (rest := []) (lo' := [some (.ref 304), some (.int v3), some (.int (0 : Int32))]) (ml := 3) (k0 := 304) (by decide) (Or.inl rfl) (m_opb_of (ins := .invokevirtual 160) (len := 3) (tag := 5) (a := 246) (b := 2) (c := 0) (q := 1791) (by decide +kernel)) (by decide +kernel) rfl (show m_isO 246 304 (SH, _) = true from m_isO_of (by decide +kernel)) (Nat.le_of_ble_eq_true rfl) rfl rfl (ok_m_paper X (d + 73) F _ _ _ _ _ hc7) ?_
      refine m_R_sg (by decide) [(.iconst 1, 1, 0, 1, 0, 0, 0)] (by decide +kernel) (show m_sgl X _ _ _ _ _ = some (111, [some (.ref 304), some (.int v1), some (.int v2), some (.int v3)], [.int (1 : Int32), .int q7.1], (SH, q7.2.1, q7.2.2)) from rfl) ?_
      rcases m_ite h with ⟨c1343, h⟩ | ⟨c1343, h⟩
      · refine m_R_1 (by decide) (m_opb_of (ins := .if_icmp .ne 30) (len := 3) (tag := 0) (a := 141) (b := 0) (c := 0) (q := 0) (by decide +kernel)) (if_pos c1343) ?_
        refine m_R_sg (by decide) [(.aload_n 0, 1, 0, 0, 0, 0, 0), (.iload_n 3, 1, 0, 3, 0, 0, 0), (.bipush 6, 2, 0, 6, 0, 0, 0)] (by decide +kernel) (show m_sgl X _ _ _ _ _ = some (118, [some (.ref 304), some (.int v1), some (.int v2), some (.int v3)], [.int (6 : Int32), .int v3, .ref 304], (SH, q7.2.1, q7.2.2)) from rfl) ?_
        obtain ⟨q8, hc8, h⟩ := Option.bind_eq_some_iff.mp h
        refine m_R_cV (v := (some (.int q8.1))) (h1 := (SH, q8.2)) (rest := []) (lo' := [some (.ref 304), some (.int v3), some (.int (6 : Int32))]) (ml := 3) (k0 := 304) (by decide) (Or.inl rfl) (m_opb_of (ins := .invokevirtual 160) (len := 3) (tag := 5) (a := 246) (b := 2) (c := 0) (q := 1791) (by decide +kernel)) (by decide +kernel) rfl (show m_isO 246 304 (SH, _) = true from m_isO_of (by decide +kernel)) (Nat.le_of_ble_eq_true rfl) rfl rfl (ok_m_paper X (d + 73) F _ _ _ _ _ hc8) ?_
        refine m_R_sg (by decide) [(.iconst 1, 1, 0, 1, 0, 0, 0)] (by decide +kernel) (show m_sgl X _ _ _ _ _ = some (122, [some (.ref 304), some (.int v1), some (.int v2), some (.int v3)], [.int (1 : Int32), .int q8.1], (SH, q8.2.1, q8.2.2)) from rfl) ?_
        rcases m_ite h with ⟨c1344, h⟩ | ⟨c1344, h⟩
        · refine m_R_1 (by decide) (m_opb_of (ins := .if_icmp .ne 19) (len := 3) (tag := 0) (a := 141) (b := 0) (c := 0) (q := 0) (by decide +kernel)) (if_pos c1344) ?_
          refine m_R_sg (by decide) [(.aload_n 0, 1, 0, 0, 0, 0, 0), (.iload_n 3, 1, 0, 3, 0, 0, 0), (.bipush 17, 2, 0, 17, 0, 0, 0)] (by decide +kernel) (show m_sgl X _ _ _ _ _ = some (129, [some (.ref 304), some (.int v1), some (.int v2), some (.int v3)], [.int (17 : Int32), .int v3, .ref 304], (SH, q8.2.1, q8.2.2)) from rfl) ?_
          obtain ⟨q9, hc9, h⟩ := Option.bind_eq_some_iff.mp h
          refine m_R_cV (v := (some (.int q9.1))) (h1 := (SH, q9.2)) (rest := []) (lo' := [some (.ref 304), some (.int v3), some (.int (17 : Int32))]) (ml := 3) (k0 := 304) (by decide) (Or.inl rfl) (m_opb_of (ins := .invokevirtual 160) (len := 3) (tag := 5) (a := 246) (b := 2) (c := 0) (q := 1791) (by decide +kernel)) (by decide +kernel) rfl (show m_isO 246 304 (SH, _) = true from m_isO_of (by decide +kernel)) (Nat.le_of_ble_eq_true rfl) rfl rfl (ok_m_paper X (d + 73) F _ _ _ _ _ hc9) ?_
          refine m_R_sg (by decide) [(.iload_n 2, 1, 0, 2, 0, 0, 0)] (by decide +kernel) (show m_sgl X _ _ _ _ _ = some (133, [some (.ref 304), some (.int v1), some (.int v2), some (.int v3)], [.int v2, .int q9.1], (SH, q9.2.1, q9.2.2)) from rfl) ?_
          rcases m_ite h with ⟨c1345, h⟩ | ⟨c1345, h⟩
          · refine m_R_1 (by decide) (m_opb_of (ins := .if_icmp .ne 8) (len := 3) (tag := 0) (a := 141) (b := 0) (c := 0) (q := 0) (by decide +kernel)) (if_pos c1345) ?_
            refine m_R_sg (by decide) [(.aload_n 0, 1, 0, 0, 0, 0, 0), (.iload_n 3, 1, 0, 3, 0, 0, 0)] (by decide +kernel) (show m_sgl X _ _ _ _ _ = some (138, [some (.ref 304), some (.int v1), some (.int v2), some (.int v3)], [.int v3, .ref 304], (SH, q9.2.1, q9.2.2)) from rfl) ?_
            obtain ⟨q10, hc10, h⟩ := Option.bind_eq_some_iff.mp h
            refine m_R_cV (v := none) (h1 := (SH, q10.2)) (rest := []) (lo' := [some (.ref 304), some (.int v3), none, none, none]) (ml := 5) (k0 := 304) (by decide) (Or.inl rfl) (m_opb_of (ins := .invokevirtual 408) (len := 3) (tag := 5) (a := 313) (b := 1) (c := 0) (q := 2069) (by decide +kernel)) (by decide +kernel) rfl (show m_isO 313 304 (SH, _) = true from m_isO_of (by decide +kernel)) (Nat.le_of_ble_eq_true rfl) rfl rfl (ok_m_asksName X (d + 1) F _ _ _ _ hc10) ?_
            exact ok_m_close_141 X d F _ (fun a0 a1 a2 m r m' h => ih a0 a1 a2 m r m' h) _ _ _ _ _ _ h
          · refine m_R_1 (by decide) (m_opb_of (ins := .if_icmp .ne 8) (len := 3) (tag := 0) (a := 141) (b := 0) (c := 0) (q := 0) (by decide +kernel)) (if_neg c1345) ?_
            exact ok_m_close_141 X d F _ (fun a0 a1 a2 m r m' h => ih a0 a1 a2 m r m' h) _ _ _ _ _ _ h
        · refine m_R_1 (by decide) (m_opb_of (ins := .if_icmp .ne 19) (len := 3) (tag := 0) (a := 141) (b := 0) (c := 0) (q := 0) (by decide +kernel)) (if_neg c1344) ?_
          exact ok_m_close_141 X d F _ (fun a0 a1 a2 m r m' h => ih a0 a1 a2 m r m' h) _ _ _ _ _ _ h
      · refine m_R_1 (by decide) (m_opb_of (ins := .if_icmp .ne 30) (len := 3) (tag := 0) (a := 141) (b := 0) (c := 0) (q := 0) (by decide +kernel)) (if_neg c1343) ?_
        exact ok_m_close_141 X d F _ (fun a0 a1 a2 m r m' h => ih a0 a1 a2 m r m' h) _ _ _ _ _ _ h
def f_m_close_39 (F : Nat)   : Nat → Int32 → Int32 → Int32 → mM → Option (Unit × mM)
  | 0, _, _, _, _ => none
  | n + 1, v1, v2, v3, m => (if (60 : Int32) ≤ v3 then f_m_close_98 F F v1 v2 (0 : Int32) m else ((f_m_paper F v3 (0 : Int32) m).bind fun q2 => (if q2.1 = (1 : Int32) then ((f_m_paper F v3 (6 : Int32) q2.2).bind fun q3 => (if q3.1 = 0 then ((f_m_paper F v3 (1 : Int32) q3.2).bind fun q4 => (if q4.1 = (2 : Int32) then f_m_close_90 F (f_m_close_39 F n) v1 v2 v3 q4.2 else ((f_m_paper F v3 (5 : Int32) q4.2).bind fun q5 => (if q5.1 = v2 then ((f_m_comesDue F v3 q5.2).bind fun q6 => f_m_close_90 F (f_m_close_39 F n) v1 v2 v3 q6.2) else f_m_close_90 F (f_m_close_39 F n) v1 v2 v3 q5.2)))) else f_m_close_90 F (f_m_close_39 F n) v1 v2 v3 q3.2)) else f_m_close_90 F (f_m_close_39 F n) v1 v2 v3 q2.2)))
theorem ok_m_close_39 (X : mX) (d F : Nat) : ∀ (n : Nat) (v1 : Int32) (v2 : Int32) (v3 : Int32)  (m : mM) (r : Unit) (m' : mM), f_m_close_39 F n v1 v2 v3 m = some (r, m') → m_R X (d + 74) 307 39 [some (.ref 304), some (.int v1), some (.int v2), some (.int v3)] [] (SH, m) (none, (SH, m')) := by
  intro n
  induction n with
  | zero => intro v1 v2 v3 m r m' h; cases h
  | succ n ih =>
    intro v1 v2 v3 m r m' h
    simp only [f_m_close_39] at h
    refine m_R_sg (by decide) [(.iload_n 3, 1, 0, 3, 0, 0, 0), (.bipush 60, 2, 0, 60, 0, 0, 0)] (by decide +kernel) (show m_sgl X _ _ _ _ _ = some (42, [some (.ref 304), some (.int v1), some (.int v2), some (.int v3)], [.int (60 : Int32), .int v3], (SH, m.1, m.2)) from rfl) ?_
    rcases m_ite h with ⟨c1346, h⟩ | ⟨c1346, h⟩
    · refine m_R_1 (by decide) (m_opb_of (ins := .if_icmp .ge 54) (len := 3) (tag := 0) (a := 96) (b := 0) (c := 0) (q := 0) (by decide +kernel)) (if_pos c1346) ?_
      refine m_R_sg (by decide) [(.iconst 0, 1, 0, 0, 0, 0, 0), (.istore_n 3, 1, 0, 3, 0, 0, 0)] (by decide +kernel) (show m_sgl X _ _ _ _ _ = some (98, [some (.ref 304), some (.int v1), some (.int v2), some (.int (0 : Int32))], [], (SH, m.1, m.2)) from rfl) ?_
      exact ok_m_close_98 X d F F _ _ _ _ _ _ h
    · refine m_R_1 (by decide) (m_opb_of (ins := .if_icmp .ge 54) (len := 3) (tag := 0) (a := 96) (b := 0) (c := 0) (q := 0) (by decide +kernel)) (if_neg c1346) ?_
      refine m_R_sg (by decide) [(.aload_n 0, 1, 0, 0, 0, 0, 0), (.iload_n 3, 1, 0, 3, 0, 0, 0), (.iconst 0, 1, 0, 0, 0, 0, 0)] (by decide +kernel) (show m_sgl X _ _ _ _ _ = some (48, [some (.ref 304), some (.int v1), some (.int v2), some (.int v3)], [.int (0 : Int32), .int v3, .ref 304], (SH, m.1, m.2)) from rfl) ?_
      obtain ⟨q2, hc2, h⟩ := Option.bind_eq_some_iff.mp h
      refine m_R_cV (v := (some (.int q2.1))) (h1 := (SH, q2.2)) (rest := []) (lo' := [some (.ref 304), some (.int v3), some (.int (0 : Int32))]) (ml := 3) (k0 := 304) (by decide) (Or.inl rfl) (m_opb_of (ins := .invokevirtual 160) (len := 3) (tag := 5) (a := 246) (b := 2) (c := 0) (q := 1791) (by decide +kernel)) (by decide +kernel) rfl (show m_isO 246 304 (SH, _) = true from m_isO_of (by decide +kernel)) (Nat.le_of_ble_eq_true rfl) rfl rfl (ok_m_paper X (d + 73) F _ _ _ _ _ hc2) ?_
      refine m_R_sg (by decide) [(.iconst 1, 1, 0, 1, 0, 0, 0)] (by decide +kernel) (show m_sgl X _ _ _ _ _ = some (52, [some (.ref 304), some (.int v1), some (.int v2), some (.int v3)], [.int (1 : Int32), .int q2.1], (SH, q2.2.1, q2.2.2)) from rfl) ?_
      rcases m_ite h with ⟨c1347, h⟩ | ⟨c1347, h⟩
      · refine m_R_1 (by decide) (m_opb_of (ins := .if_icmp .ne 38) (len := 3) (tag := 0) (a := 90) (b := 0) (c := 0) (q := 0) (by decide +kernel)) (if_pos c1347) ?_
        refine m_R_sg (by decide) [(.aload_n 0, 1, 0, 0, 0, 0, 0), (.iload_n 3, 1, 0, 3, 0, 0, 0), (.bipush 6, 2, 0, 6, 0, 0, 0)] (by decide +kernel) (show m_sgl X _ _ _ _ _ = some (59, [some (.ref 304), some (.int v1), some (.int v2), some (.int v3)], [.int (6 : Int32), .int v3, .ref 304], (SH, q2.2.1, q2.2.2)) from rfl) ?_
        obtain ⟨q3, hc3, h⟩ := Option.bind_eq_some_iff.mp h
        refine m_R_cV (v := (some (.int q3.1))) (h1 := (SH, q3.2)) (rest := []) (lo' := [some (.ref 304), some (.int v3), some (.int (6 : Int32))]) (ml := 3) (k0 := 304) (by decide) (Or.inl rfl) (m_opb_of (ins := .invokevirtual 160) (len := 3) (tag := 5) (a := 246) (b := 2) (c := 0) (q := 1791) (by decide +kernel)) (by decide +kernel) rfl (show m_isO 246 304 (SH, _) = true from m_isO_of (by decide +kernel)) (Nat.le_of_ble_eq_true rfl) rfl rfl (ok_m_paper X (d + 73) F _ _ _ _ _ hc3) ?_
        rcases m_ite h with ⟨c1348, h⟩ | ⟨c1348, h⟩
        · refine m_R_1 (by decide) (m_opb_of (ins := .ifCond .ne 28) (len := 3) (tag := 0) (a := 90) (b := 0) (c := 0) (q := 0) (by decide +kernel)) (if_pos c1348) ?_
          refine m_R_sg (by decide) [(.aload_n 0, 1, 0, 0, 0, 0, 0), (.iload_n 3, 1, 0, 3, 0, 0, 0), (.iconst 1, 1, 0, 1, 0, 0, 0)] (by decide +kernel) (show m_sgl X _ _ _ _ _ = some (68, [some (.ref 304), some (.int v1), some (.int v2), some (.int v3)], [.int (1 : Int32), .int v3, .ref 304], (SH, q3.2.1, q3.2.2)) from rfl) ?_
          obtain ⟨q4, hc4, h⟩ := Option.bind_eq_some_iff.mp h
          refine m_R_cV (v := (some (.int q4.1))) (h1 := (SH, q4.2)) (rest := []) (lo' := [some (.ref 304), some (.int v3), some (.int (1 : Int32))]) (ml := 3) (k0 := 304) (by decide) (Or.inl rfl) (m_opb_of (ins := .invokevirtual 160) (len := 3) (tag := 5) (a := 246) (b := 2) (c := 0) (q := 1791) (by decide +kernel)) (by decide +kernel) rfl (show m_isO 246 304 (SH, _) = true from m_isO_of (by decide +kernel)) (Nat.le_of_ble_eq_true rfl) rfl rfl (ok_m_paper X (d + 73) F _ _ _ _ _ hc4) ?_
          refine m_R_sg (by decide) [(.iconst 2, 1, 0, 2, 0, 0, 0)] (by decide +kernel) (show m_sgl X _ _ _ _ _ = some (72, [some (.ref 304), some (.int v1), some (.int v2), some (.int v3)], [.int (2 : Int32), .int q4.1], (SH, q4.2.1, q4.2.2)) from rfl) ?_
          rcases m_ite h with ⟨c1349, h⟩ | ⟨c1349, h⟩
          · refine m_R_1 (by decide) (m_opb_of (ins := .if_icmp .eq 18) (len := 3) (tag := 0) (a := 90) (b := 0) (c := 0) (q := 0) (by decide +kernel)) (if_pos c1349) ?_
            exact ok_m_close_90 X d F _ (fun a0 a1 a2 m r m' h => ih a0 a1 a2 m r m' h) _ _ _ _ _ _ h
          · refine m_R_1 (by decide) (m_opb_of (ins := .if_icmp .eq 18) (len := 3) (tag := 0) (a := 90) (b := 0) (c := 0) (q := 0) (by decide +kernel)) (if_neg c1349) ?_
            refine m_R_sg (by decide) [(.aload_n 0, 1, 0, 0, 0, 0, 0), (.iload_n 3, 1, 0, 3, 0, 0, 0), (.iconst 5, 1, 0, 5, 0, 0, 0)] (by decide +kernel) (show m_sgl X _ _ _ _ _ = some (78, [some (.ref 304), some (.int v1), some (.int v2), some (.int v3)], [.int (5 : Int32), .int v3, .ref 304], (SH, q4.2.1, q4.2.2)) from rfl) ?_
            obtain ⟨q5, hc5, h⟩ := Option.bind_eq_some_iff.mp h
            refine m_R_cV (v := (some (.int q5.1))) (h1 := (SH, q5.2)) (rest := []) (lo' := [some (.ref 304), some (.int v3), some (.int (5 : Int32))]) (ml := 3) (k0 := 304) (by decide) (Or.inl rfl) (m_opb_of (ins := .invokevirtual 160) (len := 3) (tag := 5) (a := 246) (b := 2) (c := 0) (q := 1791) (by decide +kernel)) (by decide +kernel) rfl (show m_isO 246 304 (SH, _) = true from m_isO_of (by decide +kernel)) (Nat.le_of_ble_eq_true rfl) rfl rfl (ok_m_paper X (d + 73) F _ _ _ _ _ hc5) ?_
            refine m_R_sg (by decide) [(.iload_n 2, 1, 0, 2, 0, 0, 0)] (by decide +kernel) (show m_sgl X _ _ _ _ _ = some (82, [some (.ref 304), some (.int v1), some (.int v2), some (.int v3)], [.int v2, .int q5.1], (SH, q5.2.1, q5.2.2)) from rfl) ?_
            rcases m_ite h with ⟨c1350, h⟩ | ⟨c1350, h⟩
            · refine m_R_1 (by decide) (m_opb_of (ins := .if_icmp .ne 8) (len := 3) (tag := 0) (a := 90) (b := 0) (c := 0) (q := 0) (by decide +kernel)) (if_pos c1350) ?_
              refine m_R_sg (by decide) [(.aload_n 0, 1, 0, 0, 0, 0, 0), (.iload_n 3, 1, 0, 3, 0, 0, 0)] (by decide +kernel) (show m_sgl X _ _ _ _ _ = some (87, [some (.ref 304), some (.int v1), some (.int v2), some (.int v3)], [.int v3, .ref 304], (SH, q5.2.1, q5.2.2)) from rfl) ?_
              obtain ⟨q6, hc6, h⟩ := Option.bind_eq_some_iff.mp h
              refine m_R_cV (v := none) (h1 := (SH, q6.2)) (rest := []) (lo' := [some (.ref 304), some (.int v3), none, none, none, none]) (ml := 6) (k0 := 304) (by decide) (Or.inl rfl) (m_opb_of (ins := .invokevirtual 405) (len := 3) (tag := 5) (a := 309) (b := 1) (c := 0) (q := 2053) (by decide +kernel)) (by decide +kernel) rfl (show m_isO 309 304 (SH, _) = true from m_isO_of (by decide +kernel)) (Nat.le_of_ble_eq_true rfl) rfl rfl (ok_m_comesDue X (d + 1) F _ _ _ _ hc6) ?_
              exact ok_m_close_90 X d F _ (fun a0 a1 a2 m r m' h => ih a0 a1 a2 m r m' h) _ _ _ _ _ _ h
            · refine m_R_1 (by decide) (m_opb_of (ins := .if_icmp .ne 8) (len := 3) (tag := 0) (a := 90) (b := 0) (c := 0) (q := 0) (by decide +kernel)) (if_neg c1350) ?_
              exact ok_m_close_90 X d F _ (fun a0 a1 a2 m r m' h => ih a0 a1 a2 m r m' h) _ _ _ _ _ _ h
        · refine m_R_1 (by decide) (m_opb_of (ins := .ifCond .ne 28) (len := 3) (tag := 0) (a := 90) (b := 0) (c := 0) (q := 0) (by decide +kernel)) (if_neg c1348) ?_
          exact ok_m_close_90 X d F _ (fun a0 a1 a2 m r m' h => ih a0 a1 a2 m r m' h) _ _ _ _ _ _ h
      · refine m_R_1 (by decide) (m_opb_of (ins := .if_icmp .ne 38) (len := 3) (tag := 0) (a := 90) (b := 0) (c := 0) (q := 0) (by decide +kernel)) (if_neg c1347) ?_
        exact ok_m_close_90 X d F _ (fun a0 a1 a2 m r m' h => ih a0 a1 a2 m r m' h) _ _ _ _ _ _ h
def f_m_close_37 (F : Nat)   (v1 : Int32) (v2 : Int32) (m : mM) : Option (Unit × mM) := f_m_close_39 F F v1 v2 (0 : Int32) m
theorem ok_m_close_37 (X : mX) (d F : Nat) : ∀ (v1 : Int32) (v2 : Int32) (w3 : Option Value) (m : mM) (r : Unit) (m' : mM), f_m_close_37 F v1 v2 m = some (r, m') → m_R X (d + 74) 307 37 [some (.ref 304), some (.int v1), some (.int v2), w3] [] (SH, m) (none, (SH, m')) := by
  intro v1 v2 w3 m r m' h
  unfold f_m_close_37 at h
  refine m_R_sg (by decide) [(.iconst 0, 1, 0, 0, 0, 0, 0), (.istore_n 3, 1, 0, 3, 0, 0, 0)] (by decide +kernel) (show m_sgl X _ _ _ _ _ = some (39, [some (.ref 304), some (.int v1), some (.int v2), some (.int (0 : Int32))], [], (SH, m.1, m.2)) from rfl) ?_
  exact ok_m_close_39 X d F F _ _ _ _ _ _ h
def f_m_close_9 (F : Nat)   : Nat → Int32 → Int32 → Int32 → mM → Option (Unit × mM)
  | 0, _, _, _, _ => none
  | n + 1, v1, v2, v3, m => (if (m.1 305 (4 : Int32).toNatClampNeg) ≤ v3 then f_m_close_37 F v1 v2 m else (if (v2 - v2 / (7 : Int32) * (7 : Int32)) = 0 then ((f_m_draws F v3 m).bind fun q1 => f_m_close_9 F n v1 v2 (v3 + (1 : Int32)) q1.2) else f_m_close_37 F v1 v2 m))
theorem ok_m_close_9 (X : mX) (d F : Nat) : ∀ (n : Nat) (v1 : Int32) (v2 : Int32) (v3 : Int32)  (m : mM) (r : Unit) (m' : mM), f_m_close_9 F n v1 v2 v3 m = some (r, m') → m_R X (d + 74) 307 9 [some (.ref 304), some (.int v1), some (.int v2), some (.int v3)] [] (SH, m) (none, (SH, m')) := by
  intro n
  induction n with
  | zero => intro v1 v2 v3 m r m' h; cases h
  | succ n ih =>
    intro v1 v2 v3 m r m' h
    simp only [f_m_close_9] at h
    refine m_R_sg (by decide) [(.iload_n 3, 1, 0, 3, 0, 0, 0), (.aload_n 0, 1, 0, 0, 0, 0, 0), (.getfield 13, 3, 0, 12, 1, 3, 1493), (.iconst 4, 1, 0, 4, 0, 0, 0)] (by decide +kernel) (show m_sgl X _ _ _ _ _ = some (15, [some (.ref 304), some (.int v1), some (.int v2), some (.int v3)], [.int (4 : Int32), .ref 305, .int v3], (SH, m.1, m.2)) from rfl) ?_
    refine m_R_1 (by decide) (m_opb_of (ins := .iaload) (len := 1) (tag := 0) (a := 0) (b := 0) (c := 0) (q := 0) (by decide +kernel)) (m_s_iald sh_305 (by decide) (show ¬ ((4 : Int32) < 0 ∨ 9732 ≤ (4 : Int32).toNatClampNeg) by decide)) ?_
    rcases m_ite h with ⟨c1351, h⟩ | ⟨c1351, h⟩
    · refine m_R_1 (by decide) (m_opb_of (ins := .if_icmp .ge 21) (len := 3) (tag := 0) (a := 37) (b := 0) (c := 0) (q := 0) (by decide +kernel)) (if_pos c1351) ?_
      exact ok_m_close_37 X d F _ _ _ _ _ _ h
    · refine m_R_1 (by decide) (m_opb_of (ins := .if_icmp .ge 21) (len := 3) (tag := 0) (a := 37) (b := 0) (c := 0) (q := 0) (by decide +kernel)) (if_neg c1351) ?_
      refine m_R_sg (by decide) [(.iload_n 2, 1, 0, 2, 0, 0, 0), (.bipush 7, 2, 0, 7, 0, 0, 0)] (by decide +kernel) (show m_sgl X _ _ _ _ _ = some (22, [some (.ref 304), some (.int v1), some (.int v2), some (.int v3)], [.int (7 : Int32), .int v2], (SH, m.1, m.2)) from rfl) ?_
      refine m_R_1 (by decide) (m_opb_of (ins := .irem) (len := 1) (tag := 0) (a := 0) (b := 0) (c := 0) (q := 0) (by decide +kernel)) (m_s_irem (by decide)) ?_
      rcases m_ite h with ⟨c1352, h⟩ | ⟨c1352, h⟩
      · refine m_R_1 (by decide) (m_opb_of (ins := .ifCond .ne 14) (len := 3) (tag := 0) (a := 37) (b := 0) (c := 0) (q := 0) (by decide +kernel)) (if_pos c1352) ?_
        refine m_R_sg (by decide) [(.aload_n 0, 1, 0, 0, 0, 0, 0), (.iload_n 3, 1, 0, 3, 0, 0, 0)] (by decide +kernel) (show m_sgl X _ _ _ _ _ = some (28, [some (.ref 304), some (.int v1), some (.int v2), some (.int v3)], [.int v3, .ref 304], (SH, m.1, m.2)) from rfl) ?_
        obtain ⟨q1, hc1, h⟩ := Option.bind_eq_some_iff.mp h
        refine m_R_cV (v := none) (h1 := (SH, q1.2)) (rest := []) (lo' := [some (.ref 304), some (.int v3), none, none, none, none, none]) (ml := 7) (k0 := 304) (by decide) (Or.inl rfl) (m_opb_of (ins := .invokevirtual 402) (len := 3) (tag := 5) (a := 308) (b := 1) (c := 0) (q := 2049) (by decide +kernel)) (by decide +kernel) rfl (show m_isO 308 304 (SH, _) = true from m_isO_of (by decide +kernel)) (Nat.le_of_ble_eq_true rfl) rfl rfl (ok_m_draws X (d + 70) F _ _ _ _ hc1) ?_
        refine m_R_sg (by decide) [(.iinc 3 1, 3, 0, 3, 1, 0, 0), (.goto (-25), 3, 0, 9, 0, 0, 0)] (by decide +kernel) (show m_sgl X _ _ _ _ _ = some (9, [some (.ref 304), some (.int v1), some (.int v2), some (.int (v3 + (1 : Int32)))], [], (SH, q1.2.1, q1.2.2)) from rfl) ?_
        exact ih _ _ _ _ _ _ h
      · refine m_R_1 (by decide) (m_opb_of (ins := .ifCond .ne 14) (len := 3) (tag := 0) (a := 37) (b := 0) (c := 0) (q := 0) (by decide +kernel)) (if_neg c1352) ?_
        exact ok_m_close_37 X d F _ _ _ _ _ _ h
def f_m_close (F : Nat)   (v1 : Int32) (m : mM) : Option (Unit × mM) := f_m_close_9 F F v1 (m.1 305 (0 : Int32).toNatClampNeg) (0 : Int32) m
theorem ok_m_close (X : mX) (d F : Nat) : ∀ (v1 : Int32)  (m : mM) (r : Unit) (m' : mM), f_m_close F v1 m = some (r, m') → m_R X (d + 74) 307 0 [some (.ref 304), some (.int v1), none, none] [] (SH, m) (none, (SH, m')) := by
  intro v1 m r m' h
  unfold f_m_close at h
  refine m_R_sg (by decide) [(.aload_n 0, 1, 0, 0, 0, 0, 0), (.getfield 13, 3, 0, 12, 1, 3, 1493), (.iconst 0, 1, 0, 0, 0, 0, 0)] (by decide +kernel) (show m_sgl X _ _ _ _ _ = some (5, [some (.ref 304), some (.int v1), none, none], [.int (0 : Int32), .ref 305], (SH, m.1, m.2)) from rfl) ?_
  refine m_R_1 (by decide) (m_opb_of (ins := .iaload) (len := 1) (tag := 0) (a := 0) (b := 0) (c := 0) (q := 0) (by decide +kernel)) (m_s_iald sh_305 (by decide) (show ¬ ((0 : Int32) < 0 ∨ 9732 ≤ (0 : Int32).toNatClampNeg) by decide)) ?_
  refine m_R_sg (by decide) [(.istore_n 2, 1, 0, 2, 0, 0, 0), (.iconst 0, 1, 0, 0, 0, 0, 0), (.istore_n 3, 1, 0, 3, 0, 0, 0)] (by decide +kernel) (show m_sgl X _ _ _ _ _ = some (9, [some (.ref 304), some (.int v1), some (.int (m.1 305 (0 : Int32).toNatClampNeg)), some (.int (0 : Int32))], [], (SH, m.1, m.2)) from rfl) ?_
  exact ok_m_close_9 X d F F _ _ _ _ _ _ h
def f_m_run_56 (F : Nat)   : Nat → Int32 → Int32 → Int32 → mM → Option (Int32 × mM)
  | 0, _, _, _, _ => none
  | n + 1, v1, v2, v3, m => (if v1 ≤ v3 then ((f_m_downMany F m).bind fun q6 => some ((q6.1 - v2), q6.2)) else ((f_m_close F (1 : Int32) m).bind fun q7 => f_m_run_56 F n v1 v2 (v3 + (1 : Int32)) q7.2))
theorem ok_m_run_56 (X : mX) (d F : Nat) : ∀ (n : Nat) (v1 : Int32) (v2 : Int32) (v3 : Int32)  (m : mM) (r : Int32) (m' : mM), f_m_run_56 F n v1 v2 v3 m = some (r, m') → m_R X (d + 75) 305 56 [some (.ref 304), some (.int v1), some (.int v2), some (.int v3)] [] (SH, m) (some (.int r), (SH, m')) := by
  intro n
  induction n with
  | zero => intro v1 v2 v3 m r m' h; cases h
  | succ n ih =>
    intro v1 v2 v3 m r m' h
    simp only [f_m_run_56] at h
    refine m_R_sg (by decide) [(.iload_n 3, 1, 0, 3, 0, 0, 0), (.iload_n 1, 1, 0, 1, 0, 0, 0)] (by decide +kernel) (show m_sgl X _ _ _ _ _ = some (58, [some (.ref 304), some (.int v1), some (.int v2), some (.int v3)], [.int v1, .int v3], (SH, m.1, m.2)) from rfl) ?_
    rcases m_ite h with ⟨c1353, h⟩ | ⟨c1353, h⟩
    · refine m_R_1 (by decide) (m_opb_of (ins := .if_icmp .ge 14) (len := 3) (tag := 0) (a := 72) (b := 0) (c := 0) (q := 0) (by decide +kernel)) (if_pos c1353) ?_
      refine m_R_sg (by decide) [(.aload_n 0, 1, 0, 0, 0, 0, 0)] (by decide +kernel) (show m_sgl X _ _ _ _ _ = some (73, [some (.ref 304), some (.int v1), some (.int v2), some (.int v3)], [.ref 304], (SH, m.1, m.2)) from rfl) ?_
      obtain ⟨q6, hc6, h⟩ := Option.bind_eq_some_iff.mp h
      refine m_R_cV (v := (some (.int q6.1))) (h1 := (SH, q6.2)) (rest := []) (lo' := [some (.ref 304), none, none]) (ml := 3) (k0 := 304) (by decide) (Or.inl rfl) (m_opb_of (ins := .invokevirtual 423) (len := 3) (tag := 5) (a := 306) (b := 0) (c := 0) (q := 2041) (by decide +kernel)) (by decide +kernel) rfl (show m_isO 306 304 (SH, _) = true from m_isO_of (by decide +kernel)) (Nat.le_of_ble_eq_true rfl) rfl rfl (ok_m_downMany X (d + 72) F _ _ _ hc6) ?_
      refine m_R_sg (by decide) [(.iload_n 2, 1, 0, 2, 0, 0, 0), (.isub, 1, 0, 0, 0, 0, 0)] (by decide +kernel) (show m_sgl X _ _ _ _ _ = some (78, [some (.ref 304), some (.int v1), some (.int v2), some (.int v3)], [.int (q6.1 - v2)], (SH, q6.2.1, q6.2.2)) from rfl) ?_
      obtain ⟨rfl, rfl⟩ := m_some h
      exact m_R_iret (by decide) (m_opb_of (ins := .ireturn) (len := 1) (tag := 1) (a := 0) (b := 0) (c := 0) (q := 0) (by decide +kernel)) (Or.inl rfl)
    · refine m_R_1 (by decide) (m_opb_of (ins := .if_icmp .ge 14) (len := 3) (tag := 0) (a := 72) (b := 0) (c := 0) (q := 0) (by decide +kernel)) (if_neg c1353) ?_
      refine m_R_sg (by decide) [(.aload_n 0, 1, 0, 0, 0, 0, 0), (.iconst 1, 1, 0, 1, 0, 0, 0)] (by decide +kernel) (show m_sgl X _ _ _ _ _ = some (63, [some (.ref 304), some (.int v1), some (.int v2), some (.int v3)], [.int (1 : Int32), .ref 304], (SH, m.1, m.2)) from rfl) ?_
      obtain ⟨q7, hc7, h⟩ := Option.bind_eq_some_iff.mp h
      refine m_R_cV (v := none) (h1 := (SH, q7.2)) (rest := []) (lo' := [some (.ref 304), some (.int (1 : Int32)), none, none]) (ml := 4) (k0 := 304) (by decide) (Or.inl rfl) (m_opb_of (ins := .invokevirtual 426) (len := 3) (tag := 5) (a := 307) (b := 1) (c := 0) (q := 2045) (by decide +kernel)) (by decide +kernel) rfl (show m_isO 307 304 (SH, _) = true from m_isO_of (by decide +kernel)) (Nat.le_of_ble_eq_true rfl) rfl rfl (ok_m_close X (d + 0) F _ _ _ _ hc7) ?_
      refine m_R_sg (by decide) [(.iinc 3 1, 3, 0, 3, 1, 0, 0), (.goto (-13), 3, 0, 56, 0, 0, 0)] (by decide +kernel) (show m_sgl X _ _ _ _ _ = some (56, [some (.ref 304), some (.int v1), some (.int v2), some (.int (v3 + (1 : Int32)))], [], (SH, q7.2.1, q7.2.2)) from rfl) ?_
      exact ih _ _ _ _ _ _ h
def f_m_run (F : Nat)   (v1 : Int32) (m : mM) : Option (Int32 × mM) := (if 0 ≤ v1 then ((f_m_in F v1 (1 : Int32) (70 : Int32) m).bind fun q1 => (if q1.1 = 0 then ((f_m_refuse F (-7 : Int32) q1.2).bind fun q2 => some (q2.1, q2.2)) else (if ((q1.2.1 305 (0 : Int32).toNatClampNeg) + v1) ≤ (700 : Int32) then ((f_m_downMany F q1.2).bind fun q3 => f_m_run_56 F F v1 q3.1 (0 : Int32) q3.2) else ((f_m_refuse F (-8 : Int32) q1.2).bind fun q4 => some (q4.1, q4.2))))) else ((f_m_refuse F (-4 : Int32) m).bind fun q5 => some (q5.1, q5.2)))
theorem ok_m_run (X : mX) (d F : Nat) : ∀ (v1 : Int32)  (m : mM) (r : Int32) (m' : mM), f_m_run F v1 m = some (r, m') → m_R X (d + 75) 305 0 [some (.ref 304), some (.int v1), none, none] [] (SH, m) (some (.int r), (SH, m')) := by
  intro v1 m r m' h
  unfold f_m_run at h
  refine m_R_sg (by decide) [(.iload_n 1, 1, 0, 1, 0, 0, 0)] (by decide +kernel) (show m_sgl X _ _ _ _ _ = some (1, [some (.ref 304), some (.int v1), none, none], [.int v1], (SH, m.1, m.2)) from rfl) ?_
  rcases m_ite h with ⟨c1354, h⟩ | ⟨c1354, h⟩
  · refine m_R_1 (by decide) (m_opb_of (ins := .ifCond .ge 10) (len := 3) (tag := 0) (a := 11) (b := 0) (c := 0) (q := 0) (by decide +kernel)) (if_pos c1354) ?_
    refine m_R_sg (by decide) [(.iload_n 1, 1, 0, 1, 0, 0, 0), (.iconst 1, 1, 0, 1, 0, 0, 0), (.bipush 70, 2, 0, 70, 0, 0, 0)] (by decide +kernel) (show m_sgl X _ _ _ _ _ = some (15, [some (.ref 304), some (.int v1), none, none], [.int (70 : Int32), .int (1 : Int32), .int v1], (SH, m.1, m.2)) from rfl) ?_
    obtain ⟨q1, hc1, h⟩ := Option.bind_eq_some_iff.mp h
    refine m_R_cS (v := (some (.int q1.1))) (h1 := (SH, q1.2)) (rest := []) (lo' := [some (.int v1), some (.int (1 : Int32)), some (.int (70 : Int32))]) (ml := 3) (by decide) (m_opb_of (ins := .invokestatic 57) (len := 3) (tag := 4) (a := 201) (b := 3) (c := 0) (q := 1590) (by decide +kernel)) (by decide +kernel) (Nat.le_of_ble_eq_true rfl) rfl (Nat.le_of_ble_eq_true rfl) rfl rfl (ok_m_in X (d + 74) F _ _ _ _ _ _ hc1) ?_
    rcases m_ite h with ⟨c1355, h⟩ | ⟨c1355, h⟩
    · refine m_R_1 (by decide) (m_opb_of (ins := .ifCond .ne 10) (len := 3) (tag := 0) (a := 28) (b := 0) (c := 0) (q := 0) (by decide +kernel)) (if_pos c1355) ?_
      refine m_R_sg (by decide) [(.aload_n 0, 1, 0, 0, 0, 0, 0), (.bipush (-7), 2, 0, 7, 1, 0, 0)] (by decide +kernel) (show m_sgl X _ _ _ _ _ = some (24, [some (.ref 304), some (.int v1), none, none], [.int (-7 : Int32), .ref 304], (SH, q1.2.1, q1.2.2)) from rfl) ?_
      obtain ⟨q2, hc2, h⟩ := Option.bind_eq_some_iff.mp h
      refine m_R_cV (v := (some (.int q2.1))) (h1 := (SH, q2.2)) (rest := []) (lo' := [some (.ref 304), some (.int (-7 : Int32))]) (ml := 2) (k0 := 304) (by decide) (Or.inl rfl) (m_opb_of (ins := .invokevirtual 61) (len := 3) (tag := 5) (a := 202) (b := 1) (c := 0) (q := 1593) (by decide +kernel)) (by decide +kernel) rfl (show m_isO 202 304 (SH, _) = true from m_isO_of (by decide +kernel)) (Nat.le_of_ble_eq_true rfl) rfl rfl (ok_m_refuse X (d + 74) F _ _ _ _ hc2) ?_
      obtain ⟨rfl, rfl⟩ := m_some h
      exact m_R_iret (by decide) (m_opb_of (ins := .ireturn) (len := 1) (tag := 1) (a := 0) (b := 0) (c := 0) (q := 0) (by decide +kernel)) (Or.inl rfl)
    · refine m_R_1 (by decide) (m_opb_of (ins := .ifCond .ne 10) (len := 3) (tag := 0) (a := 28) (b := 0) (c := 0) (q := 0) (by decide +kernel)) (if_neg c1355) ?_
      refine m_R_sg (by decide) [(.aload_n 0, 1, 0, 0, 0, 0, 0), (.getfield 13, 3, 0, 12, 1, 3, 1493), (.iconst 0, 1, 0, 0, 0, 0, 0)] (by decide +kernel) (show m_sgl X _ _ _ _ _ = some (33, [some (.ref 304), some (.int v1), none, none], [.int (0 : Int32), .ref 305], (SH, q1.2.1, q1.2.2)) from rfl) ?_
      refine m_R_1 (by decide) (m_opb_of (ins := .iaload) (len := 1) (tag := 0) (a := 0) (b := 0) (c := 0) (q := 0) (by decide +kernel)) (m_s_iald sh_305 (by decide) (show ¬ ((0 : Int32) < 0 ∨ 9732 ≤ (0 : Int32).toNatClampNeg) by decide)) ?_
      refine m_R_sg (by decide) [(.iload_n 1, 1, 0, 1, 0, 0, 0), (.iadd, 1, 0, 0, 0, 0, 0), (.sipush 700, 3, 0, 700, 0, 0, 0)] (by decide +kernel) (show m_sgl X _ _ _ _ _ = some (39, [some (.ref 304), some (.int v1), none, none], [.int (700 : Int32), .int ((q1.2.1 305 (0 : Int32).toNatClampNeg) + v1)], (SH, q1.2.1, q1.2.2)) from rfl) ?_
      rcases m_ite h with ⟨c1356, h⟩ | ⟨c1356, h⟩
      · refine m_R_1 (by decide) (m_opb_of (ins := .if_icmp .le 10) (len := 3) (tag := 0) (a := 49) (b := 0) (c := 0) (q := 0) (by decide +kernel)) (if_pos c1356) ?_
        refine m_R_sg (by decide) [(.aload_n 0, 1, 0, 0, 0, 0, 0)] (by decide +kernel) (show m_sgl X _ _ _ _ _ = some (50, [some (.ref 304), some (.int v1), none, none], [.ref 304], (SH, q1.2.1, q1.2.2)) from rfl) ?_
        obtain ⟨q3, hc3, h⟩ := Option.bind_eq_some_iff.mp h
        refine m_R_cV (v := (some (.int q3.1))) (h1 := (SH, q3.2)) (rest := []) (lo' := [some (.ref 304), none, none]) (ml := 3) (k0 := 304) (by decide) (Or.inl rfl) (m_opb_of (ins := .invokevirtual 423) (len := 3) (tag := 5) (a := 306) (b := 0) (c := 0) (q := 2041) (by decide +kernel)) (by decide +kernel) rfl (show m_isO 306 304 (SH, _) = true from m_isO_of (by decide +kernel)) (Nat.le_of_ble_eq_true rfl) rfl rfl (ok_m_downMany X (d + 72) F _ _ _ hc3) ?_
        refine m_R_sg (by decide) [(.istore_n 2, 1, 0, 2, 0, 0, 0), (.iconst 0, 1, 0, 0, 0, 0, 0), (.istore_n 3, 1, 0, 3, 0, 0, 0)] (by decide +kernel) (show m_sgl X _ _ _ _ _ = some (56, [some (.ref 304), some (.int v1), some (.int q3.1), some (.int (0 : Int32))], [], (SH, q3.2.1, q3.2.2)) from rfl) ?_
        exact ok_m_run_56 X d F F _ _ _ _ _ _ h
      · refine m_R_1 (by decide) (m_opb_of (ins := .if_icmp .le 10) (len := 3) (tag := 0) (a := 49) (b := 0) (c := 0) (q := 0) (by decide +kernel)) (if_neg c1356) ?_
        refine m_R_sg (by decide) [(.aload_n 0, 1, 0, 0, 0, 0, 0), (.bipush (-8), 2, 0, 8, 1, 0, 0)] (by decide +kernel) (show m_sgl X _ _ _ _ _ = some (45, [some (.ref 304), some (.int v1), none, none], [.int (-8 : Int32), .ref 304], (SH, q1.2.1, q1.2.2)) from rfl) ?_
        obtain ⟨q4, hc4, h⟩ := Option.bind_eq_some_iff.mp h
        refine m_R_cV (v := (some (.int q4.1))) (h1 := (SH, q4.2)) (rest := []) (lo' := [some (.ref 304), some (.int (-8 : Int32))]) (ml := 2) (k0 := 304) (by decide) (Or.inl rfl) (m_opb_of (ins := .invokevirtual 61) (len := 3) (tag := 5) (a := 202) (b := 1) (c := 0) (q := 1593) (by decide +kernel)) (by decide +kernel) rfl (show m_isO 202 304 (SH, _) = true from m_isO_of (by decide +kernel)) (Nat.le_of_ble_eq_true rfl) rfl rfl (ok_m_refuse X (d + 74) F _ _ _ _ hc4) ?_
        obtain ⟨rfl, rfl⟩ := m_some h
        exact m_R_iret (by decide) (m_opb_of (ins := .ireturn) (len := 1) (tag := 1) (a := 0) (b := 0) (c := 0) (q := 0) (by decide +kernel)) (Or.inl rfl)
  · refine m_R_1 (by decide) (m_opb_of (ins := .ifCond .ge 10) (len := 3) (tag := 0) (a := 11) (b := 0) (c := 0) (q := 0) (by decide +kernel)) (if_neg c1354) ?_
    refine m_R_sg (by decide) [(.aload_n 0, 1, 0, 0, 0, 0, 0), (.bipush (-4), 2, 0, 4, 1, 0, 0)] (by decide +kernel) (show m_sgl X _ _ _ _ _ = some (7, [some (.ref 304), some (.int v1), none, none], [.int (-4 : Int32), .ref 304], (SH, m.1, m.2)) from rfl) ?_
    obtain ⟨q5, hc5, h⟩ := Option.bind_eq_some_iff.mp h
    refine m_R_cV (v := (some (.int q5.1))) (h1 := (SH, q5.2)) (rest := []) (lo' := [some (.ref 304), some (.int (-4 : Int32))]) (ml := 2) (k0 := 304) (by decide) (Or.inl rfl) (m_opb_of (ins := .invokevirtual 61) (len := 3) (tag := 5) (a := 202) (b := 1) (c := 0) (q := 1593) (by decide +kernel)) (by decide +kernel) rfl (show m_isO 202 304 (SH, _) = true from m_isO_of (by decide +kernel)) (Nat.le_of_ble_eq_true rfl) rfl rfl (ok_m_refuse X (d + 74) F _ _ _ _ hc5) ?_
    obtain ⟨rfl, rfl⟩ := m_some h
    exact m_R_iret (by decide) (m_opb_of (ins := .ireturn) (len := 1) (tag := 1) (a := 0) (b := 0) (c := 0) (q := 0) (by decide +kernel)) (Or.inl rfl)
def f_x_sheet_15 (F : Nat)    (m : mM) : Option (Int32 × mM) := ((f_x_refuse F (-3 : Int32) m).bind fun q2 => some (q2.1, q2.2))
theorem ok_x_sheet_15 (X : mX) (d F : Nat) : ∀  (w1 : Option Value) (w2 : Option Value) (m : mM) (r : Int32) (m' : mM), f_x_sheet_15 F  m = some (r, m') → m_R X (d + 1) 166 15 [some (.ref 0), w1, w2] [] (SH, m) (some (.int r), (SH, m')) := by
  intro w1 w2 m r m' h
  unfold f_x_sheet_15 at h
  refine m_R_sg (by decide) [(.aload_n 0, 1, 0, 0, 0, 0, 0), (.bipush (-3), 2, 0, 3, 1, 0, 0)] (by decide +kernel) (show m_sgl X _ _ _ _ _ = some (18, [some (.ref 0), w1, w2], [.int (-3 : Int32), .ref 0], (SH, m.1, m.2)) from rfl) ?_
  obtain ⟨q2, hc2, h⟩ := Option.bind_eq_some_iff.mp h
  refine m_R_cV (v := (some (.int q2.1))) (h1 := (SH, q2.2)) (rest := []) (lo' := [some (.ref 0), some (.int (-3 : Int32))]) (ml := 2) (k0 := 0) (by decide) (Or.inl rfl) (m_opb_of (ins := .invokevirtual 76) (len := 3) (tag := 5) (a := 14) (b := 1) (c := 0) (q := 671) (by decide +kernel)) (by decide +kernel) rfl (show m_isO 14 0 (SH, _) = true from m_isO_of (by decide +kernel)) (Nat.le_of_ble_eq_true rfl) rfl rfl (ok_x_refuse X (d + 0) F _ _ _ _ hc2) ?_
  obtain ⟨rfl, rfl⟩ := m_some h
  exact m_R_iret (by decide) (m_opb_of (ins := .ireturn) (len := 1) (tag := 1) (a := 0) (b := 0) (c := 0) (q := 0) (by decide +kernel)) (Or.inl rfl)
def f_x_sheet_32 (F : Nat)    (m : mM) : Option (Int32 × mM) := ((f_x_refuse F (-7 : Int32) m).bind fun q3 => some (q3.1, q3.2))
theorem ok_x_sheet_32 (X : mX) (d F : Nat) : ∀  (w1 : Option Value) (w2 : Option Value) (m : mM) (r : Int32) (m' : mM), f_x_sheet_32 F  m = some (r, m') → m_R X (d + 1) 166 32 [some (.ref 0), w1, w2] [] (SH, m) (some (.int r), (SH, m')) := by
  intro w1 w2 m r m' h
  unfold f_x_sheet_32 at h
  refine m_R_sg (by decide) [(.aload_n 0, 1, 0, 0, 0, 0, 0), (.bipush (-7), 2, 0, 7, 1, 0, 0)] (by decide +kernel) (show m_sgl X _ _ _ _ _ = some (35, [some (.ref 0), w1, w2], [.int (-7 : Int32), .ref 0], (SH, m.1, m.2)) from rfl) ?_
  obtain ⟨q3, hc3, h⟩ := Option.bind_eq_some_iff.mp h
  refine m_R_cV (v := (some (.int q3.1))) (h1 := (SH, q3.2)) (rest := []) (lo' := [some (.ref 0), some (.int (-7 : Int32))]) (ml := 2) (k0 := 0) (by decide) (Or.inl rfl) (m_opb_of (ins := .invokevirtual 76) (len := 3) (tag := 5) (a := 14) (b := 1) (c := 0) (q := 671) (by decide +kernel)) (by decide +kernel) rfl (show m_isO 14 0 (SH, _) = true from m_isO_of (by decide +kernel)) (Nat.le_of_ble_eq_true rfl) rfl rfl (ok_x_refuse X (d + 0) F _ _ _ _ hc3) ?_
  obtain ⟨rfl, rfl⟩ := m_some h
  exact m_R_iret (by decide) (m_opb_of (ins := .ireturn) (len := 1) (tag := 1) (a := 0) (b := 0) (c := 0) (q := 0) (by decide +kernel)) (Or.inl rfl)
def f_x_sheet (F : Nat)   (v1 : Int32) (v2 : Int32) (m : mM) : Option (Int32 × mM) := (if v1 < 0 then f_x_sheet_15 F m else ((f_World_sheetCount F m).bind fun q1 => (if v1 < q1.1 then (if v2 < 0 then f_x_sheet_32 F q1.2 else (if v2 < (6 : Int32) then (if ((v1 * (6 : Int32)) + v2) < 0 ∨ 600 ≤ ((v1 * (6 : Int32)) + v2).toNatClampNeg then none else some ((q1.2.1 7 ((v1 * (6 : Int32)) + v2).toNatClampNeg), q1.2)) else f_x_sheet_32 F q1.2)) else f_x_sheet_15 F q1.2)))
theorem ok_x_sheet (X : mX) (d F : Nat) : ∀ (v1 : Int32) (v2 : Int32)  (m : mM) (r : Int32) (m' : mM), f_x_sheet F v1 v2 m = some (r, m') → m_R X (d + 1) 166 0 [some (.ref 0), some (.int v1), some (.int v2)] [] (SH, m) (some (.int r), (SH, m')) := by
  intro v1 v2 m r m' h
  unfold f_x_sheet at h
  refine m_R_sg (by decide) [(.iload_n 1, 1, 0, 1, 0, 0, 0)] (by decide +kernel) (show m_sgl X _ _ _ _ _ = some (1, [some (.ref 0), some (.int v1), some (.int v2)], [.int v1], (SH, m.1, m.2)) from rfl) ?_
  rcases m_ite h with ⟨c1357, h⟩ | ⟨c1357, h⟩
  · refine m_R_1 (by decide) (m_opb_of (ins := .ifCond .lt 14) (len := 3) (tag := 0) (a := 15) (b := 0) (c := 0) (q := 0) (by decide +kernel)) (if_pos c1357) ?_
    exact ok_x_sheet_15 X d F _ _ _ _ _ h
  · refine m_R_1 (by decide) (m_opb_of (ins := .ifCond .lt 14) (len := 3) (tag := 0) (a := 15) (b := 0) (c := 0) (q := 0) (by decide +kernel)) (if_neg c1357) ?_
    refine m_R_sg (by decide) [(.iload_n 1, 1, 0, 1, 0, 0, 0), (.aload_n 0, 1, 0, 0, 0, 0, 0), (.getfield 28, 3, 0, 11, 2, 3, 632)] (by decide +kernel) (show m_sgl X _ _ _ _ _ = some (9, [some (.ref 0), some (.int v1), some (.int v2)], [.ref 16, .int v1], (SH, m.1, m.2)) from rfl) ?_
    obtain ⟨q1, hc1, h⟩ := Option.bind_eq_some_iff.mp h
    refine m_R_cV (v := (some (.int q1.1))) (h1 := (SH, q1.2)) (rest := [.int v1]) (lo' := [some (.ref 16)]) (ml := 1) (k0 := 16) (by decide) (Or.inl rfl) (m_opb_of (ins := .invokevirtual 396) (len := 3) (tag := 5) (a := 162) (b := 0) (c := 0) (q := 1350) (by decide +kernel)) (by decide +kernel) rfl (show m_isO 162 16 (SH, _) = true from m_isO_of (by decide +kernel)) (Nat.le_of_ble_eq_true rfl) rfl rfl (ok_World_sheetCount X (d + 0) F _ _ _ hc1) ?_
    rcases m_ite h with ⟨c1358, h⟩ | ⟨c1358, h⟩
    · refine m_R_1 (by decide) (m_opb_of (ins := .if_icmp .lt 10) (len := 3) (tag := 0) (a := 22) (b := 0) (c := 0) (q := 0) (by decide +kernel)) (if_pos c1358) ?_
      refine m_R_sg (by decide) [(.iload_n 2, 1, 0, 2, 0, 0, 0)] (by decide +kernel) (show m_sgl X _ _ _ _ _ = some (23, [some (.ref 0), some (.int v1), some (.int v2)], [.int v2], (SH, q1.2.1, q1.2.2)) from rfl) ?_
      rcases m_ite h with ⟨c1359, h⟩ | ⟨c1359, h⟩
      · refine m_R_1 (by decide) (m_opb_of (ins := .ifCond .lt 9) (len := 3) (tag := 0) (a := 32) (b := 0) (c := 0) (q := 0) (by decide +kernel)) (if_pos c1359) ?_
        exact ok_x_sheet_32 X d F _ _ _ _ _ h
      · refine m_R_1 (by decide) (m_opb_of (ins := .ifCond .lt 9) (len := 3) (tag := 0) (a := 32) (b := 0) (c := 0) (q := 0) (by decide +kernel)) (if_neg c1359) ?_
        refine m_R_sg (by decide) [(.iload_n 2, 1, 0, 2, 0, 0, 0), (.bipush 6, 2, 0, 6, 0, 0, 0)] (by decide +kernel) (show m_sgl X _ _ _ _ _ = some (29, [some (.ref 0), some (.int v1), some (.int v2)], [.int (6 : Int32), .int v2], (SH, q1.2.1, q1.2.2)) from rfl) ?_
        rcases m_ite h with ⟨c1360, h⟩ | ⟨c1360, h⟩
        · refine m_R_1 (by decide) (m_opb_of (ins := .if_icmp .lt 10) (len := 3) (tag := 0) (a := 39) (b := 0) (c := 0) (q := 0) (by decide +kernel)) (if_pos c1360) ?_
          refine m_R_sg (by decide) [(.aload_n 0, 1, 0, 0, 0, 0, 0), (.getfield 10, 3, 0, 11, 0, 3, 630), (.getfield 399, 3, 0, 6, 5, 3, 176), (.iload_n 1, 1, 0, 1, 0, 0, 0), (.bipush 6, 2, 0, 6, 0, 0, 0), (.imul, 1, 0, 0, 0, 0, 0), (.iload_n 2, 1, 0, 2, 0, 0, 0), (.iadd, 1, 0, 0, 0, 0, 0)] (by decide +kernel) (show m_sgl X _ _ _ _ _ = some (52, [some (.ref 0), some (.int v1), some (.int v2)], [.int ((v1 * (6 : Int32)) + v2), .ref 7], (SH, q1.2.1, q1.2.2)) from rfl) ?_
          obtain ⟨c1361, h⟩ := m_ite_n h
          refine m_R_1 (by decide) (m_opb_of (ins := .iaload) (len := 1) (tag := 0) (a := 0) (b := 0) (c := 0) (q := 0) (by decide +kernel)) (m_s_iald sh_7 (by decide) c1361) ?_
          obtain ⟨rfl, rfl⟩ := m_some h
          exact m_R_iret (by decide) (m_opb_of (ins := .ireturn) (len := 1) (tag := 1) (a := 0) (b := 0) (c := 0) (q := 0) (by decide +kernel)) (Or.inl rfl)
        · refine m_R_1 (by decide) (m_opb_of (ins := .if_icmp .lt 10) (len := 3) (tag := 0) (a := 39) (b := 0) (c := 0) (q := 0) (by decide +kernel)) (if_neg c1360) ?_
          exact ok_x_sheet_32 X d F _ _ _ _ _ h
    · refine m_R_1 (by decide) (m_opb_of (ins := .if_icmp .lt 10) (len := 3) (tag := 0) (a := 22) (b := 0) (c := 0) (q := 0) (by decide +kernel)) (if_neg c1358) ?_
      exact ok_x_sheet_15 X d F _ _ _ _ _ h
def f_m_sheet_26 (F : Nat)    (m : mM) : Option (Int32 × mM) := ((f_m_refuse F (-3 : Int32) m).bind fun q4 => some (q4.1, q4.2))
theorem ok_m_sheet_26 (X : mX) (d F : Nat) : ∀  (w1 : Option Value) (w2 : Option Value) (m : mM) (r : Int32) (m' : mM), f_m_sheet_26 F  m = some (r, m') → m_R X (d + 1) 322 26 [some (.ref 304), w1, w2] [] (SH, m) (some (.int r), (SH, m')) := by
  intro w1 w2 m r m' h
  unfold f_m_sheet_26 at h
  refine m_R_sg (by decide) [(.aload_n 0, 1, 0, 0, 0, 0, 0), (.bipush (-3), 2, 0, 3, 1, 0, 0)] (by decide +kernel) (show m_sgl X _ _ _ _ _ = some (29, [some (.ref 304), w1, w2], [.int (-3 : Int32), .ref 304], (SH, m.1, m.2)) from rfl) ?_
  obtain ⟨q4, hc4, h⟩ := Option.bind_eq_some_iff.mp h
  refine m_R_cV (v := (some (.int q4.1))) (h1 := (SH, q4.2)) (rest := []) (lo' := [some (.ref 304), some (.int (-3 : Int32))]) (ml := 2) (k0 := 304) (by decide) (Or.inl rfl) (m_opb_of (ins := .invokevirtual 61) (len := 3) (tag := 5) (a := 202) (b := 1) (c := 0) (q := 1593) (by decide +kernel)) (by decide +kernel) rfl (show m_isO 202 304 (SH, _) = true from m_isO_of (by decide +kernel)) (Nat.le_of_ble_eq_true rfl) rfl rfl (ok_m_refuse X (d + 0) F _ _ _ _ hc4) ?_
  obtain ⟨rfl, rfl⟩ := m_some h
  exact m_R_iret (by decide) (m_opb_of (ins := .ireturn) (len := 1) (tag := 1) (a := 0) (b := 0) (c := 0) (q := 0) (by decide +kernel)) (Or.inl rfl)
def f_m_sheet_57 (F : Nat)   (s0 : Int32) (m : mM) : Option (Int32 × mM) := some (s0, m)
theorem ok_m_sheet_57 (X : mX) (d F : Nat) : ∀ (s0 : Int32) (w0 : Option Value) (w1 : Option Value) (w2 : Option Value) (m : mM) (r : Int32) (m' : mM), f_m_sheet_57 F s0 m = some (r, m') → m_R X (d + 1) 322 57 [w0, w1, w2] [.int s0] (SH, m) (some (.int r), (SH, m')) := by
  intro s0 w0 w1 w2 m r m' h
  unfold f_m_sheet_57 at h
  obtain ⟨rfl, rfl⟩ := m_some h
  exact m_R_iret (by decide) (m_opb_of (ins := .ireturn) (len := 1) (tag := 1) (a := 0) (b := 0) (c := 0) (q := 0) (by decide +kernel)) (Or.inl rfl)
def f_m_sheet (F : Nat)   (v1 : Int32) (v2 : Int32) (m : mM) : Option (Int32 × mM) := (if v1 < 0 then f_m_sheet_26 F m else (if (100 : Int32) ≤ v1 then f_m_sheet_26 F m else (if (((7 : Int32) * v1) + (6 : Int32)) < (m.1 305 (0 : Int32).toNatClampNeg) then ((f_m_in F v2 (0 : Int32) (5 : Int32) m).bind fun q1 => (if q1.1 = 0 then ((f_m_refuse F (-7 : Int32) q1.2).bind fun q2 => f_m_sheet_57 F q2.1 q2.2) else ((f_m_shown F v1 v2 q1.2).bind fun q3 => f_m_sheet_57 F q3.1 q3.2))) else f_m_sheet_26 F m)))
theorem ok_m_sheet (X : mX) (d F : Nat) : ∀ (v1 : Int32) (v2 : Int32)  (m : mM) (r : Int32) (m' : mM), f_m_sheet F v1 v2 m = some (r, m') → m_R X (d + 1) 322 0 [some (.ref 304), some (.int v1), some (.int v2)] [] (SH, m) (some (.int r), (SH, m')) := by
  intro v1 v2 m r m' h
  unfold f_m_sheet at h
  refine m_R_sg (by decide) [(.iload_n 1, 1, 0, 1, 0, 0, 0)] (by decide +kernel) (show m_sgl X _ _ _ _ _ = some (1, [some (.ref 304), some (.int v1), some (.int v2)], [.int v1], (SH, m.1, m.2)) from rfl) ?_
  rcases m_ite h with ⟨c1362, h⟩ | ⟨c1362, h⟩
  · refine m_R_1 (by decide) (m_opb_of (ins := .ifCond .lt 25) (len := 3) (tag := 0) (a := 26) (b := 0) (c := 0) (q := 0) (by decide +kernel)) (if_pos c1362) ?_
    exact ok_m_sheet_26 X d F _ _ _ _ _ h
  · refine m_R_1 (by decide) (m_opb_of (ins := .ifCond .lt 25) (len := 3) (tag := 0) (a := 26) (b := 0) (c := 0) (q := 0) (by decide +kernel)) (if_neg c1362) ?_
    refine m_R_sg (by decide) [(.iload_n 1, 1, 0, 1, 0, 0, 0), (.bipush 100, 2, 0, 100, 0, 0, 0)] (by decide +kernel) (show m_sgl X _ _ _ _ _ = some (7, [some (.ref 304), some (.int v1), some (.int v2)], [.int (100 : Int32), .int v1], (SH, m.1, m.2)) from rfl) ?_
    rcases m_ite h with ⟨c1363, h⟩ | ⟨c1363, h⟩
    · refine m_R_1 (by decide) (m_opb_of (ins := .if_icmp .ge 19) (len := 3) (tag := 0) (a := 26) (b := 0) (c := 0) (q := 0) (by decide +kernel)) (if_pos c1363) ?_
      exact ok_m_sheet_26 X d F _ _ _ _ _ h
    · refine m_R_1 (by decide) (m_opb_of (ins := .if_icmp .ge 19) (len := 3) (tag := 0) (a := 26) (b := 0) (c := 0) (q := 0) (by decide +kernel)) (if_neg c1363) ?_
      refine m_R_sg (by decide) [(.bipush 7, 2, 0, 7, 0, 0, 0), (.iload_n 1, 1, 0, 1, 0, 0, 0), (.imul, 1, 0, 0, 0, 0, 0), (.bipush 6, 2, 0, 6, 0, 0, 0), (.iadd, 1, 0, 0, 0, 0, 0), (.aload_n 0, 1, 0, 0, 0, 0, 0), (.getfield 13, 3, 0, 12, 1, 3, 1493), (.iconst 0, 1, 0, 0, 0, 0, 0)] (by decide +kernel) (show m_sgl X _ _ _ _ _ = some (22, [some (.ref 304), some (.int v1), some (.int v2)], [.int (0 : Int32), .ref 305, .int (((7 : Int32) * v1) + (6 : Int32))], (SH, m.1, m.2)) from rfl) ?_
      refine m_R_1 (by decide) (m_opb_of (ins := .iaload) (len := 1) (tag := 0) (a := 0) (b := 0) (c := 0) (q := 0) (by decide +kernel)) (m_s_iald sh_305 (by decide) (show ¬ ((0 : Int32) < 0 ∨ 9732 ≤ (0 : Int32).toNatClampNeg) by decide)) ?_
      rcases m_ite h with ⟨c1364, h⟩ | ⟨c1364, h⟩
      · refine m_R_1 (by decide) (m_opb_of (ins := .if_icmp .lt 10) (len := 3) (tag := 0) (a := 33) (b := 0) (c := 0) (q := 0) (by decide +kernel)) (if_pos c1364) ?_
        refine m_R_sg (by decide) [(.iload_n 2, 1, 0, 2, 0, 0, 0), (.iconst 0, 1, 0, 0, 0, 0, 0), (.iconst 5, 1, 0, 5, 0, 0, 0)] (by decide +kernel) (show m_sgl X _ _ _ _ _ = some (36, [some (.ref 304), some (.int v1), some (.int v2)], [.int (5 : Int32), .int (0 : Int32), .int v2], (SH, m.1, m.2)) from rfl) ?_
        obtain ⟨q1, hc1, h⟩ := Option.bind_eq_some_iff.mp h
        refine m_R_cS (v := (some (.int q1.1))) (h1 := (SH, q1.2)) (rest := []) (lo' := [some (.int v2), some (.int (0 : Int32)), some (.int (5 : Int32))]) (ml := 3) (by decide) (m_opb_of (ins := .invokestatic 57) (len := 3) (tag := 4) (a := 201) (b := 3) (c := 0) (q := 1590) (by decide +kernel)) (by decide +kernel) (Nat.le_of_ble_eq_true rfl) rfl (Nat.le_of_ble_eq_true rfl) rfl rfl (ok_m_in X (d + 0) F _ _ _ _ _ _ hc1) ?_
        rcases m_ite h with ⟨c1365, h⟩ | ⟨c1365, h⟩
        · refine m_R_1 (by decide) (m_opb_of (ins := .ifCond .eq 12) (len := 3) (tag := 0) (a := 51) (b := 0) (c := 0) (q := 0) (by decide +kernel)) (if_pos c1365) ?_
          refine m_R_sg (by decide) [(.aload_n 0, 1, 0, 0, 0, 0, 0), (.bipush (-7), 2, 0, 7, 1, 0, 0)] (by decide +kernel) (show m_sgl X _ _ _ _ _ = some (54, [some (.ref 304), some (.int v1), some (.int v2)], [.int (-7 : Int32), .ref 304], (SH, q1.2.1, q1.2.2)) from rfl) ?_
          obtain ⟨q2, hc2, h⟩ := Option.bind_eq_some_iff.mp h
          refine m_R_cV (v := (some (.int q2.1))) (h1 := (SH, q2.2)) (rest := []) (lo' := [some (.ref 304), some (.int (-7 : Int32))]) (ml := 2) (k0 := 304) (by decide) (Or.inl rfl) (m_opb_of (ins := .invokevirtual 61) (len := 3) (tag := 5) (a := 202) (b := 1) (c := 0) (q := 1593) (by decide +kernel)) (by decide +kernel) rfl (show m_isO 202 304 (SH, _) = true from m_isO_of (by decide +kernel)) (Nat.le_of_ble_eq_true rfl) rfl rfl (ok_m_refuse X (d + 0) F _ _ _ _ hc2) ?_
          exact ok_m_sheet_57 X d F _ _ _ _ _ _ _ h
        · refine m_R_1 (by decide) (m_opb_of (ins := .ifCond .eq 12) (len := 3) (tag := 0) (a := 51) (b := 0) (c := 0) (q := 0) (by decide +kernel)) (if_neg c1365) ?_
          refine m_R_sg (by decide) [(.aload_n 0, 1, 0, 0, 0, 0, 0), (.iload_n 1, 1, 0, 1, 0, 0, 0), (.iload_n 2, 1, 0, 2, 0, 0, 0)] (by decide +kernel) (show m_sgl X _ _ _ _ _ = some (45, [some (.ref 304), some (.int v1), some (.int v2)], [.int v2, .int v1, .ref 304], (SH, q1.2.1, q1.2.2)) from rfl) ?_
          obtain ⟨q3, hc3, h⟩ := Option.bind_eq_some_iff.mp h
          refine m_R_cV (v := (some (.int q3.1))) (h1 := (SH, q3.2)) (rest := []) (lo' := [some (.ref 304), some (.int v1), some (.int v2)]) (ml := 3) (k0 := 304) (by decide) (Or.inl rfl) (m_opb_of (ins := .invokevirtual 399) (len := 3) (tag := 5) (a := 319) (b := 2) (c := 0) (q := 2093) (by decide +kernel)) (by decide +kernel) rfl (show m_isO 319 304 (SH, _) = true from m_isO_of (by decide +kernel)) (Nat.le_of_ble_eq_true rfl) rfl rfl (ok_m_shown X (d + 0) F _ _ _ _ _ hc3) ?_
          refine m_R_sg (by decide) [(.goto 9, 3, 0, 57, 0, 0, 0)] (by decide +kernel) (show m_sgl X _ _ _ _ _ = some (57, [some (.ref 304), some (.int v1), some (.int v2)], [.int q3.1], (SH, q3.2.1, q3.2.2)) from rfl) ?_
          exact ok_m_sheet_57 X d F _ _ _ _ _ _ _ h
      · refine m_R_1 (by decide) (m_opb_of (ins := .if_icmp .lt 10) (len := 3) (tag := 0) (a := 33) (b := 0) (c := 0) (q := 0) (by decide +kernel)) (if_neg c1364) ?_
        exact ok_m_sheet_26 X d F _ _ _ _ _ h
def f_x_knew_29 (F : Nat)    (m : mM) : Option (Int32 × mM) := ((f_x_refuse F (-3 : Int32) m).bind fun q6 => some (q6.1, q6.2))
theorem ok_x_knew_29 (X : mX) (d F : Nat) : ∀  (w1 : Option Value) (w2 : Option Value) (w3 : Option Value) (m : mM) (r : Int32) (m' : mM), f_x_knew_29 F  m = some (r, m') → m_R X (d + 5) 167 29 [some (.ref 0), w1, w2, w3] [] (SH, m) (some (.int r), (SH, m')) := by
  intro w1 w2 w3 m r m' h
  unfold f_x_knew_29 at h
  refine m_R_sg (by decide) [(.aload_n 0, 1, 0, 0, 0, 0, 0), (.bipush (-3), 2, 0, 3, 1, 0, 0)] (by decide +kernel) (show m_sgl X _ _ _ _ _ = some (32, [some (.ref 0), w1, w2, w3], [.int (-3 : Int32), .ref 0], (SH, m.1, m.2)) from rfl) ?_
  obtain ⟨q6, hc6, h⟩ := Option.bind_eq_some_iff.mp h
  refine m_R_cV (v := (some (.int q6.1))) (h1 := (SH, q6.2)) (rest := []) (lo' := [some (.ref 0), some (.int (-3 : Int32))]) (ml := 2) (k0 := 0) (by decide) (Or.inl rfl) (m_opb_of (ins := .invokevirtual 76) (len := 3) (tag := 5) (a := 14) (b := 1) (c := 0) (q := 671) (by decide +kernel)) (by decide +kernel) rfl (show m_isO 14 0 (SH, _) = true from m_isO_of (by decide +kernel)) (Nat.le_of_ble_eq_true rfl) rfl rfl (ok_x_refuse X (d + 4) F _ _ _ _ hc6) ?_
  obtain ⟨rfl, rfl⟩ := m_some h
  exact m_R_iret (by decide) (m_opb_of (ins := .ireturn) (len := 1) (tag := 1) (a := 0) (b := 0) (c := 0) (q := 0) (by decide +kernel)) (Or.inl rfl)
def f_x_knew (F : Nat)   (v1 : Int32) (v2 : Int32) (v3 : Int32) (m : mM) : Option (Int32 × mM) := ((f_Houses_isHouse F v1 m).bind fun q1 => (if q1.1 = 0 then f_x_knew_29 F q1.2 else (if v3 < 0 then f_x_knew_29 F q1.2 else (if v3 ≤ (q1.2.1 16 9) then (if v2 = (0 : Int32) then ((f_World_heardFailures F v1 v3 q1.2).bind fun q2 => some (q2.1, q2.2)) else (if v2 = (1 : Int32) then ((f_World_heardSheet F v1 v3 q1.2).bind fun q3 => some (q3.1, q3.2)) else (if v2 = (2 : Int32) then ((f_World_heardReserve F v1 v3 q1.2).bind fun q4 => some (q4.1, q4.2)) else ((f_x_refuse F (-7 : Int32) q1.2).bind fun q5 => some (q5.1, q5.2))))) else f_x_knew_29 F q1.2))))
theorem ok_x_knew (X : mX) (d F : Nat) : ∀ (v1 : Int32) (v2 : Int32) (v3 : Int32)  (m : mM) (r : Int32) (m' : mM), f_x_knew F v1 v2 v3 m = some (r, m') → m_R X (d + 5) 167 0 [some (.ref 0), some (.int v1), some (.int v2), some (.int v3)] [] (SH, m) (some (.int r), (SH, m')) := by
  intro v1 v2 v3 m r m' h
  unfold f_x_knew at h
  refine m_R_sg (by decide) [(.aload_n 0, 1, 0, 0, 0, 0, 0), (.getfield 28, 3, 0, 11, 2, 3, 632), (.getfield 95, 3, 0, 10, 1, 3, 507), (.iload_n 1, 1, 0, 1, 0, 0, 0)] (by decide +kernel) (show m_sgl X _ _ _ _ _ = some (8, [some (.ref 0), some (.int v1), some (.int v2), some (.int v3)], [.int v1, .ref 19], (SH, m.1, m.2)) from rfl) ?_
  obtain ⟨q1, hc1, h⟩ := Option.bind_eq_some_iff.mp h
  refine m_R_cV (v := (some (.int q1.1))) (h1 := (SH, q1.2)) (rest := []) (lo' := [some (.ref 19), some (.int v1)]) (ml := 2) (k0 := 19) (by decide) (Or.inl rfl) (m_opb_of (ins := .invokevirtual 107) (len := 3) (tag := 5) (a := 24) (b := 1) (c := 0) (q := 712) (by decide +kernel)) (by decide +kernel) rfl (show m_isO 24 19 (SH, _) = true from m_isO_of (by decide +kernel)) (Nat.le_of_ble_eq_true rfl) rfl rfl (ok_Houses_isHouse X (d + 4) F _ _ _ _ hc1) ?_
  rcases m_ite h with ⟨c1366, h⟩ | ⟨c1366, h⟩
  · refine m_R_1 (by decide) (m_opb_of (ins := .ifCond .eq 18) (len := 3) (tag := 0) (a := 29) (b := 0) (c := 0) (q := 0) (by decide +kernel)) (if_pos c1366) ?_
    exact ok_x_knew_29 X d F _ _ _ _ _ _ h
  · refine m_R_1 (by decide) (m_opb_of (ins := .ifCond .eq 18) (len := 3) (tag := 0) (a := 29) (b := 0) (c := 0) (q := 0) (by decide +kernel)) (if_neg c1366) ?_
    refine m_R_sg (by decide) [(.iload_n 3, 1, 0, 3, 0, 0, 0)] (by decide +kernel) (show m_sgl X _ _ _ _ _ = some (15, [some (.ref 0), some (.int v1), some (.int v2), some (.int v3)], [.int v3], (SH, q1.2.1, q1.2.2)) from rfl) ?_
    rcases m_ite h with ⟨c1367, h⟩ | ⟨c1367, h⟩
    · refine m_R_1 (by decide) (m_opb_of (ins := .ifCond .lt 14) (len := 3) (tag := 0) (a := 29) (b := 0) (c := 0) (q := 0) (by decide +kernel)) (if_pos c1367) ?_
      exact ok_x_knew_29 X d F _ _ _ _ _ _ h
    · refine m_R_1 (by decide) (m_opb_of (ins := .ifCond .lt 14) (len := 3) (tag := 0) (a := 29) (b := 0) (c := 0) (q := 0) (by decide +kernel)) (if_neg c1367) ?_
      refine m_R_sg (by decide) [(.iload_n 3, 1, 0, 3, 0, 0, 0), (.aload_n 0, 1, 0, 0, 0, 0, 0), (.getfield 28, 3, 0, 11, 2, 3, 632), (.getfield 255, 3, 0, 10, 9, 0, 521)] (by decide +kernel) (show m_sgl X _ _ _ _ _ = some (26, [some (.ref 0), some (.int v1), some (.int v2), some (.int v3)], [.int (q1.2.1 16 9), .int v3], (SH, q1.2.1, q1.2.2)) from rfl) ?_
      rcases m_ite h with ⟨c1368, h⟩ | ⟨c1368, h⟩
      · refine m_R_1 (by decide) (m_opb_of (ins := .if_icmp .le 10) (len := 3) (tag := 0) (a := 36) (b := 0) (c := 0) (q := 0) (by decide +kernel)) (if_pos c1368) ?_
        refine m_R_sg (by decide) [(.iload_n 2, 1, 0, 2, 0, 0, 0)] (by decide +kernel) (show m_sgl X _ _ _ _ _ = some (37, [some (.ref 0), some (.int v1), some (.int v2), some (.int v3)], [.int v2], (SH, q1.2.1, q1.2.2)) from rfl) ?_
        rcases m_ite h with ⟨c0, h⟩ | ⟨d0, h⟩
        · refine m_R_1 (by decide) (m_opb_of (ins := .tableswitch 57 0 2 #[27, 37, 47]) (len := 27) (tag := 0) (a := 0) (b := 0) (c := 0) (q := 0) (by decide +kernel)) (m_s_sw (by rw [c0]; decide) (by rw [c0]; rfl) (by decide) (t := 64) rfl) ?_
          refine m_R_sg (by decide) [(.aload_n 0, 1, 0, 0, 0, 0, 0), (.getfield 28, 3, 0, 11, 2, 3, 632), (.iload_n 1, 1, 0, 1, 0, 0, 0), (.iload_n 3, 1, 0, 3, 0, 0, 0)] (by decide +kernel) (show m_sgl X _ _ _ _ _ = some (70, [some (.ref 0), some (.int v1), some (.int v2), some (.int v3)], [.int v3, .int v1, .ref 16], (SH, q1.2.1, q1.2.2)) from rfl) ?_
          obtain ⟨q2, hc2, h⟩ := Option.bind_eq_some_iff.mp h
          refine m_R_cV (v := (some (.int q2.1))) (h1 := (SH, q2.2)) (rest := []) (lo' := [some (.ref 16), some (.int v1), some (.int v3), none, none, none, none]) (ml := 7) (k0 := 16) (by decide) (Or.inl rfl) (m_opb_of (ins := .invokevirtual 402) (len := 3) (tag := 5) (a := 158) (b := 2) (c := 0) (q := 1355) (by decide +kernel)) (by decide +kernel) rfl (show m_isO 158 16 (SH, _) = true from m_isO_of (by decide +kernel)) (Nat.le_of_ble_eq_true rfl) rfl rfl (ok_World_heardFailures X (d + 1) F _ _ _ _ _ hc2) ?_
          obtain ⟨rfl, rfl⟩ := m_some h
          exact m_R_iret (by decide) (m_opb_of (ins := .ireturn) (len := 1) (tag := 1) (a := 0) (b := 0) (c := 0) (q := 0) (by decide +kernel)) (Or.inl rfl)
        rcases m_ite h with ⟨c0, h⟩ | ⟨d1, h⟩
        · refine m_R_1 (by decide) (m_opb_of (ins := .tableswitch 57 0 2 #[27, 37, 47]) (len := 27) (tag := 0) (a := 0) (b := 0) (c := 0) (q := 0) (by decide +kernel)) (m_s_sw (by rw [c0]; decide) (by rw [c0]; rfl) (by decide) (t := 74) rfl) ?_
          refine m_R_sg (by decide) [(.aload_n 0, 1, 0, 0, 0, 0, 0), (.getfield 28, 3, 0, 11, 2, 3, 632), (.iload_n 1, 1, 0, 1, 0, 0, 0), (.iload_n 3, 1, 0, 3, 0, 0, 0)] (by decide +kernel) (show m_sgl X _ _ _ _ _ = some (80, [some (.ref 0), some (.int v1), some (.int v2), some (.int v3)], [.int v3, .int v1, .ref 16], (SH, q1.2.1, q1.2.2)) from rfl) ?_
          obtain ⟨q3, hc3, h⟩ := Option.bind_eq_some_iff.mp h
          refine m_R_cV (v := (some (.int q3.1))) (h1 := (SH, q3.2)) (rest := []) (lo' := [some (.ref 16), some (.int v1), some (.int v3), none, none]) (ml := 5) (k0 := 16) (by decide) (Or.inl rfl) (m_opb_of (ins := .invokevirtual 405) (len := 3) (tag := 5) (a := 161) (b := 2) (c := 0) (q := 1356) (by decide +kernel)) (by decide +kernel) rfl (show m_isO 161 16 (SH, _) = true from m_isO_of (by decide +kernel)) (Nat.le_of_ble_eq_true rfl) rfl rfl (ok_World_heardSheet X (d + 1) F _ _ _ _ _ hc3) ?_
          obtain ⟨rfl, rfl⟩ := m_some h
          exact m_R_iret (by decide) (m_opb_of (ins := .ireturn) (len := 1) (tag := 1) (a := 0) (b := 0) (c := 0) (q := 0) (by decide +kernel)) (Or.inl rfl)
        rcases m_ite h with ⟨c0, h⟩ | ⟨d2, h⟩
        · refine m_R_1 (by decide) (m_opb_of (ins := .tableswitch 57 0 2 #[27, 37, 47]) (len := 27) (tag := 0) (a := 0) (b := 0) (c := 0) (q := 0) (by decide +kernel)) (m_s_sw (by rw [c0]; decide) (by rw [c0]; rfl) (by decide) (t := 84) rfl) ?_
          refine m_R_sg (by decide) [(.aload_n 0, 1, 0, 0, 0, 0, 0), (.getfield 28, 3, 0, 11, 2, 3, 632), (.iload_n 1, 1, 0, 1, 0, 0, 0), (.iload_n 3, 1, 0, 3, 0, 0, 0)] (by decide +kernel) (show m_sgl X _ _ _ _ _ = some (90, [some (.ref 0), some (.int v1), some (.int v2), some (.int v3)], [.int v3, .int v1, .ref 16], (SH, q1.2.1, q1.2.2)) from rfl) ?_
          obtain ⟨q4, hc4, h⟩ := Option.bind_eq_some_iff.mp h
          refine m_R_cV (v := (some (.int q4.1))) (h1 := (SH, q4.2)) (rest := []) (lo' := [some (.ref 16), some (.int v1), some (.int v3), none]) (ml := 4) (k0 := 16) (by decide) (Or.inl rfl) (m_opb_of (ins := .invokevirtual 408) (len := 3) (tag := 5) (a := 160) (b := 2) (c := 0) (q := 1357) (by decide +kernel)) (by decide +kernel) rfl (show m_isO 160 16 (SH, _) = true from m_isO_of (by decide +kernel)) (Nat.le_of_ble_eq_true rfl) rfl rfl (ok_World_heardReserve X (d + 0) F _ _ _ _ _ hc4) ?_
          obtain ⟨rfl, rfl⟩ := m_some h
          exact m_R_iret (by decide) (m_opb_of (ins := .ireturn) (len := 1) (tag := 1) (a := 0) (b := 0) (c := 0) (q := 0) (by decide +kernel)) (Or.inl rfl)
        refine m_R_1 (by decide) (m_opb_of (ins := .tableswitch 57 0 2 #[27, 37, 47]) (len := 27) (tag := 0) (a := 0) (b := 0) (c := 0) (q := 0) (by decide +kernel)) (m_s_swd (m_swx 3 (fun j hj => match j, hj with | 0, _ => fun e => d0 (e.trans (by decide)) | 1, _ => fun e => d1 (e.trans (by decide)) | 2, _ => fun e => d2 (e.trans (by decide)) | j + 3, hj => absurd hj (by omega))) (by decide) (t := 94) rfl) ?_
        refine m_R_sg (by decide) [(.aload_n 0, 1, 0, 0, 0, 0, 0), (.bipush (-7), 2, 0, 7, 1, 0, 0)] (by decide +kernel) (show m_sgl X _ _ _ _ _ = some (97, [some (.ref 0), some (.int v1), some (.int v2), some (.int v3)], [.int (-7 : Int32), .ref 0], (SH, q1.2.1, q1.2.2)) from rfl) ?_
        obtain ⟨q5, hc5, h⟩ := Option.bind_eq_some_iff.mp h
        refine m_R_cV (v := (some (.int q5.1))) (h1 := (SH, q5.2)) (rest := []) (lo' := [some (.ref 0), some (.int (-7 : Int32))]) (ml := 2) (k0 := 0) (by decide) (Or.inl rfl) (m_opb_of (ins := .invokevirtual 76) (len := 3) (tag := 5) (a := 14) (b := 1) (c := 0) (q := 671) (by decide +kernel)) (by decide +kernel) rfl (show m_isO 14 0 (SH, _) = true from m_isO_of (by decide +kernel)) (Nat.le_of_ble_eq_true rfl) rfl rfl (ok_x_refuse X (d + 4) F _ _ _ _ hc5) ?_
        obtain ⟨rfl, rfl⟩ := m_some h
        exact m_R_iret (by decide) (m_opb_of (ins := .ireturn) (len := 1) (tag := 1) (a := 0) (b := 0) (c := 0) (q := 0) (by decide +kernel)) (Or.inl rfl)
      · refine m_R_1 (by decide) (m_opb_of (ins := .if_icmp .le 10) (len := 3) (tag := 0) (a := 36) (b := 0) (c := 0) (q := 0) (by decide +kernel)) (if_neg c1368) ?_
        exact ok_x_knew_29 X d F _ _ _ _ _ _ h
def f_m_knew_22 (F : Nat)    (m : mM) : Option (Int32 × mM) := ((f_m_refuse F (-3 : Int32) m).bind fun q8 => some (q8.1, q8.2))
theorem ok_m_knew_22 (X : mX) (d F : Nat) : ∀  (w1 : Option Value) (w2 : Option Value) (w3 : Option Value) (w4 : Option Value) (m : mM) (r : Int32) (m' : mM), f_m_knew_22 F  m = some (r, m') → m_R X (d + 3) 323 22 [some (.ref 304), w1, w2, w3, w4] [] (SH, m) (some (.int r), (SH, m')) := by
  intro w1 w2 w3 w4 m r m' h
  unfold f_m_knew_22 at h
  refine m_R_sg (by decide) [(.aload_n 0, 1, 0, 0, 0, 0, 0), (.bipush (-3), 2, 0, 3, 1, 0, 0)] (by decide +kernel) (show m_sgl X _ _ _ _ _ = some (25, [some (.ref 304), w1, w2, w3, w4], [.int (-3 : Int32), .ref 304], (SH, m.1, m.2)) from rfl) ?_
  obtain ⟨q8, hc8, h⟩ := Option.bind_eq_some_iff.mp h
  refine m_R_cV (v := (some (.int q8.1))) (h1 := (SH, q8.2)) (rest := []) (lo' := [some (.ref 304), some (.int (-3 : Int32))]) (ml := 2) (k0 := 304) (by decide) (Or.inl rfl) (m_opb_of (ins := .invokevirtual 61) (len := 3) (tag := 5) (a := 202) (b := 1) (c := 0) (q := 1593) (by decide +kernel)) (by decide +kernel) rfl (show m_isO 202 304 (SH, _) = true from m_isO_of (by decide +kernel)) (Nat.le_of_ble_eq_true rfl) rfl rfl (ok_m_refuse X (d + 2) F _ _ _ _ hc8) ?_
  obtain ⟨rfl, rfl⟩ := m_some h
  exact m_R_iret (by decide) (m_opb_of (ins := .ireturn) (len := 1) (tag := 1) (a := 0) (b := 0) (c := 0) (q := 0) (by decide +kernel)) (Or.inl rfl)
def f_m_knew_86 (F : Nat)   (s0 : Int32) (m : mM) : Option (Int32 × mM) := some (s0, m)
theorem ok_m_knew_86 (X : mX) (d F : Nat) : ∀ (s0 : Int32) (w0 : Option Value) (w1 : Option Value) (w2 : Option Value) (w3 : Option Value) (w4 : Option Value) (m : mM) (r : Int32) (m' : mM), f_m_knew_86 F s0 m = some (r, m') → m_R X (d + 3) 323 86 [w0, w1, w2, w3, w4] [.int s0] (SH, m) (some (.int r), (SH, m')) := by
  intro s0 w0 w1 w2 w3 w4 m r m' h
  unfold f_m_knew_86 at h
  obtain ⟨rfl, rfl⟩ := m_some h
  exact m_R_iret (by decide) (m_opb_of (ins := .ireturn) (len := 1) (tag := 1) (a := 0) (b := 0) (c := 0) (q := 0) (by decide +kernel)) (Or.inl rfl)
def f_m_knew_74 (F : Nat)   (v4 : Int32) (m : mM) : Option (Int32 × mM) := f_m_knew_86 F v4 m
theorem ok_m_knew_74 (X : mX) (d F : Nat) : ∀ (v4 : Int32) (w0 : Option Value) (w1 : Option Value) (w2 : Option Value) (w3 : Option Value) (m : mM) (r : Int32) (m' : mM), f_m_knew_74 F v4 m = some (r, m') → m_R X (d + 3) 323 74 [w0, w1, w2, w3, some (.int v4)] [] (SH, m) (some (.int r), (SH, m')) := by
  intro v4 w0 w1 w2 w3 m r m' h
  unfold f_m_knew_74 at h
  refine m_R_sg (by decide) [(.iload 4, 2, 0, 4, 0, 0, 0), (.goto 10, 3, 0, 86, 0, 0, 0)] (by decide +kernel) (show m_sgl X _ _ _ _ _ = some (86, [w0, w1, w2, w3, some (.int v4)], [.int v4], (SH, m.1, m.2)) from rfl) ?_
  exact ok_m_knew_86 X d F _ _ _ _ _ _ _ _ _ h
def f_m_knew (F : Nat)   (v1 : Int32) (v2 : Int32) (v3 : Int32) (m : mM) : Option (Int32 × mM) := ((f_m_isHouse F v1 m).bind fun q1 => (if q1.1 = 0 then f_m_knew_22 F q1.2 else ((f_m_in F v3 (0 : Int32) (q1.2.1 305 (0 : Int32).toNatClampNeg) q1.2).bind fun q2 => (if q2.1 = 0 then f_m_knew_22 F q2.2 else ((f_m_in F v2 (0 : Int32) (2 : Int32) q2.2).bind fun q3 => (if q3.1 = 0 then ((f_m_refuse F (-7 : Int32) q3.2).bind fun q4 => some (q4.1, q4.2)) else (if v2 = 0 then ((f_m_heardOf F v1 v3 q3.2).bind fun q5 => some (q5.1, q5.2)) else ((f_m_sheetOf F v1 v3 q3.2).bind fun q6 => (if v2 = (1 : Int32) then f_m_knew_74 F q6.1 q6.2 else (if 0 ≤ q6.1 then ((f_m_shown F q6.1 (5 : Int32) q6.2).bind fun q7 => f_m_knew_86 F q7.1 q7.2) else f_m_knew_74 F q6.1 q6.2))))))))))
theorem ok_m_knew (X : mX) (d F : Nat) : ∀ (v1 : Int32) (v2 : Int32) (v3 : Int32)  (m : mM) (r : Int32) (m' : mM), f_m_knew F v1 v2 v3 m = some (r, m') → m_R X (d + 3) 323 0 [some (.ref 304), some (.int v1), some (.int v2), some (.int v3), none] [] (SH, m) (some (.int r), (SH, m')) := by
  intro v1 v2 v3 m r m' h
  unfold f_m_knew at h
  refine m_R_sg (by decide) [(.aload_n 0, 1, 0, 0, 0, 0, 0), (.iload_n 1, 1, 0, 1, 0, 0, 0)] (by decide +kernel) (show m_sgl X _ _ _ _ _ = some (2, [some (.ref 304), some (.int v1), some (.int v2), some (.int v3), none], [.int v1, .ref 304], (SH, m.1, m.2)) from rfl) ?_
  obtain ⟨q1, hc1, h⟩ := Option.bind_eq_some_iff.mp h
  refine m_R_cV (v := (some (.int q1.1))) (h1 := (SH, q1.2)) (rest := []) (lo' := [some (.ref 304), some (.int v1)]) (ml := 2) (k0 := 304) (by decide) (Or.inl rfl) (m_opb_of (ins := .invokevirtual 77) (len := 3) (tag := 5) (a := 210) (b := 1) (c := 0) (q := 1625) (by decide +kernel)) (by decide +kernel) rfl (show m_isO 210 304 (SH, _) = true from m_isO_of (by decide +kernel)) (Nat.le_of_ble_eq_true rfl) rfl rfl (ok_m_isHouse X (d + 1) F _ _ _ _ hc1) ?_
  rcases m_ite h with ⟨c1369, h⟩ | ⟨c1369, h⟩
  · refine m_R_1 (by decide) (m_opb_of (ins := .ifCond .eq 17) (len := 3) (tag := 0) (a := 22) (b := 0) (c := 0) (q := 0) (by decide +kernel)) (if_pos c1369) ?_
    exact ok_m_knew_22 X d F _ _ _ _ _ _ _ h
  · refine m_R_1 (by decide) (m_opb_of (ins := .ifCond .eq 17) (len := 3) (tag := 0) (a := 22) (b := 0) (c := 0) (q := 0) (by decide +kernel)) (if_neg c1369) ?_
    refine m_R_sg (by decide) [(.iload_n 3, 1, 0, 3, 0, 0, 0), (.iconst 0, 1, 0, 0, 0, 0, 0), (.aload_n 0, 1, 0, 0, 0, 0, 0), (.getfield 13, 3, 0, 12, 1, 3, 1493), (.iconst 0, 1, 0, 0, 0, 0, 0)] (by decide +kernel) (show m_sgl X _ _ _ _ _ = some (15, [some (.ref 304), some (.int v1), some (.int v2), some (.int v3), none], [.int (0 : Int32), .ref 305, .int (0 : Int32), .int v3], (SH, q1.2.1, q1.2.2)) from rfl) ?_
    refine m_R_1 (by decide) (m_opb_of (ins := .iaload) (len := 1) (tag := 0) (a := 0) (b := 0) (c := 0) (q := 0) (by decide +kernel)) (m_s_iald sh_305 (by decide) (show ¬ ((0 : Int32) < 0 ∨ 9732 ≤ (0 : Int32).toNatClampNeg) by decide)) ?_
    obtain ⟨q2, hc2, h⟩ := Option.bind_eq_some_iff.mp h
    refine m_R_cS (v := (some (.int q2.1))) (h1 := (SH, q2.2)) (rest := []) (lo' := [some (.int v3), some (.int (0 : Int32)), some (.int (q1.2.1 305 (0 : Int32).toNatClampNeg))]) (ml := 3) (by decide) (m_opb_of (ins := .invokestatic 57) (len := 3) (tag := 4) (a := 201) (b := 3) (c := 0) (q := 1590) (by decide +kernel)) (by decide +kernel) (Nat.le_of_ble_eq_true rfl) rfl (Nat.le_of_ble_eq_true rfl) rfl rfl (ok_m_in X (d + 2) F _ _ _ _ _ _ hc2) ?_
    rcases m_ite h with ⟨c1370, h⟩ | ⟨c1370, h⟩
    · refine m_R_1 (by decide) (m_opb_of (ins := .ifCond .ne 10) (len := 3) (tag := 0) (a := 29) (b := 0) (c := 0) (q := 0) (by decide +kernel)) (if_pos c1370) ?_
      exact ok_m_knew_22 X d F _ _ _ _ _ _ _ h
    · refine m_R_1 (by decide) (m_opb_of (ins := .ifCond .ne 10) (len := 3) (tag := 0) (a := 29) (b := 0) (c := 0) (q := 0) (by decide +kernel)) (if_neg c1370) ?_
      refine m_R_sg (by decide) [(.iload_n 2, 1, 0, 2, 0, 0, 0), (.iconst 0, 1, 0, 0, 0, 0, 0), (.iconst 2, 1, 0, 2, 0, 0, 0)] (by decide +kernel) (show m_sgl X _ _ _ _ _ = some (32, [some (.ref 304), some (.int v1), some (.int v2), some (.int v3), none], [.int (2 : Int32), .int (0 : Int32), .int v2], (SH, q2.2.1, q2.2.2)) from rfl) ?_
      obtain ⟨q3, hc3, h⟩ := Option.bind_eq_some_iff.mp h
      refine m_R_cS (v := (some (.int q3.1))) (h1 := (SH, q3.2)) (rest := []) (lo' := [some (.int v2), some (.int (0 : Int32)), some (.int (2 : Int32))]) (ml := 3) (by decide) (m_opb_of (ins := .invokestatic 57) (len := 3) (tag := 4) (a := 201) (b := 3) (c := 0) (q := 1590) (by decide +kernel)) (by decide +kernel) (Nat.le_of_ble_eq_true rfl) rfl (Nat.le_of_ble_eq_true rfl) rfl rfl (ok_m_in X (d + 2) F _ _ _ _ _ _ hc3) ?_
      rcases m_ite h with ⟨c1371, h⟩ | ⟨c1371, h⟩
      · refine m_R_1 (by decide) (m_opb_of (ins := .ifCond .ne 10) (len := 3) (tag := 0) (a := 45) (b := 0) (c := 0) (q := 0) (by decide +kernel)) (if_pos c1371) ?_
        refine m_R_sg (by decide) [(.aload_n 0, 1, 0, 0, 0, 0, 0), (.bipush (-7), 2, 0, 7, 1, 0, 0)] (by decide +kernel) (show m_sgl X _ _ _ _ _ = some (41, [some (.ref 304), some (.int v1), some (.int v2), some (.int v3), none], [.int (-7 : Int32), .ref 304], (SH, q3.2.1, q3.2.2)) from rfl) ?_
        obtain ⟨q4, hc4, h⟩ := Option.bind_eq_some_iff.mp h
        refine m_R_cV (v := (some (.int q4.1))) (h1 := (SH, q4.2)) (rest := []) (lo' := [some (.ref 304), some (.int (-7 : Int32))]) (ml := 2) (k0 := 304) (by decide) (Or.inl rfl) (m_opb_of (ins := .invokevirtual 61) (len := 3) (tag := 5) (a := 202) (b := 1) (c := 0) (q := 1593) (by decide +kernel)) (by decide +kernel) rfl (show m_isO 202 304 (SH, _) = true from m_isO_of (by decide +kernel)) (Nat.le_of_ble_eq_true rfl) rfl rfl (ok_m_refuse X (d + 2) F _ _ _ _ hc4) ?_
        obtain ⟨rfl, rfl⟩ := m_some h
        exact m_R_iret (by decide) (m_opb_of (ins := .ireturn) (len := 1) (tag := 1) (a := 0) (b := 0) (c := 0) (q := 0) (by decide +kernel)) (Or.inl rfl)
      · refine m_R_1 (by decide) (m_opb_of (ins := .ifCond .ne 10) (len := 3) (tag := 0) (a := 45) (b := 0) (c := 0) (q := 0) (by decide +kernel)) (if_neg c1371) ?_
        refine m_R_sg (by decide) [(.iload_n 2, 1, 0, 2, 0, 0, 0)] (by decide +kernel) (show m_sgl X _ _ _ _ _ = some (46, [some (.ref 304), some (.int v1), some (.int v2), some (.int v3), none], [.int v2], (SH, q3.2.1, q3.2.2)) from rfl) ?_
        rcases m_ite h with ⟨c1372, h⟩ | ⟨c1372, h⟩
        · refine m_R_1 (by decide) (m_opb_of (ins := .ifCond .ne 10) (len := 3) (tag := 0) (a := 56) (b := 0) (c := 0) (q := 0) (by decide +kernel)) (if_pos c1372) ?_
          refine m_R_sg (by decide) [(.aload_n 0, 1, 0, 0, 0, 0, 0), (.iload_n 1, 1, 0, 1, 0, 0, 0), (.iload_n 3, 1, 0, 3, 0, 0, 0)] (by decide +kernel) (show m_sgl X _ _ _ _ _ = some (52, [some (.ref 304), some (.int v1), some (.int v2), some (.int v3), none], [.int v3, .int v1, .ref 304], (SH, q3.2.1, q3.2.2)) from rfl) ?_
          obtain ⟨q5, hc5, h⟩ := Option.bind_eq_some_iff.mp h
          refine m_R_cV (v := (some (.int q5.1))) (h1 := (SH, q5.2)) (rest := []) (lo' := [some (.ref 304), some (.int v1), some (.int v3), none, none, none]) (ml := 6) (k0 := 304) (by decide) (Or.inl rfl) (m_opb_of (ins := .invokevirtual 393) (len := 3) (tag := 5) (a := 317) (b := 2) (c := 0) (q := 2085) (by decide +kernel)) (by decide +kernel) rfl (show m_isO 317 304 (SH, _) = true from m_isO_of (by decide +kernel)) (Nat.le_of_ble_eq_true rfl) rfl rfl (ok_m_heardOf X (d + 0) F _ _ _ _ _ hc5) ?_
          obtain ⟨rfl, rfl⟩ := m_some h
          exact m_R_iret (by decide) (m_opb_of (ins := .ireturn) (len := 1) (tag := 1) (a := 0) (b := 0) (c := 0) (q := 0) (by decide +kernel)) (Or.inl rfl)
        · refine m_R_1 (by decide) (m_opb_of (ins := .ifCond .ne 10) (len := 3) (tag := 0) (a := 56) (b := 0) (c := 0) (q := 0) (by decide +kernel)) (if_neg c1372) ?_
          refine m_R_sg (by decide) [(.aload_n 0, 1, 0, 0, 0, 0, 0), (.iload_n 1, 1, 0, 1, 0, 0, 0), (.iload_n 3, 1, 0, 3, 0, 0, 0)] (by decide +kernel) (show m_sgl X _ _ _ _ _ = some (59, [some (.ref 304), some (.int v1), some (.int v2), some (.int v3), none], [.int v3, .int v1, .ref 304], (SH, q3.2.1, q3.2.2)) from rfl) ?_
          obtain ⟨q6, hc6, h⟩ := Option.bind_eq_some_iff.mp h
          refine m_R_cV (v := (some (.int q6.1))) (h1 := (SH, q6.2)) (rest := []) (lo' := [some (.ref 304), some (.int v1), some (.int v3), none]) (ml := 4) (k0 := 304) (by decide) (Or.inl rfl) (m_opb_of (ins := .invokevirtual 396) (len := 3) (tag := 5) (a := 318) (b := 2) (c := 0) (q := 2089) (by decide +kernel)) (by decide +kernel) rfl (show m_isO 318 304 (SH, _) = true from m_isO_of (by decide +kernel)) (Nat.le_of_ble_eq_true rfl) rfl rfl (ok_m_sheetOf X (d + 1) F _ _ _ _ _ hc6) ?_
          refine m_R_sg (by decide) [(.istore 4, 2, 0, 4, 0, 0, 0), (.iload_n 2, 1, 0, 2, 0, 0, 0), (.iconst 1, 1, 0, 1, 0, 0, 0)] (by decide +kernel) (show m_sgl X _ _ _ _ _ = some (66, [some (.ref 304), some (.int v1), some (.int v2), some (.int v3), some (.int q6.1)], [.int (1 : Int32), .int v2], (SH, q6.2.1, q6.2.2)) from rfl) ?_
          rcases m_ite h with ⟨c1373, h⟩ | ⟨c1373, h⟩
          · refine m_R_1 (by decide) (m_opb_of (ins := .if_icmp .eq 8) (len := 3) (tag := 0) (a := 74) (b := 0) (c := 0) (q := 0) (by decide +kernel)) (if_pos c1373) ?_
            exact ok_m_knew_74 X d F _ _ _ _ _ _ _ _ h
          · refine m_R_1 (by decide) (m_opb_of (ins := .if_icmp .eq 8) (len := 3) (tag := 0) (a := 74) (b := 0) (c := 0) (q := 0) (by decide +kernel)) (if_neg c1373) ?_
            refine m_R_sg (by decide) [(.iload 4, 2, 0, 4, 0, 0, 0)] (by decide +kernel) (show m_sgl X _ _ _ _ _ = some (71, [some (.ref 304), some (.int v1), some (.int v2), some (.int v3), some (.int q6.1)], [.int q6.1], (SH, q6.2.1, q6.2.2)) from rfl) ?_
            rcases m_ite h with ⟨c1374, h⟩ | ⟨c1374, h⟩
            · refine m_R_1 (by decide) (m_opb_of (ins := .ifCond .ge 8) (len := 3) (tag := 0) (a := 79) (b := 0) (c := 0) (q := 0) (by decide +kernel)) (if_pos c1374) ?_
              refine m_R_sg (by decide) [(.aload_n 0, 1, 0, 0, 0, 0, 0), (.iload 4, 2, 0, 4, 0, 0, 0), (.iconst 5, 1, 0, 5, 0, 0, 0)] (by decide +kernel) (show m_sgl X _ _ _ _ _ = some (83, [some (.ref 304), some (.int v1), some (.int v2), some (.int v3), some (.int q6.1)], [.int (5 : Int32), .int q6.1, .ref 304], (SH, q6.2.1, q6.2.2)) from rfl) ?_
              obtain ⟨q7, hc7, h⟩ := Option.bind_eq_some_iff.mp h
              refine m_R_cV (v := (some (.int q7.1))) (h1 := (SH, q7.2)) (rest := []) (lo' := [some (.ref 304), some (.int q6.1), some (.int (5 : Int32))]) (ml := 3) (k0 := 304) (by decide) (Or.inl rfl) (m_opb_of (ins := .invokevirtual 399) (len := 3) (tag := 5) (a := 319) (b := 2) (c := 0) (q := 2093) (by decide +kernel)) (by decide +kernel) rfl (show m_isO 319 304 (SH, _) = true from m_isO_of (by decide +kernel)) (Nat.le_of_ble_eq_true rfl) rfl rfl (ok_m_shown X (d + 2) F _ _ _ _ _ hc7) ?_
              exact ok_m_knew_86 X d F _ _ _ _ _ _ _ _ _ h
            · refine m_R_1 (by decide) (m_opb_of (ins := .ifCond .ge 8) (len := 3) (tag := 0) (a := 79) (b := 0) (c := 0) (q := 0) (by decide +kernel)) (if_neg c1374) ?_
              exact ok_m_knew_74 X d F _ _ _ _ _ _ _ _ h
def f_x_count_267 (F : Nat)   (s0 : Int32) (m : mM) : Option (Int32 × mM) := some (s0, m)
theorem ok_x_count_267 (X : mX) (d F : Nat) : ∀ (s0 : Int32) (w0 : Option Value) (w1 : Option Value) (m : mM) (r : Int32) (m' : mM), f_x_count_267 F s0 m = some (r, m') → m_R X (d + 3) 168 267 [w0, w1] [.int s0] (SH, m) (some (.int r), (SH, m')) := by
  intro s0 w0 w1 m r m' h
  unfold f_x_count_267 at h
  obtain ⟨rfl, rfl⟩ := m_some h
  exact m_R_iret (by decide) (m_opb_of (ins := .ireturn) (len := 1) (tag := 1) (a := 0) (b := 0) (c := 0) (q := 0) (by decide +kernel)) (Or.inl rfl)
def f_x_count (F : Nat)   (v1 : Int32) (m : mM) : Option (Int32 × mM) := (if v1 = (0 : Int32) then some ((m.1 16 9), m) else (if v1 = (1 : Int32) then some ((m.1 17 1), m) else (if v1 = (2 : Int32) then some ((m.1 19 11), m) else (if v1 = (3 : Int32) then some ((m.1 17 2), m) else (if v1 = (4 : Int32) then some ((m.1 31 14), m) else (if v1 = (5 : Int32) then some ((m.1 46 5), m) else (if v1 = (6 : Int32) then some ((m.1 16 14), m) else (if v1 = (7 : Int32) then some ((m.1 114 2), m) else (if v1 = (8 : Int32) then some (((10 : Int32) * (m.1 55 9)), m) else (if v1 = (9 : Int32) then some ((m.1 55 10), m) else (if v1 = (10 : Int32) then some ((m.1 55 11), m) else (if v1 = (11 : Int32) then some ((m.1 55 12), m) else (if v1 = (12 : Int32) then some ((m.1 16 12), m) else (if v1 = (13 : Int32) then some ((m.1 19 12), m) else (if v1 = (14 : Int32) then some ((m.1 16 13), m) else (if v1 = (15 : Int32) then some ((m.1 16 10), m) else (if v1 = (16 : Int32) then ((f_World_lawSays F (6 : Int32) (-1 : Int32) m).bind fun q1 => (if q1.1 = 0 then f_x_count_267 F (0 : Int32) q1.2 else f_x_count_267 F (1 : Int32) q1.2)) else (if v1 = (17 : Int32) then ((f_World_reserve F m).bind fun q2 => some (q2.1, q2.2)) else ((f_x_refuse F (-7 : Int32) m).bind fun q3 => some (q3.1, q3.2))))))))))))))))))))
theorem ok_x_count (X : mX) (d F : Nat) : ∀ (v1 : Int32)  (m : mM) (r : Int32) (m' : mM), f_x_count F v1 m = some (r, m') → m_R X (d + 3) 168 0 [some (.ref 0), some (.int v1)] [] (SH, m) (some (.int r), (SH, m')) := by
  intro v1 m r m' h
  unfold f_x_count at h
  refine m_R_sg (by decide) [(.iload_n 1, 1, 0, 1, 0, 0, 0)] (by decide +kernel) (show m_sgl X _ _ _ _ _ = some (1, [some (.ref 0), some (.int v1)], [.int v1], (SH, m.1, m.2)) from rfl) ?_
  rcases m_ite h with ⟨c0, h⟩ | ⟨d0, h⟩
  · refine m_R_1 (by decide) (m_opb_of (ins := .tableswitch 275 0 17 #[87, 95, 106, 117, 128, 139, 150, 158, 166, 180, 191, 202, 213, 221, 232, 240, 248, 267]) (len := 87) (tag := 0) (a := 0) (b := 0) (c := 0) (q := 0) (by decide +kernel)) (m_s_sw (by rw [c0]; decide) (by rw [c0]; rfl) (by decide) (t := 88) rfl) ?_
    refine m_R_sg (by decide) [(.aload_n 0, 1, 0, 0, 0, 0, 0), (.getfield 28, 3, 0, 11, 2, 3, 632), (.getfield 255, 3, 0, 10, 9, 0, 521)] (by decide +kernel) (show m_sgl X _ _ _ _ _ = some (95, [some (.ref 0), some (.int v1)], [.int (m.1 16 9)], (SH, m.1, m.2)) from rfl) ?_
    obtain ⟨rfl, rfl⟩ := m_some h
    exact m_R_iret (by decide) (m_opb_of (ins := .ireturn) (len := 1) (tag := 1) (a := 0) (b := 0) (c := 0) (q := 0) (by decide +kernel)) (Or.inl rfl)
  rcases m_ite h with ⟨c0, h⟩ | ⟨d1, h⟩
  · refine m_R_1 (by decide) (m_opb_of (ins := .tableswitch 275 0 17 #[87, 95, 106, 117, 128, 139, 150, 158, 166, 180, 191, 202, 213, 221, 232, 240, 248, 267]) (len := 87) (tag := 0) (a := 0) (b := 0) (c := 0) (q := 0) (by decide +kernel)) (m_s_sw (by rw [c0]; decide) (by rw [c0]; rfl) (by decide) (t := 96) rfl) ?_
    refine m_R_sg (by decide) [(.aload_n 0, 1, 0, 0, 0, 0, 0), (.getfield 28, 3, 0, 11, 2, 3, 632), (.getfield 67, 3, 0, 10, 0, 3, 504), (.getfield 71, 3, 0, 2, 1, 0, 233)] (by decide +kernel) (show m_sgl X _ _ _ _ _ = some (106, [some (.ref 0), some (.int v1)], [.int (m.1 17 1)], (SH, m.1, m.2)) from rfl) ?_
    obtain ⟨rfl, rfl⟩ := m_some h
    exact m_R_iret (by decide) (m_opb_of (ins := .ireturn) (len := 1) (tag := 1) (a := 0) (b := 0) (c := 0) (q := 0) (by decide +kernel)) (Or.inl rfl)
  rcases m_ite h with ⟨c0, h⟩ | ⟨d2, h⟩
  · refine m_R_1 (by decide) (m_opb_of (ins := .tableswitch 275 0 17 #[87, 95, 106, 117, 128, 139, 150, 158, 166, 180, 191, 202, 213, 221, 232, 240, 248, 267]) (len := 87) (tag := 0) (a := 0) (b := 0) (c := 0) (q := 0) (by decide +kernel)) (m_s_sw (by rw [c0]; decide) (by rw [c0]; rfl) (by decide) (t := 107) rfl) ?_
    refine m_R_sg (by decide) [(.aload_n 0, 1, 0, 0, 0, 0, 0), (.getfield 28, 3, 0, 11, 2, 3, 632), (.getfield 95, 3, 0, 10, 1, 3, 507), (.getfield 99, 3, 0, 1, 11, 0, 279)] (by decide +kernel) (show m_sgl X _ _ _ _ _ = some (117, [some (.ref 0), some (.int v1)], [.int (m.1 19 11)], (SH, m.1, m.2)) from rfl) ?_
    obtain ⟨rfl, rfl⟩ := m_some h
    exact m_R_iret (by decide) (m_opb_of (ins := .ireturn) (len := 1) (tag := 1) (a := 0) (b := 0) (c := 0) (q := 0) (by decide +kernel)) (Or.inl rfl)
  rcases m_ite h with ⟨c0, h⟩ | ⟨d3, h⟩
  · refine m_R_1 (by decide) (m_opb_of (ins := .tableswitch 275 0 17 #[87, 95, 106, 117, 128, 139, 150, 158, 166, 180, 191, 202, 213, 221, 232, 240, 248, 267]) (len := 87) (tag := 0) (a := 0) (b := 0) (c := 0) (q := 0) (by decide +kernel)) (m_s_sw (by rw [c0]; decide) (by rw [c0]; rfl) (by decide) (t := 118) rfl) ?_
    refine m_R_sg (by decide) [(.aload_n 0, 1, 0, 0, 0, 0, 0), (.getfield 28, 3, 0, 11, 2, 3, 632), (.getfield 67, 3, 0, 10, 0, 3, 504), (.getfield 84, 3, 0, 2, 2, 0, 235)] (by decide +kernel) (show m_sgl X _ _ _ _ _ = some (128, [some (.ref 0), some (.int v1)], [.int (m.1 17 2)], (SH, m.1, m.2)) from rfl) ?_
    obtain ⟨rfl, rfl⟩ := m_some h
    exact m_R_iret (by decide) (m_opb_of (ins := .ireturn) (len := 1) (tag := 1) (a := 0) (b := 0) (c := 0) (q := 0) (by decide +kernel)) (Or.inl rfl)
  rcases m_ite h with ⟨c0, h⟩ | ⟨d4, h⟩
  · refine m_R_1 (by decide) (m_opb_of (ins := .tableswitch 275 0 17 #[87, 95, 106, 117, 128, 139, 150, 158, 166, 180, 191, 202, 213, 221, 232, 240, 248, 267]) (len := 87) (tag := 0) (a := 0) (b := 0) (c := 0) (q := 0) (by decide +kernel)) (m_s_sw (by rw [c0]; decide) (by rw [c0]; rfl) (by decide) (t := 129) rfl) ?_
    refine m_R_sg (by decide) [(.aload_n 0, 1, 0, 0, 0, 0, 0), (.getfield 28, 3, 0, 11, 2, 3, 632), (.getfield 146, 3, 0, 10, 2, 3, 510), (.getfield 411, 3, 0, 4, 14, 0, 362)] (by decide +kernel) (show m_sgl X _ _ _ _ _ = some (139, [some (.ref 0), some (.int v1)], [.int (m.1 31 14)], (SH, m.1, m.2)) from rfl) ?_
    obtain ⟨rfl, rfl⟩ := m_some h
    exact m_R_iret (by decide) (m_opb_of (ins := .ireturn) (len := 1) (tag := 1) (a := 0) (b := 0) (c := 0) (q := 0) (by decide +kernel)) (Or.inl rfl)
  rcases m_ite h with ⟨c0, h⟩ | ⟨d5, h⟩
  · refine m_R_1 (by decide) (m_opb_of (ins := .tableswitch 275 0 17 #[87, 95, 106, 117, 128, 139, 150, 158, 166, 180, 191, 202, 213, 221, 232, 240, 248, 267]) (len := 87) (tag := 0) (a := 0) (b := 0) (c := 0) (q := 0) (by decide +kernel)) (m_s_sw (by rw [c0]; decide) (by rw [c0]; rfl) (by decide) (t := 140) rfl) ?_
    refine m_R_sg (by decide) [(.aload_n 0, 1, 0, 0, 0, 0, 0), (.getfield 28, 3, 0, 11, 2, 3, 632), (.getfield 318, 3, 0, 10, 3, 3, 512), (.getfield 322, 3, 0, 9, 5, 0, 419)] (by decide +kernel) (show m_sgl X _ _ _ _ _ = some (150, [some (.ref 0), some (.int v1)], [.int (m.1 46 5)], (SH, m.1, m.2)) from rfl) ?_
    obtain ⟨rfl, rfl⟩ := m_some h
    exact m_R_iret (by decide) (m_opb_of (ins := .ireturn) (len := 1) (tag := 1) (a := 0) (b := 0) (c := 0) (q := 0) (by decide +kernel)) (Or.inl rfl)
  rcases m_ite h with ⟨c0, h⟩ | ⟨d6, h⟩
  · refine m_R_1 (by decide) (m_opb_of (ins := .tableswitch 275 0 17 #[87, 95, 106, 117, 128, 139, 150, 158, 166, 180, 191, 202, 213, 221, 232, 240, 248, 267]) (len := 87) (tag := 0) (a := 0) (b := 0) (c := 0) (q := 0) (by decide +kernel)) (m_s_sw (by rw [c0]; decide) (by rw [c0]; rfl) (by decide) (t := 151) rfl) ?_
    refine m_R_sg (by decide) [(.aload_n 0, 1, 0, 0, 0, 0, 0), (.getfield 28, 3, 0, 11, 2, 3, 632), (.getfield 372, 3, 0, 10, 14, 0, 531)] (by decide +kernel) (show m_sgl X _ _ _ _ _ = some (158, [some (.ref 0), some (.int v1)], [.int (m.1 16 14)], (SH, m.1, m.2)) from rfl) ?_
    obtain ⟨rfl, rfl⟩ := m_some h
    exact m_R_iret (by decide) (m_opb_of (ins := .ireturn) (len := 1) (tag := 1) (a := 0) (b := 0) (c := 0) (q := 0) (by decide +kernel)) (Or.inl rfl)
  rcases m_ite h with ⟨c0, h⟩ | ⟨d7, h⟩
  · refine m_R_1 (by decide) (m_opb_of (ins := .tableswitch 275 0 17 #[87, 95, 106, 117, 128, 139, 150, 158, 166, 180, 191, 202, 213, 221, 232, 240, 248, 267]) (len := 87) (tag := 0) (a := 0) (b := 0) (c := 0) (q := 0) (by decide +kernel)) (m_s_sw (by rw [c0]; decide) (by rw [c0]; rfl) (by decide) (t := 159) rfl) ?_
    refine m_R_sg (by decide) [(.aload_n 0, 1, 0, 0, 0, 0, 0), (.getfield 49, 3, 0, 11, 6, 3, 636), (.getfield 365, 3, 0, 5, 2, 0, 595)] (by decide +kernel) (show m_sgl X _ _ _ _ _ = some (166, [some (.ref 0), some (.int v1)], [.int (m.1 114 2)], (SH, m.1, m.2)) from rfl) ?_
    obtain ⟨rfl, rfl⟩ := m_some h
    exact m_R_iret (by decide) (m_opb_of (ins := .ireturn) (len := 1) (tag := 1) (a := 0) (b := 0) (c := 0) (q := 0) (by decide +kernel)) (Or.inl rfl)
  rcases m_ite h with ⟨c0, h⟩ | ⟨d8, h⟩
  · refine m_R_1 (by decide) (m_opb_of (ins := .tableswitch 275 0 17 #[87, 95, 106, 117, 128, 139, 150, 158, 166, 180, 191, 202, 213, 221, 232, 240, 248, 267]) (len := 87) (tag := 0) (a := 0) (b := 0) (c := 0) (q := 0) (by decide +kernel)) (m_s_sw (by rw [c0]; decide) (by rw [c0]; rfl) (by decide) (t := 167) rfl) ?_
    refine m_R_sg (by decide) [(.bipush 10, 2, 0, 10, 0, 0, 0), (.aload_n 0, 1, 0, 0, 0, 0, 0), (.getfield 28, 3, 0, 11, 2, 3, 632), (.getfield 134, 3, 0, 10, 8, 3, 519), (.getfield 414, 3, 0, 3, 9, 0, 469), (.imul, 1, 0, 0, 0, 0, 0)] (by decide +kernel) (show m_sgl X _ _ _ _ _ = some (180, [some (.ref 0), some (.int v1)], [.int ((10 : Int32) * (m.1 55 9))], (SH, m.1, m.2)) from rfl) ?_
    obtain ⟨rfl, rfl⟩ := m_some h
    exact m_R_iret (by decide) (m_opb_of (ins := .ireturn) (len := 1) (tag := 1) (a := 0) (b := 0) (c := 0) (q := 0) (by decide +kernel)) (Or.inl rfl)
  rcases m_ite h with ⟨c0, h⟩ | ⟨d9, h⟩
  · refine m_R_1 (by decide) (m_opb_of (ins := .tableswitch 275 0 17 #[87, 95, 106, 117, 128, 139, 150, 158, 166, 180, 191, 202, 213, 221, 232, 240, 248, 267]) (len := 87) (tag := 0) (a := 0) (b := 0) (c := 0) (q := 0) (by decide +kernel)) (m_s_sw (by rw [c0]; decide) (by rw [c0]; rfl) (by decide) (t := 181) rfl) ?_
    refine m_R_sg (by decide) [(.aload_n 0, 1, 0, 0, 0, 0, 0), (.getfield 28, 3, 0, 11, 2, 3, 632), (.getfield 134, 3, 0, 10, 8, 3, 519), (.getfield 192, 3, 0, 3, 10, 0, 471)] (by decide +kernel) (show m_sgl X _ _ _ _ _ = some (191, [some (.ref 0), some (.int v1)], [.int (m.1 55 10)], (SH, m.1, m.2)) from rfl) ?_
    obtain ⟨rfl, rfl⟩ := m_some h
    exact m_R_iret (by decide) (m_opb_of (ins := .ireturn) (len := 1) (tag := 1) (a := 0) (b := 0) (c := 0) (q := 0) (by decide +kernel)) (Or.inl rfl)
  rcases m_ite h with ⟨c0, h⟩ | ⟨d10, h⟩
  · refine m_R_1 (by decide) (m_opb_of (ins := .tableswitch 275 0 17 #[87, 95, 106, 117, 128, 139, 150, 158, 166, 180, 191, 202, 213, 221, 232, 240, 248, 267]) (len := 87) (tag := 0) (a := 0) (b := 0) (c := 0) (q := 0) (by decide +kernel)) (m_s_sw (by rw [c0]; decide) (by rw [c0]; rfl) (by decide) (t := 192) rfl) ?_
    refine m_R_sg (by decide) [(.aload_n 0, 1, 0, 0, 0, 0, 0), (.getfield 28, 3, 0, 11, 2, 3, 632), (.getfield 134, 3, 0, 10, 8, 3, 519), (.getfield 195, 3, 0, 3, 11, 0, 473)] (by decide +kernel) (show m_sgl X _ _ _ _ _ = some (202, [some (.ref 0), some (.int v1)], [.int (m.1 55 11)], (SH, m.1, m.2)) from rfl) ?_
    obtain ⟨rfl, rfl⟩ := m_some h
    exact m_R_iret (by decide) (m_opb_of (ins := .ireturn) (len := 1) (tag := 1) (a := 0) (b := 0) (c := 0) (q := 0) (by decide +kernel)) (Or.inl rfl)
  rcases m_ite h with ⟨c0, h⟩ | ⟨d11, h⟩
  · refine m_R_1 (by decide) (m_opb_of (ins := .tableswitch 275 0 17 #[87, 95, 106, 117, 128, 139, 150, 158, 166, 180, 191, 202, 213, 221, 232, 240, 248, 267]) (len := 87) (tag := 0) (a := 0) (b := 0) (c := 0) (q := 0) (by decide +kernel)) (m_s_sw (by rw [c0]; decide) (by rw [c0]; rfl) (by decide) (t := 203) rfl) ?_
    refine m_R_sg (by decide) [(.aload_n 0, 1, 0, 0, 0, 0, 0), (.getfield 28, 3, 0, 11, 2, 3, 632), (.getfield 134, 3, 0, 10, 8, 3, 519), (.getfield 216, 3, 0, 3, 12, 0, 475)] (by decide +kernel) (show m_sgl X _ _ _ _ _ = some (213, [some (.ref 0), some (.int v1)], [.int (m.1 55 12)], (SH, m.1, m.2)) from rfl) ?_
    obtain ⟨rfl, rfl⟩ := m_some h
    exact m_R_iret (by decide) (m_opb_of (ins := .ireturn) (len := 1) (tag := 1) (a := 0) (b := 0) (c := 0) (q := 0) (by decide +kernel)) (Or.inl rfl)
  rcases m_ite h with ⟨c0, h⟩ | ⟨d12, h⟩
  · refine m_R_1 (by decide) (m_opb_of (ins := .tableswitch 275 0 17 #[87, 95, 106, 117, 128, 139, 150, 158, 166, 180, 191, 202, 213, 221, 232, 240, 248, 267]) (len := 87) (tag := 0) (a := 0) (b := 0) (c := 0) (q := 0) (by decide +kernel)) (m_s_sw (by rw [c0]; decide) (by rw [c0]; rfl) (by decide) (t := 214) rfl) ?_
    refine m_R_sg (by decide) [(.aload_n 0, 1, 0, 0, 0, 0, 0), (.getfield 28, 3, 0, 11, 2, 3, 632), (.getfield 417, 3, 0, 10, 12, 0, 527)] (by decide +kernel) (show m_sgl X _ _ _ _ _ = some (221, [some (.ref 0), some (.int v1)], [.int (m.1 16 12)], (SH, m.1, m.2)) from rfl) ?_
    obtain ⟨rfl, rfl⟩ := m_some h
    exact m_R_iret (by decide) (m_opb_of (ins := .ireturn) (len := 1) (tag := 1) (a := 0) (b := 0) (c := 0) (q := 0) (by decide +kernel)) (Or.inl rfl)
  rcases m_ite h with ⟨c0, h⟩ | ⟨d13, h⟩
  · refine m_R_1 (by decide) (m_opb_of (ins := .tableswitch 275 0 17 #[87, 95, 106, 117, 128, 139, 150, 158, 166, 180, 191, 202, 213, 221, 232, 240, 248, 267]) (len := 87) (tag := 0) (a := 0) (b := 0) (c := 0) (q := 0) (by decide +kernel)) (m_s_sw (by rw [c0]; decide) (by rw [c0]; rfl) (by decide) (t := 222) rfl) ?_
    refine m_R_sg (by decide) [(.aload_n 0, 1, 0, 0, 0, 0, 0), (.getfield 28, 3, 0, 11, 2, 3, 632), (.getfield 95, 3, 0, 10, 1, 3, 507), (.getfield 389, 3, 0, 1, 12, 0, 283)] (by decide +kernel) (show m_sgl X _ _ _ _ _ = some (232, [some (.ref 0), some (.int v1)], [.int (m.1 19 12)], (SH, m.1, m.2)) from rfl) ?_
    obtain ⟨rfl, rfl⟩ := m_some h
    exact m_R_iret (by decide) (m_opb_of (ins := .ireturn) (len := 1) (tag := 1) (a := 0) (b := 0) (c := 0) (q := 0) (by decide +kernel)) (Or.inl rfl)
  rcases m_ite h with ⟨c0, h⟩ | ⟨d14, h⟩
  · refine m_R_1 (by decide) (m_opb_of (ins := .tableswitch 275 0 17 #[87, 95, 106, 117, 128, 139, 150, 158, 166, 180, 191, 202, 213, 221, 232, 240, 248, 267]) (len := 87) (tag := 0) (a := 0) (b := 0) (c := 0) (q := 0) (by decide +kernel)) (m_s_sw (by rw [c0]; decide) (by rw [c0]; rfl) (by decide) (t := 233) rfl) ?_
    refine m_R_sg (by decide) [(.aload_n 0, 1, 0, 0, 0, 0, 0), (.getfield 28, 3, 0, 11, 2, 3, 632), (.getfield 180, 3, 0, 10, 13, 0, 529)] (by decide +kernel) (show m_sgl X _ _ _ _ _ = some (240, [some (.ref 0), some (.int v1)], [.int (m.1 16 13)], (SH, m.1, m.2)) from rfl) ?_
    obtain ⟨rfl, rfl⟩ := m_some h
    exact m_R_iret (by decide) (m_opb_of (ins := .ireturn) (len := 1) (tag := 1) (a := 0) (b := 0) (c := 0) (q := 0) (by decide +kernel)) (Or.inl rfl)
  rcases m_ite h with ⟨c0, h⟩ | ⟨d15, h⟩
  · refine m_R_1 (by decide) (m_opb_of (ins := .tableswitch 275 0 17 #[87, 95, 106, 117, 128, 139, 150, 158, 166, 180, 191, 202, 213, 221, 232, 240, 248, 267]) (len := 87) (tag := 0) (a := 0) (b := 0) (c := 0) (q := 0) (by decide +kernel)) (m_s_sw (by rw [c0]; decide) (by rw [c0]; rfl) (by decide) (t := 241) rfl) ?_
    refine m_R_sg (by decide) [(.aload_n 0, 1, 0, 0, 0, 0, 0), (.getfield 28, 3, 0, 11, 2, 3, 632), (.getfield 362, 3, 0, 10, 10, 0, 523)] (by decide +kernel) (show m_sgl X _ _ _ _ _ = some (248, [some (.ref 0), some (.int v1)], [.int (m.1 16 10)], (SH, m.1, m.2)) from rfl) ?_
    obtain ⟨rfl, rfl⟩ := m_some h
    exact m_R_iret (by decide) (m_opb_of (ins := .ireturn) (len := 1) (tag := 1) (a := 0) (b := 0) (c := 0) (q := 0) (by decide +kernel)) (Or.inl rfl)
  rcases m_ite h with ⟨c0, h⟩ | ⟨d16, h⟩
  · refine m_R_1 (by decide) (m_opb_of (ins := .tableswitch 275 0 17 #[87, 95, 106, 117, 128, 139, 150, 158, 166, 180, 191, 202, 213, 221, 232, 240, 248, 267]) (len := 87) (tag := 0) (a := 0) (b := 0) (c := 0) (q := 0) (by decide +kernel)) (m_s_sw (by rw [c0]; decide) (by rw [c0]; rfl) (by decide) (t := 249) rfl) ?_
    refine m_R_sg (by decide) [(.aload_n 0, 1, 0, 0, 0, 0, 0), (.getfield 28, 3, 0, 11, 2, 3, 632), (.bipush 6, 2, 0, 6, 0, 0, 0), (.iconst (-1), 1, 0, 1, 1, 0, 0)] (by decide +kernel) (show m_sgl X _ _ _ _ _ = some (256, [some (.ref 0), some (.int v1)], [.int (-1 : Int32), .int (6 : Int32), .ref 16], (SH, m.1, m.2)) from rfl) ?_
    obtain ⟨q1, hc1, h⟩ := Option.bind_eq_some_iff.mp h
    refine m_R_cV (v := (some (.int q1.1))) (h1 := (SH, q1.2)) (rest := []) (lo' := [some (.ref 16), some (.int (6 : Int32)), some (.int (-1 : Int32)), none]) (ml := 4) (k0 := 16) (by decide) (Or.inl rfl) (m_opb_of (ins := .invokevirtual 386) (len := 3) (tag := 5) (a := 39) (b := 2) (c := 0) (q := 1241) (by decide +kernel)) (by decide +kernel) rfl (show m_isO 39 16 (SH, _) = true from m_isO_of (by decide +kernel)) (Nat.le_of_ble_eq_true rfl) rfl rfl (ok_World_lawSays X (d + 0) F _ _ _ _ _ hc1) ?_
    rcases m_ite h with ⟨c1375, h⟩ | ⟨c1375, h⟩
    · refine m_R_1 (by decide) (m_opb_of (ins := .ifCond .eq 7) (len := 3) (tag := 0) (a := 266) (b := 0) (c := 0) (q := 0) (by decide +kernel)) (if_pos c1375) ?_
      refine m_R_sg (by decide) [(.iconst 0, 1, 0, 0, 0, 0, 0)] (by decide +kernel) (show m_sgl X _ _ _ _ _ = some (267, [some (.ref 0), some (.int v1)], [.int (0 : Int32)], (SH, q1.2.1, q1.2.2)) from rfl) ?_
      exact ok_x_count_267 X d F _ _ _ _ _ _ h
    · refine m_R_1 (by decide) (m_opb_of (ins := .ifCond .eq 7) (len := 3) (tag := 0) (a := 266) (b := 0) (c := 0) (q := 0) (by decide +kernel)) (if_neg c1375) ?_
      refine m_R_sg (by decide) [(.iconst 1, 1, 0, 1, 0, 0, 0), (.goto 4, 3, 0, 267, 0, 0, 0)] (by decide +kernel) (show m_sgl X _ _ _ _ _ = some (267, [some (.ref 0), some (.int v1)], [.int (1 : Int32)], (SH, q1.2.1, q1.2.2)) from rfl) ?_
      exact ok_x_count_267 X d F _ _ _ _ _ _ h
  rcases m_ite h with ⟨c0, h⟩ | ⟨d17, h⟩
  · refine m_R_1 (by decide) (m_opb_of (ins := .tableswitch 275 0 17 #[87, 95, 106, 117, 128, 139, 150, 158, 166, 180, 191, 202, 213, 221, 232, 240, 248, 267]) (len := 87) (tag := 0) (a := 0) (b := 0) (c := 0) (q := 0) (by decide +kernel)) (m_s_sw (by rw [c0]; decide) (by rw [c0]; rfl) (by decide) (t := 268) rfl) ?_
    refine m_R_sg (by decide) [(.aload_n 0, 1, 0, 0, 0, 0, 0), (.getfield 28, 3, 0, 11, 2, 3, 632)] (by decide +kernel) (show m_sgl X _ _ _ _ _ = some (272, [some (.ref 0), some (.int v1)], [.ref 16], (SH, m.1, m.2)) from rfl) ?_
    obtain ⟨q2, hc2, h⟩ := Option.bind_eq_some_iff.mp h
    refine m_R_cV (v := (some (.int q2.1))) (h1 := (SH, q2.2)) (rest := []) (lo' := [some (.ref 16), none]) (ml := 2) (k0 := 16) (by decide) (Or.inl rfl) (m_opb_of (ins := .invokevirtual 420) (len := 3) (tag := 5) (a := 42) (b := 0) (c := 0) (q := 1362) (by decide +kernel)) (by decide +kernel) rfl (show m_isO 42 16 (SH, _) = true from m_isO_of (by decide +kernel)) (Nat.le_of_ble_eq_true rfl) rfl rfl (ok_World_reserve X (d + 2) F _ _ _ hc2) ?_
    obtain ⟨rfl, rfl⟩ := m_some h
    exact m_R_iret (by decide) (m_opb_of (ins := .ireturn) (len := 1) (tag := 1) (a := 0) (b := 0) (c := 0) (q := 0) (by decide +kernel)) (Or.inl rfl)
  refine m_R_1 (by decide) (m_opb_of (ins := .tableswitch 275 0 17 #[87, 95, 106, 117, 128, 139, 150, 158, 166, 180, 191, 202, 213, 221, 232, 240, 248, 267]) (len := 87) (tag := 0) (a := 0) (b := 0) (c := 0) (q := 0) (by decide +kernel)) (m_s_swd (m_swx 18 (fun j hj => match j, hj with | 0, _ => fun e => d0 (e.trans (by decide)) | 1, _ => fun e => d1 (e.trans (by decide)) | 2, _ => fun e => d2 (e.trans (by decide)) | 3, _ => fun e => d3 (e.trans (by decide)) | 4, _ => fun e => d4 (e.trans (by decide)) | 5, _ => fun e => d5 (e.trans (by decide)) | 6, _ => fun e => d6 (e.trans (by decide)) | 7, _ => fun e => d7 (e.trans (by decide)) | 8, _ => fun e => d8 (e.trans (by decide)) | 9, _ => fun e => d9 (e.trans (by decide)) | 10, _ => fun e => d10 (e.trans (by decide)) | 11, _ => fun e => d11 (e.trans (by decide)) | 12, _ => fun e => d12 (e.trans (by decide)) | 13, _ => fun e => d13 (e.trans (by decide)) | 14, _ => fun e => d14 (e.trans (by decide)) | 15, _ => fun e => d15 (e.trans (by decide)) | 16, _ => fun e => d16 (e.trans (by decide)) | 17, _ => fun e => d17 (e.trans (by decide)) | j + 18, hj => absurd hj (by omega))) (by decide) (t := 276) rfl) ?_
  refine m_R_sg (by decide) [(.aload_n 0, 1, 0, 0, 0, 0, 0), (.bipush (-7), 2, 0, 7, 1, 0, 0)] (by decide +kernel) (show m_sgl X _ _ _ _ _ = some (279, [some (.ref 0), some (.int v1)], [.int (-7 : Int32), .ref 0], (SH, m.1, m.2)) from rfl) ?_
  obtain ⟨q3, hc3, h⟩ := Option.bind_eq_some_iff.mp h
  refine m_R_cV (v := (some (.int q3.1))) (h1 := (SH, q3.2)) (rest := []) (lo' := [some (.ref 0), some (.int (-7 : Int32))]) (ml := 2) (k0 := 0) (by decide) (Or.inl rfl) (m_opb_of (ins := .invokevirtual 76) (len := 3) (tag := 5) (a := 14) (b := 1) (c := 0) (q := 671) (by decide +kernel)) (by decide +kernel) rfl (show m_isO 14 0 (SH, _) = true from m_isO_of (by decide +kernel)) (Nat.le_of_ble_eq_true rfl) rfl rfl (ok_x_refuse X (d + 2) F _ _ _ _ hc3) ?_
  obtain ⟨rfl, rfl⟩ := m_some h
  exact m_R_iret (by decide) (m_opb_of (ins := .ireturn) (len := 1) (tag := 1) (a := 0) (b := 0) (c := 0) (q := 0) (by decide +kernel)) (Or.inl rfl)
def f_m_count_120 (F : Nat)   : Nat → Int32 → Int32 → mM → Option (Int32 × mM)
  | 0, _, _, _ => none
  | n + 1, v2, v3, m => (if (60 : Int32) ≤ v3 then some (v2, m) else ((f_m_paper F v3 (0 : Int32) m).bind fun q8 => f_m_count_120 F n (v2 + q8.1) (v3 + (1 : Int32)) q8.2))
theorem ok_m_count_120 (X : mX) (d F : Nat) : ∀ (n : Nat) (v2 : Int32) (v3 : Int32) (w1 : Option Value) (m : mM) (r : Int32) (m' : mM), f_m_count_120 F n v2 v3 m = some (r, m') → m_R X (d + 70) 325 120 [some (.ref 304), w1, some (.int v2), some (.int v3)] [] (SH, m) (some (.int r), (SH, m')) := by
  intro n
  induction n with
  | zero => intro v2 v3 w1 m r m' h; cases h
  | succ n ih =>
    intro v2 v3 w1 m r m' h
    simp only [f_m_count_120] at h
    refine m_R_sg (by decide) [(.iload_n 3, 1, 0, 3, 0, 0, 0), (.bipush 60, 2, 0, 60, 0, 0, 0)] (by decide +kernel) (show m_sgl X _ _ _ _ _ = some (123, [some (.ref 304), w1, some (.int v2), some (.int v3)], [.int (60 : Int32), .int v3], (SH, m.1, m.2)) from rfl) ?_
    rcases m_ite h with ⟨c1376, h⟩ | ⟨c1376, h⟩
    · refine m_R_1 (by decide) (m_opb_of (ins := .if_icmp .ge 18) (len := 3) (tag := 0) (a := 141) (b := 0) (c := 0) (q := 0) (by decide +kernel)) (if_pos c1376) ?_
      refine m_R_sg (by decide) [(.iload_n 2, 1, 0, 2, 0, 0, 0)] (by decide +kernel) (show m_sgl X _ _ _ _ _ = some (142, [some (.ref 304), w1, some (.int v2), some (.int v3)], [.int v2], (SH, m.1, m.2)) from rfl) ?_
      obtain ⟨rfl, rfl⟩ := m_some h
      exact m_R_iret (by decide) (m_opb_of (ins := .ireturn) (len := 1) (tag := 1) (a := 0) (b := 0) (c := 0) (q := 0) (by decide +kernel)) (Or.inl rfl)
    · refine m_R_1 (by decide) (m_opb_of (ins := .if_icmp .ge 18) (len := 3) (tag := 0) (a := 141) (b := 0) (c := 0) (q := 0) (by decide +kernel)) (if_neg c1376) ?_
      refine m_R_sg (by decide) [(.iload_n 2, 1, 0, 2, 0, 0, 0), (.aload_n 0, 1, 0, 0, 0, 0, 0), (.iload_n 3, 1, 0, 3, 0, 0, 0), (.iconst 0, 1, 0, 0, 0, 0, 0)] (by decide +kernel) (show m_sgl X _ _ _ _ _ = some (130, [some (.ref 304), w1, some (.int v2), some (.int v3)], [.int (0 : Int32), .int v3, .ref 304, .int v2], (SH, m.1, m.2)) from rfl) ?_
      obtain ⟨q8, hc8, h⟩ := Option.bind_eq_some_iff.mp h
      refine m_R_cV (v := (some (.int q8.1))) (h1 := (SH, q8.2)) (rest := [.int v2]) (lo' := [some (.ref 304), some (.int v3), some (.int (0 : Int32))]) (ml := 3) (k0 := 304) (by decide) (Or.inl rfl) (m_opb_of (ins := .invokevirtual 160) (len := 3) (tag := 5) (a := 246) (b := 2) (c := 0) (q := 1791) (by decide +kernel)) (by decide +kernel) rfl (show m_isO 246 304 (SH, _) = true from m_isO_of (by decide +kernel)) (Nat.le_of_ble_eq_true rfl) rfl rfl (ok_m_paper X (d + 69) F _ _ _ _ _ hc8) ?_
      refine m_R_sg (by decide) [(.iadd, 1, 0, 0, 0, 0, 0), (.istore_n 2, 1, 0, 2, 0, 0, 0), (.iinc 3 1, 3, 0, 3, 1, 0, 0), (.goto (-18), 3, 0, 120, 0, 0, 0)] (by decide +kernel) (show m_sgl X _ _ _ _ _ = some (120, [some (.ref 304), (m_cl w1), some (.int (v2 + q8.1)), some (.int (v3 + (1 : Int32)))], [], (SH, q8.2.1, q8.2.2)) from rfl) ?_
      exact ih _ _ _ _ _ _ h
def f_m_count_228 (F : Nat)   (s0 : Int32) (m : mM) : Option (Int32 × mM) := some (s0, m)
theorem ok_m_count_228 (X : mX) (d F : Nat) : ∀ (s0 : Int32) (w0 : Option Value) (w1 : Option Value) (w2 : Option Value) (w3 : Option Value) (m : mM) (r : Int32) (m' : mM), f_m_count_228 F s0 m = some (r, m') → m_R X (d + 70) 325 228 [w0, w1, w2, w3] [.int s0] (SH, m) (some (.int r), (SH, m')) := by
  intro s0 w0 w1 w2 w3 m r m' h
  unfold f_m_count_228 at h
  obtain ⟨rfl, rfl⟩ := m_some h
  exact m_R_iret (by decide) (m_opb_of (ins := .ireturn) (len := 1) (tag := 1) (a := 0) (b := 0) (c := 0) (q := 0) (by decide +kernel)) (Or.inl rfl)
def f_m_count (F : Nat)   (v1 : Int32) (m : mM) : Option (Int32 × mM) := (if v1 = (0 : Int32) then some ((m.1 305 (0 : Int32).toNatClampNeg), m) else (if v1 = (1 : Int32) then some ((m.1 305 (1 : Int32).toNatClampNeg), m) else (if v1 = (2 : Int32) then some ((m.1 305 (2 : Int32).toNatClampNeg), m) else (if v1 = (3 : Int32) then some ((m.1 305 (3 : Int32).toNatClampNeg), m) else (if v1 = (4 : Int32) then f_m_count_120 F F (0 : Int32) (0 : Int32) m else (if v1 = (5 : Int32) then some ((m.1 305 (4 : Int32).toNatClampNeg), m) else (if v1 = (6 : Int32) then some ((m.1 305 (5 : Int32).toNatClampNeg), m) else (if v1 = (7 : Int32) then some ((m.1 304 9), m) else (if v1 = (8 : Int32) then ((f_m_out F m).bind fun q1 => some (q1.1, q1.2)) else (if v1 = (9 : Int32) then ((f_m_many F (2 : Int32) m).bind fun q2 => some (q2.1, q2.2)) else (if v1 = (10 : Int32) then ((f_m_many F (3 : Int32) m).bind fun q3 => some (q3.1, q3.2)) else (if v1 = (11 : Int32) then some ((m.1 305 (7 : Int32).toNatClampNeg), m) else (if v1 = (12 : Int32) then some ((m.1 305 (8 : Int32).toNatClampNeg), m) else (if v1 = (13 : Int32) then ((f_m_downMany F m).bind fun q4 => some (q4.1, q4.2)) else (if v1 = (14 : Int32) then some ((m.1 305 (9 : Int32).toNatClampNeg), m) else (if v1 = (15 : Int32) then some ((m.1 305 (10 : Int32).toNatClampNeg), m) else (if v1 = (16 : Int32) then ((f_m_isLifted F m).bind fun q5 => (if q5.1 = 0 then f_m_count_228 F (0 : Int32) q5.2 else f_m_count_228 F (1 : Int32) q5.2)) else (if v1 = (17 : Int32) then ((f_m_reserve F m).bind fun q6 => some (q6.1, q6.2)) else ((f_m_refuse F (-7 : Int32) m).bind fun q7 => some (q7.1, q7.2))))))))))))))))))))
theorem ok_m_count (X : mX) (d F : Nat) : ∀ (v1 : Int32)  (m : mM) (r : Int32) (m' : mM), f_m_count F v1 m = some (r, m') → m_R X (d + 70) 325 0 [some (.ref 304), some (.int v1), none, none] [] (SH, m) (some (.int r), (SH, m')) := by
  intro v1 m r m' h
  unfold f_m_count at h
  refine m_R_sg (by decide) [(.iload_n 1, 1, 0, 1, 0, 0, 0)] (by decide +kernel) (show m_sgl X _ _ _ _ _ = some (1, [some (.ref 304), some (.int v1), none, none], [.int v1], (SH, m.1, m.2)) from rfl) ?_
  rcases m_ite h with ⟨c0, h⟩ | ⟨d0, h⟩
  · refine m_R_1 (by decide) (m_opb_of (ins := .tableswitch 233 0 17 #[87, 94, 101, 108, 115, 142, 149, 156, 161, 166, 172, 178, 186, 194, 199, 207, 215, 228]) (len := 87) (tag := 0) (a := 0) (b := 0) (c := 0) (q := 0) (by decide +kernel)) (m_s_sw (by rw [c0]; decide) (by rw [c0]; rfl) (by decide) (t := 88) rfl) ?_
    refine m_R_sg (by decide) [(.aload_n 0, 1, 0, 0, 0, 0, 0), (.getfield 13, 3, 0, 12, 1, 3, 1493), (.iconst 0, 1, 0, 0, 0, 0, 0)] (by decide +kernel) (show m_sgl X _ _ _ _ _ = some (93, [some (.ref 304), some (.int v1), none, none], [.int (0 : Int32), .ref 305], (SH, m.1, m.2)) from rfl) ?_
    refine m_R_1 (by decide) (m_opb_of (ins := .iaload) (len := 1) (tag := 0) (a := 0) (b := 0) (c := 0) (q := 0) (by decide +kernel)) (m_s_iald sh_305 (by decide) (show ¬ ((0 : Int32) < 0 ∨ 9732 ≤ (0 : Int32).toNatClampNeg) by decide)) ?_
    obtain ⟨rfl, rfl⟩ := m_some h
    exact m_R_iret (by decide) (m_opb_of (ins := .ireturn) (len := 1) (tag := 1) (a := 0) (b := 0) (c := 0) (q := 0) (by decide +kernel)) (Or.inl rfl)
  rcases m_ite h with ⟨c0, h⟩ | ⟨d1, h⟩
  · refine m_R_1 (by decide) (m_opb_of (ins := .tableswitch 233 0 17 #[87, 94, 101, 108, 115, 142, 149, 156, 161, 166, 172, 178, 186, 194, 199, 207, 215, 228]) (len := 87) (tag := 0) (a := 0) (b := 0) (c := 0) (q := 0) (by decide +kernel)) (m_s_sw (by rw [c0]; decide) (by rw [c0]; rfl) (by decide) (t := 95) rfl) ?_
    refine m_R_sg (by decide) [(.aload_n 0, 1, 0, 0, 0, 0, 0), (.getfield 13, 3, 0, 12, 1, 3, 1493), (.iconst 1, 1, 0, 1, 0, 0, 0)] (by decide +kernel) (show m_sgl X _ _ _ _ _ = some (100, [some (.ref 304), some (.int v1), none, none], [.int (1 : Int32), .ref 305], (SH, m.1, m.2)) from rfl) ?_
    refine m_R_1 (by decide) (m_opb_of (ins := .iaload) (len := 1) (tag := 0) (a := 0) (b := 0) (c := 0) (q := 0) (by decide +kernel)) (m_s_iald sh_305 (by decide) (show ¬ ((1 : Int32) < 0 ∨ 9732 ≤ (1 : Int32).toNatClampNeg) by decide)) ?_
    obtain ⟨rfl, rfl⟩ := m_some h
    exact m_R_iret (by decide) (m_opb_of (ins := .ireturn) (len := 1) (tag := 1) (a := 0) (b := 0) (c := 0) (q := 0) (by decide +kernel)) (Or.inl rfl)
  rcases m_ite h with ⟨c0, h⟩ | ⟨d2, h⟩
  · refine m_R_1 (by decide) (m_opb_of (ins := .tableswitch 233 0 17 #[87, 94, 101, 108, 115, 142, 149, 156, 161, 166, 172, 178, 186, 194, 199, 207, 215, 228]) (len := 87) (tag := 0) (a := 0) (b := 0) (c := 0) (q := 0) (by decide +kernel)) (m_s_sw (by rw [c0]; decide) (by rw [c0]; rfl) (by decide) (t := 102) rfl) ?_
    refine m_R_sg (by decide) [(.aload_n 0, 1, 0, 0, 0, 0, 0), (.getfield 13, 3, 0, 12, 1, 3, 1493), (.iconst 2, 1, 0, 2, 0, 0, 0)] (by decide +kernel) (show m_sgl X _ _ _ _ _ = some (107, [some (.ref 304), some (.int v1), none, none], [.int (2 : Int32), .ref 305], (SH, m.1, m.2)) from rfl) ?_
    refine m_R_1 (by decide) (m_opb_of (ins := .iaload) (len := 1) (tag := 0) (a := 0) (b := 0) (c := 0) (q := 0) (by decide +kernel)) (m_s_iald sh_305 (by decide) (show ¬ ((2 : Int32) < 0 ∨ 9732 ≤ (2 : Int32).toNatClampNeg) by decide)) ?_
    obtain ⟨rfl, rfl⟩ := m_some h
    exact m_R_iret (by decide) (m_opb_of (ins := .ireturn) (len := 1) (tag := 1) (a := 0) (b := 0) (c := 0) (q := 0) (by decide +kernel)) (Or.inl rfl)
  rcases m_ite h with ⟨c0, h⟩ | ⟨d3, h⟩
  · refine m_R_1 (by decide) (m_opb_of (ins := .tableswitch 233 0 17 #[87, 94, 101, 108, 115, 142, 149, 156, 161, 166, 172, 178, 186, 194, 199, 207, 215, 228]) (len := 87) (tag := 0) (a := 0) (b := 0) (c := 0) (q := 0) (by decide +kernel)) (m_s_sw (by rw [c0]; decide) (by rw [c0]; rfl) (by decide) (t := 109) rfl) ?_
    refine m_R_sg (by decide) [(.aload_n 0, 1, 0, 0, 0, 0, 0), (.getfield 13, 3, 0, 12, 1, 3, 1493), (.iconst 3, 1, 0, 3, 0, 0, 0)] (by decide +kernel) (show m_sgl X _ _ _ _ _ = some (114, [some (.ref 304), some (.int v1), none, none], [.int (3 : Int32), .ref 305], (SH, m.1, m.2)) from rfl) ?_
    refine m_R_1 (by decide) (m_opb_of (ins := .iaload) (len := 1) (tag := 0) (a := 0) (b := 0) (c := 0) (q := 0) (by decide +kernel)) (m_s_iald sh_305 (by decide) (show ¬ ((3 : Int32) < 0 ∨ 9732 ≤ (3 : Int32).toNatClampNeg) by decide)) ?_
    obtain ⟨rfl, rfl⟩ := m_some h
    exact m_R_iret (by decide) (m_opb_of (ins := .ireturn) (len := 1) (tag := 1) (a := 0) (b := 0) (c := 0) (q := 0) (by decide +kernel)) (Or.inl rfl)
  rcases m_ite h with ⟨c0, h⟩ | ⟨d4, h⟩
  · refine m_R_1 (by decide) (m_opb_of (ins := .tableswitch 233 0 17 #[87, 94, 101, 108, 115, 142, 149, 156, 161, 166, 172, 178, 186, 194, 199, 207, 215, 228]) (len := 87) (tag := 0) (a := 0) (b := 0) (c := 0) (q := 0) (by decide +kernel)) (m_s_sw (by rw [c0]; decide) (by rw [c0]; rfl) (by decide) (t := 116) rfl) ?_
    refine m_R_sg (by decide) [(.iconst 0, 1, 0, 0, 0, 0, 0), (.istore_n 2, 1, 0, 2, 0, 0, 0), (.iconst 0, 1, 0, 0, 0, 0, 0), (.istore_n 3, 1, 0, 3, 0, 0, 0)] (by decide +kernel) (show m_sgl X _ _ _ _ _ = some (120, [some (.ref 304), some (.int v1), some (.int (0 : Int32)), some (.int (0 : Int32))], [], (SH, m.1, m.2)) from rfl) ?_
    exact ok_m_count_120 X d F F _ _ _ _ _ _ h
  rcases m_ite h with ⟨c0, h⟩ | ⟨d5, h⟩
  · refine m_R_1 (by decide) (m_opb_of (ins := .tableswitch 233 0 17 #[87, 94, 101, 108, 115, 142, 149, 156, 161, 166, 172, 178, 186, 194, 199, 207, 215, 228]) (len := 87) (tag := 0) (a := 0) (b := 0) (c := 0) (q := 0) (by decide +kernel)) (m_s_sw (by rw [c0]; decide) (by rw [c0]; rfl) (by decide) (t := 143) rfl) ?_
    refine m_R_sg (by decide) [(.aload_n 0, 1, 0, 0, 0, 0, 0), (.getfield 13, 3, 0, 12, 1, 3, 1493), (.iconst 4, 1, 0, 4, 0, 0, 0)] (by decide +kernel) (show m_sgl X _ _ _ _ _ = some (148, [some (.ref 304), some (.int v1), none, none], [.int (4 : Int32), .ref 305], (SH, m.1, m.2)) from rfl) ?_
    refine m_R_1 (by decide) (m_opb_of (ins := .iaload) (len := 1) (tag := 0) (a := 0) (b := 0) (c := 0) (q := 0) (by decide +kernel)) (m_s_iald sh_305 (by decide) (show ¬ ((4 : Int32) < 0 ∨ 9732 ≤ (4 : Int32).toNatClampNeg) by decide)) ?_
    obtain ⟨rfl, rfl⟩ := m_some h
    exact m_R_iret (by decide) (m_opb_of (ins := .ireturn) (len := 1) (tag := 1) (a := 0) (b := 0) (c := 0) (q := 0) (by decide +kernel)) (Or.inl rfl)
  rcases m_ite h with ⟨c0, h⟩ | ⟨d6, h⟩
  · refine m_R_1 (by decide) (m_opb_of (ins := .tableswitch 233 0 17 #[87, 94, 101, 108, 115, 142, 149, 156, 161, 166, 172, 178, 186, 194, 199, 207, 215, 228]) (len := 87) (tag := 0) (a := 0) (b := 0) (c := 0) (q := 0) (by decide +kernel)) (m_s_sw (by rw [c0]; decide) (by rw [c0]; rfl) (by decide) (t := 150) rfl) ?_
    refine m_R_sg (by decide) [(.aload_n 0, 1, 0, 0, 0, 0, 0), (.getfield 13, 3, 0, 12, 1, 3, 1493), (.iconst 5, 1, 0, 5, 0, 0, 0)] (by decide +kernel) (show m_sgl X _ _ _ _ _ = some (155, [some (.ref 304), some (.int v1), none, none], [.int (5 : Int32), .ref 305], (SH, m.1, m.2)) from rfl) ?_
    refine m_R_1 (by decide) (m_opb_of (ins := .iaload) (len := 1) (tag := 0) (a := 0) (b := 0) (c := 0) (q := 0) (by decide +kernel)) (m_s_iald sh_305 (by decide) (show ¬ ((5 : Int32) < 0 ∨ 9732 ≤ (5 : Int32).toNatClampNeg) by decide)) ?_
    obtain ⟨rfl, rfl⟩ := m_some h
    exact m_R_iret (by decide) (m_opb_of (ins := .ireturn) (len := 1) (tag := 1) (a := 0) (b := 0) (c := 0) (q := 0) (by decide +kernel)) (Or.inl rfl)
  rcases m_ite h with ⟨c0, h⟩ | ⟨d7, h⟩
  · refine m_R_1 (by decide) (m_opb_of (ins := .tableswitch 233 0 17 #[87, 94, 101, 108, 115, 142, 149, 156, 161, 166, 172, 178, 186, 194, 199, 207, 215, 228]) (len := 87) (tag := 0) (a := 0) (b := 0) (c := 0) (q := 0) (by decide +kernel)) (m_s_sw (by rw [c0]; decide) (by rw [c0]; rfl) (by decide) (t := 157) rfl) ?_
    refine m_R_sg (by decide) [(.aload_n 0, 1, 0, 0, 0, 0, 0), (.getfield 378, 3, 0, 12, 9, 0, 1501)] (by decide +kernel) (show m_sgl X _ _ _ _ _ = some (161, [some (.ref 304), some (.int v1), none, none], [.int (m.1 304 9)], (SH, m.1, m.2)) from rfl) ?_
    obtain ⟨rfl, rfl⟩ := m_some h
    exact m_R_iret (by decide) (m_opb_of (ins := .ireturn) (len := 1) (tag := 1) (a := 0) (b := 0) (c := 0) (q := 0) (by decide +kernel)) (Or.inl rfl)
  rcases m_ite h with ⟨c0, h⟩ | ⟨d8, h⟩
  · refine m_R_1 (by decide) (m_opb_of (ins := .tableswitch 233 0 17 #[87, 94, 101, 108, 115, 142, 149, 156, 161, 166, 172, 178, 186, 194, 199, 207, 215, 228]) (len := 87) (tag := 0) (a := 0) (b := 0) (c := 0) (q := 0) (by decide +kernel)) (m_s_sw (by rw [c0]; decide) (by rw [c0]; rfl) (by decide) (t := 162) rfl) ?_
    refine m_R_sg (by decide) [(.aload_n 0, 1, 0, 0, 0, 0, 0)] (by decide +kernel) (show m_sgl X _ _ _ _ _ = some (163, [some (.ref 304), some (.int v1), none, none], [.ref 304], (SH, m.1, m.2)) from rfl) ?_
    obtain ⟨q1, hc1, h⟩ := Option.bind_eq_some_iff.mp h
    refine m_R_cV (v := (some (.int q1.1))) (h1 := (SH, q1.2)) (rest := []) (lo' := [some (.ref 304)]) (ml := 1) (k0 := 304) (by decide) (Or.inl rfl) (m_opb_of (ins := .invokevirtual 112) (len := 3) (tag := 5) (a := 244) (b := 0) (c := 0) (q := 1776) (by decide +kernel)) (by decide +kernel) rfl (show m_isO 244 304 (SH, _) = true from m_isO_of (by decide +kernel)) (Nat.le_of_ble_eq_true rfl) rfl rfl (ok_m_out X (d + 67) F _ _ _ hc1) ?_
    obtain ⟨rfl, rfl⟩ := m_some h
    exact m_R_iret (by decide) (m_opb_of (ins := .ireturn) (len := 1) (tag := 1) (a := 0) (b := 0) (c := 0) (q := 0) (by decide +kernel)) (Or.inl rfl)
  rcases m_ite h with ⟨c0, h⟩ | ⟨d9, h⟩
  · refine m_R_1 (by decide) (m_opb_of (ins := .tableswitch 233 0 17 #[87, 94, 101, 108, 115, 142, 149, 156, 161, 166, 172, 178, 186, 194, 199, 207, 215, 228]) (len := 87) (tag := 0) (a := 0) (b := 0) (c := 0) (q := 0) (by decide +kernel)) (m_s_sw (by rw [c0]; decide) (by rw [c0]; rfl) (by decide) (t := 167) rfl) ?_
    refine m_R_sg (by decide) [(.aload_n 0, 1, 0, 0, 0, 0, 0), (.iconst 2, 1, 0, 2, 0, 0, 0)] (by decide +kernel) (show m_sgl X _ _ _ _ _ = some (169, [some (.ref 304), some (.int v1), none, none], [.int (2 : Int32), .ref 304], (SH, m.1, m.2)) from rfl) ?_
    obtain ⟨q2, hc2, h⟩ := Option.bind_eq_some_iff.mp h
    refine m_R_cV (v := (some (.int q2.1))) (h1 := (SH, q2.2)) (rest := []) (lo' := [some (.ref 304), some (.int (2 : Int32)), none, none]) (ml := 4) (k0 := 304) (by decide) (Or.inl rfl) (m_opb_of (ins := .invokevirtual 109) (len := 3) (tag := 5) (a := 223) (b := 1) (c := 0) (q := 1677) (by decide +kernel)) (by decide +kernel) rfl (show m_isO 223 304 (SH, _) = true from m_isO_of (by decide +kernel)) (Nat.le_of_ble_eq_true rfl) rfl rfl (ok_m_many X (d + 68) F _ _ _ _ hc2) ?_
    obtain ⟨rfl, rfl⟩ := m_some h
    exact m_R_iret (by decide) (m_opb_of (ins := .ireturn) (len := 1) (tag := 1) (a := 0) (b := 0) (c := 0) (q := 0) (by decide +kernel)) (Or.inl rfl)
  rcases m_ite h with ⟨c0, h⟩ | ⟨d10, h⟩
  · refine m_R_1 (by decide) (m_opb_of (ins := .tableswitch 233 0 17 #[87, 94, 101, 108, 115, 142, 149, 156, 161, 166, 172, 178, 186, 194, 199, 207, 215, 228]) (len := 87) (tag := 0) (a := 0) (b := 0) (c := 0) (q := 0) (by decide +kernel)) (m_s_sw (by rw [c0]; decide) (by rw [c0]; rfl) (by decide) (t := 173) rfl) ?_
    refine m_R_sg (by decide) [(.aload_n 0, 1, 0, 0, 0, 0, 0), (.iconst 3, 1, 0, 3, 0, 0, 0)] (by decide +kernel) (show m_sgl X _ _ _ _ _ = some (175, [some (.ref 304), some (.int v1), none, none], [.int (3 : Int32), .ref 304], (SH, m.1, m.2)) from rfl) ?_
    obtain ⟨q3, hc3, h⟩ := Option.bind_eq_some_iff.mp h
    refine m_R_cV (v := (some (.int q3.1))) (h1 := (SH, q3.2)) (rest := []) (lo' := [some (.ref 304), some (.int (3 : Int32)), none, none]) (ml := 4) (k0 := 304) (by decide) (Or.inl rfl) (m_opb_of (ins := .invokevirtual 109) (len := 3) (tag := 5) (a := 223) (b := 1) (c := 0) (q := 1677) (by decide +kernel)) (by decide +kernel) rfl (show m_isO 223 304 (SH, _) = true from m_isO_of (by decide +kernel)) (Nat.le_of_ble_eq_true rfl) rfl rfl (ok_m_many X (d + 68) F _ _ _ _ hc3) ?_
    obtain ⟨rfl, rfl⟩ := m_some h
    exact m_R_iret (by decide) (m_opb_of (ins := .ireturn) (len := 1) (tag := 1) (a := 0) (b := 0) (c := 0) (q := 0) (by decide +kernel)) (Or.inl rfl)
  rcases m_ite h with ⟨c0, h⟩ | ⟨d11, h⟩
  · refine m_R_1 (by decide) (m_opb_of (ins := .tableswitch 233 0 17 #[87, 94, 101, 108, 115, 142, 149, 156, 161, 166, 172, 178, 186, 194, 199, 207, 215, 228]) (len := 87) (tag := 0) (a := 0) (b := 0) (c := 0) (q := 0) (by decide +kernel)) (m_s_sw (by rw [c0]; decide) (by rw [c0]; rfl) (by decide) (t := 179) rfl) ?_
    refine m_R_sg (by decide) [(.aload_n 0, 1, 0, 0, 0, 0, 0), (.getfield 13, 3, 0, 12, 1, 3, 1493), (.bipush 7, 2, 0, 7, 0, 0, 0)] (by decide +kernel) (show m_sgl X _ _ _ _ _ = some (185, [some (.ref 304), some (.int v1), none, none], [.int (7 : Int32), .ref 305], (SH, m.1, m.2)) from rfl) ?_
    refine m_R_1 (by decide) (m_opb_of (ins := .iaload) (len := 1) (tag := 0) (a := 0) (b := 0) (c := 0) (q := 0) (by decide +kernel)) (m_s_iald sh_305 (by decide) (show ¬ ((7 : Int32) < 0 ∨ 9732 ≤ (7 : Int32).toNatClampNeg) by decide)) ?_
    obtain ⟨rfl, rfl⟩ := m_some h
    exact m_R_iret (by decide) (m_opb_of (ins := .ireturn) (len := 1) (tag := 1) (a := 0) (b := 0) (c := 0) (q := 0) (by decide +kernel)) (Or.inl rfl)
  rcases m_ite h with ⟨c0, h⟩ | ⟨d12, h⟩
  · refine m_R_1 (by decide) (m_opb_of (ins := .tableswitch 233 0 17 #[87, 94, 101, 108, 115, 142, 149, 156, 161, 166, 172, 178, 186, 194, 199, 207, 215, 228]) (len := 87) (tag := 0) (a := 0) (b := 0) (c := 0) (q := 0) (by decide +kernel)) (m_s_sw (by rw [c0]; decide) (by rw [c0]; rfl) (by decide) (t := 187) rfl) ?_
    refine m_R_sg (by decide) [(.aload_n 0, 1, 0, 0, 0, 0, 0), (.getfield 13, 3, 0, 12, 1, 3, 1493), (.bipush 8, 2, 0, 8, 0, 0, 0)] (by decide +kernel) (show m_sgl X _ _ _ _ _ = some (193, [some (.ref 304), some (.int v1), none, none], [.int (8 : Int32), .ref 305], (SH, m.1, m.2)) from rfl) ?_
    refine m_R_1 (by decide) (m_opb_of (ins := .iaload) (len := 1) (tag := 0) (a := 0) (b := 0) (c := 0) (q := 0) (by decide +kernel)) (m_s_iald sh_305 (by decide) (show ¬ ((8 : Int32) < 0 ∨ 9732 ≤ (8 : Int32).toNatClampNeg) by decide)) ?_
    obtain ⟨rfl, rfl⟩ := m_some h
    exact m_R_iret (by decide) (m_opb_of (ins := .ireturn) (len := 1) (tag := 1) (a := 0) (b := 0) (c := 0) (q := 0) (by decide +kernel)) (Or.inl rfl)
  rcases m_ite h with ⟨c0, h⟩ | ⟨d13, h⟩
  · refine m_R_1 (by decide) (m_opb_of (ins := .tableswitch 233 0 17 #[87, 94, 101, 108, 115, 142, 149, 156, 161, 166, 172, 178, 186, 194, 199, 207, 215, 228]) (len := 87) (tag := 0) (a := 0) (b := 0) (c := 0) (q := 0) (by decide +kernel)) (m_s_sw (by rw [c0]; decide) (by rw [c0]; rfl) (by decide) (t := 195) rfl) ?_
    refine m_R_sg (by decide) [(.aload_n 0, 1, 0, 0, 0, 0, 0)] (by decide +kernel) (show m_sgl X _ _ _ _ _ = some (196, [some (.ref 304), some (.int v1), none, none], [.ref 304], (SH, m.1, m.2)) from rfl) ?_
    obtain ⟨q4, hc4, h⟩ := Option.bind_eq_some_iff.mp h
    refine m_R_cV (v := (some (.int q4.1))) (h1 := (SH, q4.2)) (rest := []) (lo' := [some (.ref 304), none, none]) (ml := 3) (k0 := 304) (by decide) (Or.inl rfl) (m_opb_of (ins := .invokevirtual 423) (len := 3) (tag := 5) (a := 306) (b := 0) (c := 0) (q := 2041) (by decide +kernel)) (by decide +kernel) rfl (show m_isO 306 304 (SH, _) = true from m_isO_of (by decide +kernel)) (Nat.le_of_ble_eq_true rfl) rfl rfl (ok_m_downMany X (d + 67) F _ _ _ hc4) ?_
    obtain ⟨rfl, rfl⟩ := m_some h
    exact m_R_iret (by decide) (m_opb_of (ins := .ireturn) (len := 1) (tag := 1) (a := 0) (b := 0) (c := 0) (q := 0) (by decide +kernel)) (Or.inl rfl)
  rcases m_ite h with ⟨c0, h⟩ | ⟨d14, h⟩
  · refine m_R_1 (by decide) (m_opb_of (ins := .tableswitch 233 0 17 #[87, 94, 101, 108, 115, 142, 149, 156, 161, 166, 172, 178, 186, 194, 199, 207, 215, 228]) (len := 87) (tag := 0) (a := 0) (b := 0) (c := 0) (q := 0) (by decide +kernel)) (m_s_sw (by rw [c0]; decide) (by rw [c0]; rfl) (by decide) (t := 200) rfl) ?_
    refine m_R_sg (by decide) [(.aload_n 0, 1, 0, 0, 0, 0, 0), (.getfield 13, 3, 0, 12, 1, 3, 1493), (.bipush 9, 2, 0, 9, 0, 0, 0)] (by decide +kernel) (show m_sgl X _ _ _ _ _ = some (206, [some (.ref 304), some (.int v1), none, none], [.int (9 : Int32), .ref 305], (SH, m.1, m.2)) from rfl) ?_
    refine m_R_1 (by decide) (m_opb_of (ins := .iaload) (len := 1) (tag := 0) (a := 0) (b := 0) (c := 0) (q := 0) (by decide +kernel)) (m_s_iald sh_305 (by decide) (show ¬ ((9 : Int32) < 0 ∨ 9732 ≤ (9 : Int32).toNatClampNeg) by decide)) ?_
    obtain ⟨rfl, rfl⟩ := m_some h
    exact m_R_iret (by decide) (m_opb_of (ins := .ireturn) (len := 1) (tag := 1) (a := 0) (b := 0) (c := 0) (q := 0) (by decide +kernel)) (Or.inl rfl)
  rcases m_ite h with ⟨c0, h⟩ | ⟨d15, h⟩
  · refine m_R_1 (by decide) (m_opb_of (ins := .tableswitch 233 0 17 #[87, 94, 101, 108, 115, 142, 149, 156, 161, 166, 172, 178, 186, 194, 199, 207, 215, 228]) (len := 87) (tag := 0) (a := 0) (b := 0) (c := 0) (q := 0) (by decide +kernel)) (m_s_sw (by rw [c0]; decide) (by rw [c0]; rfl) (by decide) (t := 208) rfl) ?_
    refine m_R_sg (by decide) [(.aload_n 0, 1, 0, 0, 0, 0, 0), (.getfield 13, 3, 0, 12, 1, 3, 1493), (.bipush 10, 2, 0, 10, 0, 0, 0)] (by decide +kernel) (show m_sgl X _ _ _ _ _ = some (214, [some (.ref 304), some (.int v1), none, none], [.int (10 : Int32), .ref 305], (SH, m.1, m.2)) from rfl) ?_
    refine m_R_1 (by decide) (m_opb_of (ins := .iaload) (len := 1) (tag := 0) (a := 0) (b := 0) (c := 0) (q := 0) (by decide +kernel)) (m_s_iald sh_305 (by decide) (show ¬ ((10 : Int32) < 0 ∨ 9732 ≤ (10 : Int32).toNatClampNeg) by decide)) ?_
    obtain ⟨rfl, rfl⟩ := m_some h
    exact m_R_iret (by decide) (m_opb_of (ins := .ireturn) (len := 1) (tag := 1) (a := 0) (b := 0) (c := 0) (q := 0) (by decide +kernel)) (Or.inl rfl)
  rcases m_ite h with ⟨c0, h⟩ | ⟨d16, h⟩
  · refine m_R_1 (by decide) (m_opb_of (ins := .tableswitch 233 0 17 #[87, 94, 101, 108, 115, 142, 149, 156, 161, 166, 172, 178, 186, 194, 199, 207, 215, 228]) (len := 87) (tag := 0) (a := 0) (b := 0) (c := 0) (q := 0) (by decide +kernel)) (m_s_sw (by rw [c0]; decide) (by rw [c0]; rfl) (by decide) (t := 216) rfl) ?_
    refine m_R_sg (by decide) [(.aload_n 0, 1, 0, 0, 0, 0, 0)] (by decide +kernel) (show m_sgl X _ _ _ _ _ = some (217, [some (.ref 304), some (.int v1), none, none], [.ref 304], (SH, m.1, m.2)) from rfl) ?_
    obtain ⟨q5, hc5, h⟩ := Option.bind_eq_some_iff.mp h
    refine m_R_cV (v := (some (.int q5.1))) (h1 := (SH, q5.2)) (rest := []) (lo' := [some (.ref 304)]) (ml := 1) (k0 := 304) (by decide) (Or.inl rfl) (m_opb_of (ins := .invokevirtual 124) (len := 3) (tag := 5) (a := 225) (b := 0) (c := 0) (q := 1685) (by decide +kernel)) (by decide +kernel) rfl (show m_isO 225 304 (SH, _) = true from m_isO_of (by decide +kernel)) (Nat.le_of_ble_eq_true rfl) rfl rfl (ok_m_isLifted X (d + 0) F _ _ _ hc5) ?_
    rcases m_ite h with ⟨c1377, h⟩ | ⟨c1377, h⟩
    · refine m_R_1 (by decide) (m_opb_of (ins := .ifCond .eq 7) (len := 3) (tag := 0) (a := 227) (b := 0) (c := 0) (q := 0) (by decide +kernel)) (if_pos c1377) ?_
      refine m_R_sg (by decide) [(.iconst 0, 1, 0, 0, 0, 0, 0)] (by decide +kernel) (show m_sgl X _ _ _ _ _ = some (228, [some (.ref 304), some (.int v1), none, none], [.int (0 : Int32)], (SH, q5.2.1, q5.2.2)) from rfl) ?_
      exact ok_m_count_228 X d F _ _ _ _ _ _ _ _ h
    · refine m_R_1 (by decide) (m_opb_of (ins := .ifCond .eq 7) (len := 3) (tag := 0) (a := 227) (b := 0) (c := 0) (q := 0) (by decide +kernel)) (if_neg c1377) ?_
      refine m_R_sg (by decide) [(.iconst 1, 1, 0, 1, 0, 0, 0), (.goto 4, 3, 0, 228, 0, 0, 0)] (by decide +kernel) (show m_sgl X _ _ _ _ _ = some (228, [some (.ref 304), some (.int v1), none, none], [.int (1 : Int32)], (SH, q5.2.1, q5.2.2)) from rfl) ?_
      exact ok_m_count_228 X d F _ _ _ _ _ _ _ _ h
  rcases m_ite h with ⟨c0, h⟩ | ⟨d17, h⟩
  · refine m_R_1 (by decide) (m_opb_of (ins := .tableswitch 233 0 17 #[87, 94, 101, 108, 115, 142, 149, 156, 161, 166, 172, 178, 186, 194, 199, 207, 215, 228]) (len := 87) (tag := 0) (a := 0) (b := 0) (c := 0) (q := 0) (by decide +kernel)) (m_s_sw (by rw [c0]; decide) (by rw [c0]; rfl) (by decide) (t := 229) rfl) ?_
    refine m_R_sg (by decide) [(.aload_n 0, 1, 0, 0, 0, 0, 0)] (by decide +kernel) (show m_sgl X _ _ _ _ _ = some (230, [some (.ref 304), some (.int v1), none, none], [.ref 304], (SH, m.1, m.2)) from rfl) ?_
    obtain ⟨q6, hc6, h⟩ := Option.bind_eq_some_iff.mp h
    refine m_R_cV (v := (some (.int q6.1))) (h1 := (SH, q6.2)) (rest := []) (lo' := [some (.ref 304), none, none, none]) (ml := 4) (k0 := 304) (by decide) (Or.inl rfl) (m_opb_of (ins := .invokevirtual 281) (len := 3) (tag := 5) (a := 245) (b := 0) (c := 0) (q := 1781) (by decide +kernel)) (by decide +kernel) rfl (show m_isO 245 304 (SH, _) = true from m_isO_of (by decide +kernel)) (Nat.le_of_ble_eq_true rfl) rfl rfl (ok_m_reserve X (d + 66) F _ _ _ hc6) ?_
    obtain ⟨rfl, rfl⟩ := m_some h
    exact m_R_iret (by decide) (m_opb_of (ins := .ireturn) (len := 1) (tag := 1) (a := 0) (b := 0) (c := 0) (q := 0) (by decide +kernel)) (Or.inl rfl)
  refine m_R_1 (by decide) (m_opb_of (ins := .tableswitch 233 0 17 #[87, 94, 101, 108, 115, 142, 149, 156, 161, 166, 172, 178, 186, 194, 199, 207, 215, 228]) (len := 87) (tag := 0) (a := 0) (b := 0) (c := 0) (q := 0) (by decide +kernel)) (m_s_swd (m_swx 18 (fun j hj => match j, hj with | 0, _ => fun e => d0 (e.trans (by decide)) | 1, _ => fun e => d1 (e.trans (by decide)) | 2, _ => fun e => d2 (e.trans (by decide)) | 3, _ => fun e => d3 (e.trans (by decide)) | 4, _ => fun e => d4 (e.trans (by decide)) | 5, _ => fun e => d5 (e.trans (by decide)) | 6, _ => fun e => d6 (e.trans (by decide)) | 7, _ => fun e => d7 (e.trans (by decide)) | 8, _ => fun e => d8 (e.trans (by decide)) | 9, _ => fun e => d9 (e.trans (by decide)) | 10, _ => fun e => d10 (e.trans (by decide)) | 11, _ => fun e => d11 (e.trans (by decide)) | 12, _ => fun e => d12 (e.trans (by decide)) | 13, _ => fun e => d13 (e.trans (by decide)) | 14, _ => fun e => d14 (e.trans (by decide)) | 15, _ => fun e => d15 (e.trans (by decide)) | 16, _ => fun e => d16 (e.trans (by decide)) | 17, _ => fun e => d17 (e.trans (by decide)) | j + 18, hj => absurd hj (by omega))) (by decide) (t := 234) rfl) ?_
  refine m_R_sg (by decide) [(.aload_n 0, 1, 0, 0, 0, 0, 0), (.bipush (-7), 2, 0, 7, 1, 0, 0)] (by decide +kernel) (show m_sgl X _ _ _ _ _ = some (237, [some (.ref 304), some (.int v1), none, none], [.int (-7 : Int32), .ref 304], (SH, m.1, m.2)) from rfl) ?_
  obtain ⟨q7, hc7, h⟩ := Option.bind_eq_some_iff.mp h
  refine m_R_cV (v := (some (.int q7.1))) (h1 := (SH, q7.2)) (rest := []) (lo' := [some (.ref 304), some (.int (-7 : Int32))]) (ml := 2) (k0 := 304) (by decide) (Or.inl rfl) (m_opb_of (ins := .invokevirtual 61) (len := 3) (tag := 5) (a := 202) (b := 1) (c := 0) (q := 1593) (by decide +kernel)) (by decide +kernel) rfl (show m_isO 202 304 (SH, _) = true from m_isO_of (by decide +kernel)) (Nat.le_of_ble_eq_true rfl) rfl rfl (ok_m_refuse X (d + 69) F _ _ _ _ hc7) ?_
  obtain ⟨rfl, rfl⟩ := m_some h
  exact m_R_iret (by decide) (m_opb_of (ins := .ireturn) (len := 1) (tag := 1) (a := 0) (b := 0) (c := 0) (q := 0) (by decide +kernel)) (Or.inl rfl)
def f_x_isTryLength_15 (F : Nat)   (s0 : Int32) (m : mM) : Option (Int32 × mM) := (if s0 = 0 ∨ s0 = 1 then some (s0, m) else none)
theorem ok_x_isTryLength_15 (X : mX) (d F : Nat) : ∀ (s0 : Int32) (w0 : Option Value) (m : mM) (r : Int32) (m' : mM), f_x_isTryLength_15 F s0 m = some (r, m') → m_R X (d + 0) 170 15 [w0] [.int s0] (SH, m) (some (.int r), (SH, m')) := by
  intro s0 w0 m r m' h
  unfold f_x_isTryLength_15 at h
  obtain ⟨c0, h⟩ := m_ite_p h
  obtain ⟨rfl, rfl⟩ := m_some h
  exact m_R_iret (by decide) (m_opb_of (ins := .ireturn) (len := 1) (tag := 1) (a := 1) (b := 0) (c := 0) (q := 0) (by decide +kernel)) (Or.inr c0)
def f_x_isTryLength_14 (F : Nat)    (m : mM) : Option (Int32 × mM) := f_x_isTryLength_15 F (0 : Int32) m
theorem ok_x_isTryLength_14 (X : mX) (d F : Nat) : ∀  (w0 : Option Value) (m : mM) (r : Int32) (m' : mM), f_x_isTryLength_14 F  m = some (r, m') → m_R X (d + 0) 170 14 [w0] [] (SH, m) (some (.int r), (SH, m')) := by
  intro w0 m r m' h
  unfold f_x_isTryLength_14 at h
  refine m_R_sg (by decide) [(.iconst 0, 1, 0, 0, 0, 0, 0)] (by decide +kernel) (show m_sgl X _ _ _ _ _ = some (15, [w0], [.int (0 : Int32)], (SH, m.1, m.2)) from rfl) ?_
  exact ok_x_isTryLength_15 X d F _ _ _ _ _ h
def f_x_isTryLength (F : Nat)   (v0 : Int32) (m : mM) : Option (Int32 × mM) := (if v0 < (1 : Int32) then f_x_isTryLength_14 F m else (if (4 : Int32) < v0 then f_x_isTryLength_14 F m else f_x_isTryLength_15 F (1 : Int32) m))
theorem ok_x_isTryLength (X : mX) (d F : Nat) : ∀ (v0 : Int32)  (m : mM) (r : Int32) (m' : mM), f_x_isTryLength F v0 m = some (r, m') → m_R X (d + 0) 170 0 [some (.int v0)] [] (SH, m) (some (.int r), (SH, m')) := by
  intro v0 m r m' h
  unfold f_x_isTryLength at h
  refine m_R_sg (by decide) [(.iload_n 0, 1, 0, 0, 0, 0, 0), (.iconst 1, 1, 0, 1, 0, 0, 0)] (by decide +kernel) (show m_sgl X _ _ _ _ _ = some (2, [some (.int v0)], [.int (1 : Int32), .int v0], (SH, m.1, m.2)) from rfl) ?_
  rcases m_ite h with ⟨c1378, h⟩ | ⟨c1378, h⟩
  · refine m_R_1 (by decide) (m_opb_of (ins := .if_icmp .lt 12) (len := 3) (tag := 0) (a := 14) (b := 0) (c := 0) (q := 0) (by decide +kernel)) (if_pos c1378) ?_
    exact ok_x_isTryLength_14 X d F _ _ _ _ h
  · refine m_R_1 (by decide) (m_opb_of (ins := .if_icmp .lt 12) (len := 3) (tag := 0) (a := 14) (b := 0) (c := 0) (q := 0) (by decide +kernel)) (if_neg c1378) ?_
    refine m_R_sg (by decide) [(.iload_n 0, 1, 0, 0, 0, 0, 0), (.iconst 4, 1, 0, 4, 0, 0, 0)] (by decide +kernel) (show m_sgl X _ _ _ _ _ = some (7, [some (.int v0)], [.int (4 : Int32), .int v0], (SH, m.1, m.2)) from rfl) ?_
    rcases m_ite h with ⟨c1379, h⟩ | ⟨c1379, h⟩
    · refine m_R_1 (by decide) (m_opb_of (ins := .if_icmp .gt 7) (len := 3) (tag := 0) (a := 14) (b := 0) (c := 0) (q := 0) (by decide +kernel)) (if_pos c1379) ?_
      exact ok_x_isTryLength_14 X d F _ _ _ _ h
    · refine m_R_1 (by decide) (m_opb_of (ins := .if_icmp .gt 7) (len := 3) (tag := 0) (a := 14) (b := 0) (c := 0) (q := 0) (by decide +kernel)) (if_neg c1379) ?_
      refine m_R_sg (by decide) [(.iconst 1, 1, 0, 1, 0, 0, 0), (.goto 4, 3, 0, 15, 0, 0, 0)] (by decide +kernel) (show m_sgl X _ _ _ _ _ = some (15, [some (.int v0)], [.int (1 : Int32)], (SH, m.1, m.2)) from rfl) ?_
      exact ok_x_isTryLength_15 X d F _ _ _ _ _ h
def f_x_rateAt (F : Nat)   (v0 : Int32) (v1 : Int32) (m : mM) : Option (Int32 × mM) := some (((v0 >>> (((5 : Int32) * v1) &&& 31)) &&& (31 : Int32)), m)
theorem ok_x_rateAt (X : mX) (d F : Nat) : ∀ (v0 : Int32) (v1 : Int32)  (m : mM) (r : Int32) (m' : mM), f_x_rateAt F v0 v1 m = some (r, m') → m_R X (d + 0) 172 0 [some (.int v0), some (.int v1)] [] (SH, m) (some (.int r), (SH, m')) := by
  intro v0 v1 m r m' h
  unfold f_x_rateAt at h
  refine m_R_sg (by decide) [(.iload_n 0, 1, 0, 0, 0, 0, 0), (.iconst 5, 1, 0, 5, 0, 0, 0), (.iload_n 1, 1, 0, 1, 0, 0, 0), (.imul, 1, 0, 0, 0, 0, 0), (.ishr, 1, 0, 0, 0, 0, 0), (.bipush 31, 2, 0, 31, 0, 0, 0), (.iand, 1, 0, 0, 0, 0, 0)] (by decide +kernel) (show m_sgl X _ _ _ _ _ = some (8, [some (.int v0), some (.int v1)], [.int ((v0 >>> (((5 : Int32) * v1) &&& 31)) &&& (31 : Int32))], (SH, m.1, m.2)) from rfl) ?_
  obtain ⟨rfl, rfl⟩ := m_some h
  exact m_R_iret (by decide) (m_opb_of (ins := .ireturn) (len := 1) (tag := 1) (a := 0) (b := 0) (c := 0) (q := 0) (by decide +kernel)) (Or.inl rfl)
def f_x_areRates_12 (F : Nat)    (m : mM) : Option (Int32 × mM) := some ((0 : Int32), m)
theorem ok_x_areRates_12 (X : mX) (d F : Nat) : ∀  (w0 : Option Value) (w1 : Option Value) (w2 : Option Value) (m : mM) (r : Int32) (m' : mM), f_x_areRates_12 F  m = some (r, m') → m_R X (d + 1) 171 12 [w0, w1, w2] [] (SH, m) (some (.int r), (SH, m')) := by
  intro w0 w1 w2 m r m' h
  unfold f_x_areRates_12 at h
  refine m_R_sg (by decide) [(.iconst 0, 1, 0, 0, 0, 0, 0)] (by decide +kernel) (show m_sgl X _ _ _ _ _ = some (13, [w0, w1, w2], [.int (0 : Int32)], (SH, m.1, m.2)) from rfl) ?_
  obtain ⟨rfl, rfl⟩ := m_some h
  exact m_R_iret (by decide) (m_opb_of (ins := .ireturn) (len := 1) (tag := 1) (a := 1) (b := 0) (c := 0) (q := 0) (by decide +kernel)) (Or.inr (Or.inl rfl))
def f_x_areRates_16 (F : Nat)   : Nat → Int32 → Int32 → Int32 → mM → Option (Int32 × mM)
  | 0, _, _, _, _ => none
  | n + 1, v0, v1, v2, m => (if v1 ≤ v2 then some ((1 : Int32), m) else ((f_x_rateAt F v0 v2 m).bind fun q1 => ((f_x_isRate F q1.1 q1.2).bind fun q2 => (if q2.1 = 0 then some ((0 : Int32), q2.2) else f_x_areRates_16 F n v0 v1 (v2 + (1 : Int32)) q2.2))))
theorem ok_x_areRates_16 (X : mX) (d F : Nat) : ∀ (n : Nat) (v0 : Int32) (v1 : Int32) (v2 : Int32)  (m : mM) (r : Int32) (m' : mM), f_x_areRates_16 F n v0 v1 v2 m = some (r, m') → m_R X (d + 1) 171 16 [some (.int v0), some (.int v1), some (.int v2)] [] (SH, m) (some (.int r), (SH, m')) := by
  intro n
  induction n with
  | zero => intro v0 v1 v2 m r m' h; cases h
  | succ n ih =>
    intro v0 v1 v2 m r m' h
    simp only [f_x_areRates_16] at h
    refine m_R_sg (by decide) [(.iload_n 2, 1, 0, 2, 0, 0, 0), (.iload_n 1, 1, 0, 1, 0, 0, 0)] (by decide +kernel) (show m_sgl X _ _ _ _ _ = some (18, [some (.int v0), some (.int v1), some (.int v2)], [.int v1, .int v2], (SH, m.1, m.2)) from rfl) ?_
    rcases m_ite h with ⟨c1380, h⟩ | ⟨c1380, h⟩
    · refine m_R_1 (by decide) (m_opb_of (ins := .if_icmp .ge 22) (len := 3) (tag := 0) (a := 40) (b := 0) (c := 0) (q := 0) (by decide +kernel)) (if_pos c1380) ?_
      refine m_R_sg (by decide) [(.iconst 1, 1, 0, 1, 0, 0, 0)] (by decide +kernel) (show m_sgl X _ _ _ _ _ = some (41, [some (.int v0), some (.int v1), some (.int v2)], [.int (1 : Int32)], (SH, m.1, m.2)) from rfl) ?_
      obtain ⟨rfl, rfl⟩ := m_some h
      exact m_R_iret (by decide) (m_opb_of (ins := .ireturn) (len := 1) (tag := 1) (a := 1) (b := 0) (c := 0) (q := 0) (by decide +kernel)) (Or.inr (Or.inr rfl))
    · refine m_R_1 (by decide) (m_opb_of (ins := .if_icmp .ge 22) (len := 3) (tag := 0) (a := 40) (b := 0) (c := 0) (q := 0) (by decide +kernel)) (if_neg c1380) ?_
      refine m_R_sg (by decide) [(.iload_n 0, 1, 0, 0, 0, 0, 0), (.iload_n 2, 1, 0, 2, 0, 0, 0)] (by decide +kernel) (show m_sgl X _ _ _ _ _ = some (23, [some (.int v0), some (.int v1), some (.int v2)], [.int v2, .int v0], (SH, m.1, m.2)) from rfl) ?_
      obtain ⟨q1, hc1, h⟩ := Option.bind_eq_some_iff.mp h
      refine m_R_cS (v := (some (.int q1.1))) (h1 := (SH, q1.2)) (rest := []) (lo' := [some (.int v0), some (.int v2)]) (ml := 2) (by decide) (m_opb_of (ins := .invokestatic 435) (len := 3) (tag := 4) (a := 172) (b := 2) (c := 0) (q := 1373) (by decide +kernel)) (by decide +kernel) (Nat.le_of_ble_eq_true rfl) rfl (Nat.le_of_ble_eq_true rfl) rfl rfl (ok_x_rateAt X (d + 0) F _ _ _ _ _ hc1) ?_
      obtain ⟨q2, hc2, h⟩ := Option.bind_eq_some_iff.mp h
      refine m_R_cS (v := (some (.int q2.1))) (h1 := (SH, q2.2)) (rest := []) (lo' := [some (.int q1.1)]) (ml := 1) (by decide) (m_opb_of (ins := .invokestatic 356) (len := 3) (tag := 4) (a := 116) (b := 1) (c := 0) (q := 1089) (by decide +kernel)) (by decide +kernel) (Nat.le_of_ble_eq_true rfl) rfl (Nat.le_of_ble_eq_true rfl) rfl rfl (ok_x_isRate X (d + 0) F _ _ _ _ hc2) ?_
      rcases m_ite h with ⟨c1381, h⟩ | ⟨c1381, h⟩
      · refine m_R_1 (by decide) (m_opb_of (ins := .ifCond .ne 5) (len := 3) (tag := 0) (a := 34) (b := 0) (c := 0) (q := 0) (by decide +kernel)) (if_pos c1381) ?_
        refine m_R_sg (by decide) [(.iconst 0, 1, 0, 0, 0, 0, 0)] (by decide +kernel) (show m_sgl X _ _ _ _ _ = some (33, [some (.int v0), some (.int v1), some (.int v2)], [.int (0 : Int32)], (SH, q2.2.1, q2.2.2)) from rfl) ?_
        obtain ⟨rfl, rfl⟩ := m_some h
        exact m_R_iret (by decide) (m_opb_of (ins := .ireturn) (len := 1) (tag := 1) (a := 1) (b := 0) (c := 0) (q := 0) (by decide +kernel)) (Or.inr (Or.inl rfl))
      · refine m_R_1 (by decide) (m_opb_of (ins := .ifCond .ne 5) (len := 3) (tag := 0) (a := 34) (b := 0) (c := 0) (q := 0) (by decide +kernel)) (if_neg c1381) ?_
        refine m_R_sg (by decide) [(.iinc 2 1, 3, 0, 2, 1, 0, 0), (.goto (-21), 3, 0, 16, 0, 0, 0)] (by decide +kernel) (show m_sgl X _ _ _ _ _ = some (16, [some (.int v0), some (.int v1), some (.int (v2 + (1 : Int32)))], [], (SH, q2.2.1, q2.2.2)) from rfl) ?_
        exact ih _ _ _ _ _ _ h
def f_x_areRates (F : Nat)   (v0 : Int32) (v1 : Int32) (m : mM) : Option (Int32 × mM) := (if v0 < 0 then f_x_areRates_12 F m else (if (v0 >>> (((5 : Int32) * v1) &&& 31)) = 0 then f_x_areRates_16 F F v0 v1 (0 : Int32) m else f_x_areRates_12 F m))
theorem ok_x_areRates (X : mX) (d F : Nat) : ∀ (v0 : Int32) (v1 : Int32)  (m : mM) (r : Int32) (m' : mM), f_x_areRates F v0 v1 m = some (r, m') → m_R X (d + 1) 171 0 [some (.int v0), some (.int v1), none] [] (SH, m) (some (.int r), (SH, m')) := by
  intro v0 v1 m r m' h
  unfold f_x_areRates at h
  refine m_R_sg (by decide) [(.iload_n 0, 1, 0, 0, 0, 0, 0)] (by decide +kernel) (show m_sgl X _ _ _ _ _ = some (1, [some (.int v0), some (.int v1), none], [.int v0], (SH, m.1, m.2)) from rfl) ?_
  rcases m_ite h with ⟨c1382, h⟩ | ⟨c1382, h⟩
  · refine m_R_1 (by decide) (m_opb_of (ins := .ifCond .lt 11) (len := 3) (tag := 0) (a := 12) (b := 0) (c := 0) (q := 0) (by decide +kernel)) (if_pos c1382) ?_
    exact ok_x_areRates_12 X d F _ _ _ _ _ _ h
  · refine m_R_1 (by decide) (m_opb_of (ins := .ifCond .lt 11) (len := 3) (tag := 0) (a := 12) (b := 0) (c := 0) (q := 0) (by decide +kernel)) (if_neg c1382) ?_
    refine m_R_sg (by decide) [(.iload_n 0, 1, 0, 0, 0, 0, 0), (.iconst 5, 1, 0, 5, 0, 0, 0), (.iload_n 1, 1, 0, 1, 0, 0, 0), (.imul, 1, 0, 0, 0, 0, 0), (.ishr, 1, 0, 0, 0, 0, 0)] (by decide +kernel) (show m_sgl X _ _ _ _ _ = some (9, [some (.int v0), some (.int v1), none], [.int (v0 >>> (((5 : Int32) * v1) &&& 31))], (SH, m.1, m.2)) from rfl) ?_
    rcases m_ite h with ⟨c1383, h⟩ | ⟨c1383, h⟩
    · refine m_R_1 (by decide) (m_opb_of (ins := .ifCond .eq 5) (len := 3) (tag := 0) (a := 14) (b := 0) (c := 0) (q := 0) (by decide +kernel)) (if_pos c1383) ?_
      refine m_R_sg (by decide) [(.iconst 0, 1, 0, 0, 0, 0, 0), (.istore_n 2, 1, 0, 2, 0, 0, 0)] (by decide +kernel) (show m_sgl X _ _ _ _ _ = some (16, [some (.int v0), some (.int v1), some (.int (0 : Int32))], [], (SH, m.1, m.2)) from rfl) ?_
      exact ok_x_areRates_16 X d F F _ _ _ _ _ _ h
    · refine m_R_1 (by decide) (m_opb_of (ins := .ifCond .eq 5) (len := 3) (tag := 0) (a := 14) (b := 0) (c := 0) (q := 0) (by decide +kernel)) (if_neg c1383) ?_
      exact ok_x_areRates_12 X d F _ _ _ _ _ _ h
def f_x_isTooLate_23 (F : Nat)   (s0 : Int32) (m : mM) : Option (Int32 × mM) := (if s0 = 0 ∨ s0 = 1 then some (s0, m) else none)
theorem ok_x_isTooLate_23 (X : mX) (d F : Nat) : ∀ (s0 : Int32) (w0 : Option Value) (w1 : Option Value) (m : mM) (r : Int32) (m' : mM), f_x_isTooLate_23 F s0 m = some (r, m') → m_R X (d + 0) 173 23 [w0, w1] [.int s0] (SH, m) (some (.int r), (SH, m')) := by
  intro s0 w0 w1 m r m' h
  unfold f_x_isTooLate_23 at h
  obtain ⟨c0, h⟩ := m_ite_p h
  obtain ⟨rfl, rfl⟩ := m_some h
  exact m_R_iret (by decide) (m_opb_of (ins := .ireturn) (len := 1) (tag := 1) (a := 1) (b := 0) (c := 0) (q := 0) (by decide +kernel)) (Or.inr c0)
def f_x_isTooLate (F : Nat)   (v1 : Int32) (m : mM) : Option (Int32 × mM) := (if ((m.1 16 9) + ((7 : Int32) * v1)) ≤ (700 : Int32) then f_x_isTooLate_23 F (0 : Int32) m else f_x_isTooLate_23 F (1 : Int32) m)
theorem ok_x_isTooLate (X : mX) (d F : Nat) : ∀ (v1 : Int32)  (m : mM) (r : Int32) (m' : mM), f_x_isTooLate F v1 m = some (r, m') → m_R X (d + 0) 173 0 [some (.ref 0), some (.int v1)] [] (SH, m) (some (.int r), (SH, m')) := by
  intro v1 m r m' h
  unfold f_x_isTooLate at h
  refine m_R_sg (by decide) [(.aload_n 0, 1, 0, 0, 0, 0, 0), (.getfield 28, 3, 0, 11, 2, 3, 632), (.getfield 255, 3, 0, 10, 9, 0, 521), (.bipush 7, 2, 0, 7, 0, 0, 0), (.iload_n 1, 1, 0, 1, 0, 0, 0), (.imul, 1, 0, 0, 0, 0, 0), (.iadd, 1, 0, 0, 0, 0, 0), (.sipush 700, 3, 0, 700, 0, 0, 0)] (by decide +kernel) (show m_sgl X _ _ _ _ _ = some (15, [some (.ref 0), some (.int v1)], [.int (700 : Int32), .int ((m.1 16 9) + ((7 : Int32) * v1))], (SH, m.1, m.2)) from rfl) ?_
  rcases m_ite h with ⟨c1384, h⟩ | ⟨c1384, h⟩
  · refine m_R_1 (by decide) (m_opb_of (ins := .if_icmp .le 7) (len := 3) (tag := 0) (a := 22) (b := 0) (c := 0) (q := 0) (by decide +kernel)) (if_pos c1384) ?_
    refine m_R_sg (by decide) [(.iconst 0, 1, 0, 0, 0, 0, 0)] (by decide +kernel) (show m_sgl X _ _ _ _ _ = some (23, [some (.ref 0), some (.int v1)], [.int (0 : Int32)], (SH, m.1, m.2)) from rfl) ?_
    exact ok_x_isTooLate_23 X d F _ _ _ _ _ _ h
  · refine m_R_1 (by decide) (m_opb_of (ins := .if_icmp .le 7) (len := 3) (tag := 0) (a := 22) (b := 0) (c := 0) (q := 0) (by decide +kernel)) (if_neg c1384) ?_
    refine m_R_sg (by decide) [(.iconst 1, 1, 0, 1, 0, 0, 0), (.goto 4, 3, 0, 23, 0, 0, 0)] (by decide +kernel) (show m_sgl X _ _ _ _ _ = some (23, [some (.ref 0), some (.int v1)], [.int (1 : Int32)], (SH, m.1, m.2)) from rfl) ?_
    exact ok_x_isTooLate_23 X d F _ _ _ _ _ _ h
def f_x_copyAll_18_122 (F : Nat)    (m : mM) : Option (Unit × mM) := ((f_Math_min_II F (Int32.ofNat 64) (Int32.ofNat 64) m).bind fun q1 => (if (0 : Int32) < 0 ∨ (0 : Int32) < 0 ∨ q1.1 < 0 ∨ 64 < (0 : Int32).toNatClampNeg + q1.1.toNatClampNeg ∨ 64 < (0 : Int32).toNatClampNeg + q1.1.toNatClampNeg then none else some ((), ((m_row q1.2.1 122 (va_cpy (q1.2.1 18) (q1.2.1 122) (0 : Int32).toNatClampNeg (0 : Int32).toNatClampNeg q1.1.toNatClampNeg)), q1.2.2))))
theorem ok_x_copyAll_18_122 (X : mX) (d F : Nat) : ∀   (m : mM) (r : Unit) (m' : mM), f_x_copyAll_18_122 F  m = some (r, m') → m_R X (d + 1) 176 0 [some (.ref 18), some (.ref 122)] [] (SH, m) (none, (SH, m')) := by
  intro m r m' h
  unfold f_x_copyAll_18_122 at h
  refine m_R_sg (by decide) [(.aload_n 0, 1, 0, 0, 0, 0, 0), (.iconst 0, 1, 0, 0, 0, 0, 0), (.aload_n 1, 1, 0, 1, 0, 0, 0), (.iconst 0, 1, 0, 0, 0, 0, 0), (.aload_n 0, 1, 0, 0, 0, 0, 0), (.arraylength, 1, 0, 0, 0, 0, 0), (.aload_n 1, 1, 0, 1, 0, 0, 0), (.arraylength, 1, 0, 0, 0, 0, 0)] (by decide +kernel) (show m_sgl X _ _ _ _ _ = some (8, [some (.ref 18), some (.ref 122)], [.int (Int32.ofNat 64), .int (Int32.ofNat 64), .int (0 : Int32), .ref 122, .int (0 : Int32), .ref 18], (SH, m.1, m.2)) from rfl) ?_
  obtain ⟨q1, hc1, h⟩ := Option.bind_eq_some_iff.mp h
  refine m_R_cS (v := (some (.int q1.1))) (h1 := (SH, q1.2)) (rest := [.int (0 : Int32), .ref 122, .int (0 : Int32), .ref 18]) (lo' := [some (.int (Int32.ofNat 64)), some (.int (Int32.ofNat 64))]) (ml := 2) (by decide) (m_opb_of (ins := .invokestatic 219) (len := 3) (tag := 4) (a := 50) (b := 2) (c := 0) (q := 893) (by decide +kernel)) (by decide +kernel) (Nat.le_of_ble_eq_true rfl) rfl (Nat.le_of_ble_eq_true rfl) rfl rfl (ok_Math_min_II X (d + 0) F _ _ _ _ _ hc1) ?_
  obtain ⟨c0, h⟩ := m_ite_n h
  refine m_R_cpy (by decide) (m_opb_of (ins := .invokestatic 452) (len := 3) (tag := 8) (a := 0) (b := 0) (c := 0) (q := 1391) (by decide +kernel)) (Nat.le_of_ble_eq_true rfl) (m_cpy_of sh_18 sh_122 c0) ?_
  obtain ⟨rfl, rfl⟩ := m_some h
  exact m_R_vret (by decide) (m_opb_of (ins := .return_) (len := 1) (tag := 3) (a := 0) (b := 0) (c := 0) (q := 0) (by decide +kernel))
def f_Land_become_121_17 (F : Nat)    (m : mM) : Option (Unit × mM) := ((f_x_copyAll_18_122 F m).bind fun q1 => some ((), ((m_up (m_up q1.2.1 121 1 (q1.2.1 17 1)) 121 2 ((m_up q1.2.1 121 1 (q1.2.1 17 1)) 17 2)), q1.2.2)))
theorem ok_Land_become_121_17 (X : mX) (d F : Nat) : ∀   (m : mM) (r : Unit) (m' : mM), f_Land_become_121_17 F  m = some (r, m') → m_R X (d + 2) 175 0 [some (.ref 121), some (.ref 17)] [] (SH, m) (none, (SH, m')) := by
  intro m r m' h
  unfold f_Land_become_121_17 at h
  refine m_R_sg (by decide) [(.aload_n 1, 1, 0, 1, 0, 0, 0), (.getfield 9, 3, 0, 2, 0, 3, 231), (.aload_n 0, 1, 0, 0, 0, 0, 0), (.getfield 9, 3, 0, 2, 0, 3, 231)] (by decide +kernel) (show m_sgl X _ _ _ _ _ = some (8, [some (.ref 121), some (.ref 17)], [.ref 122, .ref 18], (SH, m.1, m.2)) from rfl) ?_
  obtain ⟨q1, hc1, h⟩ := Option.bind_eq_some_iff.mp h
  refine m_R_cS (v := none) (h1 := (SH, q1.2)) (rest := []) (lo' := [some (.ref 18), some (.ref 122)]) (ml := 2) (by decide) (m_opb_of (ins := .invokestatic 19) (len := 3) (tag := 4) (a := 176) (b := 2) (c := 1) (q := 1388) (by decide +kernel)) (by decide +kernel) (Nat.le_of_ble_eq_true rfl) rfl (Nat.le_of_ble_eq_true rfl) rfl rfl (ok_x_copyAll_18_122 X (d + 0) F _ _ _ hc1) ?_
  refine m_R_sg (by decide) [(.aload_n 0, 1, 0, 0, 0, 0, 0), (.aload_n 1, 1, 0, 1, 0, 0, 0), (.getfield 15, 3, 0, 2, 1, 0, 232), (.putfield 15, 3, 0, 2, 1, 0, 232), (.aload_n 0, 1, 0, 0, 0, 0, 0), (.aload_n 1, 1, 0, 1, 0, 0, 0), (.getfield 23, 3, 0, 2, 2, 0, 234), (.putfield 23, 3, 0, 2, 2, 0, 234)] (by decide +kernel) (show m_sgl X _ _ _ _ _ = some (27, [some (.ref 121), some (.ref 17)], [], (SH, (m_up (m_up q1.2.1 121 1 (q1.2.1 17 1)) 121 2 ((m_up q1.2.1 121 1 (q1.2.1 17 1)) 17 2)), q1.2.2)) from rfl) ?_
  obtain ⟨rfl, rfl⟩ := m_some h
  exact m_R_vret (by decide) (m_opb_of (ins := .return_) (len := 1) (tag := 3) (a := 0) (b := 0) (c := 0) (q := 0) (by decide +kernel))
def f_x_copyAll_20_124 (F : Nat)    (m : mM) : Option (Unit × mM) := ((f_Math_min_II F (Int32.ofNat 16) (Int32.ofNat 16) m).bind fun q1 => (if (0 : Int32) < 0 ∨ (0 : Int32) < 0 ∨ q1.1 < 0 ∨ 16 < (0 : Int32).toNatClampNeg + q1.1.toNatClampNeg ∨ 16 < (0 : Int32).toNatClampNeg + q1.1.toNatClampNeg then none else some ((), ((m_row q1.2.1 124 (va_cpy (q1.2.1 20) (q1.2.1 124) (0 : Int32).toNatClampNeg (0 : Int32).toNatClampNeg q1.1.toNatClampNeg)), q1.2.2))))
theorem ok_x_copyAll_20_124 (X : mX) (d F : Nat) : ∀   (m : mM) (r : Unit) (m' : mM), f_x_copyAll_20_124 F  m = some (r, m') → m_R X (d + 1) 176 0 [some (.ref 20), some (.ref 124)] [] (SH, m) (none, (SH, m')) := by
  intro m r m' h
  unfold f_x_copyAll_20_124 at h
  refine m_R_sg (by decide) [(.aload_n 0, 1, 0, 0, 0, 0, 0), (.iconst 0, 1, 0, 0, 0, 0, 0), (.aload_n 1, 1, 0, 1, 0, 0, 0), (.iconst 0, 1, 0, 0, 0, 0, 0), (.aload_n 0, 1, 0, 0, 0, 0, 0), (.arraylength, 1, 0, 0, 0, 0, 0), (.aload_n 1, 1, 0, 1, 0, 0, 0), (.arraylength, 1, 0, 0, 0, 0, 0)] (by decide +kernel) (show m_sgl X _ _ _ _ _ = some (8, [some (.ref 20), some (.ref 124)], [.int (Int32.ofNat 16), .int (Int32.ofNat 16), .int (0 : Int32), .ref 124, .int (0 : Int32), .ref 20], (SH, m.1, m.2)) from rfl) ?_
  obtain ⟨q1, hc1, h⟩ := Option.bind_eq_some_iff.mp h
  refine m_R_cS (v := (some (.int q1.1))) (h1 := (SH, q1.2)) (rest := [.int (0 : Int32), .ref 124, .int (0 : Int32), .ref 20]) (lo' := [some (.int (Int32.ofNat 16)), some (.int (Int32.ofNat 16))]) (ml := 2) (by decide) (m_opb_of (ins := .invokestatic 219) (len := 3) (tag := 4) (a := 50) (b := 2) (c := 0) (q := 893) (by decide +kernel)) (by decide +kernel) (Nat.le_of_ble_eq_true rfl) rfl (Nat.le_of_ble_eq_true rfl) rfl rfl (ok_Math_min_II X (d + 0) F _ _ _ _ _ hc1) ?_
  obtain ⟨c0, h⟩ := m_ite_n h
  refine m_R_cpy (by decide) (m_opb_of (ins := .invokestatic 452) (len := 3) (tag := 8) (a := 0) (b := 0) (c := 0) (q := 1391) (by decide +kernel)) (Nat.le_of_ble_eq_true rfl) (m_cpy_of sh_20 sh_124 c0) ?_
  obtain ⟨rfl, rfl⟩ := m_some h
  exact m_R_vret (by decide) (m_opb_of (ins := .return_) (len := 1) (tag := 3) (a := 0) (b := 0) (c := 0) (q := 0) (by decide +kernel))
def f_x_copyAll_21_125 (F : Nat)    (m : mM) : Option (Unit × mM) := ((f_Math_min_II F (Int32.ofNat 16) (Int32.ofNat 16) m).bind fun q1 => (if (0 : Int32) < 0 ∨ (0 : Int32) < 0 ∨ q1.1 < 0 ∨ 16 < (0 : Int32).toNatClampNeg + q1.1.toNatClampNeg ∨ 16 < (0 : Int32).toNatClampNeg + q1.1.toNatClampNeg then none else some ((), ((m_row q1.2.1 125 (va_cpy (q1.2.1 21) (q1.2.1 125) (0 : Int32).toNatClampNeg (0 : Int32).toNatClampNeg q1.1.toNatClampNeg)), q1.2.2))))
theorem ok_x_copyAll_21_125 (X : mX) (d F : Nat) : ∀   (m : mM) (r : Unit) (m' : mM), f_x_copyAll_21_125 F  m = some (r, m') → m_R X (d + 1) 176 0 [some (.ref 21), some (.ref 125)] [] (SH, m) (none, (SH, m')) := by
  intro m r m' h
  unfold f_x_copyAll_21_125 at h
  refine m_R_sg (by decide) [(.aload_n 0, 1, 0, 0, 0, 0, 0), (.iconst 0, 1, 0, 0, 0, 0, 0), (.aload_n 1, 1, 0, 1, 0, 0, 0), (.iconst 0, 1, 0, 0, 0, 0, 0), (.aload_n 0, 1, 0, 0, 0, 0, 0), (.arraylength, 1, 0, 0, 0, 0, 0), (.aload_n 1, 1, 0, 1, 0, 0, 0), (.arraylength, 1, 0, 0, 0, 0, 0)] (by decide +kernel) (show m_sgl X _ _ _ _ _ = some (8, [some (.ref 21), some (.ref 125)], [.int (Int32.ofNat 16), .int (Int32.ofNat 16), .int (0 : Int32), .ref 125, .int (0 : Int32), .ref 21], (SH, m.1, m.2)) from rfl) ?_
  obtain ⟨q1, hc1, h⟩ := Option.bind_eq_some_iff.mp h
  refine m_R_cS (v := (some (.int q1.1))) (h1 := (SH, q1.2)) (rest := [.int (0 : Int32), .ref 125, .int (0 : Int32), .ref 21]) (lo' := [some (.int (Int32.ofNat 16)), some (.int (Int32.ofNat 16))]) (ml := 2) (by decide) (m_opb_of (ins := .invokestatic 219) (len := 3) (tag := 4) (a := 50) (b := 2) (c := 0) (q := 893) (by decide +kernel)) (by decide +kernel) (Nat.le_of_ble_eq_true rfl) rfl (Nat.le_of_ble_eq_true rfl) rfl rfl (ok_Math_min_II X (d + 0) F _ _ _ _ _ hc1) ?_
  obtain ⟨c0, h⟩ := m_ite_n h
  refine m_R_cpy (by decide) (m_opb_of (ins := .invokestatic 452) (len := 3) (tag := 8) (a := 0) (b := 0) (c := 0) (q := 1391) (by decide +kernel)) (Nat.le_of_ble_eq_true rfl) (m_cpy_of sh_21 sh_125 c0) ?_
  obtain ⟨rfl, rfl⟩ := m_some h
  exact m_R_vret (by decide) (m_opb_of (ins := .return_) (len := 1) (tag := 3) (a := 0) (b := 0) (c := 0) (q := 0) (by decide +kernel))
def f_x_copyAll_22_126 (F : Nat)    (m : mM) : Option (Unit × mM) := ((f_Math_min_II F (Int32.ofNat 16) (Int32.ofNat 16) m).bind fun q1 => (if (0 : Int32) < 0 ∨ (0 : Int32) < 0 ∨ q1.1 < 0 ∨ 16 < (0 : Int32).toNatClampNeg + q1.1.toNatClampNeg ∨ 16 < (0 : Int32).toNatClampNeg + q1.1.toNatClampNeg then none else some ((), ((m_row q1.2.1 126 (va_cpy (q1.2.1 22) (q1.2.1 126) (0 : Int32).toNatClampNeg (0 : Int32).toNatClampNeg q1.1.toNatClampNeg)), q1.2.2))))
theorem ok_x_copyAll_22_126 (X : mX) (d F : Nat) : ∀   (m : mM) (r : Unit) (m' : mM), f_x_copyAll_22_126 F  m = some (r, m') → m_R X (d + 1) 176 0 [some (.ref 22), some (.ref 126)] [] (SH, m) (none, (SH, m')) := by
  intro m r m' h
  unfold f_x_copyAll_22_126 at h
  refine m_R_sg (by decide) [(.aload_n 0, 1, 0, 0, 0, 0, 0), (.iconst 0, 1, 0, 0, 0, 0, 0), (.aload_n 1, 1, 0, 1, 0, 0, 0), (.iconst 0, 1, 0, 0, 0, 0, 0), (.aload_n 0, 1, 0, 0, 0, 0, 0), (.arraylength, 1, 0, 0, 0, 0, 0), (.aload_n 1, 1, 0, 1, 0, 0, 0), (.arraylength, 1, 0, 0, 0, 0, 0)] (by decide +kernel) (show m_sgl X _ _ _ _ _ = some (8, [some (.ref 22), some (.ref 126)], [.int (Int32.ofNat 16), .int (Int32.ofNat 16), .int (0 : Int32), .ref 126, .int (0 : Int32), .ref 22], (SH, m.1, m.2)) from rfl) ?_
  obtain ⟨q1, hc1, h⟩ := Option.bind_eq_some_iff.mp h
  refine m_R_cS (v := (some (.int q1.1))) (h1 := (SH, q1.2)) (rest := [.int (0 : Int32), .ref 126, .int (0 : Int32), .ref 22]) (lo' := [some (.int (Int32.ofNat 16)), some (.int (Int32.ofNat 16))]) (ml := 2) (by decide) (m_opb_of (ins := .invokestatic 219) (len := 3) (tag := 4) (a := 50) (b := 2) (c := 0) (q := 893) (by decide +kernel)) (by decide +kernel) (Nat.le_of_ble_eq_true rfl) rfl (Nat.le_of_ble_eq_true rfl) rfl rfl (ok_Math_min_II X (d + 0) F _ _ _ _ _ hc1) ?_
  obtain ⟨c0, h⟩ := m_ite_n h
  refine m_R_cpy (by decide) (m_opb_of (ins := .invokestatic 452) (len := 3) (tag := 8) (a := 0) (b := 0) (c := 0) (q := 1391) (by decide +kernel)) (Nat.le_of_ble_eq_true rfl) (m_cpy_of sh_22 sh_126 c0) ?_
  obtain ⟨rfl, rfl⟩ := m_some h
  exact m_R_vret (by decide) (m_opb_of (ins := .return_) (len := 1) (tag := 3) (a := 0) (b := 0) (c := 0) (q := 0) (by decide +kernel))
def f_x_copyAll_23_127 (F : Nat)    (m : mM) : Option (Unit × mM) := ((f_Math_min_II F (Int32.ofNat 16) (Int32.ofNat 16) m).bind fun q1 => (if (0 : Int32) < 0 ∨ (0 : Int32) < 0 ∨ q1.1 < 0 ∨ 16 < (0 : Int32).toNatClampNeg + q1.1.toNatClampNeg ∨ 16 < (0 : Int32).toNatClampNeg + q1.1.toNatClampNeg then none else some ((), ((m_row q1.2.1 127 (va_cpy (q1.2.1 23) (q1.2.1 127) (0 : Int32).toNatClampNeg (0 : Int32).toNatClampNeg q1.1.toNatClampNeg)), q1.2.2))))
theorem ok_x_copyAll_23_127 (X : mX) (d F : Nat) : ∀   (m : mM) (r : Unit) (m' : mM), f_x_copyAll_23_127 F  m = some (r, m') → m_R X (d + 1) 176 0 [some (.ref 23), some (.ref 127)] [] (SH, m) (none, (SH, m')) := by
  intro m r m' h
  unfold f_x_copyAll_23_127 at h
  refine m_R_sg (by decide) [(.aload_n 0, 1, 0, 0, 0, 0, 0), (.iconst 0, 1, 0, 0, 0, 0, 0), (.aload_n 1, 1, 0, 1, 0, 0, 0), (.iconst 0, 1, 0, 0, 0, 0, 0), (.aload_n 0, 1, 0, 0, 0, 0, 0), (.arraylength, 1, 0, 0, 0, 0, 0), (.aload_n 1, 1, 0, 1, 0, 0, 0), (.arraylength, 1, 0, 0, 0, 0, 0)] (by decide +kernel) (show m_sgl X _ _ _ _ _ = some (8, [some (.ref 23), some (.ref 127)], [.int (Int32.ofNat 16), .int (Int32.ofNat 16), .int (0 : Int32), .ref 127, .int (0 : Int32), .ref 23], (SH, m.1, m.2)) from rfl) ?_
  obtain ⟨q1, hc1, h⟩ := Option.bind_eq_some_iff.mp h
  refine m_R_cS (v := (some (.int q1.1))) (h1 := (SH, q1.2)) (rest := [.int (0 : Int32), .ref 127, .int (0 : Int32), .ref 23]) (lo' := [some (.int (Int32.ofNat 16)), some (.int (Int32.ofNat 16))]) (ml := 2) (by decide) (m_opb_of (ins := .invokestatic 219) (len := 3) (tag := 4) (a := 50) (b := 2) (c := 0) (q := 893) (by decide +kernel)) (by decide +kernel) (Nat.le_of_ble_eq_true rfl) rfl (Nat.le_of_ble_eq_true rfl) rfl rfl (ok_Math_min_II X (d + 0) F _ _ _ _ _ hc1) ?_
  obtain ⟨c0, h⟩ := m_ite_n h
  refine m_R_cpy (by decide) (m_opb_of (ins := .invokestatic 452) (len := 3) (tag := 8) (a := 0) (b := 0) (c := 0) (q := 1391) (by decide +kernel)) (Nat.le_of_ble_eq_true rfl) (m_cpy_of sh_23 sh_127 c0) ?_
  obtain ⟨rfl, rfl⟩ := m_some h
  exact m_R_vret (by decide) (m_opb_of (ins := .return_) (len := 1) (tag := 3) (a := 0) (b := 0) (c := 0) (q := 0) (by decide +kernel))
def f_x_copyAll_24_128 (F : Nat)    (m : mM) : Option (Unit × mM) := ((f_Math_min_II F (Int32.ofNat 16) (Int32.ofNat 16) m).bind fun q1 => (if (0 : Int32) < 0 ∨ (0 : Int32) < 0 ∨ q1.1 < 0 ∨ 16 < (0 : Int32).toNatClampNeg + q1.1.toNatClampNeg ∨ 16 < (0 : Int32).toNatClampNeg + q1.1.toNatClampNeg then none else some ((), ((m_row q1.2.1 128 (va_cpy (q1.2.1 24) (q1.2.1 128) (0 : Int32).toNatClampNeg (0 : Int32).toNatClampNeg q1.1.toNatClampNeg)), q1.2.2))))
theorem ok_x_copyAll_24_128 (X : mX) (d F : Nat) : ∀   (m : mM) (r : Unit) (m' : mM), f_x_copyAll_24_128 F  m = some (r, m') → m_R X (d + 1) 176 0 [some (.ref 24), some (.ref 128)] [] (SH, m) (none, (SH, m')) := by
  intro m r m' h
  unfold f_x_copyAll_24_128 at h
  refine m_R_sg (by decide) [(.aload_n 0, 1, 0, 0, 0, 0, 0), (.iconst 0, 1, 0, 0, 0, 0, 0), (.aload_n 1, 1, 0, 1, 0, 0, 0), (.iconst 0, 1, 0, 0, 0, 0, 0), (.aload_n 0, 1, 0, 0, 0, 0, 0), (.arraylength, 1, 0, 0, 0, 0, 0), (.aload_n 1, 1, 0, 1, 0, 0, 0), (.arraylength, 1, 0, 0, 0, 0, 0)] (by decide +kernel) (show m_sgl X _ _ _ _ _ = some (8, [some (.ref 24), some (.ref 128)], [.int (Int32.ofNat 16), .int (Int32.ofNat 16), .int (0 : Int32), .ref 128, .int (0 : Int32), .ref 24], (SH, m.1, m.2)) from rfl) ?_
  obtain ⟨q1, hc1, h⟩ := Option.bind_eq_some_iff.mp h
  refine m_R_cS (v := (some (.int q1.1))) (h1 := (SH, q1.2)) (rest := [.int (0 : Int32), .ref 128, .int (0 : Int32), .ref 24]) (lo' := [some (.int (Int32.ofNat 16)), some (.int (Int32.ofNat 16))]) (ml := 2) (by decide) (m_opb_of (ins := .invokestatic 219) (len := 3) (tag := 4) (a := 50) (b := 2) (c := 0) (q := 893) (by decide +kernel)) (by decide +kernel) (Nat.le_of_ble_eq_true rfl) rfl (Nat.le_of_ble_eq_true rfl) rfl rfl (ok_Math_min_II X (d + 0) F _ _ _ _ _ hc1) ?_
  obtain ⟨c0, h⟩ := m_ite_n h
  refine m_R_cpy (by decide) (m_opb_of (ins := .invokestatic 452) (len := 3) (tag := 8) (a := 0) (b := 0) (c := 0) (q := 1391) (by decide +kernel)) (Nat.le_of_ble_eq_true rfl) (m_cpy_of sh_24 sh_128 c0) ?_
  obtain ⟨rfl, rfl⟩ := m_some h
  exact m_R_vret (by decide) (m_opb_of (ins := .return_) (len := 1) (tag := 3) (a := 0) (b := 0) (c := 0) (q := 0) (by decide +kernel))
def f_x_copyAll_25_129 (F : Nat)    (m : mM) : Option (Unit × mM) := ((f_Math_min_II F (Int32.ofNat 16) (Int32.ofNat 16) m).bind fun q1 => (if (0 : Int32) < 0 ∨ (0 : Int32) < 0 ∨ q1.1 < 0 ∨ 16 < (0 : Int32).toNatClampNeg + q1.1.toNatClampNeg ∨ 16 < (0 : Int32).toNatClampNeg + q1.1.toNatClampNeg then none else some ((), ((m_row q1.2.1 129 (va_cpy (q1.2.1 25) (q1.2.1 129) (0 : Int32).toNatClampNeg (0 : Int32).toNatClampNeg q1.1.toNatClampNeg)), q1.2.2))))
theorem ok_x_copyAll_25_129 (X : mX) (d F : Nat) : ∀   (m : mM) (r : Unit) (m' : mM), f_x_copyAll_25_129 F  m = some (r, m') → m_R X (d + 1) 176 0 [some (.ref 25), some (.ref 129)] [] (SH, m) (none, (SH, m')) := by
  intro m r m' h
  unfold f_x_copyAll_25_129 at h
  refine m_R_sg (by decide) [(.aload_n 0, 1, 0, 0, 0, 0, 0), (.iconst 0, 1, 0, 0, 0, 0, 0), (.aload_n 1, 1, 0, 1, 0, 0, 0), (.iconst 0, 1, 0, 0, 0, 0, 0), (.aload_n 0, 1, 0, 0, 0, 0, 0), (.arraylength, 1, 0, 0, 0, 0, 0), (.aload_n 1, 1, 0, 1, 0, 0, 0), (.arraylength, 1, 0, 0, 0, 0, 0)] (by decide +kernel) (show m_sgl X _ _ _ _ _ = some (8, [some (.ref 25), some (.ref 129)], [.int (Int32.ofNat 16), .int (Int32.ofNat 16), .int (0 : Int32), .ref 129, .int (0 : Int32), .ref 25], (SH, m.1, m.2)) from rfl) ?_
  obtain ⟨q1, hc1, h⟩ := Option.bind_eq_some_iff.mp h
  refine m_R_cS (v := (some (.int q1.1))) (h1 := (SH, q1.2)) (rest := [.int (0 : Int32), .ref 129, .int (0 : Int32), .ref 25]) (lo' := [some (.int (Int32.ofNat 16)), some (.int (Int32.ofNat 16))]) (ml := 2) (by decide) (m_opb_of (ins := .invokestatic 219) (len := 3) (tag := 4) (a := 50) (b := 2) (c := 0) (q := 893) (by decide +kernel)) (by decide +kernel) (Nat.le_of_ble_eq_true rfl) rfl (Nat.le_of_ble_eq_true rfl) rfl rfl (ok_Math_min_II X (d + 0) F _ _ _ _ _ hc1) ?_
  obtain ⟨c0, h⟩ := m_ite_n h
  refine m_R_cpy (by decide) (m_opb_of (ins := .invokestatic 452) (len := 3) (tag := 8) (a := 0) (b := 0) (c := 0) (q := 1391) (by decide +kernel)) (Nat.le_of_ble_eq_true rfl) (m_cpy_of sh_25 sh_129 c0) ?_
  obtain ⟨rfl, rfl⟩ := m_some h
  exact m_R_vret (by decide) (m_opb_of (ins := .return_) (len := 1) (tag := 3) (a := 0) (b := 0) (c := 0) (q := 0) (by decide +kernel))
def f_x_copyAll_26_130 (F : Nat)    (m : mM) : Option (Unit × mM) := ((f_Math_min_II F (Int32.ofNat 16) (Int32.ofNat 16) m).bind fun q1 => (if (0 : Int32) < 0 ∨ (0 : Int32) < 0 ∨ q1.1 < 0 ∨ 16 < (0 : Int32).toNatClampNeg + q1.1.toNatClampNeg ∨ 16 < (0 : Int32).toNatClampNeg + q1.1.toNatClampNeg then none else some ((), ((m_row q1.2.1 130 (va_cpy (q1.2.1 26) (q1.2.1 130) (0 : Int32).toNatClampNeg (0 : Int32).toNatClampNeg q1.1.toNatClampNeg)), q1.2.2))))
theorem ok_x_copyAll_26_130 (X : mX) (d F : Nat) : ∀   (m : mM) (r : Unit) (m' : mM), f_x_copyAll_26_130 F  m = some (r, m') → m_R X (d + 1) 176 0 [some (.ref 26), some (.ref 130)] [] (SH, m) (none, (SH, m')) := by
  intro m r m' h
  unfold f_x_copyAll_26_130 at h
  refine m_R_sg (by decide) [(.aload_n 0, 1, 0, 0, 0, 0, 0), (.iconst 0, 1, 0, 0, 0, 0, 0), (.aload_n 1, 1, 0, 1, 0, 0, 0), (.iconst 0, 1, 0, 0, 0, 0, 0), (.aload_n 0, 1, 0, 0, 0, 0, 0), (.arraylength, 1, 0, 0, 0, 0, 0), (.aload_n 1, 1, 0, 1, 0, 0, 0), (.arraylength, 1, 0, 0, 0, 0, 0)] (by decide +kernel) (show m_sgl X _ _ _ _ _ = some (8, [some (.ref 26), some (.ref 130)], [.int (Int32.ofNat 16), .int (Int32.ofNat 16), .int (0 : Int32), .ref 130, .int (0 : Int32), .ref 26], (SH, m.1, m.2)) from rfl) ?_
  obtain ⟨q1, hc1, h⟩ := Option.bind_eq_some_iff.mp h
  refine m_R_cS (v := (some (.int q1.1))) (h1 := (SH, q1.2)) (rest := [.int (0 : Int32), .ref 130, .int (0 : Int32), .ref 26]) (lo' := [some (.int (Int32.ofNat 16)), some (.int (Int32.ofNat 16))]) (ml := 2) (by decide) (m_opb_of (ins := .invokestatic 219) (len := 3) (tag := 4) (a := 50) (b := 2) (c := 0) (q := 893) (by decide +kernel)) (by decide +kernel) (Nat.le_of_ble_eq_true rfl) rfl (Nat.le_of_ble_eq_true rfl) rfl rfl (ok_Math_min_II X (d + 0) F _ _ _ _ _ hc1) ?_
  obtain ⟨c0, h⟩ := m_ite_n h
  refine m_R_cpy (by decide) (m_opb_of (ins := .invokestatic 452) (len := 3) (tag := 8) (a := 0) (b := 0) (c := 0) (q := 1391) (by decide +kernel)) (Nat.le_of_ble_eq_true rfl) (m_cpy_of sh_26 sh_130 c0) ?_
  obtain ⟨rfl, rfl⟩ := m_some h
  exact m_R_vret (by decide) (m_opb_of (ins := .return_) (len := 1) (tag := 3) (a := 0) (b := 0) (c := 0) (q := 0) (by decide +kernel))
def f_x_copyAll_27_131 (F : Nat)    (m : mM) : Option (Unit × mM) := ((f_Math_min_II F (Int32.ofNat 16) (Int32.ofNat 16) m).bind fun q1 => (if (0 : Int32) < 0 ∨ (0 : Int32) < 0 ∨ q1.1 < 0 ∨ 16 < (0 : Int32).toNatClampNeg + q1.1.toNatClampNeg ∨ 16 < (0 : Int32).toNatClampNeg + q1.1.toNatClampNeg then none else some ((), ((m_row q1.2.1 131 (va_cpy (q1.2.1 27) (q1.2.1 131) (0 : Int32).toNatClampNeg (0 : Int32).toNatClampNeg q1.1.toNatClampNeg)), q1.2.2))))
theorem ok_x_copyAll_27_131 (X : mX) (d F : Nat) : ∀   (m : mM) (r : Unit) (m' : mM), f_x_copyAll_27_131 F  m = some (r, m') → m_R X (d + 1) 176 0 [some (.ref 27), some (.ref 131)] [] (SH, m) (none, (SH, m')) := by
  intro m r m' h
  unfold f_x_copyAll_27_131 at h
  refine m_R_sg (by decide) [(.aload_n 0, 1, 0, 0, 0, 0, 0), (.iconst 0, 1, 0, 0, 0, 0, 0), (.aload_n 1, 1, 0, 1, 0, 0, 0), (.iconst 0, 1, 0, 0, 0, 0, 0), (.aload_n 0, 1, 0, 0, 0, 0, 0), (.arraylength, 1, 0, 0, 0, 0, 0), (.aload_n 1, 1, 0, 1, 0, 0, 0), (.arraylength, 1, 0, 0, 0, 0, 0)] (by decide +kernel) (show m_sgl X _ _ _ _ _ = some (8, [some (.ref 27), some (.ref 131)], [.int (Int32.ofNat 16), .int (Int32.ofNat 16), .int (0 : Int32), .ref 131, .int (0 : Int32), .ref 27], (SH, m.1, m.2)) from rfl) ?_
  obtain ⟨q1, hc1, h⟩ := Option.bind_eq_some_iff.mp h
  refine m_R_cS (v := (some (.int q1.1))) (h1 := (SH, q1.2)) (rest := [.int (0 : Int32), .ref 131, .int (0 : Int32), .ref 27]) (lo' := [some (.int (Int32.ofNat 16)), some (.int (Int32.ofNat 16))]) (ml := 2) (by decide) (m_opb_of (ins := .invokestatic 219) (len := 3) (tag := 4) (a := 50) (b := 2) (c := 0) (q := 893) (by decide +kernel)) (by decide +kernel) (Nat.le_of_ble_eq_true rfl) rfl (Nat.le_of_ble_eq_true rfl) rfl rfl (ok_Math_min_II X (d + 0) F _ _ _ _ _ hc1) ?_
  obtain ⟨c0, h⟩ := m_ite_n h
  refine m_R_cpy (by decide) (m_opb_of (ins := .invokestatic 452) (len := 3) (tag := 8) (a := 0) (b := 0) (c := 0) (q := 1391) (by decide +kernel)) (Nat.le_of_ble_eq_true rfl) (m_cpy_of sh_27 sh_131 c0) ?_
  obtain ⟨rfl, rfl⟩ := m_some h
  exact m_R_vret (by decide) (m_opb_of (ins := .return_) (len := 1) (tag := 3) (a := 0) (b := 0) (c := 0) (q := 0) (by decide +kernel))
def f_x_copyAll_28_132 (F : Nat)    (m : mM) : Option (Unit × mM) := ((f_Math_min_II F (Int32.ofNat 16) (Int32.ofNat 16) m).bind fun q1 => (if (0 : Int32) < 0 ∨ (0 : Int32) < 0 ∨ q1.1 < 0 ∨ 16 < (0 : Int32).toNatClampNeg + q1.1.toNatClampNeg ∨ 16 < (0 : Int32).toNatClampNeg + q1.1.toNatClampNeg then none else some ((), ((m_row q1.2.1 132 (va_cpy (q1.2.1 28) (q1.2.1 132) (0 : Int32).toNatClampNeg (0 : Int32).toNatClampNeg q1.1.toNatClampNeg)), q1.2.2))))
theorem ok_x_copyAll_28_132 (X : mX) (d F : Nat) : ∀   (m : mM) (r : Unit) (m' : mM), f_x_copyAll_28_132 F  m = some (r, m') → m_R X (d + 1) 176 0 [some (.ref 28), some (.ref 132)] [] (SH, m) (none, (SH, m')) := by
  intro m r m' h
  unfold f_x_copyAll_28_132 at h
  refine m_R_sg (by decide) [(.aload_n 0, 1, 0, 0, 0, 0, 0), (.iconst 0, 1, 0, 0, 0, 0, 0), (.aload_n 1, 1, 0, 1, 0, 0, 0), (.iconst 0, 1, 0, 0, 0, 0, 0), (.aload_n 0, 1, 0, 0, 0, 0, 0), (.arraylength, 1, 0, 0, 0, 0, 0), (.aload_n 1, 1, 0, 1, 0, 0, 0), (.arraylength, 1, 0, 0, 0, 0, 0)] (by decide +kernel) (show m_sgl X _ _ _ _ _ = some (8, [some (.ref 28), some (.ref 132)], [.int (Int32.ofNat 16), .int (Int32.ofNat 16), .int (0 : Int32), .ref 132, .int (0 : Int32), .ref 28], (SH, m.1, m.2)) from rfl) ?_
  obtain ⟨q1, hc1, h⟩ := Option.bind_eq_some_iff.mp h
  refine m_R_cS (v := (some (.int q1.1))) (h1 := (SH, q1.2)) (rest := [.int (0 : Int32), .ref 132, .int (0 : Int32), .ref 28]) (lo' := [some (.int (Int32.ofNat 16)), some (.int (Int32.ofNat 16))]) (ml := 2) (by decide) (m_opb_of (ins := .invokestatic 219) (len := 3) (tag := 4) (a := 50) (b := 2) (c := 0) (q := 893) (by decide +kernel)) (by decide +kernel) (Nat.le_of_ble_eq_true rfl) rfl (Nat.le_of_ble_eq_true rfl) rfl rfl (ok_Math_min_II X (d + 0) F _ _ _ _ _ hc1) ?_
  obtain ⟨c0, h⟩ := m_ite_n h
  refine m_R_cpy (by decide) (m_opb_of (ins := .invokestatic 452) (len := 3) (tag := 8) (a := 0) (b := 0) (c := 0) (q := 1391) (by decide +kernel)) (Nat.le_of_ble_eq_true rfl) (m_cpy_of sh_28 sh_132 c0) ?_
  obtain ⟨rfl, rfl⟩ := m_some h
  exact m_R_vret (by decide) (m_opb_of (ins := .return_) (len := 1) (tag := 3) (a := 0) (b := 0) (c := 0) (q := 0) (by decide +kernel))
def f_x_copyAll_29_133 (F : Nat)    (m : mM) : Option (Unit × mM) := ((f_Math_min_II F (Int32.ofNat 16) (Int32.ofNat 16) m).bind fun q1 => (if (0 : Int32) < 0 ∨ (0 : Int32) < 0 ∨ q1.1 < 0 ∨ 16 < (0 : Int32).toNatClampNeg + q1.1.toNatClampNeg ∨ 16 < (0 : Int32).toNatClampNeg + q1.1.toNatClampNeg then none else some ((), ((m_row q1.2.1 133 (va_cpy (q1.2.1 29) (q1.2.1 133) (0 : Int32).toNatClampNeg (0 : Int32).toNatClampNeg q1.1.toNatClampNeg)), q1.2.2))))
theorem ok_x_copyAll_29_133 (X : mX) (d F : Nat) : ∀   (m : mM) (r : Unit) (m' : mM), f_x_copyAll_29_133 F  m = some (r, m') → m_R X (d + 1) 176 0 [some (.ref 29), some (.ref 133)] [] (SH, m) (none, (SH, m')) := by
  intro m r m' h
  unfold f_x_copyAll_29_133 at h
  refine m_R_sg (by decide) [(.aload_n 0, 1, 0, 0, 0, 0, 0), (.iconst 0, 1, 0, 0, 0, 0, 0), (.aload_n 1, 1, 0, 1, 0, 0, 0), (.iconst 0, 1, 0, 0, 0, 0, 0), (.aload_n 0, 1, 0, 0, 0, 0, 0), (.arraylength, 1, 0, 0, 0, 0, 0), (.aload_n 1, 1, 0, 1, 0, 0, 0), (.arraylength, 1, 0, 0, 0, 0, 0)] (by decide +kernel) (show m_sgl X _ _ _ _ _ = some (8, [some (.ref 29), some (.ref 133)], [.int (Int32.ofNat 16), .int (Int32.ofNat 16), .int (0 : Int32), .ref 133, .int (0 : Int32), .ref 29], (SH, m.1, m.2)) from rfl) ?_
  obtain ⟨q1, hc1, h⟩ := Option.bind_eq_some_iff.mp h
  refine m_R_cS (v := (some (.int q1.1))) (h1 := (SH, q1.2)) (rest := [.int (0 : Int32), .ref 133, .int (0 : Int32), .ref 29]) (lo' := [some (.int (Int32.ofNat 16)), some (.int (Int32.ofNat 16))]) (ml := 2) (by decide) (m_opb_of (ins := .invokestatic 219) (len := 3) (tag := 4) (a := 50) (b := 2) (c := 0) (q := 893) (by decide +kernel)) (by decide +kernel) (Nat.le_of_ble_eq_true rfl) rfl (Nat.le_of_ble_eq_true rfl) rfl rfl (ok_Math_min_II X (d + 0) F _ _ _ _ _ hc1) ?_
  obtain ⟨c0, h⟩ := m_ite_n h
  refine m_R_cpy (by decide) (m_opb_of (ins := .invokestatic 452) (len := 3) (tag := 8) (a := 0) (b := 0) (c := 0) (q := 1391) (by decide +kernel)) (Nat.le_of_ble_eq_true rfl) (m_cpy_of sh_29 sh_133 c0) ?_
  obtain ⟨rfl, rfl⟩ := m_some h
  exact m_R_vret (by decide) (m_opb_of (ins := .return_) (len := 1) (tag := 3) (a := 0) (b := 0) (c := 0) (q := 0) (by decide +kernel))
def f_x_copyAll_30_134 (F : Nat)    (m : mM) : Option (Unit × mM) := ((f_Math_min_II F (Int32.ofNat 16) (Int32.ofNat 16) m).bind fun q1 => (if (0 : Int32) < 0 ∨ (0 : Int32) < 0 ∨ q1.1 < 0 ∨ 16 < (0 : Int32).toNatClampNeg + q1.1.toNatClampNeg ∨ 16 < (0 : Int32).toNatClampNeg + q1.1.toNatClampNeg then none else some ((), ((m_row q1.2.1 134 (va_cpy (q1.2.1 30) (q1.2.1 134) (0 : Int32).toNatClampNeg (0 : Int32).toNatClampNeg q1.1.toNatClampNeg)), q1.2.2))))
theorem ok_x_copyAll_30_134 (X : mX) (d F : Nat) : ∀   (m : mM) (r : Unit) (m' : mM), f_x_copyAll_30_134 F  m = some (r, m') → m_R X (d + 1) 176 0 [some (.ref 30), some (.ref 134)] [] (SH, m) (none, (SH, m')) := by
  intro m r m' h
  unfold f_x_copyAll_30_134 at h
  refine m_R_sg (by decide) [(.aload_n 0, 1, 0, 0, 0, 0, 0), (.iconst 0, 1, 0, 0, 0, 0, 0), (.aload_n 1, 1, 0, 1, 0, 0, 0), (.iconst 0, 1, 0, 0, 0, 0, 0), (.aload_n 0, 1, 0, 0, 0, 0, 0), (.arraylength, 1, 0, 0, 0, 0, 0), (.aload_n 1, 1, 0, 1, 0, 0, 0), (.arraylength, 1, 0, 0, 0, 0, 0)] (by decide +kernel) (show m_sgl X _ _ _ _ _ = some (8, [some (.ref 30), some (.ref 134)], [.int (Int32.ofNat 16), .int (Int32.ofNat 16), .int (0 : Int32), .ref 134, .int (0 : Int32), .ref 30], (SH, m.1, m.2)) from rfl) ?_
  obtain ⟨q1, hc1, h⟩ := Option.bind_eq_some_iff.mp h
  refine m_R_cS (v := (some (.int q1.1))) (h1 := (SH, q1.2)) (rest := [.int (0 : Int32), .ref 134, .int (0 : Int32), .ref 30]) (lo' := [some (.int (Int32.ofNat 16)), some (.int (Int32.ofNat 16))]) (ml := 2) (by decide) (m_opb_of (ins := .invokestatic 219) (len := 3) (tag := 4) (a := 50) (b := 2) (c := 0) (q := 893) (by decide +kernel)) (by decide +kernel) (Nat.le_of_ble_eq_true rfl) rfl (Nat.le_of_ble_eq_true rfl) rfl rfl (ok_Math_min_II X (d + 0) F _ _ _ _ _ hc1) ?_
  obtain ⟨c0, h⟩ := m_ite_n h
  refine m_R_cpy (by decide) (m_opb_of (ins := .invokestatic 452) (len := 3) (tag := 8) (a := 0) (b := 0) (c := 0) (q := 1391) (by decide +kernel)) (Nat.le_of_ble_eq_true rfl) (m_cpy_of sh_30 sh_134 c0) ?_
  obtain ⟨rfl, rfl⟩ := m_some h
  exact m_R_vret (by decide) (m_opb_of (ins := .return_) (len := 1) (tag := 3) (a := 0) (b := 0) (c := 0) (q := 0) (by decide +kernel))
def f_Houses_become_123_19 (F : Nat)    (m : mM) : Option (Unit × mM) := ((f_x_copyAll_20_124 F m).bind fun q1 => ((f_x_copyAll_21_125 F q1.2).bind fun q2 => ((f_x_copyAll_22_126 F q2.2).bind fun q3 => ((f_x_copyAll_23_127 F q3.2).bind fun q4 => ((f_x_copyAll_24_128 F q4.2).bind fun q5 => ((f_x_copyAll_25_129 F q5.2).bind fun q6 => ((f_x_copyAll_26_130 F q6.2).bind fun q7 => ((f_x_copyAll_27_131 F q7.2).bind fun q8 => ((f_x_copyAll_28_132 F q8.2).bind fun q9 => ((f_x_copyAll_29_133 F q9.2).bind fun q10 => ((f_x_copyAll_30_134 F q10.2).bind fun q11 => some ((), ((m_up (m_up q11.2.1 123 11 (q11.2.1 19 11)) 123 12 ((m_up q11.2.1 123 11 (q11.2.1 19 11)) 19 12)), q11.2.2)))))))))))))
theorem ok_Houses_become_123_19 (X : mX) (d F : Nat) : ∀   (m : mM) (r : Unit) (m' : mM), f_Houses_become_123_19 F  m = some (r, m') → m_R X (d + 2) 177 0 [some (.ref 123), some (.ref 19)] [] (SH, m) (none, (SH, m')) := by
  intro m r m' h
  unfold f_Houses_become_123_19 at h
  refine m_R_sg (by decide) [(.aload_n 1, 1, 0, 1, 0, 0, 0), (.getfield 9, 3, 0, 1, 0, 3, 249), (.aload_n 0, 1, 0, 0, 0, 0, 0), (.getfield 9, 3, 0, 1, 0, 3, 249)] (by decide +kernel) (show m_sgl X _ _ _ _ _ = some (8, [some (.ref 123), some (.ref 19)], [.ref 124, .ref 20], (SH, m.1, m.2)) from rfl) ?_
  obtain ⟨q1, hc1, h⟩ := Option.bind_eq_some_iff.mp h
  refine m_R_cS (v := none) (h1 := (SH, q1.2)) (rest := []) (lo' := [some (.ref 20), some (.ref 124)]) (ml := 2) (by decide) (m_opb_of (ins := .invokestatic 49) (len := 3) (tag := 4) (a := 176) (b := 2) (c := 1) (q := 1396) (by decide +kernel)) (by decide +kernel) (Nat.le_of_ble_eq_true rfl) rfl (Nat.le_of_ble_eq_true rfl) rfl rfl (ok_x_copyAll_20_124 X (d + 0) F _ _ _ hc1) ?_
  refine m_R_sg (by decide) [(.aload_n 1, 1, 0, 1, 0, 0, 0), (.getfield 15, 3, 0, 1, 1, 3, 251), (.aload_n 0, 1, 0, 0, 0, 0, 0), (.getfield 15, 3, 0, 1, 1, 3, 251)] (by decide +kernel) (show m_sgl X _ _ _ _ _ = some (19, [some (.ref 123), some (.ref 19)], [.ref 125, .ref 21], (SH, q1.2.1, q1.2.2)) from rfl) ?_
  obtain ⟨q2, hc2, h⟩ := Option.bind_eq_some_iff.mp h
  refine m_R_cS (v := none) (h1 := (SH, q2.2)) (rest := []) (lo' := [some (.ref 21), some (.ref 125)]) (ml := 2) (by decide) (m_opb_of (ins := .invokestatic 49) (len := 3) (tag := 4) (a := 176) (b := 2) (c := 1) (q := 1396) (by decide +kernel)) (by decide +kernel) (Nat.le_of_ble_eq_true rfl) rfl (Nat.le_of_ble_eq_true rfl) rfl rfl (ok_x_copyAll_21_125 X (d + 0) F _ _ _ hc2) ?_
  refine m_R_sg (by decide) [(.aload_n 1, 1, 0, 1, 0, 0, 0), (.getfield 18, 3, 0, 1, 2, 3, 254), (.aload_n 0, 1, 0, 0, 0, 0, 0), (.getfield 18, 3, 0, 1, 2, 3, 254)] (by decide +kernel) (show m_sgl X _ _ _ _ _ = some (30, [some (.ref 123), some (.ref 19)], [.ref 126, .ref 22], (SH, q2.2.1, q2.2.2)) from rfl) ?_
  obtain ⟨q3, hc3, h⟩ := Option.bind_eq_some_iff.mp h
  refine m_R_cS (v := none) (h1 := (SH, q3.2)) (rest := []) (lo' := [some (.ref 22), some (.ref 126)]) (ml := 2) (by decide) (m_opb_of (ins := .invokestatic 49) (len := 3) (tag := 4) (a := 176) (b := 2) (c := 1) (q := 1396) (by decide +kernel)) (by decide +kernel) (Nat.le_of_ble_eq_true rfl) rfl (Nat.le_of_ble_eq_true rfl) rfl rfl (ok_x_copyAll_22_126 X (d + 0) F _ _ _ hc3) ?_
  refine m_R_sg (by decide) [(.aload_n 1, 1, 0, 1, 0, 0, 0), (.getfield 21, 3, 0, 1, 3, 3, 257), (.aload_n 0, 1, 0, 0, 0, 0, 0), (.getfield 21, 3, 0, 1, 3, 3, 257)] (by decide +kernel) (show m_sgl X _ _ _ _ _ = some (41, [some (.ref 123), some (.ref 19)], [.ref 127, .ref 23], (SH, q3.2.1, q3.2.2)) from rfl) ?_
  obtain ⟨q4, hc4, h⟩ := Option.bind_eq_some_iff.mp h
  refine m_R_cS (v := none) (h1 := (SH, q4.2)) (rest := []) (lo' := [some (.ref 23), some (.ref 127)]) (ml := 2) (by decide) (m_opb_of (ins := .invokestatic 49) (len := 3) (tag := 4) (a := 176) (b := 2) (c := 1) (q := 1396) (by decide +kernel)) (by decide +kernel) (Nat.le_of_ble_eq_true rfl) rfl (Nat.le_of_ble_eq_true rfl) rfl rfl (ok_x_copyAll_23_127 X (d + 0) F _ _ _ hc4) ?_
  refine m_R_sg (by decide) [(.aload_n 1, 1, 0, 1, 0, 0, 0), (.getfield 24, 3, 0, 1, 4, 3, 260), (.aload_n 0, 1, 0, 0, 0, 0, 0), (.getfield 24, 3, 0, 1, 4, 3, 260)] (by decide +kernel) (show m_sgl X _ _ _ _ _ = some (52, [some (.ref 123), some (.ref 19)], [.ref 128, .ref 24], (SH, q4.2.1, q4.2.2)) from rfl) ?_
  obtain ⟨q5, hc5, h⟩ := Option.bind_eq_some_iff.mp h
  refine m_R_cS (v := none) (h1 := (SH, q5.2)) (rest := []) (lo' := [some (.ref 24), some (.ref 128)]) (ml := 2) (by decide) (m_opb_of (ins := .invokestatic 49) (len := 3) (tag := 4) (a := 176) (b := 2) (c := 1) (q := 1396) (by decide +kernel)) (by decide +kernel) (Nat.le_of_ble_eq_true rfl) rfl (Nat.le_of_ble_eq_true rfl) rfl rfl (ok_x_copyAll_24_128 X (d + 0) F _ _ _ hc5) ?_
  refine m_R_sg (by decide) [(.aload_n 1, 1, 0, 1, 0, 0, 0), (.getfield 27, 3, 0, 1, 5, 3, 263), (.aload_n 0, 1, 0, 0, 0, 0, 0), (.getfield 27, 3, 0, 1, 5, 3, 263)] (by decide +kernel) (show m_sgl X _ _ _ _ _ = some (63, [some (.ref 123), some (.ref 19)], [.ref 129, .ref 25], (SH, q5.2.1, q5.2.2)) from rfl) ?_
  obtain ⟨q6, hc6, h⟩ := Option.bind_eq_some_iff.mp h
  refine m_R_cS (v := none) (h1 := (SH, q6.2)) (rest := []) (lo' := [some (.ref 25), some (.ref 129)]) (ml := 2) (by decide) (m_opb_of (ins := .invokestatic 49) (len := 3) (tag := 4) (a := 176) (b := 2) (c := 1) (q := 1396) (by decide +kernel)) (by decide +kernel) (Nat.le_of_ble_eq_true rfl) rfl (Nat.le_of_ble_eq_true rfl) rfl rfl (ok_x_copyAll_25_129 X (d + 0) F _ _ _ hc6) ?_
  refine m_R_sg (by decide) [(.aload_n 1, 1, 0, 1, 0, 0, 0), (.getfield 30, 3, 0, 1, 6, 3, 266), (.aload_n 0, 1, 0, 0, 0, 0, 0), (.getfield 30, 3, 0, 1, 6, 3, 266)] (by decide +kernel) (show m_sgl X _ _ _ _ _ = some (74, [some (.ref 123), some (.ref 19)], [.ref 130, .ref 26], (SH, q6.2.1, q6.2.2)) from rfl) ?_
  obtain ⟨q7, hc7, h⟩ := Option.bind_eq_some_iff.mp h
  refine m_R_cS (v := none) (h1 := (SH, q7.2)) (rest := []) (lo' := [some (.ref 26), some (.ref 130)]) (ml := 2) (by decide) (m_opb_of (ins := .invokestatic 49) (len := 3) (tag := 4) (a := 176) (b := 2) (c := 1) (q := 1396) (by decide +kernel)) (by decide +kernel) (Nat.le_of_ble_eq_true rfl) rfl (Nat.le_of_ble_eq_true rfl) rfl rfl (ok_x_copyAll_26_130 X (d + 0) F _ _ _ hc7) ?_
  refine m_R_sg (by decide) [(.aload_n 1, 1, 0, 1, 0, 0, 0), (.getfield 33, 3, 0, 1, 7, 3, 269), (.aload_n 0, 1, 0, 0, 0, 0, 0), (.getfield 33, 3, 0, 1, 7, 3, 269)] (by decide +kernel) (show m_sgl X _ _ _ _ _ = some (85, [some (.ref 123), some (.ref 19)], [.ref 131, .ref 27], (SH, q7.2.1, q7.2.2)) from rfl) ?_
  obtain ⟨q8, hc8, h⟩ := Option.bind_eq_some_iff.mp h
  refine m_R_cS (v := none) (h1 := (SH, q8.2)) (rest := []) (lo' := [some (.ref 27), some (.ref 131)]) (ml := 2) (by decide) (m_opb_of (ins := .invokestatic 49) (len := 3) (tag := 4) (a := 176) (b := 2) (c := 1) (q := 1396) (by decide +kernel)) (by decide +kernel) (Nat.le_of_ble_eq_true rfl) rfl (Nat.le_of_ble_eq_true rfl) rfl rfl (ok_x_copyAll_27_131 X (d + 0) F _ _ _ hc8) ?_
  refine m_R_sg (by decide) [(.aload_n 1, 1, 0, 1, 0, 0, 0), (.getfield 36, 3, 0, 1, 8, 3, 272), (.aload_n 0, 1, 0, 0, 0, 0, 0), (.getfield 36, 3, 0, 1, 8, 3, 272)] (by decide +kernel) (show m_sgl X _ _ _ _ _ = some (96, [some (.ref 123), some (.ref 19)], [.ref 132, .ref 28], (SH, q8.2.1, q8.2.2)) from rfl) ?_
  obtain ⟨q9, hc9, h⟩ := Option.bind_eq_some_iff.mp h
  refine m_R_cS (v := none) (h1 := (SH, q9.2)) (rest := []) (lo' := [some (.ref 28), some (.ref 132)]) (ml := 2) (by decide) (m_opb_of (ins := .invokestatic 49) (len := 3) (tag := 4) (a := 176) (b := 2) (c := 1) (q := 1396) (by decide +kernel)) (by decide +kernel) (Nat.le_of_ble_eq_true rfl) rfl (Nat.le_of_ble_eq_true rfl) rfl rfl (ok_x_copyAll_28_132 X (d + 0) F _ _ _ hc9) ?_
  refine m_R_sg (by decide) [(.aload_n 1, 1, 0, 1, 0, 0, 0), (.getfield 39, 3, 0, 1, 9, 3, 274), (.aload_n 0, 1, 0, 0, 0, 0, 0), (.getfield 39, 3, 0, 1, 9, 3, 274)] (by decide +kernel) (show m_sgl X _ _ _ _ _ = some (107, [some (.ref 123), some (.ref 19)], [.ref 133, .ref 29], (SH, q9.2.1, q9.2.2)) from rfl) ?_
  obtain ⟨q10, hc10, h⟩ := Option.bind_eq_some_iff.mp h
  refine m_R_cS (v := none) (h1 := (SH, q10.2)) (rest := []) (lo' := [some (.ref 29), some (.ref 133)]) (ml := 2) (by decide) (m_opb_of (ins := .invokestatic 49) (len := 3) (tag := 4) (a := 176) (b := 2) (c := 1) (q := 1396) (by decide +kernel)) (by decide +kernel) (Nat.le_of_ble_eq_true rfl) rfl (Nat.le_of_ble_eq_true rfl) rfl rfl (ok_x_copyAll_29_133 X (d + 0) F _ _ _ hc10) ?_
  refine m_R_sg (by decide) [(.aload_n 1, 1, 0, 1, 0, 0, 0), (.getfield 42, 3, 0, 1, 10, 3, 276), (.aload_n 0, 1, 0, 0, 0, 0, 0), (.getfield 42, 3, 0, 1, 10, 3, 276)] (by decide +kernel) (show m_sgl X _ _ _ _ _ = some (118, [some (.ref 123), some (.ref 19)], [.ref 134, .ref 30], (SH, q10.2.1, q10.2.2)) from rfl) ?_
  obtain ⟨q11, hc11, h⟩ := Option.bind_eq_some_iff.mp h
  refine m_R_cS (v := none) (h1 := (SH, q11.2)) (rest := []) (lo' := [some (.ref 30), some (.ref 134)]) (ml := 2) (by decide) (m_opb_of (ins := .invokestatic 49) (len := 3) (tag := 4) (a := 176) (b := 2) (c := 1) (q := 1396) (by decide +kernel)) (by decide +kernel) (Nat.le_of_ble_eq_true rfl) rfl (Nat.le_of_ble_eq_true rfl) rfl rfl (ok_x_copyAll_30_134 X (d + 0) F _ _ _ hc11) ?_
  refine m_R_sg (by decide) [(.aload_n 0, 1, 0, 0, 0, 0, 0), (.aload_n 1, 1, 0, 1, 0, 0, 0), (.getfield 45, 3, 0, 1, 11, 0, 278), (.putfield 45, 3, 0, 1, 11, 0, 278), (.aload_n 0, 1, 0, 0, 0, 0, 0), (.aload_n 1, 1, 0, 1, 0, 0, 0), (.getfield 53, 3, 0, 1, 12, 0, 281), (.putfield 53, 3, 0, 1, 12, 0, 281)] (by decide +kernel) (show m_sgl X _ _ _ _ _ = some (137, [some (.ref 123), some (.ref 19)], [], (SH, (m_up (m_up q11.2.1 123 11 (q11.2.1 19 11)) 123 12 ((m_up q11.2.1 123 11 (q11.2.1 19 11)) 19 12)), q11.2.2)) from rfl) ?_
  obtain ⟨rfl, rfl⟩ := m_some h
  exact m_R_vret (by decide) (m_opb_of (ins := .return_) (len := 1) (tag := 3) (a := 0) (b := 0) (c := 0) (q := 0) (by decide +kernel))
def f_x_copyAll_32_136 (F : Nat)    (m : mM) : Option (Unit × mM) := ((f_Math_min_II F (Int32.ofNat 60) (Int32.ofNat 60) m).bind fun q1 => (if (0 : Int32) < 0 ∨ (0 : Int32) < 0 ∨ q1.1 < 0 ∨ 60 < (0 : Int32).toNatClampNeg + q1.1.toNatClampNeg ∨ 60 < (0 : Int32).toNatClampNeg + q1.1.toNatClampNeg then none else some ((), ((m_row q1.2.1 136 (va_cpy (q1.2.1 32) (q1.2.1 136) (0 : Int32).toNatClampNeg (0 : Int32).toNatClampNeg q1.1.toNatClampNeg)), q1.2.2))))
theorem ok_x_copyAll_32_136 (X : mX) (d F : Nat) : ∀   (m : mM) (r : Unit) (m' : mM), f_x_copyAll_32_136 F  m = some (r, m') → m_R X (d + 1) 176 0 [some (.ref 32), some (.ref 136)] [] (SH, m) (none, (SH, m')) := by
  intro m r m' h
  unfold f_x_copyAll_32_136 at h
  refine m_R_sg (by decide) [(.aload_n 0, 1, 0, 0, 0, 0, 0), (.iconst 0, 1, 0, 0, 0, 0, 0), (.aload_n 1, 1, 0, 1, 0, 0, 0), (.iconst 0, 1, 0, 0, 0, 0, 0), (.aload_n 0, 1, 0, 0, 0, 0, 0), (.arraylength, 1, 0, 0, 0, 0, 0), (.aload_n 1, 1, 0, 1, 0, 0, 0), (.arraylength, 1, 0, 0, 0, 0, 0)] (by decide +kernel) (show m_sgl X _ _ _ _ _ = some (8, [some (.ref 32), some (.ref 136)], [.int (Int32.ofNat 60), .int (Int32.ofNat 60), .int (0 : Int32), .ref 136, .int (0 : Int32), .ref 32], (SH, m.1, m.2)) from rfl) ?_
  obtain ⟨q1, hc1, h⟩ := Option.bind_eq_some_iff.mp h
  refine m_R_cS (v := (some (.int q1.1))) (h1 := (SH, q1.2)) (rest := [.int (0 : Int32), .ref 136, .int (0 : Int32), .ref 32]) (lo' := [some (.int (Int32.ofNat 60)), some (.int (Int32.ofNat 60))]) (ml := 2) (by decide) (m_opb_of (ins := .invokestatic 219) (len := 3) (tag := 4) (a := 50) (b := 2) (c := 0) (q := 893) (by decide +kernel)) (by decide +kernel) (Nat.le_of_ble_eq_true rfl) rfl (Nat.le_of_ble_eq_true rfl) rfl rfl (ok_Math_min_II X (d + 0) F _ _ _ _ _ hc1) ?_
  obtain ⟨c0, h⟩ := m_ite_n h
  refine m_R_cpy (by decide) (m_opb_of (ins := .invokestatic 452) (len := 3) (tag := 8) (a := 0) (b := 0) (c := 0) (q := 1391) (by decide +kernel)) (Nat.le_of_ble_eq_true rfl) (m_cpy_of sh_32 sh_136 c0) ?_
  obtain ⟨rfl, rfl⟩ := m_some h
  exact m_R_vret (by decide) (m_opb_of (ins := .return_) (len := 1) (tag := 3) (a := 0) (b := 0) (c := 0) (q := 0) (by decide +kernel))
def f_x_copyAll_33_137 (F : Nat)    (m : mM) : Option (Unit × mM) := ((f_Math_min_II F (Int32.ofNat 60) (Int32.ofNat 60) m).bind fun q1 => (if (0 : Int32) < 0 ∨ (0 : Int32) < 0 ∨ q1.1 < 0 ∨ 60 < (0 : Int32).toNatClampNeg + q1.1.toNatClampNeg ∨ 60 < (0 : Int32).toNatClampNeg + q1.1.toNatClampNeg then none else some ((), ((m_row q1.2.1 137 (va_cpy (q1.2.1 33) (q1.2.1 137) (0 : Int32).toNatClampNeg (0 : Int32).toNatClampNeg q1.1.toNatClampNeg)), q1.2.2))))
theorem ok_x_copyAll_33_137 (X : mX) (d F : Nat) : ∀   (m : mM) (r : Unit) (m' : mM), f_x_copyAll_33_137 F  m = some (r, m') → m_R X (d + 1) 176 0 [some (.ref 33), some (.ref 137)] [] (SH, m) (none, (SH, m')) := by
  intro m r m' h
  unfold f_x_copyAll_33_137 at h
  refine m_R_sg (by decide) [(.aload_n 0, 1, 0, 0, 0, 0, 0), (.iconst 0, 1, 0, 0, 0, 0, 0), (.aload_n 1, 1, 0, 1, 0, 0, 0), (.iconst 0, 1, 0, 0, 0, 0, 0), (.aload_n 0, 1, 0, 0, 0, 0, 0), (.arraylength, 1, 0, 0, 0, 0, 0), (.aload_n 1, 1, 0, 1, 0, 0, 0), (.arraylength, 1, 0, 0, 0, 0, 0)] (by decide +kernel) (show m_sgl X _ _ _ _ _ = some (8, [some (.ref 33), some (.ref 137)], [.int (Int32.ofNat 60), .int (Int32.ofNat 60), .int (0 : Int32), .ref 137, .int (0 : Int32), .ref 33], (SH, m.1, m.2)) from rfl) ?_
  obtain ⟨q1, hc1, h⟩ := Option.bind_eq_some_iff.mp h
  refine m_R_cS (v := (some (.int q1.1))) (h1 := (SH, q1.2)) (rest := [.int (0 : Int32), .ref 137, .int (0 : Int32), .ref 33]) (lo' := [some (.int (Int32.ofNat 60)), some (.int (Int32.ofNat 60))]) (ml := 2) (by decide) (m_opb_of (ins := .invokestatic 219) (len := 3) (tag := 4) (a := 50) (b := 2) (c := 0) (q := 893) (by decide +kernel)) (by decide +kernel) (Nat.le_of_ble_eq_true rfl) rfl (Nat.le_of_ble_eq_true rfl) rfl rfl (ok_Math_min_II X (d + 0) F _ _ _ _ _ hc1) ?_
  obtain ⟨c0, h⟩ := m_ite_n h
  refine m_R_cpy (by decide) (m_opb_of (ins := .invokestatic 452) (len := 3) (tag := 8) (a := 0) (b := 0) (c := 0) (q := 1391) (by decide +kernel)) (Nat.le_of_ble_eq_true rfl) (m_cpy_of sh_33 sh_137 c0) ?_
  obtain ⟨rfl, rfl⟩ := m_some h
  exact m_R_vret (by decide) (m_opb_of (ins := .return_) (len := 1) (tag := 3) (a := 0) (b := 0) (c := 0) (q := 0) (by decide +kernel))
def f_x_copyAll_34_138 (F : Nat)    (m : mM) : Option (Unit × mM) := ((f_Math_min_II F (Int32.ofNat 60) (Int32.ofNat 60) m).bind fun q1 => (if (0 : Int32) < 0 ∨ (0 : Int32) < 0 ∨ q1.1 < 0 ∨ 60 < (0 : Int32).toNatClampNeg + q1.1.toNatClampNeg ∨ 60 < (0 : Int32).toNatClampNeg + q1.1.toNatClampNeg then none else some ((), ((m_row q1.2.1 138 (va_cpy (q1.2.1 34) (q1.2.1 138) (0 : Int32).toNatClampNeg (0 : Int32).toNatClampNeg q1.1.toNatClampNeg)), q1.2.2))))
theorem ok_x_copyAll_34_138 (X : mX) (d F : Nat) : ∀   (m : mM) (r : Unit) (m' : mM), f_x_copyAll_34_138 F  m = some (r, m') → m_R X (d + 1) 176 0 [some (.ref 34), some (.ref 138)] [] (SH, m) (none, (SH, m')) := by
  intro m r m' h
  unfold f_x_copyAll_34_138 at h
  refine m_R_sg (by decide) [(.aload_n 0, 1, 0, 0, 0, 0, 0), (.iconst 0, 1, 0, 0, 0, 0, 0), (.aload_n 1, 1, 0, 1, 0, 0, 0), (.iconst 0, 1, 0, 0, 0, 0, 0), (.aload_n 0, 1, 0, 0, 0, 0, 0), (.arraylength, 1, 0, 0, 0, 0, 0), (.aload_n 1, 1, 0, 1, 0, 0, 0), (.arraylength, 1, 0, 0, 0, 0, 0)] (by decide +kernel) (show m_sgl X _ _ _ _ _ = some (8, [some (.ref 34), some (.ref 138)], [.int (Int32.ofNat 60), .int (Int32.ofNat 60), .int (0 : Int32), .ref 138, .int (0 : Int32), .ref 34], (SH, m.1, m.2)) from rfl) ?_
  obtain ⟨q1, hc1, h⟩ := Option.bind_eq_some_iff.mp h
  refine m_R_cS (v := (some (.int q1.1))) (h1 := (SH, q1.2)) (rest := [.int (0 : Int32), .ref 138, .int (0 : Int32), .ref 34]) (lo' := [some (.int (Int32.ofNat 60)), some (.int (Int32.ofNat 60))]) (ml := 2) (by decide) (m_opb_of (ins := .invokestatic 219) (len := 3) (tag := 4) (a := 50) (b := 2) (c := 0) (q := 893) (by decide +kernel)) (by decide +kernel) (Nat.le_of_ble_eq_true rfl) rfl (Nat.le_of_ble_eq_true rfl) rfl rfl (ok_Math_min_II X (d + 0) F _ _ _ _ _ hc1) ?_
  obtain ⟨c0, h⟩ := m_ite_n h
  refine m_R_cpy (by decide) (m_opb_of (ins := .invokestatic 452) (len := 3) (tag := 8) (a := 0) (b := 0) (c := 0) (q := 1391) (by decide +kernel)) (Nat.le_of_ble_eq_true rfl) (m_cpy_of sh_34 sh_138 c0) ?_
  obtain ⟨rfl, rfl⟩ := m_some h
  exact m_R_vret (by decide) (m_opb_of (ins := .return_) (len := 1) (tag := 3) (a := 0) (b := 0) (c := 0) (q := 0) (by decide +kernel))
def f_x_copyAll_35_139 (F : Nat)    (m : mM) : Option (Unit × mM) := ((f_Math_min_II F (Int32.ofNat 60) (Int32.ofNat 60) m).bind fun q1 => (if (0 : Int32) < 0 ∨ (0 : Int32) < 0 ∨ q1.1 < 0 ∨ 60 < (0 : Int32).toNatClampNeg + q1.1.toNatClampNeg ∨ 60 < (0 : Int32).toNatClampNeg + q1.1.toNatClampNeg then none else some ((), ((m_row q1.2.1 139 (va_cpy (q1.2.1 35) (q1.2.1 139) (0 : Int32).toNatClampNeg (0 : Int32).toNatClampNeg q1.1.toNatClampNeg)), q1.2.2))))
theorem ok_x_copyAll_35_139 (X : mX) (d F : Nat) : ∀   (m : mM) (r : Unit) (m' : mM), f_x_copyAll_35_139 F  m = some (r, m') → m_R X (d + 1) 176 0 [some (.ref 35), some (.ref 139)] [] (SH, m) (none, (SH, m')) := by
  intro m r m' h
  unfold f_x_copyAll_35_139 at h
  refine m_R_sg (by decide) [(.aload_n 0, 1, 0, 0, 0, 0, 0), (.iconst 0, 1, 0, 0, 0, 0, 0), (.aload_n 1, 1, 0, 1, 0, 0, 0), (.iconst 0, 1, 0, 0, 0, 0, 0), (.aload_n 0, 1, 0, 0, 0, 0, 0), (.arraylength, 1, 0, 0, 0, 0, 0), (.aload_n 1, 1, 0, 1, 0, 0, 0), (.arraylength, 1, 0, 0, 0, 0, 0)] (by decide +kernel) (show m_sgl X _ _ _ _ _ = some (8, [some (.ref 35), some (.ref 139)], [.int (Int32.ofNat 60), .int (Int32.ofNat 60), .int (0 : Int32), .ref 139, .int (0 : Int32), .ref 35], (SH, m.1, m.2)) from rfl) ?_
  obtain ⟨q1, hc1, h⟩ := Option.bind_eq_some_iff.mp h
  refine m_R_cS (v := (some (.int q1.1))) (h1 := (SH, q1.2)) (rest := [.int (0 : Int32), .ref 139, .int (0 : Int32), .ref 35]) (lo' := [some (.int (Int32.ofNat 60)), some (.int (Int32.ofNat 60))]) (ml := 2) (by decide) (m_opb_of (ins := .invokestatic 219) (len := 3) (tag := 4) (a := 50) (b := 2) (c := 0) (q := 893) (by decide +kernel)) (by decide +kernel) (Nat.le_of_ble_eq_true rfl) rfl (Nat.le_of_ble_eq_true rfl) rfl rfl (ok_Math_min_II X (d + 0) F _ _ _ _ _ hc1) ?_
  obtain ⟨c0, h⟩ := m_ite_n h
  refine m_R_cpy (by decide) (m_opb_of (ins := .invokestatic 452) (len := 3) (tag := 8) (a := 0) (b := 0) (c := 0) (q := 1391) (by decide +kernel)) (Nat.le_of_ble_eq_true rfl) (m_cpy_of sh_35 sh_139 c0) ?_
  obtain ⟨rfl, rfl⟩ := m_some h
  exact m_R_vret (by decide) (m_opb_of (ins := .return_) (len := 1) (tag := 3) (a := 0) (b := 0) (c := 0) (q := 0) (by decide +kernel))
def f_x_copyAll_36_140 (F : Nat)    (m : mM) : Option (Unit × mM) := ((f_Math_min_II F (Int32.ofNat 60) (Int32.ofNat 60) m).bind fun q1 => (if (0 : Int32) < 0 ∨ (0 : Int32) < 0 ∨ q1.1 < 0 ∨ 60 < (0 : Int32).toNatClampNeg + q1.1.toNatClampNeg ∨ 60 < (0 : Int32).toNatClampNeg + q1.1.toNatClampNeg then none else some ((), ((m_row q1.2.1 140 (va_cpy (q1.2.1 36) (q1.2.1 140) (0 : Int32).toNatClampNeg (0 : Int32).toNatClampNeg q1.1.toNatClampNeg)), q1.2.2))))
theorem ok_x_copyAll_36_140 (X : mX) (d F : Nat) : ∀   (m : mM) (r : Unit) (m' : mM), f_x_copyAll_36_140 F  m = some (r, m') → m_R X (d + 1) 176 0 [some (.ref 36), some (.ref 140)] [] (SH, m) (none, (SH, m')) := by
  intro m r m' h
  unfold f_x_copyAll_36_140 at h
  refine m_R_sg (by decide) [(.aload_n 0, 1, 0, 0, 0, 0, 0), (.iconst 0, 1, 0, 0, 0, 0, 0), (.aload_n 1, 1, 0, 1, 0, 0, 0), (.iconst 0, 1, 0, 0, 0, 0, 0), (.aload_n 0, 1, 0, 0, 0, 0, 0), (.arraylength, 1, 0, 0, 0, 0, 0), (.aload_n 1, 1, 0, 1, 0, 0, 0), (.arraylength, 1, 0, 0, 0, 0, 0)] (by decide +kernel) (show m_sgl X _ _ _ _ _ = some (8, [some (.ref 36), some (.ref 140)], [.int (Int32.ofNat 60), .int (Int32.ofNat 60), .int (0 : Int32), .ref 140, .int (0 : Int32), .ref 36], (SH, m.1, m.2)) from rfl) ?_
  obtain ⟨q1, hc1, h⟩ := Option.bind_eq_some_iff.mp h
  refine m_R_cS (v := (some (.int q1.1))) (h1 := (SH, q1.2)) (rest := [.int (0 : Int32), .ref 140, .int (0 : Int32), .ref 36]) (lo' := [some (.int (Int32.ofNat 60)), some (.int (Int32.ofNat 60))]) (ml := 2) (by decide) (m_opb_of (ins := .invokestatic 219) (len := 3) (tag := 4) (a := 50) (b := 2) (c := 0) (q := 893) (by decide +kernel)) (by decide +kernel) (Nat.le_of_ble_eq_true rfl) rfl (Nat.le_of_ble_eq_true rfl) rfl rfl (ok_Math_min_II X (d + 0) F _ _ _ _ _ hc1) ?_
  obtain ⟨c0, h⟩ := m_ite_n h
  refine m_R_cpy (by decide) (m_opb_of (ins := .invokestatic 452) (len := 3) (tag := 8) (a := 0) (b := 0) (c := 0) (q := 1391) (by decide +kernel)) (Nat.le_of_ble_eq_true rfl) (m_cpy_of sh_36 sh_140 c0) ?_
  obtain ⟨rfl, rfl⟩ := m_some h
  exact m_R_vret (by decide) (m_opb_of (ins := .return_) (len := 1) (tag := 3) (a := 0) (b := 0) (c := 0) (q := 0) (by decide +kernel))
def f_x_copyAll_37_141 (F : Nat)    (m : mM) : Option (Unit × mM) := ((f_Math_min_II F (Int32.ofNat 60) (Int32.ofNat 60) m).bind fun q1 => (if (0 : Int32) < 0 ∨ (0 : Int32) < 0 ∨ q1.1 < 0 ∨ 60 < (0 : Int32).toNatClampNeg + q1.1.toNatClampNeg ∨ 60 < (0 : Int32).toNatClampNeg + q1.1.toNatClampNeg then none else some ((), ((m_row q1.2.1 141 (va_cpy (q1.2.1 37) (q1.2.1 141) (0 : Int32).toNatClampNeg (0 : Int32).toNatClampNeg q1.1.toNatClampNeg)), q1.2.2))))
theorem ok_x_copyAll_37_141 (X : mX) (d F : Nat) : ∀   (m : mM) (r : Unit) (m' : mM), f_x_copyAll_37_141 F  m = some (r, m') → m_R X (d + 1) 176 0 [some (.ref 37), some (.ref 141)] [] (SH, m) (none, (SH, m')) := by
  intro m r m' h
  unfold f_x_copyAll_37_141 at h
  refine m_R_sg (by decide) [(.aload_n 0, 1, 0, 0, 0, 0, 0), (.iconst 0, 1, 0, 0, 0, 0, 0), (.aload_n 1, 1, 0, 1, 0, 0, 0), (.iconst 0, 1, 0, 0, 0, 0, 0), (.aload_n 0, 1, 0, 0, 0, 0, 0), (.arraylength, 1, 0, 0, 0, 0, 0), (.aload_n 1, 1, 0, 1, 0, 0, 0), (.arraylength, 1, 0, 0, 0, 0, 0)] (by decide +kernel) (show m_sgl X _ _ _ _ _ = some (8, [some (.ref 37), some (.ref 141)], [.int (Int32.ofNat 60), .int (Int32.ofNat 60), .int (0 : Int32), .ref 141, .int (0 : Int32), .ref 37], (SH, m.1, m.2)) from rfl) ?_
  obtain ⟨q1, hc1, h⟩ := Option.bind_eq_some_iff.mp h
  refine m_R_cS (v := (some (.int q1.1))) (h1 := (SH, q1.2)) (rest := [.int (0 : Int32), .ref 141, .int (0 : Int32), .ref 37]) (lo' := [some (.int (Int32.ofNat 60)), some (.int (Int32.ofNat 60))]) (ml := 2) (by decide) (m_opb_of (ins := .invokestatic 219) (len := 3) (tag := 4) (a := 50) (b := 2) (c := 0) (q := 893) (by decide +kernel)) (by decide +kernel) (Nat.le_of_ble_eq_true rfl) rfl (Nat.le_of_ble_eq_true rfl) rfl rfl (ok_Math_min_II X (d + 0) F _ _ _ _ _ hc1) ?_
  obtain ⟨c0, h⟩ := m_ite_n h
  refine m_R_cpy (by decide) (m_opb_of (ins := .invokestatic 452) (len := 3) (tag := 8) (a := 0) (b := 0) (c := 0) (q := 1391) (by decide +kernel)) (Nat.le_of_ble_eq_true rfl) (m_cpy_of sh_37 sh_141 c0) ?_
  obtain ⟨rfl, rfl⟩ := m_some h
  exact m_R_vret (by decide) (m_opb_of (ins := .return_) (len := 1) (tag := 3) (a := 0) (b := 0) (c := 0) (q := 0) (by decide +kernel))
def f_x_copyAll_38_142 (F : Nat)    (m : mM) : Option (Unit × mM) := ((f_Math_min_II F (Int32.ofNat 360) (Int32.ofNat 360) m).bind fun q1 => (if (0 : Int32) < 0 ∨ (0 : Int32) < 0 ∨ q1.1 < 0 ∨ 360 < (0 : Int32).toNatClampNeg + q1.1.toNatClampNeg ∨ 360 < (0 : Int32).toNatClampNeg + q1.1.toNatClampNeg then none else some ((), ((m_row q1.2.1 142 (va_cpy (q1.2.1 38) (q1.2.1 142) (0 : Int32).toNatClampNeg (0 : Int32).toNatClampNeg q1.1.toNatClampNeg)), q1.2.2))))
theorem ok_x_copyAll_38_142 (X : mX) (d F : Nat) : ∀   (m : mM) (r : Unit) (m' : mM), f_x_copyAll_38_142 F  m = some (r, m') → m_R X (d + 1) 176 0 [some (.ref 38), some (.ref 142)] [] (SH, m) (none, (SH, m')) := by
  intro m r m' h
  unfold f_x_copyAll_38_142 at h
  refine m_R_sg (by decide) [(.aload_n 0, 1, 0, 0, 0, 0, 0), (.iconst 0, 1, 0, 0, 0, 0, 0), (.aload_n 1, 1, 0, 1, 0, 0, 0), (.iconst 0, 1, 0, 0, 0, 0, 0), (.aload_n 0, 1, 0, 0, 0, 0, 0), (.arraylength, 1, 0, 0, 0, 0, 0), (.aload_n 1, 1, 0, 1, 0, 0, 0), (.arraylength, 1, 0, 0, 0, 0, 0)] (by decide +kernel) (show m_sgl X _ _ _ _ _ = some (8, [some (.ref 38), some (.ref 142)], [.int (Int32.ofNat 360), .int (Int32.ofNat 360), .int (0 : Int32), .ref 142, .int (0 : Int32), .ref 38], (SH, m.1, m.2)) from rfl) ?_
  obtain ⟨q1, hc1, h⟩ := Option.bind_eq_some_iff.mp h
  refine m_R_cS (v := (some (.int q1.1))) (h1 := (SH, q1.2)) (rest := [.int (0 : Int32), .ref 142, .int (0 : Int32), .ref 38]) (lo' := [some (.int (Int32.ofNat 360)), some (.int (Int32.ofNat 360))]) (ml := 2) (by decide) (m_opb_of (ins := .invokestatic 219) (len := 3) (tag := 4) (a := 50) (b := 2) (c := 0) (q := 893) (by decide +kernel)) (by decide +kernel) (Nat.le_of_ble_eq_true rfl) rfl (Nat.le_of_ble_eq_true rfl) rfl rfl (ok_Math_min_II X (d + 0) F _ _ _ _ _ hc1) ?_
  obtain ⟨c0, h⟩ := m_ite_n h
  refine m_R_cpy (by decide) (m_opb_of (ins := .invokestatic 452) (len := 3) (tag := 8) (a := 0) (b := 0) (c := 0) (q := 1391) (by decide +kernel)) (Nat.le_of_ble_eq_true rfl) (m_cpy_of sh_38 sh_142 c0) ?_
  obtain ⟨rfl, rfl⟩ := m_some h
  exact m_R_vret (by decide) (m_opb_of (ins := .return_) (len := 1) (tag := 3) (a := 0) (b := 0) (c := 0) (q := 0) (by decide +kernel))
def f_x_copyAll_39_143 (F : Nat)    (m : mM) : Option (Unit × mM) := ((f_Math_min_II F (Int32.ofNat 60) (Int32.ofNat 60) m).bind fun q1 => (if (0 : Int32) < 0 ∨ (0 : Int32) < 0 ∨ q1.1 < 0 ∨ 60 < (0 : Int32).toNatClampNeg + q1.1.toNatClampNeg ∨ 60 < (0 : Int32).toNatClampNeg + q1.1.toNatClampNeg then none else some ((), ((m_row q1.2.1 143 (va_cpy (q1.2.1 39) (q1.2.1 143) (0 : Int32).toNatClampNeg (0 : Int32).toNatClampNeg q1.1.toNatClampNeg)), q1.2.2))))
theorem ok_x_copyAll_39_143 (X : mX) (d F : Nat) : ∀   (m : mM) (r : Unit) (m' : mM), f_x_copyAll_39_143 F  m = some (r, m') → m_R X (d + 1) 176 0 [some (.ref 39), some (.ref 143)] [] (SH, m) (none, (SH, m')) := by
  intro m r m' h
  unfold f_x_copyAll_39_143 at h
  refine m_R_sg (by decide) [(.aload_n 0, 1, 0, 0, 0, 0, 0), (.iconst 0, 1, 0, 0, 0, 0, 0), (.aload_n 1, 1, 0, 1, 0, 0, 0), (.iconst 0, 1, 0, 0, 0, 0, 0), (.aload_n 0, 1, 0, 0, 0, 0, 0), (.arraylength, 1, 0, 0, 0, 0, 0), (.aload_n 1, 1, 0, 1, 0, 0, 0), (.arraylength, 1, 0, 0, 0, 0, 0)] (by decide +kernel) (show m_sgl X _ _ _ _ _ = some (8, [some (.ref 39), some (.ref 143)], [.int (Int32.ofNat 60), .int (Int32.ofNat 60), .int (0 : Int32), .ref 143, .int (0 : Int32), .ref 39], (SH, m.1, m.2)) from rfl) ?_
  obtain ⟨q1, hc1, h⟩ := Option.bind_eq_some_iff.mp h
  refine m_R_cS (v := (some (.int q1.1))) (h1 := (SH, q1.2)) (rest := [.int (0 : Int32), .ref 143, .int (0 : Int32), .ref 39]) (lo' := [some (.int (Int32.ofNat 60)), some (.int (Int32.ofNat 60))]) (ml := 2) (by decide) (m_opb_of (ins := .invokestatic 219) (len := 3) (tag := 4) (a := 50) (b := 2) (c := 0) (q := 893) (by decide +kernel)) (by decide +kernel) (Nat.le_of_ble_eq_true rfl) rfl (Nat.le_of_ble_eq_true rfl) rfl rfl (ok_Math_min_II X (d + 0) F _ _ _ _ _ hc1) ?_
  obtain ⟨c0, h⟩ := m_ite_n h
  refine m_R_cpy (by decide) (m_opb_of (ins := .invokestatic 452) (len := 3) (tag := 8) (a := 0) (b := 0) (c := 0) (q := 1391) (by decide +kernel)) (Nat.le_of_ble_eq_true rfl) (m_cpy_of sh_39 sh_143 c0) ?_
  obtain ⟨rfl, rfl⟩ := m_some h
  exact m_R_vret (by decide) (m_opb_of (ins := .return_) (len := 1) (tag := 3) (a := 0) (b := 0) (c := 0) (q := 0) (by decide +kernel))
def f_x_copyAll_40_144 (F : Nat)    (m : mM) : Option (Unit × mM) := ((f_Math_min_II F (Int32.ofNat 60) (Int32.ofNat 60) m).bind fun q1 => (if (0 : Int32) < 0 ∨ (0 : Int32) < 0 ∨ q1.1 < 0 ∨ 60 < (0 : Int32).toNatClampNeg + q1.1.toNatClampNeg ∨ 60 < (0 : Int32).toNatClampNeg + q1.1.toNatClampNeg then none else some ((), ((m_row q1.2.1 144 (va_cpy (q1.2.1 40) (q1.2.1 144) (0 : Int32).toNatClampNeg (0 : Int32).toNatClampNeg q1.1.toNatClampNeg)), q1.2.2))))
theorem ok_x_copyAll_40_144 (X : mX) (d F : Nat) : ∀   (m : mM) (r : Unit) (m' : mM), f_x_copyAll_40_144 F  m = some (r, m') → m_R X (d + 1) 176 0 [some (.ref 40), some (.ref 144)] [] (SH, m) (none, (SH, m')) := by
  intro m r m' h
  unfold f_x_copyAll_40_144 at h
  refine m_R_sg (by decide) [(.aload_n 0, 1, 0, 0, 0, 0, 0), (.iconst 0, 1, 0, 0, 0, 0, 0), (.aload_n 1, 1, 0, 1, 0, 0, 0), (.iconst 0, 1, 0, 0, 0, 0, 0), (.aload_n 0, 1, 0, 0, 0, 0, 0), (.arraylength, 1, 0, 0, 0, 0, 0), (.aload_n 1, 1, 0, 1, 0, 0, 0), (.arraylength, 1, 0, 0, 0, 0, 0)] (by decide +kernel) (show m_sgl X _ _ _ _ _ = some (8, [some (.ref 40), some (.ref 144)], [.int (Int32.ofNat 60), .int (Int32.ofNat 60), .int (0 : Int32), .ref 144, .int (0 : Int32), .ref 40], (SH, m.1, m.2)) from rfl) ?_
  obtain ⟨q1, hc1, h⟩ := Option.bind_eq_some_iff.mp h
  refine m_R_cS (v := (some (.int q1.1))) (h1 := (SH, q1.2)) (rest := [.int (0 : Int32), .ref 144, .int (0 : Int32), .ref 40]) (lo' := [some (.int (Int32.ofNat 60)), some (.int (Int32.ofNat 60))]) (ml := 2) (by decide) (m_opb_of (ins := .invokestatic 219) (len := 3) (tag := 4) (a := 50) (b := 2) (c := 0) (q := 893) (by decide +kernel)) (by decide +kernel) (Nat.le_of_ble_eq_true rfl) rfl (Nat.le_of_ble_eq_true rfl) rfl rfl (ok_Math_min_II X (d + 0) F _ _ _ _ _ hc1) ?_
  obtain ⟨c0, h⟩ := m_ite_n h
  refine m_R_cpy (by decide) (m_opb_of (ins := .invokestatic 452) (len := 3) (tag := 8) (a := 0) (b := 0) (c := 0) (q := 1391) (by decide +kernel)) (Nat.le_of_ble_eq_true rfl) (m_cpy_of sh_40 sh_144 c0) ?_
  obtain ⟨rfl, rfl⟩ := m_some h
  exact m_R_vret (by decide) (m_opb_of (ins := .return_) (len := 1) (tag := 3) (a := 0) (b := 0) (c := 0) (q := 0) (by decide +kernel))
def f_x_copyAll_41_145 (F : Nat)    (m : mM) : Option (Unit × mM) := ((f_Math_min_II F (Int32.ofNat 60) (Int32.ofNat 60) m).bind fun q1 => (if (0 : Int32) < 0 ∨ (0 : Int32) < 0 ∨ q1.1 < 0 ∨ 60 < (0 : Int32).toNatClampNeg + q1.1.toNatClampNeg ∨ 60 < (0 : Int32).toNatClampNeg + q1.1.toNatClampNeg then none else some ((), ((m_row q1.2.1 145 (va_cpy (q1.2.1 41) (q1.2.1 145) (0 : Int32).toNatClampNeg (0 : Int32).toNatClampNeg q1.1.toNatClampNeg)), q1.2.2))))
theorem ok_x_copyAll_41_145 (X : mX) (d F : Nat) : ∀   (m : mM) (r : Unit) (m' : mM), f_x_copyAll_41_145 F  m = some (r, m') → m_R X (d + 1) 176 0 [some (.ref 41), some (.ref 145)] [] (SH, m) (none, (SH, m')) := by
  intro m r m' h
  unfold f_x_copyAll_41_145 at h
  refine m_R_sg (by decide) [(.aload_n 0, 1, 0, 0, 0, 0, 0), (.iconst 0, 1, 0, 0, 0, 0, 0), (.aload_n 1, 1, 0, 1, 0, 0, 0), (.iconst 0, 1, 0, 0, 0, 0, 0), (.aload_n 0, 1, 0, 0, 0, 0, 0), (.arraylength, 1, 0, 0, 0, 0, 0), (.aload_n 1, 1, 0, 1, 0, 0, 0), (.arraylength, 1, 0, 0, 0, 0, 0)] (by decide +kernel) (show m_sgl X _ _ _ _ _ = some (8, [some (.ref 41), some (.ref 145)], [.int (Int32.ofNat 60), .int (Int32.ofNat 60), .int (0 : Int32), .ref 145, .int (0 : Int32), .ref 41], (SH, m.1, m.2)) from rfl) ?_
  obtain ⟨q1, hc1, h⟩ := Option.bind_eq_some_iff.mp h
  refine m_R_cS (v := (some (.int q1.1))) (h1 := (SH, q1.2)) (rest := [.int (0 : Int32), .ref 145, .int (0 : Int32), .ref 41]) (lo' := [some (.int (Int32.ofNat 60)), some (.int (Int32.ofNat 60))]) (ml := 2) (by decide) (m_opb_of (ins := .invokestatic 219) (len := 3) (tag := 4) (a := 50) (b := 2) (c := 0) (q := 893) (by decide +kernel)) (by decide +kernel) (Nat.le_of_ble_eq_true rfl) rfl (Nat.le_of_ble_eq_true rfl) rfl rfl (ok_Math_min_II X (d + 0) F _ _ _ _ _ hc1) ?_
  obtain ⟨c0, h⟩ := m_ite_n h
  refine m_R_cpy (by decide) (m_opb_of (ins := .invokestatic 452) (len := 3) (tag := 8) (a := 0) (b := 0) (c := 0) (q := 1391) (by decide +kernel)) (Nat.le_of_ble_eq_true rfl) (m_cpy_of sh_41 sh_145 c0) ?_
  obtain ⟨rfl, rfl⟩ := m_some h
  exact m_R_vret (by decide) (m_opb_of (ins := .return_) (len := 1) (tag := 3) (a := 0) (b := 0) (c := 0) (q := 0) (by decide +kernel))
def f_x_copyAll_42_146 (F : Nat)    (m : mM) : Option (Unit × mM) := ((f_Math_min_II F (Int32.ofNat 60) (Int32.ofNat 60) m).bind fun q1 => (if (0 : Int32) < 0 ∨ (0 : Int32) < 0 ∨ q1.1 < 0 ∨ 60 < (0 : Int32).toNatClampNeg + q1.1.toNatClampNeg ∨ 60 < (0 : Int32).toNatClampNeg + q1.1.toNatClampNeg then none else some ((), ((m_row q1.2.1 146 (va_cpy (q1.2.1 42) (q1.2.1 146) (0 : Int32).toNatClampNeg (0 : Int32).toNatClampNeg q1.1.toNatClampNeg)), q1.2.2))))
theorem ok_x_copyAll_42_146 (X : mX) (d F : Nat) : ∀   (m : mM) (r : Unit) (m' : mM), f_x_copyAll_42_146 F  m = some (r, m') → m_R X (d + 1) 176 0 [some (.ref 42), some (.ref 146)] [] (SH, m) (none, (SH, m')) := by
  intro m r m' h
  unfold f_x_copyAll_42_146 at h
  refine m_R_sg (by decide) [(.aload_n 0, 1, 0, 0, 0, 0, 0), (.iconst 0, 1, 0, 0, 0, 0, 0), (.aload_n 1, 1, 0, 1, 0, 0, 0), (.iconst 0, 1, 0, 0, 0, 0, 0), (.aload_n 0, 1, 0, 0, 0, 0, 0), (.arraylength, 1, 0, 0, 0, 0, 0), (.aload_n 1, 1, 0, 1, 0, 0, 0), (.arraylength, 1, 0, 0, 0, 0, 0)] (by decide +kernel) (show m_sgl X _ _ _ _ _ = some (8, [some (.ref 42), some (.ref 146)], [.int (Int32.ofNat 60), .int (Int32.ofNat 60), .int (0 : Int32), .ref 146, .int (0 : Int32), .ref 42], (SH, m.1, m.2)) from rfl) ?_
  obtain ⟨q1, hc1, h⟩ := Option.bind_eq_some_iff.mp h
  refine m_R_cS (v := (some (.int q1.1))) (h1 := (SH, q1.2)) (rest := [.int (0 : Int32), .ref 146, .int (0 : Int32), .ref 42]) (lo' := [some (.int (Int32.ofNat 60)), some (.int (Int32.ofNat 60))]) (ml := 2) (by decide) (m_opb_of (ins := .invokestatic 219) (len := 3) (tag := 4) (a := 50) (b := 2) (c := 0) (q := 893) (by decide +kernel)) (by decide +kernel) (Nat.le_of_ble_eq_true rfl) rfl (Nat.le_of_ble_eq_true rfl) rfl rfl (ok_Math_min_II X (d + 0) F _ _ _ _ _ hc1) ?_
  obtain ⟨c0, h⟩ := m_ite_n h
  refine m_R_cpy (by decide) (m_opb_of (ins := .invokestatic 452) (len := 3) (tag := 8) (a := 0) (b := 0) (c := 0) (q := 1391) (by decide +kernel)) (Nat.le_of_ble_eq_true rfl) (m_cpy_of sh_42 sh_146 c0) ?_
  obtain ⟨rfl, rfl⟩ := m_some h
  exact m_R_vret (by decide) (m_opb_of (ins := .return_) (len := 1) (tag := 3) (a := 0) (b := 0) (c := 0) (q := 0) (by decide +kernel))
def f_x_copyAll_43_147 (F : Nat)    (m : mM) : Option (Unit × mM) := ((f_Math_min_II F (Int32.ofNat 60) (Int32.ofNat 60) m).bind fun q1 => (if (0 : Int32) < 0 ∨ (0 : Int32) < 0 ∨ q1.1 < 0 ∨ 60 < (0 : Int32).toNatClampNeg + q1.1.toNatClampNeg ∨ 60 < (0 : Int32).toNatClampNeg + q1.1.toNatClampNeg then none else some ((), ((m_row q1.2.1 147 (va_cpy (q1.2.1 43) (q1.2.1 147) (0 : Int32).toNatClampNeg (0 : Int32).toNatClampNeg q1.1.toNatClampNeg)), q1.2.2))))
theorem ok_x_copyAll_43_147 (X : mX) (d F : Nat) : ∀   (m : mM) (r : Unit) (m' : mM), f_x_copyAll_43_147 F  m = some (r, m') → m_R X (d + 1) 176 0 [some (.ref 43), some (.ref 147)] [] (SH, m) (none, (SH, m')) := by
  intro m r m' h
  unfold f_x_copyAll_43_147 at h
  refine m_R_sg (by decide) [(.aload_n 0, 1, 0, 0, 0, 0, 0), (.iconst 0, 1, 0, 0, 0, 0, 0), (.aload_n 1, 1, 0, 1, 0, 0, 0), (.iconst 0, 1, 0, 0, 0, 0, 0), (.aload_n 0, 1, 0, 0, 0, 0, 0), (.arraylength, 1, 0, 0, 0, 0, 0), (.aload_n 1, 1, 0, 1, 0, 0, 0), (.arraylength, 1, 0, 0, 0, 0, 0)] (by decide +kernel) (show m_sgl X _ _ _ _ _ = some (8, [some (.ref 43), some (.ref 147)], [.int (Int32.ofNat 60), .int (Int32.ofNat 60), .int (0 : Int32), .ref 147, .int (0 : Int32), .ref 43], (SH, m.1, m.2)) from rfl) ?_
  obtain ⟨q1, hc1, h⟩ := Option.bind_eq_some_iff.mp h
  refine m_R_cS (v := (some (.int q1.1))) (h1 := (SH, q1.2)) (rest := [.int (0 : Int32), .ref 147, .int (0 : Int32), .ref 43]) (lo' := [some (.int (Int32.ofNat 60)), some (.int (Int32.ofNat 60))]) (ml := 2) (by decide) (m_opb_of (ins := .invokestatic 219) (len := 3) (tag := 4) (a := 50) (b := 2) (c := 0) (q := 893) (by decide +kernel)) (by decide +kernel) (Nat.le_of_ble_eq_true rfl) rfl (Nat.le_of_ble_eq_true rfl) rfl rfl (ok_Math_min_II X (d + 0) F _ _ _ _ _ hc1) ?_
  obtain ⟨c0, h⟩ := m_ite_n h
  refine m_R_cpy (by decide) (m_opb_of (ins := .invokestatic 452) (len := 3) (tag := 8) (a := 0) (b := 0) (c := 0) (q := 1391) (by decide +kernel)) (Nat.le_of_ble_eq_true rfl) (m_cpy_of sh_43 sh_147 c0) ?_
  obtain ⟨rfl, rfl⟩ := m_some h
  exact m_R_vret (by decide) (m_opb_of (ins := .return_) (len := 1) (tag := 3) (a := 0) (b := 0) (c := 0) (q := 0) (by decide +kernel))
def f_x_copyAll_44_148 (F : Nat)    (m : mM) : Option (Unit × mM) := ((f_Math_min_II F (Int32.ofNat 60) (Int32.ofNat 60) m).bind fun q1 => (if (0 : Int32) < 0 ∨ (0 : Int32) < 0 ∨ q1.1 < 0 ∨ 60 < (0 : Int32).toNatClampNeg + q1.1.toNatClampNeg ∨ 60 < (0 : Int32).toNatClampNeg + q1.1.toNatClampNeg then none else some ((), ((m_row q1.2.1 148 (va_cpy (q1.2.1 44) (q1.2.1 148) (0 : Int32).toNatClampNeg (0 : Int32).toNatClampNeg q1.1.toNatClampNeg)), q1.2.2))))
theorem ok_x_copyAll_44_148 (X : mX) (d F : Nat) : ∀   (m : mM) (r : Unit) (m' : mM), f_x_copyAll_44_148 F  m = some (r, m') → m_R X (d + 1) 176 0 [some (.ref 44), some (.ref 148)] [] (SH, m) (none, (SH, m')) := by
  intro m r m' h
  unfold f_x_copyAll_44_148 at h
  refine m_R_sg (by decide) [(.aload_n 0, 1, 0, 0, 0, 0, 0), (.iconst 0, 1, 0, 0, 0, 0, 0), (.aload_n 1, 1, 0, 1, 0, 0, 0), (.iconst 0, 1, 0, 0, 0, 0, 0), (.aload_n 0, 1, 0, 0, 0, 0, 0), (.arraylength, 1, 0, 0, 0, 0, 0), (.aload_n 1, 1, 0, 1, 0, 0, 0), (.arraylength, 1, 0, 0, 0, 0, 0)] (by decide +kernel) (show m_sgl X _ _ _ _ _ = some (8, [some (.ref 44), some (.ref 148)], [.int (Int32.ofNat 60), .int (Int32.ofNat 60), .int (0 : Int32), .ref 148, .int (0 : Int32), .ref 44], (SH, m.1, m.2)) from rfl) ?_
  obtain ⟨q1, hc1, h⟩ := Option.bind_eq_some_iff.mp h
  refine m_R_cS (v := (some (.int q1.1))) (h1 := (SH, q1.2)) (rest := [.int (0 : Int32), .ref 148, .int (0 : Int32), .ref 44]) (lo' := [some (.int (Int32.ofNat 60)), some (.int (Int32.ofNat 60))]) (ml := 2) (by decide) (m_opb_of (ins := .invokestatic 219) (len := 3) (tag := 4) (a := 50) (b := 2) (c := 0) (q := 893) (by decide +kernel)) (by decide +kernel) (Nat.le_of_ble_eq_true rfl) rfl (Nat.le_of_ble_eq_true rfl) rfl rfl (ok_Math_min_II X (d + 0) F _ _ _ _ _ hc1) ?_
  obtain ⟨c0, h⟩ := m_ite_n h
  refine m_R_cpy (by decide) (m_opb_of (ins := .invokestatic 452) (len := 3) (tag := 8) (a := 0) (b := 0) (c := 0) (q := 1391) (by decide +kernel)) (Nat.le_of_ble_eq_true rfl) (m_cpy_of sh_44 sh_148 c0) ?_
  obtain ⟨rfl, rfl⟩ := m_some h
  exact m_R_vret (by decide) (m_opb_of (ins := .return_) (len := 1) (tag := 3) (a := 0) (b := 0) (c := 0) (q := 0) (by decide +kernel))
def f_Papers_become_135_31 (F : Nat)    (m : mM) : Option (Unit × mM) := ((f_x_copyAll_32_136 F m).bind fun q1 => ((f_x_copyAll_33_137 F q1.2).bind fun q2 => ((f_x_copyAll_34_138 F q2.2).bind fun q3 => ((f_x_copyAll_35_139 F q3.2).bind fun q4 => ((f_x_copyAll_36_140 F q4.2).bind fun q5 => ((f_x_copyAll_37_141 F q5.2).bind fun q6 => ((f_x_copyAll_38_142 F q6.2).bind fun q7 => ((f_x_copyAll_39_143 F q7.2).bind fun q8 => ((f_x_copyAll_40_144 F q8.2).bind fun q9 => ((f_x_copyAll_41_145 F q9.2).bind fun q10 => ((f_x_copyAll_42_146 F q10.2).bind fun q11 => ((f_x_copyAll_43_147 F q11.2).bind fun q12 => ((f_x_copyAll_44_148 F q12.2).bind fun q13 => some ((), ((m_up (m_up q13.2.1 135 14 (q13.2.1 31 14)) 135 15 ((m_up q13.2.1 135 14 (q13.2.1 31 14)) 31 15)), q13.2.2)))))))))))))))
theorem ok_Papers_become_135_31 (X : mX) (d F : Nat) : ∀   (m : mM) (r : Unit) (m' : mM), f_Papers_become_135_31 F  m = some (r, m') → m_R X (d + 2) 178 0 [some (.ref 135), some (.ref 31)] [] (SH, m) (none, (SH, m')) := by
  intro m r m' h
  unfold f_Papers_become_135_31 at h
  refine m_R_sg (by decide) [(.aload_n 1, 1, 0, 1, 0, 0, 0), (.getfield 9, 3, 0, 4, 0, 3, 317), (.aload_n 0, 1, 0, 0, 0, 0, 0), (.getfield 9, 3, 0, 4, 0, 3, 317)] (by decide +kernel) (show m_sgl X _ _ _ _ _ = some (8, [some (.ref 135), some (.ref 31)], [.ref 136, .ref 32], (SH, m.1, m.2)) from rfl) ?_
  obtain ⟨q1, hc1, h⟩ := Option.bind_eq_some_iff.mp h
  refine m_R_cS (v := none) (h1 := (SH, q1.2)) (rest := []) (lo' := [some (.ref 32), some (.ref 136)]) (ml := 2) (by decide) (m_opb_of (ins := .invokestatic 55) (len := 3) (tag := 4) (a := 176) (b := 2) (c := 1) (q := 1401) (by decide +kernel)) (by decide +kernel) (Nat.le_of_ble_eq_true rfl) rfl (Nat.le_of_ble_eq_true rfl) rfl rfl (ok_x_copyAll_32_136 X (d + 0) F _ _ _ hc1) ?_
  refine m_R_sg (by decide) [(.aload_n 1, 1, 0, 1, 0, 0, 0), (.getfield 15, 3, 0, 4, 1, 3, 321), (.aload_n 0, 1, 0, 0, 0, 0, 0), (.getfield 15, 3, 0, 4, 1, 3, 321)] (by decide +kernel) (show m_sgl X _ _ _ _ _ = some (19, [some (.ref 135), some (.ref 31)], [.ref 137, .ref 33], (SH, q1.2.1, q1.2.2)) from rfl) ?_
  obtain ⟨q2, hc2, h⟩ := Option.bind_eq_some_iff.mp h
  refine m_R_cS (v := none) (h1 := (SH, q2.2)) (rest := []) (lo' := [some (.ref 33), some (.ref 137)]) (ml := 2) (by decide) (m_opb_of (ins := .invokestatic 55) (len := 3) (tag := 4) (a := 176) (b := 2) (c := 1) (q := 1401) (by decide +kernel)) (by decide +kernel) (Nat.le_of_ble_eq_true rfl) rfl (Nat.le_of_ble_eq_true rfl) rfl rfl (ok_x_copyAll_33_137 X (d + 0) F _ _ _ hc2) ?_
  refine m_R_sg (by decide) [(.aload_n 1, 1, 0, 1, 0, 0, 0), (.getfield 18, 3, 0, 4, 2, 3, 325), (.aload_n 0, 1, 0, 0, 0, 0, 0), (.getfield 18, 3, 0, 4, 2, 3, 325)] (by decide +kernel) (show m_sgl X _ _ _ _ _ = some (30, [some (.ref 135), some (.ref 31)], [.ref 138, .ref 34], (SH, q2.2.1, q2.2.2)) from rfl) ?_
  obtain ⟨q3, hc3, h⟩ := Option.bind_eq_some_iff.mp h
  refine m_R_cS (v := none) (h1 := (SH, q3.2)) (rest := []) (lo' := [some (.ref 34), some (.ref 138)]) (ml := 2) (by decide) (m_opb_of (ins := .invokestatic 55) (len := 3) (tag := 4) (a := 176) (b := 2) (c := 1) (q := 1401) (by decide +kernel)) (by decide +kernel) (Nat.le_of_ble_eq_true rfl) rfl (Nat.le_of_ble_eq_true rfl) rfl rfl (ok_x_copyAll_34_138 X (d + 0) F _ _ _ hc3) ?_
  refine m_R_sg (by decide) [(.aload_n 1, 1, 0, 1, 0, 0, 0), (.getfield 21, 3, 0, 4, 3, 3, 329), (.aload_n 0, 1, 0, 0, 0, 0, 0), (.getfield 21, 3, 0, 4, 3, 3, 329)] (by decide +kernel) (show m_sgl X _ _ _ _ _ = some (41, [some (.ref 135), some (.ref 31)], [.ref 139, .ref 35], (SH, q3.2.1, q3.2.2)) from rfl) ?_
  obtain ⟨q4, hc4, h⟩ := Option.bind_eq_some_iff.mp h
  refine m_R_cS (v := none) (h1 := (SH, q4.2)) (rest := []) (lo' := [some (.ref 35), some (.ref 139)]) (ml := 2) (by decide) (m_opb_of (ins := .invokestatic 55) (len := 3) (tag := 4) (a := 176) (b := 2) (c := 1) (q := 1401) (by decide +kernel)) (by decide +kernel) (Nat.le_of_ble_eq_true rfl) rfl (Nat.le_of_ble_eq_true rfl) rfl rfl (ok_x_copyAll_35_139 X (d + 0) F _ _ _ hc4) ?_
  refine m_R_sg (by decide) [(.aload_n 1, 1, 0, 1, 0, 0, 0), (.getfield 24, 3, 0, 4, 4, 3, 333), (.aload_n 0, 1, 0, 0, 0, 0, 0), (.getfield 24, 3, 0, 4, 4, 3, 333)] (by decide +kernel) (show m_sgl X _ _ _ _ _ = some (52, [some (.ref 135), some (.ref 31)], [.ref 140, .ref 36], (SH, q4.2.1, q4.2.2)) from rfl) ?_
  obtain ⟨q5, hc5, h⟩ := Option.bind_eq_some_iff.mp h
  refine m_R_cS (v := none) (h1 := (SH, q5.2)) (rest := []) (lo' := [some (.ref 36), some (.ref 140)]) (ml := 2) (by decide) (m_opb_of (ins := .invokestatic 55) (len := 3) (tag := 4) (a := 176) (b := 2) (c := 1) (q := 1401) (by decide +kernel)) (by decide +kernel) (Nat.le_of_ble_eq_true rfl) rfl (Nat.le_of_ble_eq_true rfl) rfl rfl (ok_x_copyAll_36_140 X (d + 0) F _ _ _ hc5) ?_
  refine m_R_sg (by decide) [(.aload_n 1, 1, 0, 1, 0, 0, 0), (.getfield 27, 3, 0, 4, 5, 3, 336), (.aload_n 0, 1, 0, 0, 0, 0, 0), (.getfield 27, 3, 0, 4, 5, 3, 336)] (by decide +kernel) (show m_sgl X _ _ _ _ _ = some (63, [some (.ref 135), some (.ref 31)], [.ref 141, .ref 37], (SH, q5.2.1, q5.2.2)) from rfl) ?_
  obtain ⟨q6, hc6, h⟩ := Option.bind_eq_some_iff.mp h
  refine m_R_cS (v := none) (h1 := (SH, q6.2)) (rest := []) (lo' := [some (.ref 37), some (.ref 141)]) (ml := 2) (by decide) (m_opb_of (ins := .invokestatic 55) (len := 3) (tag := 4) (a := 176) (b := 2) (c := 1) (q := 1401) (by decide +kernel)) (by decide +kernel) (Nat.le_of_ble_eq_true rfl) rfl (Nat.le_of_ble_eq_true rfl) rfl rfl (ok_x_copyAll_37_141 X (d + 0) F _ _ _ hc6) ?_
  refine m_R_sg (by decide) [(.aload_n 1, 1, 0, 1, 0, 0, 0), (.getfield 30, 3, 0, 4, 6, 3, 339), (.aload_n 0, 1, 0, 0, 0, 0, 0), (.getfield 30, 3, 0, 4, 6, 3, 339)] (by decide +kernel) (show m_sgl X _ _ _ _ _ = some (74, [some (.ref 135), some (.ref 31)], [.ref 142, .ref 38], (SH, q6.2.1, q6.2.2)) from rfl) ?_
  obtain ⟨q7, hc7, h⟩ := Option.bind_eq_some_iff.mp h
  refine m_R_cS (v := none) (h1 := (SH, q7.2)) (rest := []) (lo' := [some (.ref 38), some (.ref 142)]) (ml := 2) (by decide) (m_opb_of (ins := .invokestatic 55) (len := 3) (tag := 4) (a := 176) (b := 2) (c := 1) (q := 1401) (by decide +kernel)) (by decide +kernel) (Nat.le_of_ble_eq_true rfl) rfl (Nat.le_of_ble_eq_true rfl) rfl rfl (ok_x_copyAll_38_142 X (d + 0) F _ _ _ hc7) ?_
  refine m_R_sg (by decide) [(.aload_n 1, 1, 0, 1, 0, 0, 0), (.getfield 33, 3, 0, 4, 7, 3, 342), (.aload_n 0, 1, 0, 0, 0, 0, 0), (.getfield 33, 3, 0, 4, 7, 3, 342)] (by decide +kernel) (show m_sgl X _ _ _ _ _ = some (85, [some (.ref 135), some (.ref 31)], [.ref 143, .ref 39], (SH, q7.2.1, q7.2.2)) from rfl) ?_
  obtain ⟨q8, hc8, h⟩ := Option.bind_eq_some_iff.mp h
  refine m_R_cS (v := none) (h1 := (SH, q8.2)) (rest := []) (lo' := [some (.ref 39), some (.ref 143)]) (ml := 2) (by decide) (m_opb_of (ins := .invokestatic 55) (len := 3) (tag := 4) (a := 176) (b := 2) (c := 1) (q := 1401) (by decide +kernel)) (by decide +kernel) (Nat.le_of_ble_eq_true rfl) rfl (Nat.le_of_ble_eq_true rfl) rfl rfl (ok_x_copyAll_39_143 X (d + 0) F _ _ _ hc8) ?_
  refine m_R_sg (by decide) [(.aload_n 1, 1, 0, 1, 0, 0, 0), (.getfield 36, 3, 0, 4, 8, 3, 345), (.aload_n 0, 1, 0, 0, 0, 0, 0), (.getfield 36, 3, 0, 4, 8, 3, 345)] (by decide +kernel) (show m_sgl X _ _ _ _ _ = some (96, [some (.ref 135), some (.ref 31)], [.ref 144, .ref 40], (SH, q8.2.1, q8.2.2)) from rfl) ?_
  obtain ⟨q9, hc9, h⟩ := Option.bind_eq_some_iff.mp h
  refine m_R_cS (v := none) (h1 := (SH, q9.2)) (rest := []) (lo' := [some (.ref 40), some (.ref 144)]) (ml := 2) (by decide) (m_opb_of (ins := .invokestatic 55) (len := 3) (tag := 4) (a := 176) (b := 2) (c := 1) (q := 1401) (by decide +kernel)) (by decide +kernel) (Nat.le_of_ble_eq_true rfl) rfl (Nat.le_of_ble_eq_true rfl) rfl rfl (ok_x_copyAll_40_144 X (d + 0) F _ _ _ hc9) ?_
  refine m_R_sg (by decide) [(.aload_n 1, 1, 0, 1, 0, 0, 0), (.getfield 39, 3, 0, 4, 9, 3, 348), (.aload_n 0, 1, 0, 0, 0, 0, 0), (.getfield 39, 3, 0, 4, 9, 3, 348)] (by decide +kernel) (show m_sgl X _ _ _ _ _ = some (107, [some (.ref 135), some (.ref 31)], [.ref 145, .ref 41], (SH, q9.2.1, q9.2.2)) from rfl) ?_
  obtain ⟨q10, hc10, h⟩ := Option.bind_eq_some_iff.mp h
  refine m_R_cS (v := none) (h1 := (SH, q10.2)) (rest := []) (lo' := [some (.ref 41), some (.ref 145)]) (ml := 2) (by decide) (m_opb_of (ins := .invokestatic 55) (len := 3) (tag := 4) (a := 176) (b := 2) (c := 1) (q := 1401) (by decide +kernel)) (by decide +kernel) (Nat.le_of_ble_eq_true rfl) rfl (Nat.le_of_ble_eq_true rfl) rfl rfl (ok_x_copyAll_41_145 X (d + 0) F _ _ _ hc10) ?_
  refine m_R_sg (by decide) [(.aload_n 1, 1, 0, 1, 0, 0, 0), (.getfield 42, 3, 0, 4, 10, 3, 351), (.aload_n 0, 1, 0, 0, 0, 0, 0), (.getfield 42, 3, 0, 4, 10, 3, 351)] (by decide +kernel) (show m_sgl X _ _ _ _ _ = some (118, [some (.ref 135), some (.ref 31)], [.ref 146, .ref 42], (SH, q10.2.1, q10.2.2)) from rfl) ?_
  obtain ⟨q11, hc11, h⟩ := Option.bind_eq_some_iff.mp h
  refine m_R_cS (v := none) (h1 := (SH, q11.2)) (rest := []) (lo' := [some (.ref 42), some (.ref 146)]) (ml := 2) (by decide) (m_opb_of (ins := .invokestatic 55) (len := 3) (tag := 4) (a := 176) (b := 2) (c := 1) (q := 1401) (by decide +kernel)) (by decide +kernel) (Nat.le_of_ble_eq_true rfl) rfl (Nat.le_of_ble_eq_true rfl) rfl rfl (ok_x_copyAll_42_146 X (d + 0) F _ _ _ hc11) ?_
  refine m_R_sg (by decide) [(.aload_n 1, 1, 0, 1, 0, 0, 0), (.getfield 45, 3, 0, 4, 11, 3, 354), (.aload_n 0, 1, 0, 0, 0, 0, 0), (.getfield 45, 3, 0, 4, 11, 3, 354)] (by decide +kernel) (show m_sgl X _ _ _ _ _ = some (129, [some (.ref 135), some (.ref 31)], [.ref 147, .ref 43], (SH, q11.2.1, q11.2.2)) from rfl) ?_
  obtain ⟨q12, hc12, h⟩ := Option.bind_eq_some_iff.mp h
  refine m_R_cS (v := none) (h1 := (SH, q12.2)) (rest := []) (lo' := [some (.ref 43), some (.ref 147)]) (ml := 2) (by decide) (m_opb_of (ins := .invokestatic 55) (len := 3) (tag := 4) (a := 176) (b := 2) (c := 1) (q := 1401) (by decide +kernel)) (by decide +kernel) (Nat.le_of_ble_eq_true rfl) rfl (Nat.le_of_ble_eq_true rfl) rfl rfl (ok_x_copyAll_43_147 X (d + 0) F _ _ _ hc12) ?_
  refine m_R_sg (by decide) [(.aload_n 1, 1, 0, 1, 0, 0, 0), (.getfield 48, 3, 0, 4, 12, 3, 357), (.aload_n 0, 1, 0, 0, 0, 0, 0), (.getfield 48, 3, 0, 4, 12, 3, 357)] (by decide +kernel) (show m_sgl X _ _ _ _ _ = some (140, [some (.ref 135), some (.ref 31)], [.ref 148, .ref 44], (SH, q12.2.1, q12.2.2)) from rfl) ?_
  obtain ⟨q13, hc13, h⟩ := Option.bind_eq_some_iff.mp h
  refine m_R_cS (v := none) (h1 := (SH, q13.2)) (rest := []) (lo' := [some (.ref 44), some (.ref 148)]) (ml := 2) (by decide) (m_opb_of (ins := .invokestatic 55) (len := 3) (tag := 4) (a := 176) (b := 2) (c := 1) (q := 1401) (by decide +kernel)) (by decide +kernel) (Nat.le_of_ble_eq_true rfl) rfl (Nat.le_of_ble_eq_true rfl) rfl rfl (ok_x_copyAll_44_148 X (d + 0) F _ _ _ hc13) ?_
  refine m_R_sg (by decide) [(.aload_n 0, 1, 0, 0, 0, 0, 0), (.aload_n 1, 1, 0, 1, 0, 0, 0), (.getfield 59, 3, 0, 4, 14, 0, 361), (.putfield 59, 3, 0, 4, 14, 0, 361), (.aload_n 0, 1, 0, 0, 0, 0, 0), (.aload_n 1, 1, 0, 1, 0, 0, 0), (.getfield 63, 3, 0, 4, 15, 0, 363), (.putfield 63, 3, 0, 4, 15, 0, 363)] (by decide +kernel) (show m_sgl X _ _ _ _ _ = some (159, [some (.ref 135), some (.ref 31)], [], (SH, (m_up (m_up q13.2.1 135 14 (q13.2.1 31 14)) 135 15 ((m_up q13.2.1 135 14 (q13.2.1 31 14)) 31 15)), q13.2.2)) from rfl) ?_
  obtain ⟨rfl, rfl⟩ := m_some h
  exact m_R_vret (by decide) (m_opb_of (ins := .return_) (len := 1) (tag := 3) (a := 0) (b := 0) (c := 0) (q := 0) (by decide +kernel))
def f_x_copyAll_47_151 (F : Nat)    (m : mM) : Option (Unit × mM) := ((f_Math_min_II F (Int32.ofNat 8) (Int32.ofNat 8) m).bind fun q1 => (if (0 : Int32) < 0 ∨ (0 : Int32) < 0 ∨ q1.1 < 0 ∨ 8 < (0 : Int32).toNatClampNeg + q1.1.toNatClampNeg ∨ 8 < (0 : Int32).toNatClampNeg + q1.1.toNatClampNeg then none else some ((), ((m_row q1.2.1 151 (va_cpy (q1.2.1 47) (q1.2.1 151) (0 : Int32).toNatClampNeg (0 : Int32).toNatClampNeg q1.1.toNatClampNeg)), q1.2.2))))
theorem ok_x_copyAll_47_151 (X : mX) (d F : Nat) : ∀   (m : mM) (r : Unit) (m' : mM), f_x_copyAll_47_151 F  m = some (r, m') → m_R X (d + 1) 176 0 [some (.ref 47), some (.ref 151)] [] (SH, m) (none, (SH, m')) := by
  intro m r m' h
  unfold f_x_copyAll_47_151 at h
  refine m_R_sg (by decide) [(.aload_n 0, 1, 0, 0, 0, 0, 0), (.iconst 0, 1, 0, 0, 0, 0, 0), (.aload_n 1, 1, 0, 1, 0, 0, 0), (.iconst 0, 1, 0, 0, 0, 0, 0), (.aload_n 0, 1, 0, 0, 0, 0, 0), (.arraylength, 1, 0, 0, 0, 0, 0), (.aload_n 1, 1, 0, 1, 0, 0, 0), (.arraylength, 1, 0, 0, 0, 0, 0)] (by decide +kernel) (show m_sgl X _ _ _ _ _ = some (8, [some (.ref 47), some (.ref 151)], [.int (Int32.ofNat 8), .int (Int32.ofNat 8), .int (0 : Int32), .ref 151, .int (0 : Int32), .ref 47], (SH, m.1, m.2)) from rfl) ?_
  obtain ⟨q1, hc1, h⟩ := Option.bind_eq_some_iff.mp h
  refine m_R_cS (v := (some (.int q1.1))) (h1 := (SH, q1.2)) (rest := [.int (0 : Int32), .ref 151, .int (0 : Int32), .ref 47]) (lo' := [some (.int (Int32.ofNat 8)), some (.int (Int32.ofNat 8))]) (ml := 2) (by decide) (m_opb_of (ins := .invokestatic 219) (len := 3) (tag := 4) (a := 50) (b := 2) (c := 0) (q := 893) (by decide +kernel)) (by decide +kernel) (Nat.le_of_ble_eq_true rfl) rfl (Nat.le_of_ble_eq_true rfl) rfl rfl (ok_Math_min_II X (d + 0) F _ _ _ _ _ hc1) ?_
  obtain ⟨c0, h⟩ := m_ite_n h
  refine m_R_cpy (by decide) (m_opb_of (ins := .invokestatic 452) (len := 3) (tag := 8) (a := 0) (b := 0) (c := 0) (q := 1391) (by decide +kernel)) (Nat.le_of_ble_eq_true rfl) (m_cpy_of sh_47 sh_151 c0) ?_
  obtain ⟨rfl, rfl⟩ := m_some h
  exact m_R_vret (by decide) (m_opb_of (ins := .return_) (len := 1) (tag := 3) (a := 0) (b := 0) (c := 0) (q := 0) (by decide +kernel))
def f_x_copyAll_48_152 (F : Nat)    (m : mM) : Option (Unit × mM) := ((f_Math_min_II F (Int32.ofNat 8) (Int32.ofNat 8) m).bind fun q1 => (if (0 : Int32) < 0 ∨ (0 : Int32) < 0 ∨ q1.1 < 0 ∨ 8 < (0 : Int32).toNatClampNeg + q1.1.toNatClampNeg ∨ 8 < (0 : Int32).toNatClampNeg + q1.1.toNatClampNeg then none else some ((), ((m_row q1.2.1 152 (va_cpy (q1.2.1 48) (q1.2.1 152) (0 : Int32).toNatClampNeg (0 : Int32).toNatClampNeg q1.1.toNatClampNeg)), q1.2.2))))
theorem ok_x_copyAll_48_152 (X : mX) (d F : Nat) : ∀   (m : mM) (r : Unit) (m' : mM), f_x_copyAll_48_152 F  m = some (r, m') → m_R X (d + 1) 176 0 [some (.ref 48), some (.ref 152)] [] (SH, m) (none, (SH, m')) := by
  intro m r m' h
  unfold f_x_copyAll_48_152 at h
  refine m_R_sg (by decide) [(.aload_n 0, 1, 0, 0, 0, 0, 0), (.iconst 0, 1, 0, 0, 0, 0, 0), (.aload_n 1, 1, 0, 1, 0, 0, 0), (.iconst 0, 1, 0, 0, 0, 0, 0), (.aload_n 0, 1, 0, 0, 0, 0, 0), (.arraylength, 1, 0, 0, 0, 0, 0), (.aload_n 1, 1, 0, 1, 0, 0, 0), (.arraylength, 1, 0, 0, 0, 0, 0)] (by decide +kernel) (show m_sgl X _ _ _ _ _ = some (8, [some (.ref 48), some (.ref 152)], [.int (Int32.ofNat 8), .int (Int32.ofNat 8), .int (0 : Int32), .ref 152, .int (0 : Int32), .ref 48], (SH, m.1, m.2)) from rfl) ?_
  obtain ⟨q1, hc1, h⟩ := Option.bind_eq_some_iff.mp h
  refine m_R_cS (v := (some (.int q1.1))) (h1 := (SH, q1.2)) (rest := [.int (0 : Int32), .ref 152, .int (0 : Int32), .ref 48]) (lo' := [some (.int (Int32.ofNat 8)), some (.int (Int32.ofNat 8))]) (ml := 2) (by decide) (m_opb_of (ins := .invokestatic 219) (len := 3) (tag := 4) (a := 50) (b := 2) (c := 0) (q := 893) (by decide +kernel)) (by decide +kernel) (Nat.le_of_ble_eq_true rfl) rfl (Nat.le_of_ble_eq_true rfl) rfl rfl (ok_Math_min_II X (d + 0) F _ _ _ _ _ hc1) ?_
  obtain ⟨c0, h⟩ := m_ite_n h
  refine m_R_cpy (by decide) (m_opb_of (ins := .invokestatic 452) (len := 3) (tag := 8) (a := 0) (b := 0) (c := 0) (q := 1391) (by decide +kernel)) (Nat.le_of_ble_eq_true rfl) (m_cpy_of sh_48 sh_152 c0) ?_
  obtain ⟨rfl, rfl⟩ := m_some h
  exact m_R_vret (by decide) (m_opb_of (ins := .return_) (len := 1) (tag := 3) (a := 0) (b := 0) (c := 0) (q := 0) (by decide +kernel))
def f_x_copyAll_49_153 (F : Nat)    (m : mM) : Option (Unit × mM) := ((f_Math_min_II F (Int32.ofNat 8) (Int32.ofNat 8) m).bind fun q1 => (if (0 : Int32) < 0 ∨ (0 : Int32) < 0 ∨ q1.1 < 0 ∨ 8 < (0 : Int32).toNatClampNeg + q1.1.toNatClampNeg ∨ 8 < (0 : Int32).toNatClampNeg + q1.1.toNatClampNeg then none else some ((), ((m_row q1.2.1 153 (va_cpy (q1.2.1 49) (q1.2.1 153) (0 : Int32).toNatClampNeg (0 : Int32).toNatClampNeg q1.1.toNatClampNeg)), q1.2.2))))
theorem ok_x_copyAll_49_153 (X : mX) (d F : Nat) : ∀   (m : mM) (r : Unit) (m' : mM), f_x_copyAll_49_153 F  m = some (r, m') → m_R X (d + 1) 176 0 [some (.ref 49), some (.ref 153)] [] (SH, m) (none, (SH, m')) := by
  intro m r m' h
  unfold f_x_copyAll_49_153 at h
  refine m_R_sg (by decide) [(.aload_n 0, 1, 0, 0, 0, 0, 0), (.iconst 0, 1, 0, 0, 0, 0, 0), (.aload_n 1, 1, 0, 1, 0, 0, 0), (.iconst 0, 1, 0, 0, 0, 0, 0), (.aload_n 0, 1, 0, 0, 0, 0, 0), (.arraylength, 1, 0, 0, 0, 0, 0), (.aload_n 1, 1, 0, 1, 0, 0, 0), (.arraylength, 1, 0, 0, 0, 0, 0)] (by decide +kernel) (show m_sgl X _ _ _ _ _ = some (8, [some (.ref 49), some (.ref 153)], [.int (Int32.ofNat 8), .int (Int32.ofNat 8), .int (0 : Int32), .ref 153, .int (0 : Int32), .ref 49], (SH, m.1, m.2)) from rfl) ?_
  obtain ⟨q1, hc1, h⟩ := Option.bind_eq_some_iff.mp h
  refine m_R_cS (v := (some (.int q1.1))) (h1 := (SH, q1.2)) (rest := [.int (0 : Int32), .ref 153, .int (0 : Int32), .ref 49]) (lo' := [some (.int (Int32.ofNat 8)), some (.int (Int32.ofNat 8))]) (ml := 2) (by decide) (m_opb_of (ins := .invokestatic 219) (len := 3) (tag := 4) (a := 50) (b := 2) (c := 0) (q := 893) (by decide +kernel)) (by decide +kernel) (Nat.le_of_ble_eq_true rfl) rfl (Nat.le_of_ble_eq_true rfl) rfl rfl (ok_Math_min_II X (d + 0) F _ _ _ _ _ hc1) ?_
  obtain ⟨c0, h⟩ := m_ite_n h
  refine m_R_cpy (by decide) (m_opb_of (ins := .invokestatic 452) (len := 3) (tag := 8) (a := 0) (b := 0) (c := 0) (q := 1391) (by decide +kernel)) (Nat.le_of_ble_eq_true rfl) (m_cpy_of sh_49 sh_153 c0) ?_
  obtain ⟨rfl, rfl⟩ := m_some h
  exact m_R_vret (by decide) (m_opb_of (ins := .return_) (len := 1) (tag := 3) (a := 0) (b := 0) (c := 0) (q := 0) (by decide +kernel))
def f_x_copyAll_50_154 (F : Nat)    (m : mM) : Option (Unit × mM) := ((f_Math_min_II F (Int32.ofNat 8) (Int32.ofNat 8) m).bind fun q1 => (if (0 : Int32) < 0 ∨ (0 : Int32) < 0 ∨ q1.1 < 0 ∨ 8 < (0 : Int32).toNatClampNeg + q1.1.toNatClampNeg ∨ 8 < (0 : Int32).toNatClampNeg + q1.1.toNatClampNeg then none else some ((), ((m_row q1.2.1 154 (va_cpy (q1.2.1 50) (q1.2.1 154) (0 : Int32).toNatClampNeg (0 : Int32).toNatClampNeg q1.1.toNatClampNeg)), q1.2.2))))
theorem ok_x_copyAll_50_154 (X : mX) (d F : Nat) : ∀   (m : mM) (r : Unit) (m' : mM), f_x_copyAll_50_154 F  m = some (r, m') → m_R X (d + 1) 176 0 [some (.ref 50), some (.ref 154)] [] (SH, m) (none, (SH, m')) := by
  intro m r m' h
  unfold f_x_copyAll_50_154 at h
  refine m_R_sg (by decide) [(.aload_n 0, 1, 0, 0, 0, 0, 0), (.iconst 0, 1, 0, 0, 0, 0, 0), (.aload_n 1, 1, 0, 1, 0, 0, 0), (.iconst 0, 1, 0, 0, 0, 0, 0), (.aload_n 0, 1, 0, 0, 0, 0, 0), (.arraylength, 1, 0, 0, 0, 0, 0), (.aload_n 1, 1, 0, 1, 0, 0, 0), (.arraylength, 1, 0, 0, 0, 0, 0)] (by decide +kernel) (show m_sgl X _ _ _ _ _ = some (8, [some (.ref 50), some (.ref 154)], [.int (Int32.ofNat 8), .int (Int32.ofNat 8), .int (0 : Int32), .ref 154, .int (0 : Int32), .ref 50], (SH, m.1, m.2)) from rfl) ?_
  obtain ⟨q1, hc1, h⟩ := Option.bind_eq_some_iff.mp h
  refine m_R_cS (v := (some (.int q1.1))) (h1 := (SH, q1.2)) (rest := [.int (0 : Int32), .ref 154, .int (0 : Int32), .ref 50]) (lo' := [some (.int (Int32.ofNat 8)), some (.int (Int32.ofNat 8))]) (ml := 2) (by decide) (m_opb_of (ins := .invokestatic 219) (len := 3) (tag := 4) (a := 50) (b := 2) (c := 0) (q := 893) (by decide +kernel)) (by decide +kernel) (Nat.le_of_ble_eq_true rfl) rfl (Nat.le_of_ble_eq_true rfl) rfl rfl (ok_Math_min_II X (d + 0) F _ _ _ _ _ hc1) ?_
  obtain ⟨c0, h⟩ := m_ite_n h
  refine m_R_cpy (by decide) (m_opb_of (ins := .invokestatic 452) (len := 3) (tag := 8) (a := 0) (b := 0) (c := 0) (q := 1391) (by decide +kernel)) (Nat.le_of_ble_eq_true rfl) (m_cpy_of sh_50 sh_154 c0) ?_
  obtain ⟨rfl, rfl⟩ := m_some h
  exact m_R_vret (by decide) (m_opb_of (ins := .return_) (len := 1) (tag := 3) (a := 0) (b := 0) (c := 0) (q := 0) (by decide +kernel))
def f_x_copyAll_51_155 (F : Nat)    (m : mM) : Option (Unit × mM) := ((f_Math_min_II F (Int32.ofNat 8) (Int32.ofNat 8) m).bind fun q1 => (if (0 : Int32) < 0 ∨ (0 : Int32) < 0 ∨ q1.1 < 0 ∨ 8 < (0 : Int32).toNatClampNeg + q1.1.toNatClampNeg ∨ 8 < (0 : Int32).toNatClampNeg + q1.1.toNatClampNeg then none else some ((), ((m_row q1.2.1 155 (va_cpy (q1.2.1 51) (q1.2.1 155) (0 : Int32).toNatClampNeg (0 : Int32).toNatClampNeg q1.1.toNatClampNeg)), q1.2.2))))
theorem ok_x_copyAll_51_155 (X : mX) (d F : Nat) : ∀   (m : mM) (r : Unit) (m' : mM), f_x_copyAll_51_155 F  m = some (r, m') → m_R X (d + 1) 176 0 [some (.ref 51), some (.ref 155)] [] (SH, m) (none, (SH, m')) := by
  intro m r m' h
  unfold f_x_copyAll_51_155 at h
  refine m_R_sg (by decide) [(.aload_n 0, 1, 0, 0, 0, 0, 0), (.iconst 0, 1, 0, 0, 0, 0, 0), (.aload_n 1, 1, 0, 1, 0, 0, 0), (.iconst 0, 1, 0, 0, 0, 0, 0), (.aload_n 0, 1, 0, 0, 0, 0, 0), (.arraylength, 1, 0, 0, 0, 0, 0), (.aload_n 1, 1, 0, 1, 0, 0, 0), (.arraylength, 1, 0, 0, 0, 0, 0)] (by decide +kernel) (show m_sgl X _ _ _ _ _ = some (8, [some (.ref 51), some (.ref 155)], [.int (Int32.ofNat 8), .int (Int32.ofNat 8), .int (0 : Int32), .ref 155, .int (0 : Int32), .ref 51], (SH, m.1, m.2)) from rfl) ?_
  obtain ⟨q1, hc1, h⟩ := Option.bind_eq_some_iff.mp h
  refine m_R_cS (v := (some (.int q1.1))) (h1 := (SH, q1.2)) (rest := [.int (0 : Int32), .ref 155, .int (0 : Int32), .ref 51]) (lo' := [some (.int (Int32.ofNat 8)), some (.int (Int32.ofNat 8))]) (ml := 2) (by decide) (m_opb_of (ins := .invokestatic 219) (len := 3) (tag := 4) (a := 50) (b := 2) (c := 0) (q := 893) (by decide +kernel)) (by decide +kernel) (Nat.le_of_ble_eq_true rfl) rfl (Nat.le_of_ble_eq_true rfl) rfl rfl (ok_Math_min_II X (d + 0) F _ _ _ _ _ hc1) ?_
  obtain ⟨c0, h⟩ := m_ite_n h
  refine m_R_cpy (by decide) (m_opb_of (ins := .invokestatic 452) (len := 3) (tag := 8) (a := 0) (b := 0) (c := 0) (q := 1391) (by decide +kernel)) (Nat.le_of_ble_eq_true rfl) (m_cpy_of sh_51 sh_155 c0) ?_
  obtain ⟨rfl, rfl⟩ := m_some h
  exact m_R_vret (by decide) (m_opb_of (ins := .return_) (len := 1) (tag := 3) (a := 0) (b := 0) (c := 0) (q := 0) (by decide +kernel))
def f_Trades_become_150_46 (F : Nat)    (m : mM) : Option (Unit × mM) := ((f_x_copyAll_47_151 F m).bind fun q1 => ((f_x_copyAll_48_152 F q1.2).bind fun q2 => ((f_x_copyAll_49_153 F q2.2).bind fun q3 => ((f_x_copyAll_50_154 F q3.2).bind fun q4 => ((f_x_copyAll_51_155 F q4.2).bind fun q5 => some ((), ((m_up q5.2.1 150 5 (q5.2.1 46 5)), q5.2.2)))))))
theorem ok_Trades_become_150_46 (X : mX) (d F : Nat) : ∀   (m : mM) (r : Unit) (m' : mM), f_Trades_become_150_46 F  m = some (r, m') → m_R X (d + 2) 179 0 [some (.ref 150), some (.ref 46)] [] (SH, m) (none, (SH, m')) := by
  intro m r m' h
  unfold f_Trades_become_150_46 at h
  refine m_R_sg (by decide) [(.aload_n 1, 1, 0, 1, 0, 0, 0), (.getfield 9, 3, 0, 9, 0, 3, 406), (.aload_n 0, 1, 0, 0, 0, 0, 0), (.getfield 9, 3, 0, 9, 0, 3, 406)] (by decide +kernel) (show m_sgl X _ _ _ _ _ = some (8, [some (.ref 150), some (.ref 46)], [.ref 151, .ref 47], (SH, m.1, m.2)) from rfl) ?_
  obtain ⟨q1, hc1, h⟩ := Option.bind_eq_some_iff.mp h
  refine m_R_cS (v := none) (h1 := (SH, q1.2)) (rest := []) (lo' := [some (.ref 47), some (.ref 151)]) (ml := 2) (by decide) (m_opb_of (ins := .invokestatic 27) (len := 3) (tag := 4) (a := 176) (b := 2) (c := 1) (q := 1406) (by decide +kernel)) (by decide +kernel) (Nat.le_of_ble_eq_true rfl) rfl (Nat.le_of_ble_eq_true rfl) rfl rfl (ok_x_copyAll_47_151 X (d + 0) F _ _ _ hc1) ?_
  refine m_R_sg (by decide) [(.aload_n 1, 1, 0, 1, 0, 0, 0), (.getfield 15, 3, 0, 9, 1, 3, 408), (.aload_n 0, 1, 0, 0, 0, 0, 0), (.getfield 15, 3, 0, 9, 1, 3, 408)] (by decide +kernel) (show m_sgl X _ _ _ _ _ = some (19, [some (.ref 150), some (.ref 46)], [.ref 152, .ref 48], (SH, q1.2.1, q1.2.2)) from rfl) ?_
  obtain ⟨q2, hc2, h⟩ := Option.bind_eq_some_iff.mp h
  refine m_R_cS (v := none) (h1 := (SH, q2.2)) (rest := []) (lo' := [some (.ref 48), some (.ref 152)]) (ml := 2) (by decide) (m_opb_of (ins := .invokestatic 27) (len := 3) (tag := 4) (a := 176) (b := 2) (c := 1) (q := 1406) (by decide +kernel)) (by decide +kernel) (Nat.le_of_ble_eq_true rfl) rfl (Nat.le_of_ble_eq_true rfl) rfl rfl (ok_x_copyAll_48_152 X (d + 0) F _ _ _ hc2) ?_
  refine m_R_sg (by decide) [(.aload_n 1, 1, 0, 1, 0, 0, 0), (.getfield 18, 3, 0, 9, 2, 3, 410), (.aload_n 0, 1, 0, 0, 0, 0, 0), (.getfield 18, 3, 0, 9, 2, 3, 410)] (by decide +kernel) (show m_sgl X _ _ _ _ _ = some (30, [some (.ref 150), some (.ref 46)], [.ref 153, .ref 49], (SH, q2.2.1, q2.2.2)) from rfl) ?_
  obtain ⟨q3, hc3, h⟩ := Option.bind_eq_some_iff.mp h
  refine m_R_cS (v := none) (h1 := (SH, q3.2)) (rest := []) (lo' := [some (.ref 49), some (.ref 153)]) (ml := 2) (by decide) (m_opb_of (ins := .invokestatic 27) (len := 3) (tag := 4) (a := 176) (b := 2) (c := 1) (q := 1406) (by decide +kernel)) (by decide +kernel) (Nat.le_of_ble_eq_true rfl) rfl (Nat.le_of_ble_eq_true rfl) rfl rfl (ok_x_copyAll_49_153 X (d + 0) F _ _ _ hc3) ?_
  refine m_R_sg (by decide) [(.aload_n 1, 1, 0, 1, 0, 0, 0), (.getfield 21, 3, 0, 9, 3, 3, 412), (.aload_n 0, 1, 0, 0, 0, 0, 0), (.getfield 21, 3, 0, 9, 3, 3, 412)] (by decide +kernel) (show m_sgl X _ _ _ _ _ = some (41, [some (.ref 150), some (.ref 46)], [.ref 154, .ref 50], (SH, q3.2.1, q3.2.2)) from rfl) ?_
  obtain ⟨q4, hc4, h⟩ := Option.bind_eq_some_iff.mp h
  refine m_R_cS (v := none) (h1 := (SH, q4.2)) (rest := []) (lo' := [some (.ref 50), some (.ref 154)]) (ml := 2) (by decide) (m_opb_of (ins := .invokestatic 27) (len := 3) (tag := 4) (a := 176) (b := 2) (c := 1) (q := 1406) (by decide +kernel)) (by decide +kernel) (Nat.le_of_ble_eq_true rfl) rfl (Nat.le_of_ble_eq_true rfl) rfl rfl (ok_x_copyAll_50_154 X (d + 0) F _ _ _ hc4) ?_
  refine m_R_sg (by decide) [(.aload_n 1, 1, 0, 1, 0, 0, 0), (.getfield 24, 3, 0, 9, 4, 3, 414), (.aload_n 0, 1, 0, 0, 0, 0, 0), (.getfield 24, 3, 0, 9, 4, 3, 414)] (by decide +kernel) (show m_sgl X _ _ _ _ _ = some (52, [some (.ref 150), some (.ref 46)], [.ref 155, .ref 51], (SH, q4.2.1, q4.2.2)) from rfl) ?_
  obtain ⟨q5, hc5, h⟩ := Option.bind_eq_some_iff.mp h
  refine m_R_cS (v := none) (h1 := (SH, q5.2)) (rest := []) (lo' := [some (.ref 51), some (.ref 155)]) (ml := 2) (by decide) (m_opb_of (ins := .invokestatic 27) (len := 3) (tag := 4) (a := 176) (b := 2) (c := 1) (q := 1406) (by decide +kernel)) (by decide +kernel) (Nat.le_of_ble_eq_true rfl) rfl (Nat.le_of_ble_eq_true rfl) rfl rfl (ok_x_copyAll_51_155 X (d + 0) F _ _ _ hc5) ?_
  refine m_R_sg (by decide) [(.aload_n 0, 1, 0, 0, 0, 0, 0), (.aload_n 1, 1, 0, 1, 0, 0, 0), (.getfield 31, 3, 0, 9, 5, 0, 417), (.putfield 31, 3, 0, 9, 5, 0, 417)] (by decide +kernel) (show m_sgl X _ _ _ _ _ = some (63, [some (.ref 150), some (.ref 46)], [], (SH, (m_up q5.2.1 150 5 (q5.2.1 46 5)), q5.2.2)) from rfl) ?_
  obtain ⟨rfl, rfl⟩ := m_some h
  exact m_R_vret (by decide) (m_opb_of (ins := .return_) (len := 1) (tag := 3) (a := 0) (b := 0) (c := 0) (q := 0) (by decide +kernel))
def f_x_copyAll_53_157 (F : Nat)    (m : mM) : Option (Unit × mM) := ((f_Math_min_II F (Int32.ofNat 104) (Int32.ofNat 104) m).bind fun q1 => (if (0 : Int32) < 0 ∨ (0 : Int32) < 0 ∨ q1.1 < 0 ∨ 104 < (0 : Int32).toNatClampNeg + q1.1.toNatClampNeg ∨ 104 < (0 : Int32).toNatClampNeg + q1.1.toNatClampNeg then none else some ((), ((m_row q1.2.1 157 (va_cpy (q1.2.1 53) (q1.2.1 157) (0 : Int32).toNatClampNeg (0 : Int32).toNatClampNeg q1.1.toNatClampNeg)), q1.2.2))))
theorem ok_x_copyAll_53_157 (X : mX) (d F : Nat) : ∀   (m : mM) (r : Unit) (m' : mM), f_x_copyAll_53_157 F  m = some (r, m') → m_R X (d + 1) 176 0 [some (.ref 53), some (.ref 157)] [] (SH, m) (none, (SH, m')) := by
  intro m r m' h
  unfold f_x_copyAll_53_157 at h
  refine m_R_sg (by decide) [(.aload_n 0, 1, 0, 0, 0, 0, 0), (.iconst 0, 1, 0, 0, 0, 0, 0), (.aload_n 1, 1, 0, 1, 0, 0, 0), (.iconst 0, 1, 0, 0, 0, 0, 0), (.aload_n 0, 1, 0, 0, 0, 0, 0), (.arraylength, 1, 0, 0, 0, 0, 0), (.aload_n 1, 1, 0, 1, 0, 0, 0), (.arraylength, 1, 0, 0, 0, 0, 0)] (by decide +kernel) (show m_sgl X _ _ _ _ _ = some (8, [some (.ref 53), some (.ref 157)], [.int (Int32.ofNat 104), .int (Int32.ofNat 104), .int (0 : Int32), .ref 157, .int (0 : Int32), .ref 53], (SH, m.1, m.2)) from rfl) ?_
  obtain ⟨q1, hc1, h⟩ := Option.bind_eq_some_iff.mp h
  refine m_R_cS (v := (some (.int q1.1))) (h1 := (SH, q1.2)) (rest := [.int (0 : Int32), .ref 157, .int (0 : Int32), .ref 53]) (lo' := [some (.int (Int32.ofNat 104)), some (.int (Int32.ofNat 104))]) (ml := 2) (by decide) (m_opb_of (ins := .invokestatic 219) (len := 3) (tag := 4) (a := 50) (b := 2) (c := 0) (q := 893) (by decide +kernel)) (by decide +kernel) (Nat.le_of_ble_eq_true rfl) rfl (Nat.le_of_ble_eq_true rfl) rfl rfl (ok_Math_min_II X (d + 0) F _ _ _ _ _ hc1) ?_
  obtain ⟨c0, h⟩ := m_ite_n h
  refine m_R_cpy (by decide) (m_opb_of (ins := .invokestatic 452) (len := 3) (tag := 8) (a := 0) (b := 0) (c := 0) (q := 1391) (by decide +kernel)) (Nat.le_of_ble_eq_true rfl) (m_cpy_of sh_53 sh_157 c0) ?_
  obtain ⟨rfl, rfl⟩ := m_some h
  exact m_R_vret (by decide) (m_opb_of (ins := .return_) (len := 1) (tag := 3) (a := 0) (b := 0) (c := 0) (q := 0) (by decide +kernel))
def f_Seasons_become_156_52 (F : Nat)    (m : mM) : Option (Unit × mM) := ((f_x_copyAll_53_157 F m).bind fun q1 => some ((), q1.2))
theorem ok_Seasons_become_156_52 (X : mX) (d F : Nat) : ∀   (m : mM) (r : Unit) (m' : mM), f_Seasons_become_156_52 F  m = some (r, m') → m_R X (d + 2) 180 0 [some (.ref 156), some (.ref 52)] [] (SH, m) (none, (SH, m')) := by
  intro m r m' h
  unfold f_Seasons_become_156_52 at h
  refine m_R_sg (by decide) [(.aload_n 1, 1, 0, 1, 0, 0, 0), (.getfield 9, 3, 0, 7, 0, 3, 439), (.aload_n 0, 1, 0, 0, 0, 0, 0), (.getfield 9, 3, 0, 7, 0, 3, 439)] (by decide +kernel) (show m_sgl X _ _ _ _ _ = some (8, [some (.ref 156), some (.ref 52)], [.ref 157, .ref 53], (SH, m.1, m.2)) from rfl) ?_
  obtain ⟨q1, hc1, h⟩ := Option.bind_eq_some_iff.mp h
  refine m_R_cS (v := none) (h1 := (SH, q1.2)) (rest := []) (lo' := [some (.ref 53), some (.ref 157)]) (ml := 2) (by decide) (m_opb_of (ins := .invokestatic 15) (len := 3) (tag := 4) (a := 176) (b := 2) (c := 1) (q := 1411) (by decide +kernel)) (by decide +kernel) (Nat.le_of_ble_eq_true rfl) rfl (Nat.le_of_ble_eq_true rfl) rfl rfl (ok_x_copyAll_53_157 X (d + 0) F _ _ _ hc1) ?_
  obtain ⟨rfl, rfl⟩ := m_some h
  exact m_R_vret (by decide) (m_opb_of (ins := .return_) (len := 1) (tag := 3) (a := 0) (b := 0) (c := 0) (q := 0) (by decide +kernel))
def f_x_copyAll_56_160 (F : Nat)    (m : mM) : Option (Unit × mM) := ((f_Math_min_II F (Int32.ofNat 300) (Int32.ofNat 300) m).bind fun q1 => (if (0 : Int32) < 0 ∨ (0 : Int32) < 0 ∨ q1.1 < 0 ∨ 300 < (0 : Int32).toNatClampNeg + q1.1.toNatClampNeg ∨ 300 < (0 : Int32).toNatClampNeg + q1.1.toNatClampNeg then none else some ((), ((m_row q1.2.1 160 (va_cpy (q1.2.1 56) (q1.2.1 160) (0 : Int32).toNatClampNeg (0 : Int32).toNatClampNeg q1.1.toNatClampNeg)), q1.2.2))))
theorem ok_x_copyAll_56_160 (X : mX) (d F : Nat) : ∀   (m : mM) (r : Unit) (m' : mM), f_x_copyAll_56_160 F  m = some (r, m') → m_R X (d + 1) 176 0 [some (.ref 56), some (.ref 160)] [] (SH, m) (none, (SH, m')) := by
  intro m r m' h
  unfold f_x_copyAll_56_160 at h
  refine m_R_sg (by decide) [(.aload_n 0, 1, 0, 0, 0, 0, 0), (.iconst 0, 1, 0, 0, 0, 0, 0), (.aload_n 1, 1, 0, 1, 0, 0, 0), (.iconst 0, 1, 0, 0, 0, 0, 0), (.aload_n 0, 1, 0, 0, 0, 0, 0), (.arraylength, 1, 0, 0, 0, 0, 0), (.aload_n 1, 1, 0, 1, 0, 0, 0), (.arraylength, 1, 0, 0, 0, 0, 0)] (by decide +kernel) (show m_sgl X _ _ _ _ _ = some (8, [some (.ref 56), some (.ref 160)], [.int (Int32.ofNat 300), .int (Int32.ofNat 300), .int (0 : Int32), .ref 160, .int (0 : Int32), .ref 56], (SH, m.1, m.2)) from rfl) ?_
  obtain ⟨q1, hc1, h⟩ := Option.bind_eq_some_iff.mp h
  refine m_R_cS (v := (some (.int q1.1))) (h1 := (SH, q1.2)) (rest := [.int (0 : Int32), .ref 160, .int (0 : Int32), .ref 56]) (lo' := [some (.int (Int32.ofNat 300)), some (.int (Int32.ofNat 300))]) (ml := 2) (by decide) (m_opb_of (ins := .invokestatic 219) (len := 3) (tag := 4) (a := 50) (b := 2) (c := 0) (q := 893) (by decide +kernel)) (by decide +kernel) (Nat.le_of_ble_eq_true rfl) rfl (Nat.le_of_ble_eq_true rfl) rfl rfl (ok_Math_min_II X (d + 0) F _ _ _ _ _ hc1) ?_
  obtain ⟨c0, h⟩ := m_ite_n h
  refine m_R_cpy (by decide) (m_opb_of (ins := .invokestatic 452) (len := 3) (tag := 8) (a := 0) (b := 0) (c := 0) (q := 1391) (by decide +kernel)) (Nat.le_of_ble_eq_true rfl) (m_cpy_of sh_56 sh_160 c0) ?_
  obtain ⟨rfl, rfl⟩ := m_some h
  exact m_R_vret (by decide) (m_opb_of (ins := .return_) (len := 1) (tag := 3) (a := 0) (b := 0) (c := 0) (q := 0) (by decide +kernel))
def f_x_copyAll_57_161 (F : Nat)    (m : mM) : Option (Unit × mM) := ((f_Math_min_II F (Int32.ofNat 300) (Int32.ofNat 300) m).bind fun q1 => (if (0 : Int32) < 0 ∨ (0 : Int32) < 0 ∨ q1.1 < 0 ∨ 300 < (0 : Int32).toNatClampNeg + q1.1.toNatClampNeg ∨ 300 < (0 : Int32).toNatClampNeg + q1.1.toNatClampNeg then none else some ((), ((m_row q1.2.1 161 (va_cpy (q1.2.1 57) (q1.2.1 161) (0 : Int32).toNatClampNeg (0 : Int32).toNatClampNeg q1.1.toNatClampNeg)), q1.2.2))))
theorem ok_x_copyAll_57_161 (X : mX) (d F : Nat) : ∀   (m : mM) (r : Unit) (m' : mM), f_x_copyAll_57_161 F  m = some (r, m') → m_R X (d + 1) 176 0 [some (.ref 57), some (.ref 161)] [] (SH, m) (none, (SH, m')) := by
  intro m r m' h
  unfold f_x_copyAll_57_161 at h
  refine m_R_sg (by decide) [(.aload_n 0, 1, 0, 0, 0, 0, 0), (.iconst 0, 1, 0, 0, 0, 0, 0), (.aload_n 1, 1, 0, 1, 0, 0, 0), (.iconst 0, 1, 0, 0, 0, 0, 0), (.aload_n 0, 1, 0, 0, 0, 0, 0), (.arraylength, 1, 0, 0, 0, 0, 0), (.aload_n 1, 1, 0, 1, 0, 0, 0), (.arraylength, 1, 0, 0, 0, 0, 0)] (by decide +kernel) (show m_sgl X _ _ _ _ _ = some (8, [some (.ref 57), some (.ref 161)], [.int (Int32.ofNat 300), .int (Int32.ofNat 300), .int (0 : Int32), .ref 161, .int (0 : Int32), .ref 57], (SH, m.1, m.2)) from rfl) ?_
  obtain ⟨q1, hc1, h⟩ := Option.bind_eq_some_iff.mp h
  refine m_R_cS (v := (some (.int q1.1))) (h1 := (SH, q1.2)) (rest := [.int (0 : Int32), .ref 161, .int (0 : Int32), .ref 57]) (lo' := [some (.int (Int32.ofNat 300)), some (.int (Int32.ofNat 300))]) (ml := 2) (by decide) (m_opb_of (ins := .invokestatic 219) (len := 3) (tag := 4) (a := 50) (b := 2) (c := 0) (q := 893) (by decide +kernel)) (by decide +kernel) (Nat.le_of_ble_eq_true rfl) rfl (Nat.le_of_ble_eq_true rfl) rfl rfl (ok_Math_min_II X (d + 0) F _ _ _ _ _ hc1) ?_
  obtain ⟨c0, h⟩ := m_ite_n h
  refine m_R_cpy (by decide) (m_opb_of (ins := .invokestatic 452) (len := 3) (tag := 8) (a := 0) (b := 0) (c := 0) (q := 1391) (by decide +kernel)) (Nat.le_of_ble_eq_true rfl) (m_cpy_of sh_57 sh_161 c0) ?_
  obtain ⟨rfl, rfl⟩ := m_some h
  exact m_R_vret (by decide) (m_opb_of (ins := .return_) (len := 1) (tag := 3) (a := 0) (b := 0) (c := 0) (q := 0) (by decide +kernel))
def f_x_copyAll_58_162 (F : Nat)    (m : mM) : Option (Unit × mM) := ((f_Math_min_II F (Int32.ofNat 400) (Int32.ofNat 400) m).bind fun q1 => (if (0 : Int32) < 0 ∨ (0 : Int32) < 0 ∨ q1.1 < 0 ∨ 400 < (0 : Int32).toNatClampNeg + q1.1.toNatClampNeg ∨ 400 < (0 : Int32).toNatClampNeg + q1.1.toNatClampNeg then none else some ((), ((m_row q1.2.1 162 (va_cpy (q1.2.1 58) (q1.2.1 162) (0 : Int32).toNatClampNeg (0 : Int32).toNatClampNeg q1.1.toNatClampNeg)), q1.2.2))))
theorem ok_x_copyAll_58_162 (X : mX) (d F : Nat) : ∀   (m : mM) (r : Unit) (m' : mM), f_x_copyAll_58_162 F  m = some (r, m') → m_R X (d + 1) 176 0 [some (.ref 58), some (.ref 162)] [] (SH, m) (none, (SH, m')) := by
  intro m r m' h
  unfold f_x_copyAll_58_162 at h
  refine m_R_sg (by decide) [(.aload_n 0, 1, 0, 0, 0, 0, 0), (.iconst 0, 1, 0, 0, 0, 0, 0), (.aload_n 1, 1, 0, 1, 0, 0, 0), (.iconst 0, 1, 0, 0, 0, 0, 0), (.aload_n 0, 1, 0, 0, 0, 0, 0), (.arraylength, 1, 0, 0, 0, 0, 0), (.aload_n 1, 1, 0, 1, 0, 0, 0), (.arraylength, 1, 0, 0, 0, 0, 0)] (by decide +kernel) (show m_sgl X _ _ _ _ _ = some (8, [some (.ref 58), some (.ref 162)], [.int (Int32.ofNat 400), .int (Int32.ofNat 400), .int (0 : Int32), .ref 162, .int (0 : Int32), .ref 58], (SH, m.1, m.2)) from rfl) ?_
  obtain ⟨q1, hc1, h⟩ := Option.bind_eq_some_iff.mp h
  refine m_R_cS (v := (some (.int q1.1))) (h1 := (SH, q1.2)) (rest := [.int (0 : Int32), .ref 162, .int (0 : Int32), .ref 58]) (lo' := [some (.int (Int32.ofNat 400)), some (.int (Int32.ofNat 400))]) (ml := 2) (by decide) (m_opb_of (ins := .invokestatic 219) (len := 3) (tag := 4) (a := 50) (b := 2) (c := 0) (q := 893) (by decide +kernel)) (by decide +kernel) (Nat.le_of_ble_eq_true rfl) rfl (Nat.le_of_ble_eq_true rfl) rfl rfl (ok_Math_min_II X (d + 0) F _ _ _ _ _ hc1) ?_
  obtain ⟨c0, h⟩ := m_ite_n h
  refine m_R_cpy (by decide) (m_opb_of (ins := .invokestatic 452) (len := 3) (tag := 8) (a := 0) (b := 0) (c := 0) (q := 1391) (by decide +kernel)) (Nat.le_of_ble_eq_true rfl) (m_cpy_of sh_58 sh_162 c0) ?_
  obtain ⟨rfl, rfl⟩ := m_some h
  exact m_R_vret (by decide) (m_opb_of (ins := .return_) (len := 1) (tag := 3) (a := 0) (b := 0) (c := 0) (q := 0) (by decide +kernel))
def f_x_copyAll_59_163 (F : Nat)    (m : mM) : Option (Unit × mM) := ((f_Math_min_II F (Int32.ofNat 400) (Int32.ofNat 400) m).bind fun q1 => (if (0 : Int32) < 0 ∨ (0 : Int32) < 0 ∨ q1.1 < 0 ∨ 400 < (0 : Int32).toNatClampNeg + q1.1.toNatClampNeg ∨ 400 < (0 : Int32).toNatClampNeg + q1.1.toNatClampNeg then none else some ((), ((m_row q1.2.1 163 (va_cpy (q1.2.1 59) (q1.2.1 163) (0 : Int32).toNatClampNeg (0 : Int32).toNatClampNeg q1.1.toNatClampNeg)), q1.2.2))))
theorem ok_x_copyAll_59_163 (X : mX) (d F : Nat) : ∀   (m : mM) (r : Unit) (m' : mM), f_x_copyAll_59_163 F  m = some (r, m') → m_R X (d + 1) 176 0 [some (.ref 59), some (.ref 163)] [] (SH, m) (none, (SH, m')) := by
  intro m r m' h
  unfold f_x_copyAll_59_163 at h
  refine m_R_sg (by decide) [(.aload_n 0, 1, 0, 0, 0, 0, 0), (.iconst 0, 1, 0, 0, 0, 0, 0), (.aload_n 1, 1, 0, 1, 0, 0, 0), (.iconst 0, 1, 0, 0, 0, 0, 0), (.aload_n 0, 1, 0, 0, 0, 0, 0), (.arraylength, 1, 0, 0, 0, 0, 0), (.aload_n 1, 1, 0, 1, 0, 0, 0), (.arraylength, 1, 0, 0, 0, 0, 0)] (by decide +kernel) (show m_sgl X _ _ _ _ _ = some (8, [some (.ref 59), some (.ref 163)], [.int (Int32.ofNat 400), .int (Int32.ofNat 400), .int (0 : Int32), .ref 163, .int (0 : Int32), .ref 59], (SH, m.1, m.2)) from rfl) ?_
  obtain ⟨q1, hc1, h⟩ := Option.bind_eq_some_iff.mp h
  refine m_R_cS (v := (some (.int q1.1))) (h1 := (SH, q1.2)) (rest := [.int (0 : Int32), .ref 163, .int (0 : Int32), .ref 59]) (lo' := [some (.int (Int32.ofNat 400)), some (.int (Int32.ofNat 400))]) (ml := 2) (by decide) (m_opb_of (ins := .invokestatic 219) (len := 3) (tag := 4) (a := 50) (b := 2) (c := 0) (q := 893) (by decide +kernel)) (by decide +kernel) (Nat.le_of_ble_eq_true rfl) rfl (Nat.le_of_ble_eq_true rfl) rfl rfl (ok_Math_min_II X (d + 0) F _ _ _ _ _ hc1) ?_
  obtain ⟨c0, h⟩ := m_ite_n h
  refine m_R_cpy (by decide) (m_opb_of (ins := .invokestatic 452) (len := 3) (tag := 8) (a := 0) (b := 0) (c := 0) (q := 1391) (by decide +kernel)) (Nat.le_of_ble_eq_true rfl) (m_cpy_of sh_59 sh_163 c0) ?_
  obtain ⟨rfl, rfl⟩ := m_some h
  exact m_R_vret (by decide) (m_opb_of (ins := .return_) (len := 1) (tag := 3) (a := 0) (b := 0) (c := 0) (q := 0) (by decide +kernel))
def f_x_copyAll_60_164 (F : Nat)    (m : mM) : Option (Unit × mM) := ((f_Math_min_II F (Int32.ofNat 400) (Int32.ofNat 400) m).bind fun q1 => (if (0 : Int32) < 0 ∨ (0 : Int32) < 0 ∨ q1.1 < 0 ∨ 400 < (0 : Int32).toNatClampNeg + q1.1.toNatClampNeg ∨ 400 < (0 : Int32).toNatClampNeg + q1.1.toNatClampNeg then none else some ((), ((m_row q1.2.1 164 (va_cpy (q1.2.1 60) (q1.2.1 164) (0 : Int32).toNatClampNeg (0 : Int32).toNatClampNeg q1.1.toNatClampNeg)), q1.2.2))))
theorem ok_x_copyAll_60_164 (X : mX) (d F : Nat) : ∀   (m : mM) (r : Unit) (m' : mM), f_x_copyAll_60_164 F  m = some (r, m') → m_R X (d + 1) 176 0 [some (.ref 60), some (.ref 164)] [] (SH, m) (none, (SH, m')) := by
  intro m r m' h
  unfold f_x_copyAll_60_164 at h
  refine m_R_sg (by decide) [(.aload_n 0, 1, 0, 0, 0, 0, 0), (.iconst 0, 1, 0, 0, 0, 0, 0), (.aload_n 1, 1, 0, 1, 0, 0, 0), (.iconst 0, 1, 0, 0, 0, 0, 0), (.aload_n 0, 1, 0, 0, 0, 0, 0), (.arraylength, 1, 0, 0, 0, 0, 0), (.aload_n 1, 1, 0, 1, 0, 0, 0), (.arraylength, 1, 0, 0, 0, 0, 0)] (by decide +kernel) (show m_sgl X _ _ _ _ _ = some (8, [some (.ref 60), some (.ref 164)], [.int (Int32.ofNat 400), .int (Int32.ofNat 400), .int (0 : Int32), .ref 164, .int (0 : Int32), .ref 60], (SH, m.1, m.2)) from rfl) ?_
  obtain ⟨q1, hc1, h⟩ := Option.bind_eq_some_iff.mp h
  refine m_R_cS (v := (some (.int q1.1))) (h1 := (SH, q1.2)) (rest := [.int (0 : Int32), .ref 164, .int (0 : Int32), .ref 60]) (lo' := [some (.int (Int32.ofNat 400)), some (.int (Int32.ofNat 400))]) (ml := 2) (by decide) (m_opb_of (ins := .invokestatic 219) (len := 3) (tag := 4) (a := 50) (b := 2) (c := 0) (q := 893) (by decide +kernel)) (by decide +kernel) (Nat.le_of_ble_eq_true rfl) rfl (Nat.le_of_ble_eq_true rfl) rfl rfl (ok_Math_min_II X (d + 0) F _ _ _ _ _ hc1) ?_
  obtain ⟨c0, h⟩ := m_ite_n h
  refine m_R_cpy (by decide) (m_opb_of (ins := .invokestatic 452) (len := 3) (tag := 8) (a := 0) (b := 0) (c := 0) (q := 1391) (by decide +kernel)) (Nat.le_of_ble_eq_true rfl) (m_cpy_of sh_60 sh_164 c0) ?_
  obtain ⟨rfl, rfl⟩ := m_some h
  exact m_R_vret (by decide) (m_opb_of (ins := .return_) (len := 1) (tag := 3) (a := 0) (b := 0) (c := 0) (q := 0) (by decide +kernel))
def f_x_copyAll_61_165 (F : Nat)    (m : mM) : Option (Unit × mM) := ((f_Math_min_II F (Int32.ofNat 16) (Int32.ofNat 16) m).bind fun q1 => (if (0 : Int32) < 0 ∨ (0 : Int32) < 0 ∨ q1.1 < 0 ∨ 16 < (0 : Int32).toNatClampNeg + q1.1.toNatClampNeg ∨ 16 < (0 : Int32).toNatClampNeg + q1.1.toNatClampNeg then none else some ((), ((m_row q1.2.1 165 (va_cpy (q1.2.1 61) (q1.2.1 165) (0 : Int32).toNatClampNeg (0 : Int32).toNatClampNeg q1.1.toNatClampNeg)), q1.2.2))))
theorem ok_x_copyAll_61_165 (X : mX) (d F : Nat) : ∀   (m : mM) (r : Unit) (m' : mM), f_x_copyAll_61_165 F  m = some (r, m') → m_R X (d + 1) 176 0 [some (.ref 61), some (.ref 165)] [] (SH, m) (none, (SH, m')) := by
  intro m r m' h
  unfold f_x_copyAll_61_165 at h
  refine m_R_sg (by decide) [(.aload_n 0, 1, 0, 0, 0, 0, 0), (.iconst 0, 1, 0, 0, 0, 0, 0), (.aload_n 1, 1, 0, 1, 0, 0, 0), (.iconst 0, 1, 0, 0, 0, 0, 0), (.aload_n 0, 1, 0, 0, 0, 0, 0), (.arraylength, 1, 0, 0, 0, 0, 0), (.aload_n 1, 1, 0, 1, 0, 0, 0), (.arraylength, 1, 0, 0, 0, 0, 0)] (by decide +kernel) (show m_sgl X _ _ _ _ _ = some (8, [some (.ref 61), some (.ref 165)], [.int (Int32.ofNat 16), .int (Int32.ofNat 16), .int (0 : Int32), .ref 165, .int (0 : Int32), .ref 61], (SH, m.1, m.2)) from rfl) ?_
  obtain ⟨q1, hc1, h⟩ := Option.bind_eq_some_iff.mp h
  refine m_R_cS (v := (some (.int q1.1))) (h1 := (SH, q1.2)) (rest := [.int (0 : Int32), .ref 165, .int (0 : Int32), .ref 61]) (lo' := [some (.int (Int32.ofNat 16)), some (.int (Int32.ofNat 16))]) (ml := 2) (by decide) (m_opb_of (ins := .invokestatic 219) (len := 3) (tag := 4) (a := 50) (b := 2) (c := 0) (q := 893) (by decide +kernel)) (by decide +kernel) (Nat.le_of_ble_eq_true rfl) rfl (Nat.le_of_ble_eq_true rfl) rfl rfl (ok_Math_min_II X (d + 0) F _ _ _ _ _ hc1) ?_
  obtain ⟨c0, h⟩ := m_ite_n h
  refine m_R_cpy (by decide) (m_opb_of (ins := .invokestatic 452) (len := 3) (tag := 8) (a := 0) (b := 0) (c := 0) (q := 1391) (by decide +kernel)) (Nat.le_of_ble_eq_true rfl) (m_cpy_of sh_61 sh_165 c0) ?_
  obtain ⟨rfl, rfl⟩ := m_some h
  exact m_R_vret (by decide) (m_opb_of (ins := .return_) (len := 1) (tag := 3) (a := 0) (b := 0) (c := 0) (q := 0) (by decide +kernel))
def f_Notes_become_159_55_90 (F : Nat)    (m : mM) : Option (Unit × mM) := some ((), ((m_up (m_up (m_up m.1 159 10 (m.1 55 10)) 159 11 ((m_up m.1 159 10 (m.1 55 10)) 55 11)) 159 12 ((m_up (m_up m.1 159 10 (m.1 55 10)) 159 11 ((m_up m.1 159 10 (m.1 55 10)) 55 11)) 55 12)), m.2))
theorem ok_Notes_become_159_55_90 (X : mX) (d F : Nat) : ∀   (m : mM) (r : Unit) (m' : mM), f_Notes_become_159_55_90 F  m = some (r, m') → m_R X (d + 2) 181 90 [some (.ref 159), some (.ref 55)] [] (SH, m) (none, (SH, m')) := by
  intro m r m' h
  unfold f_Notes_become_159_55_90 at h
  refine m_R_sg (by decide) [(.aload_n 0, 1, 0, 0, 0, 0, 0), (.aload_n 1, 1, 0, 1, 0, 0, 0), (.getfield 48, 3, 0, 3, 10, 0, 470), (.putfield 48, 3, 0, 3, 10, 0, 470), (.aload_n 0, 1, 0, 0, 0, 0, 0), (.aload_n 1, 1, 0, 1, 0, 0, 0), (.getfield 51, 3, 0, 3, 11, 0, 472), (.putfield 51, 3, 0, 3, 11, 0, 472), (.aload_n 0, 1, 0, 0, 0, 0, 0), (.aload_n 1, 1, 0, 1, 0, 0, 0), (.getfield 54, 3, 0, 3, 12, 0, 474), (.putfield 54, 3, 0, 3, 12, 0, 474)] (by decide +kernel) (show m_sgl X _ _ _ _ _ = some (114, [some (.ref 159), some (.ref 55)], [], (SH, (m_up (m_up (m_up m.1 159 10 (m.1 55 10)) 159 11 ((m_up m.1 159 10 (m.1 55 10)) 55 11)) 159 12 ((m_up (m_up m.1 159 10 (m.1 55 10)) 159 11 ((m_up m.1 159 10 (m.1 55 10)) 55 11)) 55 12)), m.2)) from rfl) ?_
  obtain ⟨rfl, rfl⟩ := m_some h
  exact m_R_vret (by decide) (m_opb_of (ins := .return_) (len := 1) (tag := 3) (a := 0) (b := 0) (c := 0) (q := 0) (by decide +kernel))
def f_Notes_become_159_55 (F : Nat)    (m : mM) : Option (Unit × mM) := ((f_x_copyAll_56_160 F m).bind fun q1 => ((f_x_copyAll_57_161 F q1.2).bind fun q2 => ((f_x_copyAll_58_162 F q2.2).bind fun q3 => ((f_x_copyAll_59_163 F q3.2).bind fun q4 => ((f_x_copyAll_60_164 F q4.2).bind fun q5 => ((f_x_copyAll_61_165 F q5.2).bind fun q6 => f_Notes_become_159_55_90 F ((m_up (m_up (m_up q6.2.1 159 7 (q6.2.1 55 7)) 159 8 ((m_up q6.2.1 159 7 (q6.2.1 55 7)) 55 8)) 159 9 ((m_up (m_up q6.2.1 159 7 (q6.2.1 55 7)) 159 8 ((m_up q6.2.1 159 7 (q6.2.1 55 7)) 55 8)) 55 9)), q6.2.2)))))))
theorem ok_Notes_become_159_55 (X : mX) (d F : Nat) : ∀   (m : mM) (r : Unit) (m' : mM), f_Notes_become_159_55 F  m = some (r, m') → m_R X (d + 2) 181 0 [some (.ref 159), some (.ref 55)] [] (SH, m) (none, (SH, m')) := by
  intro m r m' h
  unfold f_Notes_become_159_55 at h
  refine m_R_sg (by decide) [(.aload_n 1, 1, 0, 1, 0, 0, 0), (.getfield 9, 3, 0, 3, 1, 3, 450), (.aload_n 0, 1, 0, 0, 0, 0, 0), (.getfield 9, 3, 0, 3, 1, 3, 450)] (by decide +kernel) (show m_sgl X _ _ _ _ _ = some (8, [some (.ref 159), some (.ref 55)], [.ref 160, .ref 56], (SH, m.1, m.2)) from rfl) ?_
  obtain ⟨q1, hc1, h⟩ := Option.bind_eq_some_iff.mp h
  refine m_R_cS (v := none) (h1 := (SH, q1.2)) (rest := []) (lo' := [some (.ref 56), some (.ref 160)]) (ml := 2) (by decide) (m_opb_of (ins := .invokestatic 34) (len := 3) (tag := 4) (a := 176) (b := 2) (c := 1) (q := 1416) (by decide +kernel)) (by decide +kernel) (Nat.le_of_ble_eq_true rfl) rfl (Nat.le_of_ble_eq_true rfl) rfl rfl (ok_x_copyAll_56_160 X (d + 0) F _ _ _ hc1) ?_
  refine m_R_sg (by decide) [(.aload_n 1, 1, 0, 1, 0, 0, 0), (.getfield 15, 3, 0, 3, 2, 3, 452), (.aload_n 0, 1, 0, 0, 0, 0, 0), (.getfield 15, 3, 0, 3, 2, 3, 452)] (by decide +kernel) (show m_sgl X _ _ _ _ _ = some (19, [some (.ref 159), some (.ref 55)], [.ref 161, .ref 57], (SH, q1.2.1, q1.2.2)) from rfl) ?_
  obtain ⟨q2, hc2, h⟩ := Option.bind_eq_some_iff.mp h
  refine m_R_cS (v := none) (h1 := (SH, q2.2)) (rest := []) (lo' := [some (.ref 57), some (.ref 161)]) (ml := 2) (by decide) (m_opb_of (ins := .invokestatic 34) (len := 3) (tag := 4) (a := 176) (b := 2) (c := 1) (q := 1416) (by decide +kernel)) (by decide +kernel) (Nat.le_of_ble_eq_true rfl) rfl (Nat.le_of_ble_eq_true rfl) rfl rfl (ok_x_copyAll_57_161 X (d + 0) F _ _ _ hc2) ?_
  refine m_R_sg (by decide) [(.aload_n 1, 1, 0, 1, 0, 0, 0), (.getfield 18, 3, 0, 3, 3, 3, 453), (.aload_n 0, 1, 0, 0, 0, 0, 0), (.getfield 18, 3, 0, 3, 3, 3, 453)] (by decide +kernel) (show m_sgl X _ _ _ _ _ = some (30, [some (.ref 159), some (.ref 55)], [.ref 162, .ref 58], (SH, q2.2.1, q2.2.2)) from rfl) ?_
  obtain ⟨q3, hc3, h⟩ := Option.bind_eq_some_iff.mp h
  refine m_R_cS (v := none) (h1 := (SH, q3.2)) (rest := []) (lo' := [some (.ref 58), some (.ref 162)]) (ml := 2) (by decide) (m_opb_of (ins := .invokestatic 34) (len := 3) (tag := 4) (a := 176) (b := 2) (c := 1) (q := 1416) (by decide +kernel)) (by decide +kernel) (Nat.le_of_ble_eq_true rfl) rfl (Nat.le_of_ble_eq_true rfl) rfl rfl (ok_x_copyAll_58_162 X (d + 0) F _ _ _ hc3) ?_
  refine m_R_sg (by decide) [(.aload_n 1, 1, 0, 1, 0, 0, 0), (.getfield 21, 3, 0, 3, 4, 3, 456), (.aload_n 0, 1, 0, 0, 0, 0, 0), (.getfield 21, 3, 0, 3, 4, 3, 456)] (by decide +kernel) (show m_sgl X _ _ _ _ _ = some (41, [some (.ref 159), some (.ref 55)], [.ref 163, .ref 59], (SH, q3.2.1, q3.2.2)) from rfl) ?_
  obtain ⟨q4, hc4, h⟩ := Option.bind_eq_some_iff.mp h
  refine m_R_cS (v := none) (h1 := (SH, q4.2)) (rest := []) (lo' := [some (.ref 59), some (.ref 163)]) (ml := 2) (by decide) (m_opb_of (ins := .invokestatic 34) (len := 3) (tag := 4) (a := 176) (b := 2) (c := 1) (q := 1416) (by decide +kernel)) (by decide +kernel) (Nat.le_of_ble_eq_true rfl) rfl (Nat.le_of_ble_eq_true rfl) rfl rfl (ok_x_copyAll_59_163 X (d + 0) F _ _ _ hc4) ?_
  refine m_R_sg (by decide) [(.aload_n 1, 1, 0, 1, 0, 0, 0), (.getfield 24, 3, 0, 3, 5, 3, 458), (.aload_n 0, 1, 0, 0, 0, 0, 0), (.getfield 24, 3, 0, 3, 5, 3, 458)] (by decide +kernel) (show m_sgl X _ _ _ _ _ = some (52, [some (.ref 159), some (.ref 55)], [.ref 164, .ref 60], (SH, q4.2.1, q4.2.2)) from rfl) ?_
  obtain ⟨q5, hc5, h⟩ := Option.bind_eq_some_iff.mp h
  refine m_R_cS (v := none) (h1 := (SH, q5.2)) (rest := []) (lo' := [some (.ref 60), some (.ref 164)]) (ml := 2) (by decide) (m_opb_of (ins := .invokestatic 34) (len := 3) (tag := 4) (a := 176) (b := 2) (c := 1) (q := 1416) (by decide +kernel)) (by decide +kernel) (Nat.le_of_ble_eq_true rfl) rfl (Nat.le_of_ble_eq_true rfl) rfl rfl (ok_x_copyAll_60_164 X (d + 0) F _ _ _ hc5) ?_
  refine m_R_sg (by decide) [(.aload_n 1, 1, 0, 1, 0, 0, 0), (.getfield 27, 3, 0, 3, 6, 3, 460), (.aload_n 0, 1, 0, 0, 0, 0, 0), (.getfield 27, 3, 0, 3, 6, 3, 460)] (by decide +kernel) (show m_sgl X _ _ _ _ _ = some (63, [some (.ref 159), some (.ref 55)], [.ref 165, .ref 61], (SH, q5.2.1, q5.2.2)) from rfl) ?_
  obtain ⟨q6, hc6, h⟩ := Option.bind_eq_some_iff.mp h
  refine m_R_cS (v := none) (h1 := (SH, q6.2)) (rest := []) (lo' := [some (.ref 61), some (.ref 165)]) (ml := 2) (by decide) (m_opb_of (ins := .invokestatic 34) (len := 3) (tag := 4) (a := 176) (b := 2) (c := 1) (q := 1416) (by decide +kernel)) (by decide +kernel) (Nat.le_of_ble_eq_true rfl) rfl (Nat.le_of_ble_eq_true rfl) rfl rfl (ok_x_copyAll_61_165 X (d + 0) F _ _ _ hc6) ?_
  refine m_R_sg (by decide) [(.aload_n 0, 1, 0, 0, 0, 0, 0), (.aload_n 1, 1, 0, 1, 0, 0, 0), (.getfield 38, 3, 0, 3, 7, 0, 463), (.putfield 38, 3, 0, 3, 7, 0, 463), (.aload_n 0, 1, 0, 0, 0, 0, 0), (.aload_n 1, 1, 0, 1, 0, 0, 0), (.getfield 42, 3, 0, 3, 8, 0, 466), (.putfield 42, 3, 0, 3, 8, 0, 466), (.aload_n 0, 1, 0, 0, 0, 0, 0), (.aload_n 1, 1, 0, 1, 0, 0, 0), (.getfield 45, 3, 0, 3, 9, 0, 467), (.putfield 45, 3, 0, 3, 9, 0, 467)] (by decide +kernel) (show m_sgl X _ _ _ _ _ = some (90, [some (.ref 159), some (.ref 55)], [], (SH, (m_up (m_up (m_up q6.2.1 159 7 (q6.2.1 55 7)) 159 8 ((m_up q6.2.1 159 7 (q6.2.1 55 7)) 55 8)) 159 9 ((m_up (m_up q6.2.1 159 7 (q6.2.1 55 7)) 159 8 ((m_up q6.2.1 159 7 (q6.2.1 55 7)) 55 8)) 55 9)), q6.2.2)) from rfl) ?_
  exact ok_Notes_become_159_55_90 X d F _ _ _ h
def f_World_become_120_16_90 (F : Nat)    (m : mM) : Option (Unit × mM) := some ((), ((m_up (m_up (m_up m.1 120 12 (m.1 16 12)) 120 13 ((m_up m.1 120 12 (m.1 16 12)) 16 13)) 120 14 ((m_up (m_up m.1 120 12 (m.1 16 12)) 120 13 ((m_up m.1 120 12 (m.1 16 12)) 16 13)) 16 14)), m.2))
theorem ok_World_become_120_16_90 (X : mX) (d F : Nat) : ∀   (m : mM) (r : Unit) (m' : mM), f_World_become_120_16_90 F  m = some (r, m') → m_R X (d + 3) 174 90 [some (.ref 120), some (.ref 16)] [] (SH, m) (none, (SH, m')) := by
  intro m r m' h
  unfold f_World_become_120_16_90 at h
  refine m_R_sg (by decide) [(.aload_n 0, 1, 0, 0, 0, 0, 0), (.aload_n 1, 1, 0, 1, 0, 0, 0), (.getfield 101, 3, 0, 10, 12, 0, 526), (.putfield 101, 3, 0, 10, 12, 0, 526), (.aload_n 0, 1, 0, 0, 0, 0, 0), (.aload_n 1, 1, 0, 1, 0, 0, 0), (.getfield 56, 3, 0, 10, 13, 0, 528), (.putfield 56, 3, 0, 10, 13, 0, 528), (.aload_n 0, 1, 0, 0, 0, 0, 0), (.aload_n 1, 1, 0, 1, 0, 0, 0), (.getfield 104, 3, 0, 10, 14, 0, 530), (.putfield 104, 3, 0, 10, 14, 0, 530)] (by decide +kernel) (show m_sgl X _ _ _ _ _ = some (114, [some (.ref 120), some (.ref 16)], [], (SH, (m_up (m_up (m_up m.1 120 12 (m.1 16 12)) 120 13 ((m_up m.1 120 12 (m.1 16 12)) 16 13)) 120 14 ((m_up (m_up m.1 120 12 (m.1 16 12)) 120 13 ((m_up m.1 120 12 (m.1 16 12)) 16 13)) 16 14)), m.2)) from rfl) ?_
  obtain ⟨rfl, rfl⟩ := m_some h
  exact m_R_vret (by decide) (m_opb_of (ins := .return_) (len := 1) (tag := 3) (a := 0) (b := 0) (c := 0) (q := 0) (by decide +kernel))
def f_World_become_120_16 (F : Nat)    (m : mM) : Option (Unit × mM) := ((f_Land_become_121_17 F m).bind fun q1 => ((f_Houses_become_123_19 F q1.2).bind fun q2 => ((f_Papers_become_135_31 F q2.2).bind fun q3 => ((f_Trades_become_150_46 F q3.2).bind fun q4 => ((f_Seasons_become_156_52 F q4.2).bind fun q5 => ((f_Notes_become_159_55 F q5.2).bind fun q6 => f_World_become_120_16_90 F ((m_up (m_up (m_up q6.2.1 120 9 (q6.2.1 16 9)) 120 10 ((m_up q6.2.1 120 9 (q6.2.1 16 9)) 16 10)) 120 11 ((m_up (m_up q6.2.1 120 9 (q6.2.1 16 9)) 120 10 ((m_up q6.2.1 120 9 (q6.2.1 16 9)) 16 10)) 16 11)), q6.2.2)))))))
theorem ok_World_become_120_16 (X : mX) (d F : Nat) : ∀   (m : mM) (r : Unit) (m' : mM), f_World_become_120_16 F  m = some (r, m') → m_R X (d + 3) 174 0 [some (.ref 120), some (.ref 16)] [] (SH, m) (none, (SH, m')) := by
  intro m r m' h
  unfold f_World_become_120_16 at h
  refine m_R_sg (by decide) [(.aload_n 0, 1, 0, 0, 0, 0, 0), (.getfield 12, 3, 0, 10, 0, 3, 503), (.aload_n 1, 1, 0, 1, 0, 0, 0), (.getfield 12, 3, 0, 10, 0, 3, 503)] (by decide +kernel) (show m_sgl X _ _ _ _ _ = some (8, [some (.ref 120), some (.ref 16)], [.ref 17, .ref 121], (SH, m.1, m.2)) from rfl) ?_
  obtain ⟨q1, hc1, h⟩ := Option.bind_eq_some_iff.mp h
  refine m_R_cV (v := none) (h1 := (SH, q1.2)) (rest := []) (lo' := [some (.ref 121), some (.ref 17)]) (ml := 2) (k0 := 121) (by decide) (Or.inl rfl) (m_opb_of (ins := .invokevirtual 76) (len := 3) (tag := 5) (a := 175) (b := 1) (c := 0) (q := 1384) (by decide +kernel)) (by decide +kernel) rfl (show m_isO 175 121 (SH, _) = true from m_isO_of (by decide +kernel)) (Nat.le_of_ble_eq_true rfl) rfl rfl (ok_Land_become_121_17 X (d + 0) F _ _ _ hc1) ?_
  refine m_R_sg (by decide) [(.aload_n 0, 1, 0, 0, 0, 0, 0), (.getfield 21, 3, 0, 10, 1, 3, 505), (.aload_n 1, 1, 0, 1, 0, 0, 0), (.getfield 21, 3, 0, 10, 1, 3, 505)] (by decide +kernel) (show m_sgl X _ _ _ _ _ = some (19, [some (.ref 120), some (.ref 16)], [.ref 19, .ref 123], (SH, q1.2.1, q1.2.2)) from rfl) ?_
  obtain ⟨q2, hc2, h⟩ := Option.bind_eq_some_iff.mp h
  refine m_R_cV (v := none) (h1 := (SH, q2.2)) (rest := []) (lo' := [some (.ref 123), some (.ref 19)]) (ml := 2) (k0 := 123) (by decide) (Or.inl rfl) (m_opb_of (ins := .invokevirtual 80) (len := 3) (tag := 5) (a := 177) (b := 1) (c := 0) (q := 1392) (by decide +kernel)) (by decide +kernel) rfl (show m_isO 177 123 (SH, _) = true from m_isO_of (by decide +kernel)) (Nat.le_of_ble_eq_true rfl) rfl rfl (ok_Houses_become_123_19 X (d + 0) F _ _ _ hc2) ?_
  refine m_R_sg (by decide) [(.aload_n 0, 1, 0, 0, 0, 0, 0), (.getfield 28, 3, 0, 10, 2, 3, 508), (.aload_n 1, 1, 0, 1, 0, 0, 0), (.getfield 28, 3, 0, 10, 2, 3, 508)] (by decide +kernel) (show m_sgl X _ _ _ _ _ = some (30, [some (.ref 120), some (.ref 16)], [.ref 31, .ref 135], (SH, q2.2.1, q2.2.2)) from rfl) ?_
  obtain ⟨q3, hc3, h⟩ := Option.bind_eq_some_iff.mp h
  refine m_R_cV (v := none) (h1 := (SH, q3.2)) (rest := []) (lo' := [some (.ref 135), some (.ref 31)]) (ml := 2) (k0 := 135) (by decide) (Or.inl rfl) (m_opb_of (ins := .invokevirtual 83) (len := 3) (tag := 5) (a := 178) (b := 1) (c := 0) (q := 1397) (by decide +kernel)) (by decide +kernel) rfl (show m_isO 178 135 (SH, _) = true from m_isO_of (by decide +kernel)) (Nat.le_of_ble_eq_true rfl) rfl rfl (ok_Papers_become_135_31 X (d + 0) F _ _ _ hc3) ?_
  refine m_R_sg (by decide) [(.aload_n 0, 1, 0, 0, 0, 0, 0), (.getfield 35, 3, 0, 10, 3, 3, 511), (.aload_n 1, 1, 0, 1, 0, 0, 0), (.getfield 35, 3, 0, 10, 3, 3, 511)] (by decide +kernel) (show m_sgl X _ _ _ _ _ = some (41, [some (.ref 120), some (.ref 16)], [.ref 46, .ref 150], (SH, q3.2.1, q3.2.2)) from rfl) ?_
  obtain ⟨q4, hc4, h⟩ := Option.bind_eq_some_iff.mp h
  refine m_R_cV (v := none) (h1 := (SH, q4.2)) (rest := []) (lo' := [some (.ref 150), some (.ref 46)]) (ml := 2) (k0 := 150) (by decide) (Or.inl rfl) (m_opb_of (ins := .invokevirtual 86) (len := 3) (tag := 5) (a := 179) (b := 1) (c := 0) (q := 1402) (by decide +kernel)) (by decide +kernel) rfl (show m_isO 179 150 (SH, _) = true from m_isO_of (by decide +kernel)) (Nat.le_of_ble_eq_true rfl) rfl rfl (ok_Trades_become_150_46 X (d + 0) F _ _ _ hc4) ?_
  refine m_R_sg (by decide) [(.aload_n 0, 1, 0, 0, 0, 0, 0), (.getfield 42, 3, 0, 10, 4, 3, 513), (.aload_n 1, 1, 0, 1, 0, 0, 0), (.getfield 42, 3, 0, 10, 4, 3, 513)] (by decide +kernel) (show m_sgl X _ _ _ _ _ = some (52, [some (.ref 120), some (.ref 16)], [.ref 52, .ref 156], (SH, q4.2.1, q4.2.2)) from rfl) ?_
  obtain ⟨q5, hc5, h⟩ := Option.bind_eq_some_iff.mp h
  refine m_R_cV (v := none) (h1 := (SH, q5.2)) (rest := []) (lo' := [some (.ref 156), some (.ref 52)]) (ml := 2) (k0 := 156) (by decide) (Or.inl rfl) (m_opb_of (ins := .invokevirtual 89) (len := 3) (tag := 5) (a := 180) (b := 1) (c := 0) (q := 1407) (by decide +kernel)) (by decide +kernel) rfl (show m_isO 180 156 (SH, _) = true from m_isO_of (by decide +kernel)) (Nat.le_of_ble_eq_true rfl) rfl rfl (ok_Seasons_become_156_52 X (d + 0) F _ _ _ hc5) ?_
  refine m_R_sg (by decide) [(.aload_n 0, 1, 0, 0, 0, 0, 0), (.getfield 72, 3, 0, 10, 8, 3, 518), (.aload_n 1, 1, 0, 1, 0, 0, 0), (.getfield 72, 3, 0, 10, 8, 3, 518)] (by decide +kernel) (show m_sgl X _ _ _ _ _ = some (63, [some (.ref 120), some (.ref 16)], [.ref 55, .ref 159], (SH, q5.2.1, q5.2.2)) from rfl) ?_
  obtain ⟨q6, hc6, h⟩ := Option.bind_eq_some_iff.mp h
  refine m_R_cV (v := none) (h1 := (SH, q6.2)) (rest := []) (lo' := [some (.ref 159), some (.ref 55)]) (ml := 2) (k0 := 159) (by decide) (Or.inl rfl) (m_opb_of (ins := .invokevirtual 92) (len := 3) (tag := 5) (a := 181) (b := 1) (c := 0) (q := 1412) (by decide +kernel)) (by decide +kernel) rfl (show m_isO 181 159 (SH, _) = true from m_isO_of (by decide +kernel)) (Nat.le_of_ble_eq_true rfl) rfl rfl (ok_Notes_become_159_55 X (d + 0) F _ _ _ hc6) ?_
  refine m_R_sg (by decide) [(.aload_n 0, 1, 0, 0, 0, 0, 0), (.aload_n 1, 1, 0, 1, 0, 0, 0), (.getfield 95, 3, 0, 10, 9, 0, 520), (.putfield 95, 3, 0, 10, 9, 0, 520), (.aload_n 0, 1, 0, 0, 0, 0, 0), (.aload_n 1, 1, 0, 1, 0, 0, 0), (.getfield 52, 3, 0, 10, 10, 0, 522), (.putfield 52, 3, 0, 10, 10, 0, 522), (.aload_n 0, 1, 0, 0, 0, 0, 0), (.aload_n 1, 1, 0, 1, 0, 0, 0), (.getfield 98, 3, 0, 10, 11, 0, 524), (.putfield 98, 3, 0, 10, 11, 0, 524)] (by decide +kernel) (show m_sgl X _ _ _ _ _ = some (90, [some (.ref 120), some (.ref 16)], [], (SH, (m_up (m_up (m_up q6.2.1 120 9 (q6.2.1 16 9)) 120 10 ((m_up q6.2.1 120 9 (q6.2.1 16 9)) 16 10)) 120 11 ((m_up (m_up q6.2.1 120 9 (q6.2.1 16 9)) 120 10 ((m_up q6.2.1 120 9 (q6.2.1 16 9)) 16 10)) 16 11)), q6.2.2)) from rfl) ?_
  exact ok_World_become_120_16_90 X d F _ _ _ h
def f_x_copyAll_18_168 (F : Nat)    (m : mM) : Option (Unit × mM) := ((f_Math_min_II F (Int32.ofNat 64) (Int32.ofNat 64) m).bind fun q1 => (if (0 : Int32) < 0 ∨ (0 : Int32) < 0 ∨ q1.1 < 0 ∨ 64 < (0 : Int32).toNatClampNeg + q1.1.toNatClampNeg ∨ 64 < (0 : Int32).toNatClampNeg + q1.1.toNatClampNeg then none else some ((), ((m_row q1.2.1 168 (va_cpy (q1.2.1 18) (q1.2.1 168) (0 : Int32).toNatClampNeg (0 : Int32).toNatClampNeg q1.1.toNatClampNeg)), q1.2.2))))
theorem ok_x_copyAll_18_168 (X : mX) (d F : Nat) : ∀   (m : mM) (r : Unit) (m' : mM), f_x_copyAll_18_168 F  m = some (r, m') → m_R X (d + 1) 176 0 [some (.ref 18), some (.ref 168)] [] (SH, m) (none, (SH, m')) := by
  intro m r m' h
  unfold f_x_copyAll_18_168 at h
  refine m_R_sg (by decide) [(.aload_n 0, 1, 0, 0, 0, 0, 0), (.iconst 0, 1, 0, 0, 0, 0, 0), (.aload_n 1, 1, 0, 1, 0, 0, 0), (.iconst 0, 1, 0, 0, 0, 0, 0), (.aload_n 0, 1, 0, 0, 0, 0, 0), (.arraylength, 1, 0, 0, 0, 0, 0), (.aload_n 1, 1, 0, 1, 0, 0, 0), (.arraylength, 1, 0, 0, 0, 0, 0)] (by decide +kernel) (show m_sgl X _ _ _ _ _ = some (8, [some (.ref 18), some (.ref 168)], [.int (Int32.ofNat 64), .int (Int32.ofNat 64), .int (0 : Int32), .ref 168, .int (0 : Int32), .ref 18], (SH, m.1, m.2)) from rfl) ?_
  obtain ⟨q1, hc1, h⟩ := Option.bind_eq_some_iff.mp h
  refine m_R_cS (v := (some (.int q1.1))) (h1 := (SH, q1.2)) (rest := [.int (0 : Int32), .ref 168, .int (0 : Int32), .ref 18]) (lo' := [some (.int (Int32.ofNat 64)), some (.int (Int32.ofNat 64))]) (ml := 2) (by decide) (m_opb_of (ins := .invokestatic 219) (len := 3) (tag := 4) (a := 50) (b := 2) (c := 0) (q := 893) (by decide +kernel)) (by decide +kernel) (Nat.le_of_ble_eq_true rfl) rfl (Nat.le_of_ble_eq_true rfl) rfl rfl (ok_Math_min_II X (d + 0) F _ _ _ _ _ hc1) ?_
  obtain ⟨c0, h⟩ := m_ite_n h
  refine m_R_cpy (by decide) (m_opb_of (ins := .invokestatic 452) (len := 3) (tag := 8) (a := 0) (b := 0) (c := 0) (q := 1391) (by decide +kernel)) (Nat.le_of_ble_eq_true rfl) (m_cpy_of sh_18 sh_168 c0) ?_
  obtain ⟨rfl, rfl⟩ := m_some h
  exact m_R_vret (by decide) (m_opb_of (ins := .return_) (len := 1) (tag := 3) (a := 0) (b := 0) (c := 0) (q := 0) (by decide +kernel))
def f_Land_become_167_17 (F : Nat)    (m : mM) : Option (Unit × mM) := ((f_x_copyAll_18_168 F m).bind fun q1 => some ((), ((m_up (m_up q1.2.1 167 1 (q1.2.1 17 1)) 167 2 ((m_up q1.2.1 167 1 (q1.2.1 17 1)) 17 2)), q1.2.2)))
theorem ok_Land_become_167_17 (X : mX) (d F : Nat) : ∀   (m : mM) (r : Unit) (m' : mM), f_Land_become_167_17 F  m = some (r, m') → m_R X (d + 2) 175 0 [some (.ref 167), some (.ref 17)] [] (SH, m) (none, (SH, m')) := by
  intro m r m' h
  unfold f_Land_become_167_17 at h
  refine m_R_sg (by decide) [(.aload_n 1, 1, 0, 1, 0, 0, 0), (.getfield 9, 3, 0, 2, 0, 3, 231), (.aload_n 0, 1, 0, 0, 0, 0, 0), (.getfield 9, 3, 0, 2, 0, 3, 231)] (by decide +kernel) (show m_sgl X _ _ _ _ _ = some (8, [some (.ref 167), some (.ref 17)], [.ref 168, .ref 18], (SH, m.1, m.2)) from rfl) ?_
  obtain ⟨q1, hc1, h⟩ := Option.bind_eq_some_iff.mp h
  refine m_R_cS (v := none) (h1 := (SH, q1.2)) (rest := []) (lo' := [some (.ref 18), some (.ref 168)]) (ml := 2) (by decide) (m_opb_of (ins := .invokestatic 19) (len := 3) (tag := 4) (a := 176) (b := 2) (c := 1) (q := 1388) (by decide +kernel)) (by decide +kernel) (Nat.le_of_ble_eq_true rfl) rfl (Nat.le_of_ble_eq_true rfl) rfl rfl (ok_x_copyAll_18_168 X (d + 0) F _ _ _ hc1) ?_
  refine m_R_sg (by decide) [(.aload_n 0, 1, 0, 0, 0, 0, 0), (.aload_n 1, 1, 0, 1, 0, 0, 0), (.getfield 15, 3, 0, 2, 1, 0, 232), (.putfield 15, 3, 0, 2, 1, 0, 232), (.aload_n 0, 1, 0, 0, 0, 0, 0), (.aload_n 1, 1, 0, 1, 0, 0, 0), (.getfield 23, 3, 0, 2, 2, 0, 234), (.putfield 23, 3, 0, 2, 2, 0, 234)] (by decide +kernel) (show m_sgl X _ _ _ _ _ = some (27, [some (.ref 167), some (.ref 17)], [], (SH, (m_up (m_up q1.2.1 167 1 (q1.2.1 17 1)) 167 2 ((m_up q1.2.1 167 1 (q1.2.1 17 1)) 17 2)), q1.2.2)) from rfl) ?_
  obtain ⟨rfl, rfl⟩ := m_some h
  exact m_R_vret (by decide) (m_opb_of (ins := .return_) (len := 1) (tag := 3) (a := 0) (b := 0) (c := 0) (q := 0) (by decide +kernel))
def f_x_copyAll_20_170 (F : Nat)    (m : mM) : Option (Unit × mM) := ((f_Math_min_II F (Int32.ofNat 16) (Int32.ofNat 16) m).bind fun q1 => (if (0 : Int32) < 0 ∨ (0 : Int32) < 0 ∨ q1.1 < 0 ∨ 16 < (0 : Int32).toNatClampNeg + q1.1.toNatClampNeg ∨ 16 < (0 : Int32).toNatClampNeg + q1.1.toNatClampNeg then none else some ((), ((m_row q1.2.1 170 (va_cpy (q1.2.1 20) (q1.2.1 170) (0 : Int32).toNatClampNeg (0 : Int32).toNatClampNeg q1.1.toNatClampNeg)), q1.2.2))))
theorem ok_x_copyAll_20_170 (X : mX) (d F : Nat) : ∀   (m : mM) (r : Unit) (m' : mM), f_x_copyAll_20_170 F  m = some (r, m') → m_R X (d + 1) 176 0 [some (.ref 20), some (.ref 170)] [] (SH, m) (none, (SH, m')) := by
  intro m r m' h
  unfold f_x_copyAll_20_170 at h
  refine m_R_sg (by decide) [(.aload_n 0, 1, 0, 0, 0, 0, 0), (.iconst 0, 1, 0, 0, 0, 0, 0), (.aload_n 1, 1, 0, 1, 0, 0, 0), (.iconst 0, 1, 0, 0, 0, 0, 0), (.aload_n 0, 1, 0, 0, 0, 0, 0), (.arraylength, 1, 0, 0, 0, 0, 0), (.aload_n 1, 1, 0, 1, 0, 0, 0), (.arraylength, 1, 0, 0, 0, 0, 0)] (by decide +kernel) (show m_sgl X _ _ _ _ _ = some (8, [some (.ref 20), some (.ref 170)], [.int (Int32.ofNat 16), .int (Int32.ofNat 16), .int (0 : Int32), .ref 170, .int (0 : Int32), .ref 20], (SH, m.1, m.2)) from rfl) ?_
  obtain ⟨q1, hc1, h⟩ := Option.bind_eq_some_iff.mp h
  refine m_R_cS (v := (some (.int q1.1))) (h1 := (SH, q1.2)) (rest := [.int (0 : Int32), .ref 170, .int (0 : Int32), .ref 20]) (lo' := [some (.int (Int32.ofNat 16)), some (.int (Int32.ofNat 16))]) (ml := 2) (by decide) (m_opb_of (ins := .invokestatic 219) (len := 3) (tag := 4) (a := 50) (b := 2) (c := 0) (q := 893) (by decide +kernel)) (by decide +kernel) (Nat.le_of_ble_eq_true rfl) rfl (Nat.le_of_ble_eq_true rfl) rfl rfl (ok_Math_min_II X (d + 0) F _ _ _ _ _ hc1) ?_
  obtain ⟨c0, h⟩ := m_ite_n h
  refine m_R_cpy (by decide) (m_opb_of (ins := .invokestatic 452) (len := 3) (tag := 8) (a := 0) (b := 0) (c := 0) (q := 1391) (by decide +kernel)) (Nat.le_of_ble_eq_true rfl) (m_cpy_of sh_20 sh_170 c0) ?_
  obtain ⟨rfl, rfl⟩ := m_some h
  exact m_R_vret (by decide) (m_opb_of (ins := .return_) (len := 1) (tag := 3) (a := 0) (b := 0) (c := 0) (q := 0) (by decide +kernel))
def f_x_copyAll_21_171 (F : Nat)    (m : mM) : Option (Unit × mM) := ((f_Math_min_II F (Int32.ofNat 16) (Int32.ofNat 16) m).bind fun q1 => (if (0 : Int32) < 0 ∨ (0 : Int32) < 0 ∨ q1.1 < 0 ∨ 16 < (0 : Int32).toNatClampNeg + q1.1.toNatClampNeg ∨ 16 < (0 : Int32).toNatClampNeg + q1.1.toNatClampNeg then none else some ((), ((m_row q1.2.1 171 (va_cpy (q1.2.1 21) (q1.2.1 171) (0 : Int32).toNatClampNeg (0 : Int32).toNatClampNeg q1.1.toNatClampNeg)), q1.2.2))))
theorem ok_x_copyAll_21_171 (X : mX) (d F : Nat) : ∀   (m : mM) (r : Unit) (m' : mM), f_x_copyAll_21_171 F  m = some (r, m') → m_R X (d + 1) 176 0 [some (.ref 21), some (.ref 171)] [] (SH, m) (none, (SH, m')) := by
  intro m r m' h
  unfold f_x_copyAll_21_171 at h
  refine m_R_sg (by decide) [(.aload_n 0, 1, 0, 0, 0, 0, 0), (.iconst 0, 1, 0, 0, 0, 0, 0), (.aload_n 1, 1, 0, 1, 0, 0, 0), (.iconst 0, 1, 0, 0, 0, 0, 0), (.aload_n 0, 1, 0, 0, 0, 0, 0), (.arraylength, 1, 0, 0, 0, 0, 0), (.aload_n 1, 1, 0, 1, 0, 0, 0), (.arraylength, 1, 0, 0, 0, 0, 0)] (by decide +kernel) (show m_sgl X _ _ _ _ _ = some (8, [some (.ref 21), some (.ref 171)], [.int (Int32.ofNat 16), .int (Int32.ofNat 16), .int (0 : Int32), .ref 171, .int (0 : Int32), .ref 21], (SH, m.1, m.2)) from rfl) ?_
  obtain ⟨q1, hc1, h⟩ := Option.bind_eq_some_iff.mp h
  refine m_R_cS (v := (some (.int q1.1))) (h1 := (SH, q1.2)) (rest := [.int (0 : Int32), .ref 171, .int (0 : Int32), .ref 21]) (lo' := [some (.int (Int32.ofNat 16)), some (.int (Int32.ofNat 16))]) (ml := 2) (by decide) (m_opb_of (ins := .invokestatic 219) (len := 3) (tag := 4) (a := 50) (b := 2) (c := 0) (q := 893) (by decide +kernel)) (by decide +kernel) (Nat.le_of_ble_eq_true rfl) rfl (Nat.le_of_ble_eq_true rfl) rfl rfl (ok_Math_min_II X (d + 0) F _ _ _ _ _ hc1) ?_
  obtain ⟨c0, h⟩ := m_ite_n h
  refine m_R_cpy (by decide) (m_opb_of (ins := .invokestatic 452) (len := 3) (tag := 8) (a := 0) (b := 0) (c := 0) (q := 1391) (by decide +kernel)) (Nat.le_of_ble_eq_true rfl) (m_cpy_of sh_21 sh_171 c0) ?_
  obtain ⟨rfl, rfl⟩ := m_some h
  exact m_R_vret (by decide) (m_opb_of (ins := .return_) (len := 1) (tag := 3) (a := 0) (b := 0) (c := 0) (q := 0) (by decide +kernel))
def f_x_copyAll_22_172 (F : Nat)    (m : mM) : Option (Unit × mM) := ((f_Math_min_II F (Int32.ofNat 16) (Int32.ofNat 16) m).bind fun q1 => (if (0 : Int32) < 0 ∨ (0 : Int32) < 0 ∨ q1.1 < 0 ∨ 16 < (0 : Int32).toNatClampNeg + q1.1.toNatClampNeg ∨ 16 < (0 : Int32).toNatClampNeg + q1.1.toNatClampNeg then none else some ((), ((m_row q1.2.1 172 (va_cpy (q1.2.1 22) (q1.2.1 172) (0 : Int32).toNatClampNeg (0 : Int32).toNatClampNeg q1.1.toNatClampNeg)), q1.2.2))))
theorem ok_x_copyAll_22_172 (X : mX) (d F : Nat) : ∀   (m : mM) (r : Unit) (m' : mM), f_x_copyAll_22_172 F  m = some (r, m') → m_R X (d + 1) 176 0 [some (.ref 22), some (.ref 172)] [] (SH, m) (none, (SH, m')) := by
  intro m r m' h
  unfold f_x_copyAll_22_172 at h
  refine m_R_sg (by decide) [(.aload_n 0, 1, 0, 0, 0, 0, 0), (.iconst 0, 1, 0, 0, 0, 0, 0), (.aload_n 1, 1, 0, 1, 0, 0, 0), (.iconst 0, 1, 0, 0, 0, 0, 0), (.aload_n 0, 1, 0, 0, 0, 0, 0), (.arraylength, 1, 0, 0, 0, 0, 0), (.aload_n 1, 1, 0, 1, 0, 0, 0), (.arraylength, 1, 0, 0, 0, 0, 0)] (by decide +kernel) (show m_sgl X _ _ _ _ _ = some (8, [some (.ref 22), some (.ref 172)], [.int (Int32.ofNat 16), .int (Int32.ofNat 16), .int (0 : Int32), .ref 172, .int (0 : Int32), .ref 22], (SH, m.1, m.2)) from rfl) ?_
  obtain ⟨q1, hc1, h⟩ := Option.bind_eq_some_iff.mp h
  refine m_R_cS (v := (some (.int q1.1))) (h1 := (SH, q1.2)) (rest := [.int (0 : Int32), .ref 172, .int (0 : Int32), .ref 22]) (lo' := [some (.int (Int32.ofNat 16)), some (.int (Int32.ofNat 16))]) (ml := 2) (by decide) (m_opb_of (ins := .invokestatic 219) (len := 3) (tag := 4) (a := 50) (b := 2) (c := 0) (q := 893) (by decide +kernel)) (by decide +kernel) (Nat.le_of_ble_eq_true rfl) rfl (Nat.le_of_ble_eq_true rfl) rfl rfl (ok_Math_min_II X (d + 0) F _ _ _ _ _ hc1) ?_
  obtain ⟨c0, h⟩ := m_ite_n h
  refine m_R_cpy (by decide) (m_opb_of (ins := .invokestatic 452) (len := 3) (tag := 8) (a := 0) (b := 0) (c := 0) (q := 1391) (by decide +kernel)) (Nat.le_of_ble_eq_true rfl) (m_cpy_of sh_22 sh_172 c0) ?_
  obtain ⟨rfl, rfl⟩ := m_some h
  exact m_R_vret (by decide) (m_opb_of (ins := .return_) (len := 1) (tag := 3) (a := 0) (b := 0) (c := 0) (q := 0) (by decide +kernel))
def f_x_copyAll_23_173 (F : Nat)    (m : mM) : Option (Unit × mM) := ((f_Math_min_II F (Int32.ofNat 16) (Int32.ofNat 16) m).bind fun q1 => (if (0 : Int32) < 0 ∨ (0 : Int32) < 0 ∨ q1.1 < 0 ∨ 16 < (0 : Int32).toNatClampNeg + q1.1.toNatClampNeg ∨ 16 < (0 : Int32).toNatClampNeg + q1.1.toNatClampNeg then none else some ((), ((m_row q1.2.1 173 (va_cpy (q1.2.1 23) (q1.2.1 173) (0 : Int32).toNatClampNeg (0 : Int32).toNatClampNeg q1.1.toNatClampNeg)), q1.2.2))))
theorem ok_x_copyAll_23_173 (X : mX) (d F : Nat) : ∀   (m : mM) (r : Unit) (m' : mM), f_x_copyAll_23_173 F  m = some (r, m') → m_R X (d + 1) 176 0 [some (.ref 23), some (.ref 173)] [] (SH, m) (none, (SH, m')) := by
  intro m r m' h
  unfold f_x_copyAll_23_173 at h
  refine m_R_sg (by decide) [(.aload_n 0, 1, 0, 0, 0, 0, 0), (.iconst 0, 1, 0, 0, 0, 0, 0), (.aload_n 1, 1, 0, 1, 0, 0, 0), (.iconst 0, 1, 0, 0, 0, 0, 0), (.aload_n 0, 1, 0, 0, 0, 0, 0), (.arraylength, 1, 0, 0, 0, 0, 0), (.aload_n 1, 1, 0, 1, 0, 0, 0), (.arraylength, 1, 0, 0, 0, 0, 0)] (by decide +kernel) (show m_sgl X _ _ _ _ _ = some (8, [some (.ref 23), some (.ref 173)], [.int (Int32.ofNat 16), .int (Int32.ofNat 16), .int (0 : Int32), .ref 173, .int (0 : Int32), .ref 23], (SH, m.1, m.2)) from rfl) ?_
  obtain ⟨q1, hc1, h⟩ := Option.bind_eq_some_iff.mp h
  refine m_R_cS (v := (some (.int q1.1))) (h1 := (SH, q1.2)) (rest := [.int (0 : Int32), .ref 173, .int (0 : Int32), .ref 23]) (lo' := [some (.int (Int32.ofNat 16)), some (.int (Int32.ofNat 16))]) (ml := 2) (by decide) (m_opb_of (ins := .invokestatic 219) (len := 3) (tag := 4) (a := 50) (b := 2) (c := 0) (q := 893) (by decide +kernel)) (by decide +kernel) (Nat.le_of_ble_eq_true rfl) rfl (Nat.le_of_ble_eq_true rfl) rfl rfl (ok_Math_min_II X (d + 0) F _ _ _ _ _ hc1) ?_
  obtain ⟨c0, h⟩ := m_ite_n h
  refine m_R_cpy (by decide) (m_opb_of (ins := .invokestatic 452) (len := 3) (tag := 8) (a := 0) (b := 0) (c := 0) (q := 1391) (by decide +kernel)) (Nat.le_of_ble_eq_true rfl) (m_cpy_of sh_23 sh_173 c0) ?_
  obtain ⟨rfl, rfl⟩ := m_some h
  exact m_R_vret (by decide) (m_opb_of (ins := .return_) (len := 1) (tag := 3) (a := 0) (b := 0) (c := 0) (q := 0) (by decide +kernel))
def f_x_copyAll_24_174 (F : Nat)    (m : mM) : Option (Unit × mM) := ((f_Math_min_II F (Int32.ofNat 16) (Int32.ofNat 16) m).bind fun q1 => (if (0 : Int32) < 0 ∨ (0 : Int32) < 0 ∨ q1.1 < 0 ∨ 16 < (0 : Int32).toNatClampNeg + q1.1.toNatClampNeg ∨ 16 < (0 : Int32).toNatClampNeg + q1.1.toNatClampNeg then none else some ((), ((m_row q1.2.1 174 (va_cpy (q1.2.1 24) (q1.2.1 174) (0 : Int32).toNatClampNeg (0 : Int32).toNatClampNeg q1.1.toNatClampNeg)), q1.2.2))))
theorem ok_x_copyAll_24_174 (X : mX) (d F : Nat) : ∀   (m : mM) (r : Unit) (m' : mM), f_x_copyAll_24_174 F  m = some (r, m') → m_R X (d + 1) 176 0 [some (.ref 24), some (.ref 174)] [] (SH, m) (none, (SH, m')) := by
  intro m r m' h
  unfold f_x_copyAll_24_174 at h
  refine m_R_sg (by decide) [(.aload_n 0, 1, 0, 0, 0, 0, 0), (.iconst 0, 1, 0, 0, 0, 0, 0), (.aload_n 1, 1, 0, 1, 0, 0, 0), (.iconst 0, 1, 0, 0, 0, 0, 0), (.aload_n 0, 1, 0, 0, 0, 0, 0), (.arraylength, 1, 0, 0, 0, 0, 0), (.aload_n 1, 1, 0, 1, 0, 0, 0), (.arraylength, 1, 0, 0, 0, 0, 0)] (by decide +kernel) (show m_sgl X _ _ _ _ _ = some (8, [some (.ref 24), some (.ref 174)], [.int (Int32.ofNat 16), .int (Int32.ofNat 16), .int (0 : Int32), .ref 174, .int (0 : Int32), .ref 24], (SH, m.1, m.2)) from rfl) ?_
  obtain ⟨q1, hc1, h⟩ := Option.bind_eq_some_iff.mp h
  refine m_R_cS (v := (some (.int q1.1))) (h1 := (SH, q1.2)) (rest := [.int (0 : Int32), .ref 174, .int (0 : Int32), .ref 24]) (lo' := [some (.int (Int32.ofNat 16)), some (.int (Int32.ofNat 16))]) (ml := 2) (by decide) (m_opb_of (ins := .invokestatic 219) (len := 3) (tag := 4) (a := 50) (b := 2) (c := 0) (q := 893) (by decide +kernel)) (by decide +kernel) (Nat.le_of_ble_eq_true rfl) rfl (Nat.le_of_ble_eq_true rfl) rfl rfl (ok_Math_min_II X (d + 0) F _ _ _ _ _ hc1) ?_
  obtain ⟨c0, h⟩ := m_ite_n h
  refine m_R_cpy (by decide) (m_opb_of (ins := .invokestatic 452) (len := 3) (tag := 8) (a := 0) (b := 0) (c := 0) (q := 1391) (by decide +kernel)) (Nat.le_of_ble_eq_true rfl) (m_cpy_of sh_24 sh_174 c0) ?_
  obtain ⟨rfl, rfl⟩ := m_some h
  exact m_R_vret (by decide) (m_opb_of (ins := .return_) (len := 1) (tag := 3) (a := 0) (b := 0) (c := 0) (q := 0) (by decide +kernel))
def f_x_copyAll_25_175 (F : Nat)    (m : mM) : Option (Unit × mM) := ((f_Math_min_II F (Int32.ofNat 16) (Int32.ofNat 16) m).bind fun q1 => (if (0 : Int32) < 0 ∨ (0 : Int32) < 0 ∨ q1.1 < 0 ∨ 16 < (0 : Int32).toNatClampNeg + q1.1.toNatClampNeg ∨ 16 < (0 : Int32).toNatClampNeg + q1.1.toNatClampNeg then none else some ((), ((m_row q1.2.1 175 (va_cpy (q1.2.1 25) (q1.2.1 175) (0 : Int32).toNatClampNeg (0 : Int32).toNatClampNeg q1.1.toNatClampNeg)), q1.2.2))))
theorem ok_x_copyAll_25_175 (X : mX) (d F : Nat) : ∀   (m : mM) (r : Unit) (m' : mM), f_x_copyAll_25_175 F  m = some (r, m') → m_R X (d + 1) 176 0 [some (.ref 25), some (.ref 175)] [] (SH, m) (none, (SH, m')) := by
  intro m r m' h
  unfold f_x_copyAll_25_175 at h
  refine m_R_sg (by decide) [(.aload_n 0, 1, 0, 0, 0, 0, 0), (.iconst 0, 1, 0, 0, 0, 0, 0), (.aload_n 1, 1, 0, 1, 0, 0, 0), (.iconst 0, 1, 0, 0, 0, 0, 0), (.aload_n 0, 1, 0, 0, 0, 0, 0), (.arraylength, 1, 0, 0, 0, 0, 0), (.aload_n 1, 1, 0, 1, 0, 0, 0), (.arraylength, 1, 0, 0, 0, 0, 0)] (by decide +kernel) (show m_sgl X _ _ _ _ _ = some (8, [some (.ref 25), some (.ref 175)], [.int (Int32.ofNat 16), .int (Int32.ofNat 16), .int (0 : Int32), .ref 175, .int (0 : Int32), .ref 25], (SH, m.1, m.2)) from rfl) ?_
  obtain ⟨q1, hc1, h⟩ := Option.bind_eq_some_iff.mp h
  refine m_R_cS (v := (some (.int q1.1))) (h1 := (SH, q1.2)) (rest := [.int (0 : Int32), .ref 175, .int (0 : Int32), .ref 25]) (lo' := [some (.int (Int32.ofNat 16)), some (.int (Int32.ofNat 16))]) (ml := 2) (by decide) (m_opb_of (ins := .invokestatic 219) (len := 3) (tag := 4) (a := 50) (b := 2) (c := 0) (q := 893) (by decide +kernel)) (by decide +kernel) (Nat.le_of_ble_eq_true rfl) rfl (Nat.le_of_ble_eq_true rfl) rfl rfl (ok_Math_min_II X (d + 0) F _ _ _ _ _ hc1) ?_
  obtain ⟨c0, h⟩ := m_ite_n h
  refine m_R_cpy (by decide) (m_opb_of (ins := .invokestatic 452) (len := 3) (tag := 8) (a := 0) (b := 0) (c := 0) (q := 1391) (by decide +kernel)) (Nat.le_of_ble_eq_true rfl) (m_cpy_of sh_25 sh_175 c0) ?_
  obtain ⟨rfl, rfl⟩ := m_some h
  exact m_R_vret (by decide) (m_opb_of (ins := .return_) (len := 1) (tag := 3) (a := 0) (b := 0) (c := 0) (q := 0) (by decide +kernel))
def f_x_copyAll_26_176 (F : Nat)    (m : mM) : Option (Unit × mM) := ((f_Math_min_II F (Int32.ofNat 16) (Int32.ofNat 16) m).bind fun q1 => (if (0 : Int32) < 0 ∨ (0 : Int32) < 0 ∨ q1.1 < 0 ∨ 16 < (0 : Int32).toNatClampNeg + q1.1.toNatClampNeg ∨ 16 < (0 : Int32).toNatClampNeg + q1.1.toNatClampNeg then none else some ((), ((m_row q1.2.1 176 (va_cpy (q1.2.1 26) (q1.2.1 176) (0 : Int32).toNatClampNeg (0 : Int32).toNatClampNeg q1.1.toNatClampNeg)), q1.2.2))))
theorem ok_x_copyAll_26_176 (X : mX) (d F : Nat) : ∀   (m : mM) (r : Unit) (m' : mM), f_x_copyAll_26_176 F  m = some (r, m') → m_R X (d + 1) 176 0 [some (.ref 26), some (.ref 176)] [] (SH, m) (none, (SH, m')) := by
  intro m r m' h
  unfold f_x_copyAll_26_176 at h
  refine m_R_sg (by decide) [(.aload_n 0, 1, 0, 0, 0, 0, 0), (.iconst 0, 1, 0, 0, 0, 0, 0), (.aload_n 1, 1, 0, 1, 0, 0, 0), (.iconst 0, 1, 0, 0, 0, 0, 0), (.aload_n 0, 1, 0, 0, 0, 0, 0), (.arraylength, 1, 0, 0, 0, 0, 0), (.aload_n 1, 1, 0, 1, 0, 0, 0), (.arraylength, 1, 0, 0, 0, 0, 0)] (by decide +kernel) (show m_sgl X _ _ _ _ _ = some (8, [some (.ref 26), some (.ref 176)], [.int (Int32.ofNat 16), .int (Int32.ofNat 16), .int (0 : Int32), .ref 176, .int (0 : Int32), .ref 26], (SH, m.1, m.2)) from rfl) ?_
  obtain ⟨q1, hc1, h⟩ := Option.bind_eq_some_iff.mp h
  refine m_R_cS (v := (some (.int q1.1))) (h1 := (SH, q1.2)) (rest := [.int (0 : Int32), .ref 176, .int (0 : Int32), .ref 26]) (lo' := [some (.int (Int32.ofNat 16)), some (.int (Int32.ofNat 16))]) (ml := 2) (by decide) (m_opb_of (ins := .invokestatic 219) (len := 3) (tag := 4) (a := 50) (b := 2) (c := 0) (q := 893) (by decide +kernel)) (by decide +kernel) (Nat.le_of_ble_eq_true rfl) rfl (Nat.le_of_ble_eq_true rfl) rfl rfl (ok_Math_min_II X (d + 0) F _ _ _ _ _ hc1) ?_
  obtain ⟨c0, h⟩ := m_ite_n h
  refine m_R_cpy (by decide) (m_opb_of (ins := .invokestatic 452) (len := 3) (tag := 8) (a := 0) (b := 0) (c := 0) (q := 1391) (by decide +kernel)) (Nat.le_of_ble_eq_true rfl) (m_cpy_of sh_26 sh_176 c0) ?_
  obtain ⟨rfl, rfl⟩ := m_some h
  exact m_R_vret (by decide) (m_opb_of (ins := .return_) (len := 1) (tag := 3) (a := 0) (b := 0) (c := 0) (q := 0) (by decide +kernel))
def f_x_copyAll_27_177 (F : Nat)    (m : mM) : Option (Unit × mM) := ((f_Math_min_II F (Int32.ofNat 16) (Int32.ofNat 16) m).bind fun q1 => (if (0 : Int32) < 0 ∨ (0 : Int32) < 0 ∨ q1.1 < 0 ∨ 16 < (0 : Int32).toNatClampNeg + q1.1.toNatClampNeg ∨ 16 < (0 : Int32).toNatClampNeg + q1.1.toNatClampNeg then none else some ((), ((m_row q1.2.1 177 (va_cpy (q1.2.1 27) (q1.2.1 177) (0 : Int32).toNatClampNeg (0 : Int32).toNatClampNeg q1.1.toNatClampNeg)), q1.2.2))))
theorem ok_x_copyAll_27_177 (X : mX) (d F : Nat) : ∀   (m : mM) (r : Unit) (m' : mM), f_x_copyAll_27_177 F  m = some (r, m') → m_R X (d + 1) 176 0 [some (.ref 27), some (.ref 177)] [] (SH, m) (none, (SH, m')) := by
  intro m r m' h
  unfold f_x_copyAll_27_177 at h
  refine m_R_sg (by decide) [(.aload_n 0, 1, 0, 0, 0, 0, 0), (.iconst 0, 1, 0, 0, 0, 0, 0), (.aload_n 1, 1, 0, 1, 0, 0, 0), (.iconst 0, 1, 0, 0, 0, 0, 0), (.aload_n 0, 1, 0, 0, 0, 0, 0), (.arraylength, 1, 0, 0, 0, 0, 0), (.aload_n 1, 1, 0, 1, 0, 0, 0), (.arraylength, 1, 0, 0, 0, 0, 0)] (by decide +kernel) (show m_sgl X _ _ _ _ _ = some (8, [some (.ref 27), some (.ref 177)], [.int (Int32.ofNat 16), .int (Int32.ofNat 16), .int (0 : Int32), .ref 177, .int (0 : Int32), .ref 27], (SH, m.1, m.2)) from rfl) ?_
  obtain ⟨q1, hc1, h⟩ := Option.bind_eq_some_iff.mp h
  refine m_R_cS (v := (some (.int q1.1))) (h1 := (SH, q1.2)) (rest := [.int (0 : Int32), .ref 177, .int (0 : Int32), .ref 27]) (lo' := [some (.int (Int32.ofNat 16)), some (.int (Int32.ofNat 16))]) (ml := 2) (by decide) (m_opb_of (ins := .invokestatic 219) (len := 3) (tag := 4) (a := 50) (b := 2) (c := 0) (q := 893) (by decide +kernel)) (by decide +kernel) (Nat.le_of_ble_eq_true rfl) rfl (Nat.le_of_ble_eq_true rfl) rfl rfl (ok_Math_min_II X (d + 0) F _ _ _ _ _ hc1) ?_
  obtain ⟨c0, h⟩ := m_ite_n h
  refine m_R_cpy (by decide) (m_opb_of (ins := .invokestatic 452) (len := 3) (tag := 8) (a := 0) (b := 0) (c := 0) (q := 1391) (by decide +kernel)) (Nat.le_of_ble_eq_true rfl) (m_cpy_of sh_27 sh_177 c0) ?_
  obtain ⟨rfl, rfl⟩ := m_some h
  exact m_R_vret (by decide) (m_opb_of (ins := .return_) (len := 1) (tag := 3) (a := 0) (b := 0) (c := 0) (q := 0) (by decide +kernel))
def f_x_copyAll_28_178 (F : Nat)    (m : mM) : Option (Unit × mM) := ((f_Math_min_II F (Int32.ofNat 16) (Int32.ofNat 16) m).bind fun q1 => (if (0 : Int32) < 0 ∨ (0 : Int32) < 0 ∨ q1.1 < 0 ∨ 16 < (0 : Int32).toNatClampNeg + q1.1.toNatClampNeg ∨ 16 < (0 : Int32).toNatClampNeg + q1.1.toNatClampNeg then none else some ((), ((m_row q1.2.1 178 (va_cpy (q1.2.1 28) (q1.2.1 178) (0 : Int32).toNatClampNeg (0 : Int32).toNatClampNeg q1.1.toNatClampNeg)), q1.2.2))))
theorem ok_x_copyAll_28_178 (X : mX) (d F : Nat) : ∀   (m : mM) (r : Unit) (m' : mM), f_x_copyAll_28_178 F  m = some (r, m') → m_R X (d + 1) 176 0 [some (.ref 28), some (.ref 178)] [] (SH, m) (none, (SH, m')) := by
  intro m r m' h
  unfold f_x_copyAll_28_178 at h
  refine m_R_sg (by decide) [(.aload_n 0, 1, 0, 0, 0, 0, 0), (.iconst 0, 1, 0, 0, 0, 0, 0), (.aload_n 1, 1, 0, 1, 0, 0, 0), (.iconst 0, 1, 0, 0, 0, 0, 0), (.aload_n 0, 1, 0, 0, 0, 0, 0), (.arraylength, 1, 0, 0, 0, 0, 0), (.aload_n 1, 1, 0, 1, 0, 0, 0), (.arraylength, 1, 0, 0, 0, 0, 0)] (by decide +kernel) (show m_sgl X _ _ _ _ _ = some (8, [some (.ref 28), some (.ref 178)], [.int (Int32.ofNat 16), .int (Int32.ofNat 16), .int (0 : Int32), .ref 178, .int (0 : Int32), .ref 28], (SH, m.1, m.2)) from rfl) ?_
  obtain ⟨q1, hc1, h⟩ := Option.bind_eq_some_iff.mp h
  refine m_R_cS (v := (some (.int q1.1))) (h1 := (SH, q1.2)) (rest := [.int (0 : Int32), .ref 178, .int (0 : Int32), .ref 28]) (lo' := [some (.int (Int32.ofNat 16)), some (.int (Int32.ofNat 16))]) (ml := 2) (by decide) (m_opb_of (ins := .invokestatic 219) (len := 3) (tag := 4) (a := 50) (b := 2) (c := 0) (q := 893) (by decide +kernel)) (by decide +kernel) (Nat.le_of_ble_eq_true rfl) rfl (Nat.le_of_ble_eq_true rfl) rfl rfl (ok_Math_min_II X (d + 0) F _ _ _ _ _ hc1) ?_
  obtain ⟨c0, h⟩ := m_ite_n h
  refine m_R_cpy (by decide) (m_opb_of (ins := .invokestatic 452) (len := 3) (tag := 8) (a := 0) (b := 0) (c := 0) (q := 1391) (by decide +kernel)) (Nat.le_of_ble_eq_true rfl) (m_cpy_of sh_28 sh_178 c0) ?_
  obtain ⟨rfl, rfl⟩ := m_some h
  exact m_R_vret (by decide) (m_opb_of (ins := .return_) (len := 1) (tag := 3) (a := 0) (b := 0) (c := 0) (q := 0) (by decide +kernel))
def f_x_copyAll_29_179 (F : Nat)    (m : mM) : Option (Unit × mM) := ((f_Math_min_II F (Int32.ofNat 16) (Int32.ofNat 16) m).bind fun q1 => (if (0 : Int32) < 0 ∨ (0 : Int32) < 0 ∨ q1.1 < 0 ∨ 16 < (0 : Int32).toNatClampNeg + q1.1.toNatClampNeg ∨ 16 < (0 : Int32).toNatClampNeg + q1.1.toNatClampNeg then none else some ((), ((m_row q1.2.1 179 (va_cpy (q1.2.1 29) (q1.2.1 179) (0 : Int32).toNatClampNeg (0 : Int32).toNatClampNeg q1.1.toNatClampNeg)), q1.2.2))))
theorem ok_x_copyAll_29_179 (X : mX) (d F : Nat) : ∀   (m : mM) (r : Unit) (m' : mM), f_x_copyAll_29_179 F  m = some (r, m') → m_R X (d + 1) 176 0 [some (.ref 29), some (.ref 179)] [] (SH, m) (none, (SH, m')) := by
  intro m r m' h
  unfold f_x_copyAll_29_179 at h
  refine m_R_sg (by decide) [(.aload_n 0, 1, 0, 0, 0, 0, 0), (.iconst 0, 1, 0, 0, 0, 0, 0), (.aload_n 1, 1, 0, 1, 0, 0, 0), (.iconst 0, 1, 0, 0, 0, 0, 0), (.aload_n 0, 1, 0, 0, 0, 0, 0), (.arraylength, 1, 0, 0, 0, 0, 0), (.aload_n 1, 1, 0, 1, 0, 0, 0), (.arraylength, 1, 0, 0, 0, 0, 0)] (by decide +kernel) (show m_sgl X _ _ _ _ _ = some (8, [some (.ref 29), some (.ref 179)], [.int (Int32.ofNat 16), .int (Int32.ofNat 16), .int (0 : Int32), .ref 179, .int (0 : Int32), .ref 29], (SH, m.1, m.2)) from rfl) ?_
  obtain ⟨q1, hc1, h⟩ := Option.bind_eq_some_iff.mp h
  refine m_R_cS (v := (some (.int q1.1))) (h1 := (SH, q1.2)) (rest := [.int (0 : Int32), .ref 179, .int (0 : Int32), .ref 29]) (lo' := [some (.int (Int32.ofNat 16)), some (.int (Int32.ofNat 16))]) (ml := 2) (by decide) (m_opb_of (ins := .invokestatic 219) (len := 3) (tag := 4) (a := 50) (b := 2) (c := 0) (q := 893) (by decide +kernel)) (by decide +kernel) (Nat.le_of_ble_eq_true rfl) rfl (Nat.le_of_ble_eq_true rfl) rfl rfl (ok_Math_min_II X (d + 0) F _ _ _ _ _ hc1) ?_
  obtain ⟨c0, h⟩ := m_ite_n h
  refine m_R_cpy (by decide) (m_opb_of (ins := .invokestatic 452) (len := 3) (tag := 8) (a := 0) (b := 0) (c := 0) (q := 1391) (by decide +kernel)) (Nat.le_of_ble_eq_true rfl) (m_cpy_of sh_29 sh_179 c0) ?_
  obtain ⟨rfl, rfl⟩ := m_some h
  exact m_R_vret (by decide) (m_opb_of (ins := .return_) (len := 1) (tag := 3) (a := 0) (b := 0) (c := 0) (q := 0) (by decide +kernel))
def f_x_copyAll_30_180 (F : Nat)    (m : mM) : Option (Unit × mM) := ((f_Math_min_II F (Int32.ofNat 16) (Int32.ofNat 16) m).bind fun q1 => (if (0 : Int32) < 0 ∨ (0 : Int32) < 0 ∨ q1.1 < 0 ∨ 16 < (0 : Int32).toNatClampNeg + q1.1.toNatClampNeg ∨ 16 < (0 : Int32).toNatClampNeg + q1.1.toNatClampNeg then none else some ((), ((m_row q1.2.1 180 (va_cpy (q1.2.1 30) (q1.2.1 180) (0 : Int32).toNatClampNeg (0 : Int32).toNatClampNeg q1.1.toNatClampNeg)), q1.2.2))))
theorem ok_x_copyAll_30_180 (X : mX) (d F : Nat) : ∀   (m : mM) (r : Unit) (m' : mM), f_x_copyAll_30_180 F  m = some (r, m') → m_R X (d + 1) 176 0 [some (.ref 30), some (.ref 180)] [] (SH, m) (none, (SH, m')) := by
  intro m r m' h
  unfold f_x_copyAll_30_180 at h
  refine m_R_sg (by decide) [(.aload_n 0, 1, 0, 0, 0, 0, 0), (.iconst 0, 1, 0, 0, 0, 0, 0), (.aload_n 1, 1, 0, 1, 0, 0, 0), (.iconst 0, 1, 0, 0, 0, 0, 0), (.aload_n 0, 1, 0, 0, 0, 0, 0), (.arraylength, 1, 0, 0, 0, 0, 0), (.aload_n 1, 1, 0, 1, 0, 0, 0), (.arraylength, 1, 0, 0, 0, 0, 0)] (by decide +kernel) (show m_sgl X _ _ _ _ _ = some (8, [some (.ref 30), some (.ref 180)], [.int (Int32.ofNat 16), .int (Int32.ofNat 16), .int (0 : Int32), .ref 180, .int (0 : Int32), .ref 30], (SH, m.1, m.2)) from rfl) ?_
  obtain ⟨q1, hc1, h⟩ := Option.bind_eq_some_iff.mp h
  refine m_R_cS (v := (some (.int q1.1))) (h1 := (SH, q1.2)) (rest := [.int (0 : Int32), .ref 180, .int (0 : Int32), .ref 30]) (lo' := [some (.int (Int32.ofNat 16)), some (.int (Int32.ofNat 16))]) (ml := 2) (by decide) (m_opb_of (ins := .invokestatic 219) (len := 3) (tag := 4) (a := 50) (b := 2) (c := 0) (q := 893) (by decide +kernel)) (by decide +kernel) (Nat.le_of_ble_eq_true rfl) rfl (Nat.le_of_ble_eq_true rfl) rfl rfl (ok_Math_min_II X (d + 0) F _ _ _ _ _ hc1) ?_
  obtain ⟨c0, h⟩ := m_ite_n h
  refine m_R_cpy (by decide) (m_opb_of (ins := .invokestatic 452) (len := 3) (tag := 8) (a := 0) (b := 0) (c := 0) (q := 1391) (by decide +kernel)) (Nat.le_of_ble_eq_true rfl) (m_cpy_of sh_30 sh_180 c0) ?_
  obtain ⟨rfl, rfl⟩ := m_some h
  exact m_R_vret (by decide) (m_opb_of (ins := .return_) (len := 1) (tag := 3) (a := 0) (b := 0) (c := 0) (q := 0) (by decide +kernel))
def f_Houses_become_169_19 (F : Nat)    (m : mM) : Option (Unit × mM) := ((f_x_copyAll_20_170 F m).bind fun q1 => ((f_x_copyAll_21_171 F q1.2).bind fun q2 => ((f_x_copyAll_22_172 F q2.2).bind fun q3 => ((f_x_copyAll_23_173 F q3.2).bind fun q4 => ((f_x_copyAll_24_174 F q4.2).bind fun q5 => ((f_x_copyAll_25_175 F q5.2).bind fun q6 => ((f_x_copyAll_26_176 F q6.2).bind fun q7 => ((f_x_copyAll_27_177 F q7.2).bind fun q8 => ((f_x_copyAll_28_178 F q8.2).bind fun q9 => ((f_x_copyAll_29_179 F q9.2).bind fun q10 => ((f_x_copyAll_30_180 F q10.2).bind fun q11 => some ((), ((m_up (m_up q11.2.1 169 11 (q11.2.1 19 11)) 169 12 ((m_up q11.2.1 169 11 (q11.2.1 19 11)) 19 12)), q11.2.2)))))))))))))
theorem ok_Houses_become_169_19 (X : mX) (d F : Nat) : ∀   (m : mM) (r : Unit) (m' : mM), f_Houses_become_169_19 F  m = some (r, m') → m_R X (d + 2) 177 0 [some (.ref 169), some (.ref 19)] [] (SH, m) (none, (SH, m')) := by
  intro m r m' h
  unfold f_Houses_become_169_19 at h
  refine m_R_sg (by decide) [(.aload_n 1, 1, 0, 1, 0, 0, 0), (.getfield 9, 3, 0, 1, 0, 3, 249), (.aload_n 0, 1, 0, 0, 0, 0, 0), (.getfield 9, 3, 0, 1, 0, 3, 249)] (by decide +kernel) (show m_sgl X _ _ _ _ _ = some (8, [some (.ref 169), some (.ref 19)], [.ref 170, .ref 20], (SH, m.1, m.2)) from rfl) ?_
  obtain ⟨q1, hc1, h⟩ := Option.bind_eq_some_iff.mp h
  refine m_R_cS (v := none) (h1 := (SH, q1.2)) (rest := []) (lo' := [some (.ref 20), some (.ref 170)]) (ml := 2) (by decide) (m_opb_of (ins := .invokestatic 49) (len := 3) (tag := 4) (a := 176) (b := 2) (c := 1) (q := 1396) (by decide +kernel)) (by decide +kernel) (Nat.le_of_ble_eq_true rfl) rfl (Nat.le_of_ble_eq_true rfl) rfl rfl (ok_x_copyAll_20_170 X (d + 0) F _ _ _ hc1) ?_
  refine m_R_sg (by decide) [(.aload_n 1, 1, 0, 1, 0, 0, 0), (.getfield 15, 3, 0, 1, 1, 3, 251), (.aload_n 0, 1, 0, 0, 0, 0, 0), (.getfield 15, 3, 0, 1, 1, 3, 251)] (by decide +kernel) (show m_sgl X _ _ _ _ _ = some (19, [some (.ref 169), some (.ref 19)], [.ref 171, .ref 21], (SH, q1.2.1, q1.2.2)) from rfl) ?_
  obtain ⟨q2, hc2, h⟩ := Option.bind_eq_some_iff.mp h
  refine m_R_cS (v := none) (h1 := (SH, q2.2)) (rest := []) (lo' := [some (.ref 21), some (.ref 171)]) (ml := 2) (by decide) (m_opb_of (ins := .invokestatic 49) (len := 3) (tag := 4) (a := 176) (b := 2) (c := 1) (q := 1396) (by decide +kernel)) (by decide +kernel) (Nat.le_of_ble_eq_true rfl) rfl (Nat.le_of_ble_eq_true rfl) rfl rfl (ok_x_copyAll_21_171 X (d + 0) F _ _ _ hc2) ?_
  refine m_R_sg (by decide) [(.aload_n 1, 1, 0, 1, 0, 0, 0), (.getfield 18, 3, 0, 1, 2, 3, 254), (.aload_n 0, 1, 0, 0, 0, 0, 0), (.getfield 18, 3, 0, 1, 2, 3, 254)] (by decide +kernel) (show m_sgl X _ _ _ _ _ = some (30, [some (.ref 169), some (.ref 19)], [.ref 172, .ref 22], (SH, q2.2.1, q2.2.2)) from rfl) ?_
  obtain ⟨q3, hc3, h⟩ := Option.bind_eq_some_iff.mp h
  refine m_R_cS (v := none) (h1 := (SH, q3.2)) (rest := []) (lo' := [some (.ref 22), some (.ref 172)]) (ml := 2) (by decide) (m_opb_of (ins := .invokestatic 49) (len := 3) (tag := 4) (a := 176) (b := 2) (c := 1) (q := 1396) (by decide +kernel)) (by decide +kernel) (Nat.le_of_ble_eq_true rfl) rfl (Nat.le_of_ble_eq_true rfl) rfl rfl (ok_x_copyAll_22_172 X (d + 0) F _ _ _ hc3) ?_
  refine m_R_sg (by decide) [(.aload_n 1, 1, 0, 1, 0, 0, 0), (.getfield 21, 3, 0, 1, 3, 3, 257), (.aload_n 0, 1, 0, 0, 0, 0, 0), (.getfield 21, 3, 0, 1, 3, 3, 257)] (by decide +kernel) (show m_sgl X _ _ _ _ _ = some (41, [some (.ref 169), some (.ref 19)], [.ref 173, .ref 23], (SH, q3.2.1, q3.2.2)) from rfl) ?_
  obtain ⟨q4, hc4, h⟩ := Option.bind_eq_some_iff.mp h
  refine m_R_cS (v := none) (h1 := (SH, q4.2)) (rest := []) (lo' := [some (.ref 23), some (.ref 173)]) (ml := 2) (by decide) (m_opb_of (ins := .invokestatic 49) (len := 3) (tag := 4) (a := 176) (b := 2) (c := 1) (q := 1396) (by decide +kernel)) (by decide +kernel) (Nat.le_of_ble_eq_true rfl) rfl (Nat.le_of_ble_eq_true rfl) rfl rfl (ok_x_copyAll_23_173 X (d + 0) F _ _ _ hc4) ?_
  refine m_R_sg (by decide) [(.aload_n 1, 1, 0, 1, 0, 0, 0), (.getfield 24, 3, 0, 1, 4, 3, 260), (.aload_n 0, 1, 0, 0, 0, 0, 0), (.getfield 24, 3, 0, 1, 4, 3, 260)] (by decide +kernel) (show m_sgl X _ _ _ _ _ = some (52, [some (.ref 169), some (.ref 19)], [.ref 174, .ref 24], (SH, q4.2.1, q4.2.2)) from rfl) ?_
  obtain ⟨q5, hc5, h⟩ := Option.bind_eq_some_iff.mp h
  refine m_R_cS (v := none) (h1 := (SH, q5.2)) (rest := []) (lo' := [some (.ref 24), some (.ref 174)]) (ml := 2) (by decide) (m_opb_of (ins := .invokestatic 49) (len := 3) (tag := 4) (a := 176) (b := 2) (c := 1) (q := 1396) (by decide +kernel)) (by decide +kernel) (Nat.le_of_ble_eq_true rfl) rfl (Nat.le_of_ble_eq_true rfl) rfl rfl (ok_x_copyAll_24_174 X (d + 0) F _ _ _ hc5) ?_
  refine m_R_sg (by decide) [(.aload_n 1, 1, 0, 1, 0, 0, 0), (.getfield 27, 3, 0, 1, 5, 3, 263), (.aload_n 0, 1, 0, 0, 0, 0, 0), (.getfield 27, 3, 0, 1, 5, 3, 263)] (by decide +kernel) (show m_sgl X _ _ _ _ _ = some (63, [some (.ref 169), some (.ref 19)], [.ref 175, .ref 25], (SH, q5.2.1, q5.2.2)) from rfl) ?_
  obtain ⟨q6, hc6, h⟩ := Option.bind_eq_some_iff.mp h
  refine m_R_cS (v := none) (h1 := (SH, q6.2)) (rest := []) (lo' := [some (.ref 25), some (.ref 175)]) (ml := 2) (by decide) (m_opb_of (ins := .invokestatic 49) (len := 3) (tag := 4) (a := 176) (b := 2) (c := 1) (q := 1396) (by decide +kernel)) (by decide +kernel) (Nat.le_of_ble_eq_true rfl) rfl (Nat.le_of_ble_eq_true rfl) rfl rfl (ok_x_copyAll_25_175 X (d + 0) F _ _ _ hc6) ?_
  refine m_R_sg (by decide) [(.aload_n 1, 1, 0, 1, 0, 0, 0), (.getfield 30, 3, 0, 1, 6, 3, 266), (.aload_n 0, 1, 0, 0, 0, 0, 0), (.getfield 30, 3, 0, 1, 6, 3, 266)] (by decide +kernel) (show m_sgl X _ _ _ _ _ = some (74, [some (.ref 169), some (.ref 19)], [.ref 176, .ref 26], (SH, q6.2.1, q6.2.2)) from rfl) ?_
  obtain ⟨q7, hc7, h⟩ := Option.bind_eq_some_iff.mp h
  refine m_R_cS (v := none) (h1 := (SH, q7.2)) (rest := []) (lo' := [some (.ref 26), some (.ref 176)]) (ml := 2) (by decide) (m_opb_of (ins := .invokestatic 49) (len := 3) (tag := 4) (a := 176) (b := 2) (c := 1) (q := 1396) (by decide +kernel)) (by decide +kernel) (Nat.le_of_ble_eq_true rfl) rfl (Nat.le_of_ble_eq_true rfl) rfl rfl (ok_x_copyAll_26_176 X (d + 0) F _ _ _ hc7) ?_
  refine m_R_sg (by decide) [(.aload_n 1, 1, 0, 1, 0, 0, 0), (.getfield 33, 3, 0, 1, 7, 3, 269), (.aload_n 0, 1, 0, 0, 0, 0, 0), (.getfield 33, 3, 0, 1, 7, 3, 269)] (by decide +kernel) (show m_sgl X _ _ _ _ _ = some (85, [some (.ref 169), some (.ref 19)], [.ref 177, .ref 27], (SH, q7.2.1, q7.2.2)) from rfl) ?_
  obtain ⟨q8, hc8, h⟩ := Option.bind_eq_some_iff.mp h
  refine m_R_cS (v := none) (h1 := (SH, q8.2)) (rest := []) (lo' := [some (.ref 27), some (.ref 177)]) (ml := 2) (by decide) (m_opb_of (ins := .invokestatic 49) (len := 3) (tag := 4) (a := 176) (b := 2) (c := 1) (q := 1396) (by decide +kernel)) (by decide +kernel) (Nat.le_of_ble_eq_true rfl) rfl (Nat.le_of_ble_eq_true rfl) rfl rfl (ok_x_copyAll_27_177 X (d + 0) F _ _ _ hc8) ?_
  refine m_R_sg (by decide) [(.aload_n 1, 1, 0, 1, 0, 0, 0), (.getfield 36, 3, 0, 1, 8, 3, 272), (.aload_n 0, 1, 0, 0, 0, 0, 0), (.getfield 36, 3, 0, 1, 8, 3, 272)] (by decide +kernel) (show m_sgl X _ _ _ _ _ = some (96, [some (.ref 169), some (.ref 19)], [.ref 178, .ref 28], (SH, q8.2.1, q8.2.2)) from rfl) ?_
  obtain ⟨q9, hc9, h⟩ := Option.bind_eq_some_iff.mp h
  refine m_R_cS (v := none) (h1 := (SH, q9.2)) (rest := []) (lo' := [some (.ref 28), some (.ref 178)]) (ml := 2) (by decide) (m_opb_of (ins := .invokestatic 49) (len := 3) (tag := 4) (a := 176) (b := 2) (c := 1) (q := 1396) (by decide +kernel)) (by decide +kernel) (Nat.le_of_ble_eq_true rfl) rfl (Nat.le_of_ble_eq_true rfl) rfl rfl (ok_x_copyAll_28_178 X (d + 0) F _ _ _ hc9) ?_
  refine m_R_sg (by decide) [(.aload_n 1, 1, 0, 1, 0, 0, 0), (.getfield 39, 3, 0, 1, 9, 3, 274), (.aload_n 0, 1, 0, 0, 0, 0, 0), (.getfield 39, 3, 0, 1, 9, 3, 274)] (by decide +kernel) (show m_sgl X _ _ _ _ _ = some (107, [some (.ref 169), some (.ref 19)], [.ref 179, .ref 29], (SH, q9.2.1, q9.2.2)) from rfl) ?_
  obtain ⟨q10, hc10, h⟩ := Option.bind_eq_some_iff.mp h
  refine m_R_cS (v := none) (h1 := (SH, q10.2)) (rest := []) (lo' := [some (.ref 29), some (.ref 179)]) (ml := 2) (by decide) (m_opb_of (ins := .invokestatic 49) (len := 3) (tag := 4) (a := 176) (b := 2) (c := 1) (q := 1396) (by decide +kernel)) (by decide +kernel) (Nat.le_of_ble_eq_true rfl) rfl (Nat.le_of_ble_eq_true rfl) rfl rfl (ok_x_copyAll_29_179 X (d + 0) F _ _ _ hc10) ?_
  refine m_R_sg (by decide) [(.aload_n 1, 1, 0, 1, 0, 0, 0), (.getfield 42, 3, 0, 1, 10, 3, 276), (.aload_n 0, 1, 0, 0, 0, 0, 0), (.getfield 42, 3, 0, 1, 10, 3, 276)] (by decide +kernel) (show m_sgl X _ _ _ _ _ = some (118, [some (.ref 169), some (.ref 19)], [.ref 180, .ref 30], (SH, q10.2.1, q10.2.2)) from rfl) ?_
  obtain ⟨q11, hc11, h⟩ := Option.bind_eq_some_iff.mp h
  refine m_R_cS (v := none) (h1 := (SH, q11.2)) (rest := []) (lo' := [some (.ref 30), some (.ref 180)]) (ml := 2) (by decide) (m_opb_of (ins := .invokestatic 49) (len := 3) (tag := 4) (a := 176) (b := 2) (c := 1) (q := 1396) (by decide +kernel)) (by decide +kernel) (Nat.le_of_ble_eq_true rfl) rfl (Nat.le_of_ble_eq_true rfl) rfl rfl (ok_x_copyAll_30_180 X (d + 0) F _ _ _ hc11) ?_
  refine m_R_sg (by decide) [(.aload_n 0, 1, 0, 0, 0, 0, 0), (.aload_n 1, 1, 0, 1, 0, 0, 0), (.getfield 45, 3, 0, 1, 11, 0, 278), (.putfield 45, 3, 0, 1, 11, 0, 278), (.aload_n 0, 1, 0, 0, 0, 0, 0), (.aload_n 1, 1, 0, 1, 0, 0, 0), (.getfield 53, 3, 0, 1, 12, 0, 281), (.putfield 53, 3, 0, 1, 12, 0, 281)] (by decide +kernel) (show m_sgl X _ _ _ _ _ = some (137, [some (.ref 169), some (.ref 19)], [], (SH, (m_up (m_up q11.2.1 169 11 (q11.2.1 19 11)) 169 12 ((m_up q11.2.1 169 11 (q11.2.1 19 11)) 19 12)), q11.2.2)) from rfl) ?_
  obtain ⟨rfl, rfl⟩ := m_some h
  exact m_R_vret (by decide) (m_opb_of (ins := .return_) (len := 1) (tag := 3) (a := 0) (b := 0) (c := 0) (q := 0) (by decide +kernel))
def f_x_copyAll_32_182 (F : Nat)    (m : mM) : Option (Unit × mM) := ((f_Math_min_II F (Int32.ofNat 60) (Int32.ofNat 60) m).bind fun q1 => (if (0 : Int32) < 0 ∨ (0 : Int32) < 0 ∨ q1.1 < 0 ∨ 60 < (0 : Int32).toNatClampNeg + q1.1.toNatClampNeg ∨ 60 < (0 : Int32).toNatClampNeg + q1.1.toNatClampNeg then none else some ((), ((m_row q1.2.1 182 (va_cpy (q1.2.1 32) (q1.2.1 182) (0 : Int32).toNatClampNeg (0 : Int32).toNatClampNeg q1.1.toNatClampNeg)), q1.2.2))))
theorem ok_x_copyAll_32_182 (X : mX) (d F : Nat) : ∀   (m : mM) (r : Unit) (m' : mM), f_x_copyAll_32_182 F  m = some (r, m') → m_R X (d + 1) 176 0 [some (.ref 32), some (.ref 182)] [] (SH, m) (none, (SH, m')) := by
  intro m r m' h
  unfold f_x_copyAll_32_182 at h
  refine m_R_sg (by decide) [(.aload_n 0, 1, 0, 0, 0, 0, 0), (.iconst 0, 1, 0, 0, 0, 0, 0), (.aload_n 1, 1, 0, 1, 0, 0, 0), (.iconst 0, 1, 0, 0, 0, 0, 0), (.aload_n 0, 1, 0, 0, 0, 0, 0), (.arraylength, 1, 0, 0, 0, 0, 0), (.aload_n 1, 1, 0, 1, 0, 0, 0), (.arraylength, 1, 0, 0, 0, 0, 0)] (by decide +kernel) (show m_sgl X _ _ _ _ _ = some (8, [some (.ref 32), some (.ref 182)], [.int (Int32.ofNat 60), .int (Int32.ofNat 60), .int (0 : Int32), .ref 182, .int (0 : Int32), .ref 32], (SH, m.1, m.2)) from rfl) ?_
  obtain ⟨q1, hc1, h⟩ := Option.bind_eq_some_iff.mp h
  refine m_R_cS (v := (some (.int q1.1))) (h1 := (SH, q1.2)) (rest := [.int (0 : Int32), .ref 182, .int (0 : Int32), .ref 32]) (lo' := [some (.int (Int32.ofNat 60)), some (.int (Int32.ofNat 60))]) (ml := 2) (by decide) (m_opb_of (ins := .invokestatic 219) (len := 3) (tag := 4) (a := 50) (b := 2) (c := 0) (q := 893) (by decide +kernel)) (by decide +kernel) (Nat.le_of_ble_eq_true rfl) rfl (Nat.le_of_ble_eq_true rfl) rfl rfl (ok_Math_min_II X (d + 0) F _ _ _ _ _ hc1) ?_
  obtain ⟨c0, h⟩ := m_ite_n h
  refine m_R_cpy (by decide) (m_opb_of (ins := .invokestatic 452) (len := 3) (tag := 8) (a := 0) (b := 0) (c := 0) (q := 1391) (by decide +kernel)) (Nat.le_of_ble_eq_true rfl) (m_cpy_of sh_32 sh_182 c0) ?_
  obtain ⟨rfl, rfl⟩ := m_some h
  exact m_R_vret (by decide) (m_opb_of (ins := .return_) (len := 1) (tag := 3) (a := 0) (b := 0) (c := 0) (q := 0) (by decide +kernel))
def f_x_copyAll_33_183 (F : Nat)    (m : mM) : Option (Unit × mM) := ((f_Math_min_II F (Int32.ofNat 60) (Int32.ofNat 60) m).bind fun q1 => (if (0 : Int32) < 0 ∨ (0 : Int32) < 0 ∨ q1.1 < 0 ∨ 60 < (0 : Int32).toNatClampNeg + q1.1.toNatClampNeg ∨ 60 < (0 : Int32).toNatClampNeg + q1.1.toNatClampNeg then none else some ((), ((m_row q1.2.1 183 (va_cpy (q1.2.1 33) (q1.2.1 183) (0 : Int32).toNatClampNeg (0 : Int32).toNatClampNeg q1.1.toNatClampNeg)), q1.2.2))))
theorem ok_x_copyAll_33_183 (X : mX) (d F : Nat) : ∀   (m : mM) (r : Unit) (m' : mM), f_x_copyAll_33_183 F  m = some (r, m') → m_R X (d + 1) 176 0 [some (.ref 33), some (.ref 183)] [] (SH, m) (none, (SH, m')) := by
  intro m r m' h
  unfold f_x_copyAll_33_183 at h
  refine m_R_sg (by decide) [(.aload_n 0, 1, 0, 0, 0, 0, 0), (.iconst 0, 1, 0, 0, 0, 0, 0), (.aload_n 1, 1, 0, 1, 0, 0, 0), (.iconst 0, 1, 0, 0, 0, 0, 0), (.aload_n 0, 1, 0, 0, 0, 0, 0), (.arraylength, 1, 0, 0, 0, 0, 0), (.aload_n 1, 1, 0, 1, 0, 0, 0), (.arraylength, 1, 0, 0, 0, 0, 0)] (by decide +kernel) (show m_sgl X _ _ _ _ _ = some (8, [some (.ref 33), some (.ref 183)], [.int (Int32.ofNat 60), .int (Int32.ofNat 60), .int (0 : Int32), .ref 183, .int (0 : Int32), .ref 33], (SH, m.1, m.2)) from rfl) ?_
  obtain ⟨q1, hc1, h⟩ := Option.bind_eq_some_iff.mp h
  refine m_R_cS (v := (some (.int q1.1))) (h1 := (SH, q1.2)) (rest := [.int (0 : Int32), .ref 183, .int (0 : Int32), .ref 33]) (lo' := [some (.int (Int32.ofNat 60)), some (.int (Int32.ofNat 60))]) (ml := 2) (by decide) (m_opb_of (ins := .invokestatic 219) (len := 3) (tag := 4) (a := 50) (b := 2) (c := 0) (q := 893) (by decide +kernel)) (by decide +kernel) (Nat.le_of_ble_eq_true rfl) rfl (Nat.le_of_ble_eq_true rfl) rfl rfl (ok_Math_min_II X (d + 0) F _ _ _ _ _ hc1) ?_
  obtain ⟨c0, h⟩ := m_ite_n h
  refine m_R_cpy (by decide) (m_opb_of (ins := .invokestatic 452) (len := 3) (tag := 8) (a := 0) (b := 0) (c := 0) (q := 1391) (by decide +kernel)) (Nat.le_of_ble_eq_true rfl) (m_cpy_of sh_33 sh_183 c0) ?_
  obtain ⟨rfl, rfl⟩ := m_some h
  exact m_R_vret (by decide) (m_opb_of (ins := .return_) (len := 1) (tag := 3) (a := 0) (b := 0) (c := 0) (q := 0) (by decide +kernel))
def f_x_copyAll_34_184 (F : Nat)    (m : mM) : Option (Unit × mM) := ((f_Math_min_II F (Int32.ofNat 60) (Int32.ofNat 60) m).bind fun q1 => (if (0 : Int32) < 0 ∨ (0 : Int32) < 0 ∨ q1.1 < 0 ∨ 60 < (0 : Int32).toNatClampNeg + q1.1.toNatClampNeg ∨ 60 < (0 : Int32).toNatClampNeg + q1.1.toNatClampNeg then none else some ((), ((m_row q1.2.1 184 (va_cpy (q1.2.1 34) (q1.2.1 184) (0 : Int32).toNatClampNeg (0 : Int32).toNatClampNeg q1.1.toNatClampNeg)), q1.2.2))))
theorem ok_x_copyAll_34_184 (X : mX) (d F : Nat) : ∀   (m : mM) (r : Unit) (m' : mM), f_x_copyAll_34_184 F  m = some (r, m') → m_R X (d + 1) 176 0 [some (.ref 34), some (.ref 184)] [] (SH, m) (none, (SH, m')) := by
  intro m r m' h
  unfold f_x_copyAll_34_184 at h
  refine m_R_sg (by decide) [(.aload_n 0, 1, 0, 0, 0, 0, 0), (.iconst 0, 1, 0, 0, 0, 0, 0), (.aload_n 1, 1, 0, 1, 0, 0, 0), (.iconst 0, 1, 0, 0, 0, 0, 0), (.aload_n 0, 1, 0, 0, 0, 0, 0), (.arraylength, 1, 0, 0, 0, 0, 0), (.aload_n 1, 1, 0, 1, 0, 0, 0), (.arraylength, 1, 0, 0, 0, 0, 0)] (by decide +kernel) (show m_sgl X _ _ _ _ _ = some (8, [some (.ref 34), some (.ref 184)], [.int (Int32.ofNat 60), .int (Int32.ofNat 60), .int (0 : Int32), .ref 184, .int (0 : Int32), .ref 34], (SH, m.1, m.2)) from rfl) ?_
  obtain ⟨q1, hc1, h⟩ := Option.bind_eq_some_iff.mp h
  refine m_R_cS (v := (some (.int q1.1))) (h1 := (SH, q1.2)) (rest := [.int (0 : Int32), .ref 184, .int (0 : Int32), .ref 34]) (lo' := [some (.int (Int32.ofNat 60)), some (.int (Int32.ofNat 60))]) (ml := 2) (by decide) (m_opb_of (ins := .invokestatic 219) (len := 3) (tag := 4) (a := 50) (b := 2) (c := 0) (q := 893) (by decide +kernel)) (by decide +kernel) (Nat.le_of_ble_eq_true rfl) rfl (Nat.le_of_ble_eq_true rfl) rfl rfl (ok_Math_min_II X (d + 0) F _ _ _ _ _ hc1) ?_
  obtain ⟨c0, h⟩ := m_ite_n h
  refine m_R_cpy (by decide) (m_opb_of (ins := .invokestatic 452) (len := 3) (tag := 8) (a := 0) (b := 0) (c := 0) (q := 1391) (by decide +kernel)) (Nat.le_of_ble_eq_true rfl) (m_cpy_of sh_34 sh_184 c0) ?_
  obtain ⟨rfl, rfl⟩ := m_some h
  exact m_R_vret (by decide) (m_opb_of (ins := .return_) (len := 1) (tag := 3) (a := 0) (b := 0) (c := 0) (q := 0) (by decide +kernel))
def f_x_copyAll_35_185 (F : Nat)    (m : mM) : Option (Unit × mM) := ((f_Math_min_II F (Int32.ofNat 60) (Int32.ofNat 60) m).bind fun q1 => (if (0 : Int32) < 0 ∨ (0 : Int32) < 0 ∨ q1.1 < 0 ∨ 60 < (0 : Int32).toNatClampNeg + q1.1.toNatClampNeg ∨ 60 < (0 : Int32).toNatClampNeg + q1.1.toNatClampNeg then none else some ((), ((m_row q1.2.1 185 (va_cpy (q1.2.1 35) (q1.2.1 185) (0 : Int32).toNatClampNeg (0 : Int32).toNatClampNeg q1.1.toNatClampNeg)), q1.2.2))))
theorem ok_x_copyAll_35_185 (X : mX) (d F : Nat) : ∀   (m : mM) (r : Unit) (m' : mM), f_x_copyAll_35_185 F  m = some (r, m') → m_R X (d + 1) 176 0 [some (.ref 35), some (.ref 185)] [] (SH, m) (none, (SH, m')) := by
  intro m r m' h
  unfold f_x_copyAll_35_185 at h
  refine m_R_sg (by decide) [(.aload_n 0, 1, 0, 0, 0, 0, 0), (.iconst 0, 1, 0, 0, 0, 0, 0), (.aload_n 1, 1, 0, 1, 0, 0, 0), (.iconst 0, 1, 0, 0, 0, 0, 0), (.aload_n 0, 1, 0, 0, 0, 0, 0), (.arraylength, 1, 0, 0, 0, 0, 0), (.aload_n 1, 1, 0, 1, 0, 0, 0), (.arraylength, 1, 0, 0, 0, 0, 0)] (by decide +kernel) (show m_sgl X _ _ _ _ _ = some (8, [some (.ref 35), some (.ref 185)], [.int (Int32.ofNat 60), .int (Int32.ofNat 60), .int (0 : Int32), .ref 185, .int (0 : Int32), .ref 35], (SH, m.1, m.2)) from rfl) ?_
  obtain ⟨q1, hc1, h⟩ := Option.bind_eq_some_iff.mp h
  refine m_R_cS (v := (some (.int q1.1))) (h1 := (SH, q1.2)) (rest := [.int (0 : Int32), .ref 185, .int (0 : Int32), .ref 35]) (lo' := [some (.int (Int32.ofNat 60)), some (.int (Int32.ofNat 60))]) (ml := 2) (by decide) (m_opb_of (ins := .invokestatic 219) (len := 3) (tag := 4) (a := 50) (b := 2) (c := 0) (q := 893) (by decide +kernel)) (by decide +kernel) (Nat.le_of_ble_eq_true rfl) rfl (Nat.le_of_ble_eq_true rfl) rfl rfl (ok_Math_min_II X (d + 0) F _ _ _ _ _ hc1) ?_
  obtain ⟨c0, h⟩ := m_ite_n h
  refine m_R_cpy (by decide) (m_opb_of (ins := .invokestatic 452) (len := 3) (tag := 8) (a := 0) (b := 0) (c := 0) (q := 1391) (by decide +kernel)) (Nat.le_of_ble_eq_true rfl) (m_cpy_of sh_35 sh_185 c0) ?_
  obtain ⟨rfl, rfl⟩ := m_some h
  exact m_R_vret (by decide) (m_opb_of (ins := .return_) (len := 1) (tag := 3) (a := 0) (b := 0) (c := 0) (q := 0) (by decide +kernel))
def f_x_copyAll_36_186 (F : Nat)    (m : mM) : Option (Unit × mM) := ((f_Math_min_II F (Int32.ofNat 60) (Int32.ofNat 60) m).bind fun q1 => (if (0 : Int32) < 0 ∨ (0 : Int32) < 0 ∨ q1.1 < 0 ∨ 60 < (0 : Int32).toNatClampNeg + q1.1.toNatClampNeg ∨ 60 < (0 : Int32).toNatClampNeg + q1.1.toNatClampNeg then none else some ((), ((m_row q1.2.1 186 (va_cpy (q1.2.1 36) (q1.2.1 186) (0 : Int32).toNatClampNeg (0 : Int32).toNatClampNeg q1.1.toNatClampNeg)), q1.2.2))))
theorem ok_x_copyAll_36_186 (X : mX) (d F : Nat) : ∀   (m : mM) (r : Unit) (m' : mM), f_x_copyAll_36_186 F  m = some (r, m') → m_R X (d + 1) 176 0 [some (.ref 36), some (.ref 186)] [] (SH, m) (none, (SH, m')) := by
  intro m r m' h
  unfold f_x_copyAll_36_186 at h
  refine m_R_sg (by decide) [(.aload_n 0, 1, 0, 0, 0, 0, 0), (.iconst 0, 1, 0, 0, 0, 0, 0), (.aload_n 1, 1, 0, 1, 0, 0, 0), (.iconst 0, 1, 0, 0, 0, 0, 0), (.aload_n 0, 1, 0, 0, 0, 0, 0), (.arraylength, 1, 0, 0, 0, 0, 0), (.aload_n 1, 1, 0, 1, 0, 0, 0), (.arraylength, 1, 0, 0, 0, 0, 0)] (by decide +kernel) (show m_sgl X _ _ _ _ _ = some (8, [some (.ref 36), some (.ref 186)], [.int (Int32.ofNat 60), .int (Int32.ofNat 60), .int (0 : Int32), .ref 186, .int (0 : Int32), .ref 36], (SH, m.1, m.2)) from rfl) ?_
  obtain ⟨q1, hc1, h⟩ := Option.bind_eq_some_iff.mp h
  refine m_R_cS (v := (some (.int q1.1))) (h1 := (SH, q1.2)) (rest := [.int (0 : Int32), .ref 186, .int (0 : Int32), .ref 36]) (lo' := [some (.int (Int32.ofNat 60)), some (.int (Int32.ofNat 60))]) (ml := 2) (by decide) (m_opb_of (ins := .invokestatic 219) (len := 3) (tag := 4) (a := 50) (b := 2) (c := 0) (q := 893) (by decide +kernel)) (by decide +kernel) (Nat.le_of_ble_eq_true rfl) rfl (Nat.le_of_ble_eq_true rfl) rfl rfl (ok_Math_min_II X (d + 0) F _ _ _ _ _ hc1) ?_
  obtain ⟨c0, h⟩ := m_ite_n h
  refine m_R_cpy (by decide) (m_opb_of (ins := .invokestatic 452) (len := 3) (tag := 8) (a := 0) (b := 0) (c := 0) (q := 1391) (by decide +kernel)) (Nat.le_of_ble_eq_true rfl) (m_cpy_of sh_36 sh_186 c0) ?_
  obtain ⟨rfl, rfl⟩ := m_some h
  exact m_R_vret (by decide) (m_opb_of (ins := .return_) (len := 1) (tag := 3) (a := 0) (b := 0) (c := 0) (q := 0) (by decide +kernel))
def f_x_copyAll_37_187 (F : Nat)    (m : mM) : Option (Unit × mM) := ((f_Math_min_II F (Int32.ofNat 60) (Int32.ofNat 60) m).bind fun q1 => (if (0 : Int32) < 0 ∨ (0 : Int32) < 0 ∨ q1.1 < 0 ∨ 60 < (0 : Int32).toNatClampNeg + q1.1.toNatClampNeg ∨ 60 < (0 : Int32).toNatClampNeg + q1.1.toNatClampNeg then none else some ((), ((m_row q1.2.1 187 (va_cpy (q1.2.1 37) (q1.2.1 187) (0 : Int32).toNatClampNeg (0 : Int32).toNatClampNeg q1.1.toNatClampNeg)), q1.2.2))))
theorem ok_x_copyAll_37_187 (X : mX) (d F : Nat) : ∀   (m : mM) (r : Unit) (m' : mM), f_x_copyAll_37_187 F  m = some (r, m') → m_R X (d + 1) 176 0 [some (.ref 37), some (.ref 187)] [] (SH, m) (none, (SH, m')) := by
  intro m r m' h
  unfold f_x_copyAll_37_187 at h
  refine m_R_sg (by decide) [(.aload_n 0, 1, 0, 0, 0, 0, 0), (.iconst 0, 1, 0, 0, 0, 0, 0), (.aload_n 1, 1, 0, 1, 0, 0, 0), (.iconst 0, 1, 0, 0, 0, 0, 0), (.aload_n 0, 1, 0, 0, 0, 0, 0), (.arraylength, 1, 0, 0, 0, 0, 0), (.aload_n 1, 1, 0, 1, 0, 0, 0), (.arraylength, 1, 0, 0, 0, 0, 0)] (by decide +kernel) (show m_sgl X _ _ _ _ _ = some (8, [some (.ref 37), some (.ref 187)], [.int (Int32.ofNat 60), .int (Int32.ofNat 60), .int (0 : Int32), .ref 187, .int (0 : Int32), .ref 37], (SH, m.1, m.2)) from rfl) ?_
  obtain ⟨q1, hc1, h⟩ := Option.bind_eq_some_iff.mp h
  refine m_R_cS (v := (some (.int q1.1))) (h1 := (SH, q1.2)) (rest := [.int (0 : Int32), .ref 187, .int (0 : Int32), .ref 37]) (lo' := [some (.int (Int32.ofNat 60)), some (.int (Int32.ofNat 60))]) (ml := 2) (by decide) (m_opb_of (ins := .invokestatic 219) (len := 3) (tag := 4) (a := 50) (b := 2) (c := 0) (q := 893) (by decide +kernel)) (by decide +kernel) (Nat.le_of_ble_eq_true rfl) rfl (Nat.le_of_ble_eq_true rfl) rfl rfl (ok_Math_min_II X (d + 0) F _ _ _ _ _ hc1) ?_
  obtain ⟨c0, h⟩ := m_ite_n h
  refine m_R_cpy (by decide) (m_opb_of (ins := .invokestatic 452) (len := 3) (tag := 8) (a := 0) (b := 0) (c := 0) (q := 1391) (by decide +kernel)) (Nat.le_of_ble_eq_true rfl) (m_cpy_of sh_37 sh_187 c0) ?_
  obtain ⟨rfl, rfl⟩ := m_some h
  exact m_R_vret (by decide) (m_opb_of (ins := .return_) (len := 1) (tag := 3) (a := 0) (b := 0) (c := 0) (q := 0) (by decide +kernel))
def f_x_copyAll_38_188 (F : Nat)    (m : mM) : Option (Unit × mM) := ((f_Math_min_II F (Int32.ofNat 360) (Int32.ofNat 360) m).bind fun q1 => (if (0 : Int32) < 0 ∨ (0 : Int32) < 0 ∨ q1.1 < 0 ∨ 360 < (0 : Int32).toNatClampNeg + q1.1.toNatClampNeg ∨ 360 < (0 : Int32).toNatClampNeg + q1.1.toNatClampNeg then none else some ((), ((m_row q1.2.1 188 (va_cpy (q1.2.1 38) (q1.2.1 188) (0 : Int32).toNatClampNeg (0 : Int32).toNatClampNeg q1.1.toNatClampNeg)), q1.2.2))))
theorem ok_x_copyAll_38_188 (X : mX) (d F : Nat) : ∀   (m : mM) (r : Unit) (m' : mM), f_x_copyAll_38_188 F  m = some (r, m') → m_R X (d + 1) 176 0 [some (.ref 38), some (.ref 188)] [] (SH, m) (none, (SH, m')) := by
  intro m r m' h
  unfold f_x_copyAll_38_188 at h
  refine m_R_sg (by decide) [(.aload_n 0, 1, 0, 0, 0, 0, 0), (.iconst 0, 1, 0, 0, 0, 0, 0), (.aload_n 1, 1, 0, 1, 0, 0, 0), (.iconst 0, 1, 0, 0, 0, 0, 0), (.aload_n 0, 1, 0, 0, 0, 0, 0), (.arraylength, 1, 0, 0, 0, 0, 0), (.aload_n 1, 1, 0, 1, 0, 0, 0), (.arraylength, 1, 0, 0, 0, 0, 0)] (by decide +kernel) (show m_sgl X _ _ _ _ _ = some (8, [some (.ref 38), some (.ref 188)], [.int (Int32.ofNat 360), .int (Int32.ofNat 360), .int (0 : Int32), .ref 188, .int (0 : Int32), .ref 38], (SH, m.1, m.2)) from rfl) ?_
  obtain ⟨q1, hc1, h⟩ := Option.bind_eq_some_iff.mp h
  refine m_R_cS (v := (some (.int q1.1))) (h1 := (SH, q1.2)) (rest := [.int (0 : Int32), .ref 188, .int (0 : Int32), .ref 38]) (lo' := [some (.int (Int32.ofNat 360)), some (.int (Int32.ofNat 360))]) (ml := 2) (by decide) (m_opb_of (ins := .invokestatic 219) (len := 3) (tag := 4) (a := 50) (b := 2) (c := 0) (q := 893) (by decide +kernel)) (by decide +kernel) (Nat.le_of_ble_eq_true rfl) rfl (Nat.le_of_ble_eq_true rfl) rfl rfl (ok_Math_min_II X (d + 0) F _ _ _ _ _ hc1) ?_
  obtain ⟨c0, h⟩ := m_ite_n h
  refine m_R_cpy (by decide) (m_opb_of (ins := .invokestatic 452) (len := 3) (tag := 8) (a := 0) (b := 0) (c := 0) (q := 1391) (by decide +kernel)) (Nat.le_of_ble_eq_true rfl) (m_cpy_of sh_38 sh_188 c0) ?_
  obtain ⟨rfl, rfl⟩ := m_some h
  exact m_R_vret (by decide) (m_opb_of (ins := .return_) (len := 1) (tag := 3) (a := 0) (b := 0) (c := 0) (q := 0) (by decide +kernel))
def f_x_copyAll_39_189 (F : Nat)    (m : mM) : Option (Unit × mM) := ((f_Math_min_II F (Int32.ofNat 60) (Int32.ofNat 60) m).bind fun q1 => (if (0 : Int32) < 0 ∨ (0 : Int32) < 0 ∨ q1.1 < 0 ∨ 60 < (0 : Int32).toNatClampNeg + q1.1.toNatClampNeg ∨ 60 < (0 : Int32).toNatClampNeg + q1.1.toNatClampNeg then none else some ((), ((m_row q1.2.1 189 (va_cpy (q1.2.1 39) (q1.2.1 189) (0 : Int32).toNatClampNeg (0 : Int32).toNatClampNeg q1.1.toNatClampNeg)), q1.2.2))))
theorem ok_x_copyAll_39_189 (X : mX) (d F : Nat) : ∀   (m : mM) (r : Unit) (m' : mM), f_x_copyAll_39_189 F  m = some (r, m') → m_R X (d + 1) 176 0 [some (.ref 39), some (.ref 189)] [] (SH, m) (none, (SH, m')) := by
  intro m r m' h
  unfold f_x_copyAll_39_189 at h
  refine m_R_sg (by decide) [(.aload_n 0, 1, 0, 0, 0, 0, 0), (.iconst 0, 1, 0, 0, 0, 0, 0), (.aload_n 1, 1, 0, 1, 0, 0, 0), (.iconst 0, 1, 0, 0, 0, 0, 0), (.aload_n 0, 1, 0, 0, 0, 0, 0), (.arraylength, 1, 0, 0, 0, 0, 0), (.aload_n 1, 1, 0, 1, 0, 0, 0), (.arraylength, 1, 0, 0, 0, 0, 0)] (by decide +kernel) (show m_sgl X _ _ _ _ _ = some (8, [some (.ref 39), some (.ref 189)], [.int (Int32.ofNat 60), .int (Int32.ofNat 60), .int (0 : Int32), .ref 189, .int (0 : Int32), .ref 39], (SH, m.1, m.2)) from rfl) ?_
  obtain ⟨q1, hc1, h⟩ := Option.bind_eq_some_iff.mp h
  refine m_R_cS (v := (some (.int q1.1))) (h1 := (SH, q1.2)) (rest := [.int (0 : Int32), .ref 189, .int (0 : Int32), .ref 39]) (lo' := [some (.int (Int32.ofNat 60)), some (.int (Int32.ofNat 60))]) (ml := 2) (by decide) (m_opb_of (ins := .invokestatic 219) (len := 3) (tag := 4) (a := 50) (b := 2) (c := 0) (q := 893) (by decide +kernel)) (by decide +kernel) (Nat.le_of_ble_eq_true rfl) rfl (Nat.le_of_ble_eq_true rfl) rfl rfl (ok_Math_min_II X (d + 0) F _ _ _ _ _ hc1) ?_
  obtain ⟨c0, h⟩ := m_ite_n h
  refine m_R_cpy (by decide) (m_opb_of (ins := .invokestatic 452) (len := 3) (tag := 8) (a := 0) (b := 0) (c := 0) (q := 1391) (by decide +kernel)) (Nat.le_of_ble_eq_true rfl) (m_cpy_of sh_39 sh_189 c0) ?_
  obtain ⟨rfl, rfl⟩ := m_some h
  exact m_R_vret (by decide) (m_opb_of (ins := .return_) (len := 1) (tag := 3) (a := 0) (b := 0) (c := 0) (q := 0) (by decide +kernel))
def f_x_copyAll_40_190 (F : Nat)    (m : mM) : Option (Unit × mM) := ((f_Math_min_II F (Int32.ofNat 60) (Int32.ofNat 60) m).bind fun q1 => (if (0 : Int32) < 0 ∨ (0 : Int32) < 0 ∨ q1.1 < 0 ∨ 60 < (0 : Int32).toNatClampNeg + q1.1.toNatClampNeg ∨ 60 < (0 : Int32).toNatClampNeg + q1.1.toNatClampNeg then none else some ((), ((m_row q1.2.1 190 (va_cpy (q1.2.1 40) (q1.2.1 190) (0 : Int32).toNatClampNeg (0 : Int32).toNatClampNeg q1.1.toNatClampNeg)), q1.2.2))))
theorem ok_x_copyAll_40_190 (X : mX) (d F : Nat) : ∀   (m : mM) (r : Unit) (m' : mM), f_x_copyAll_40_190 F  m = some (r, m') → m_R X (d + 1) 176 0 [some (.ref 40), some (.ref 190)] [] (SH, m) (none, (SH, m')) := by
  intro m r m' h
  unfold f_x_copyAll_40_190 at h
  refine m_R_sg (by decide) [(.aload_n 0, 1, 0, 0, 0, 0, 0), (.iconst 0, 1, 0, 0, 0, 0, 0), (.aload_n 1, 1, 0, 1, 0, 0, 0), (.iconst 0, 1, 0, 0, 0, 0, 0), (.aload_n 0, 1, 0, 0, 0, 0, 0), (.arraylength, 1, 0, 0, 0, 0, 0), (.aload_n 1, 1, 0, 1, 0, 0, 0), (.arraylength, 1, 0, 0, 0, 0, 0)] (by decide +kernel) (show m_sgl X _ _ _ _ _ = some (8, [some (.ref 40), some (.ref 190)], [.int (Int32.ofNat 60), .int (Int32.ofNat 60), .int (0 : Int32), .ref 190, .int (0 : Int32), .ref 40], (SH, m.1, m.2)) from rfl) ?_
  obtain ⟨q1, hc1, h⟩ := Option.bind_eq_some_iff.mp h
  refine m_R_cS (v := (some (.int q1.1))) (h1 := (SH, q1.2)) (rest := [.int (0 : Int32), .ref 190, .int (0 : Int32), .ref 40]) (lo' := [some (.int (Int32.ofNat 60)), some (.int (Int32.ofNat 60))]) (ml := 2) (by decide) (m_opb_of (ins := .invokestatic 219) (len := 3) (tag := 4) (a := 50) (b := 2) (c := 0) (q := 893) (by decide +kernel)) (by decide +kernel) (Nat.le_of_ble_eq_true rfl) rfl (Nat.le_of_ble_eq_true rfl) rfl rfl (ok_Math_min_II X (d + 0) F _ _ _ _ _ hc1) ?_
  obtain ⟨c0, h⟩ := m_ite_n h
  refine m_R_cpy (by decide) (m_opb_of (ins := .invokestatic 452) (len := 3) (tag := 8) (a := 0) (b := 0) (c := 0) (q := 1391) (by decide +kernel)) (Nat.le_of_ble_eq_true rfl) (m_cpy_of sh_40 sh_190 c0) ?_
  obtain ⟨rfl, rfl⟩ := m_some h
  exact m_R_vret (by decide) (m_opb_of (ins := .return_) (len := 1) (tag := 3) (a := 0) (b := 0) (c := 0) (q := 0) (by decide +kernel))
def f_x_copyAll_41_191 (F : Nat)    (m : mM) : Option (Unit × mM) := ((f_Math_min_II F (Int32.ofNat 60) (Int32.ofNat 60) m).bind fun q1 => (if (0 : Int32) < 0 ∨ (0 : Int32) < 0 ∨ q1.1 < 0 ∨ 60 < (0 : Int32).toNatClampNeg + q1.1.toNatClampNeg ∨ 60 < (0 : Int32).toNatClampNeg + q1.1.toNatClampNeg then none else some ((), ((m_row q1.2.1 191 (va_cpy (q1.2.1 41) (q1.2.1 191) (0 : Int32).toNatClampNeg (0 : Int32).toNatClampNeg q1.1.toNatClampNeg)), q1.2.2))))
theorem ok_x_copyAll_41_191 (X : mX) (d F : Nat) : ∀   (m : mM) (r : Unit) (m' : mM), f_x_copyAll_41_191 F  m = some (r, m') → m_R X (d + 1) 176 0 [some (.ref 41), some (.ref 191)] [] (SH, m) (none, (SH, m')) := by
  intro m r m' h
  unfold f_x_copyAll_41_191 at h
  refine m_R_sg (by decide) [(.aload_n 0, 1, 0, 0, 0, 0, 0), (.iconst 0, 1, 0, 0, 0, 0, 0), (.aload_n 1, 1, 0, 1, 0, 0, 0), (.iconst 0, 1, 0, 0, 0, 0, 0), (.aload_n 0, 1, 0, 0, 0, 0, 0), (.arraylength, 1, 0, 0, 0, 0, 0), (.aload_n 1, 1, 0, 1, 0, 0, 0), (.arraylength, 1, 0, 0, 0, 0, 0)] (by decide +kernel) (show m_sgl X _ _ _ _ _ = some (8, [some (.ref 41), some (.ref 191)], [.int (Int32.ofNat 60), .int (Int32.ofNat 60), .int (0 : Int32), .ref 191, .int (0 : Int32), .ref 41], (SH, m.1, m.2)) from rfl) ?_
  obtain ⟨q1, hc1, h⟩ := Option.bind_eq_some_iff.mp h
  refine m_R_cS (v := (some (.int q1.1))) (h1 := (SH, q1.2)) (rest := [.int (0 : Int32), .ref 191, .int (0 : Int32), .ref 41]) (lo' := [some (.int (Int32.ofNat 60)), some (.int (Int32.ofNat 60))]) (ml := 2) (by decide) (m_opb_of (ins := .invokestatic 219) (len := 3) (tag := 4) (a := 50) (b := 2) (c := 0) (q := 893) (by decide +kernel)) (by decide +kernel) (Nat.le_of_ble_eq_true rfl) rfl (Nat.le_of_ble_eq_true rfl) rfl rfl (ok_Math_min_II X (d + 0) F _ _ _ _ _ hc1) ?_
  obtain ⟨c0, h⟩ := m_ite_n h
  refine m_R_cpy (by decide) (m_opb_of (ins := .invokestatic 452) (len := 3) (tag := 8) (a := 0) (b := 0) (c := 0) (q := 1391) (by decide +kernel)) (Nat.le_of_ble_eq_true rfl) (m_cpy_of sh_41 sh_191 c0) ?_
  obtain ⟨rfl, rfl⟩ := m_some h
  exact m_R_vret (by decide) (m_opb_of (ins := .return_) (len := 1) (tag := 3) (a := 0) (b := 0) (c := 0) (q := 0) (by decide +kernel))
def f_x_copyAll_42_192 (F : Nat)    (m : mM) : Option (Unit × mM) := ((f_Math_min_II F (Int32.ofNat 60) (Int32.ofNat 60) m).bind fun q1 => (if (0 : Int32) < 0 ∨ (0 : Int32) < 0 ∨ q1.1 < 0 ∨ 60 < (0 : Int32).toNatClampNeg + q1.1.toNatClampNeg ∨ 60 < (0 : Int32).toNatClampNeg + q1.1.toNatClampNeg then none else some ((), ((m_row q1.2.1 192 (va_cpy (q1.2.1 42) (q1.2.1 192) (0 : Int32).toNatClampNeg (0 : Int32).toNatClampNeg q1.1.toNatClampNeg)), q1.2.2))))
theorem ok_x_copyAll_42_192 (X : mX) (d F : Nat) : ∀   (m : mM) (r : Unit) (m' : mM), f_x_copyAll_42_192 F  m = some (r, m') → m_R X (d + 1) 176 0 [some (.ref 42), some (.ref 192)] [] (SH, m) (none, (SH, m')) := by
  intro m r m' h
  unfold f_x_copyAll_42_192 at h
  refine m_R_sg (by decide) [(.aload_n 0, 1, 0, 0, 0, 0, 0), (.iconst 0, 1, 0, 0, 0, 0, 0), (.aload_n 1, 1, 0, 1, 0, 0, 0), (.iconst 0, 1, 0, 0, 0, 0, 0), (.aload_n 0, 1, 0, 0, 0, 0, 0), (.arraylength, 1, 0, 0, 0, 0, 0), (.aload_n 1, 1, 0, 1, 0, 0, 0), (.arraylength, 1, 0, 0, 0, 0, 0)] (by decide +kernel) (show m_sgl X _ _ _ _ _ = some (8, [some (.ref 42), some (.ref 192)], [.int (Int32.ofNat 60), .int (Int32.ofNat 60), .int (0 : Int32), .ref 192, .int (0 : Int32), .ref 42], (SH, m.1, m.2)) from rfl) ?_
  obtain ⟨q1, hc1, h⟩ := Option.bind_eq_some_iff.mp h
  refine m_R_cS (v := (some (.int q1.1))) (h1 := (SH, q1.2)) (rest := [.int (0 : Int32), .ref 192, .int (0 : Int32), .ref 42]) (lo' := [some (.int (Int32.ofNat 60)), some (.int (Int32.ofNat 60))]) (ml := 2) (by decide) (m_opb_of (ins := .invokestatic 219) (len := 3) (tag := 4) (a := 50) (b := 2) (c := 0) (q := 893) (by decide +kernel)) (by decide +kernel) (Nat.le_of_ble_eq_true rfl) rfl (Nat.le_of_ble_eq_true rfl) rfl rfl (ok_Math_min_II X (d + 0) F _ _ _ _ _ hc1) ?_
  obtain ⟨c0, h⟩ := m_ite_n h
  refine m_R_cpy (by decide) (m_opb_of (ins := .invokestatic 452) (len := 3) (tag := 8) (a := 0) (b := 0) (c := 0) (q := 1391) (by decide +kernel)) (Nat.le_of_ble_eq_true rfl) (m_cpy_of sh_42 sh_192 c0) ?_
  obtain ⟨rfl, rfl⟩ := m_some h
  exact m_R_vret (by decide) (m_opb_of (ins := .return_) (len := 1) (tag := 3) (a := 0) (b := 0) (c := 0) (q := 0) (by decide +kernel))
def f_x_copyAll_43_193 (F : Nat)    (m : mM) : Option (Unit × mM) := ((f_Math_min_II F (Int32.ofNat 60) (Int32.ofNat 60) m).bind fun q1 => (if (0 : Int32) < 0 ∨ (0 : Int32) < 0 ∨ q1.1 < 0 ∨ 60 < (0 : Int32).toNatClampNeg + q1.1.toNatClampNeg ∨ 60 < (0 : Int32).toNatClampNeg + q1.1.toNatClampNeg then none else some ((), ((m_row q1.2.1 193 (va_cpy (q1.2.1 43) (q1.2.1 193) (0 : Int32).toNatClampNeg (0 : Int32).toNatClampNeg q1.1.toNatClampNeg)), q1.2.2))))
theorem ok_x_copyAll_43_193 (X : mX) (d F : Nat) : ∀   (m : mM) (r : Unit) (m' : mM), f_x_copyAll_43_193 F  m = some (r, m') → m_R X (d + 1) 176 0 [some (.ref 43), some (.ref 193)] [] (SH, m) (none, (SH, m')) := by
  intro m r m' h
  unfold f_x_copyAll_43_193 at h
  refine m_R_sg (by decide) [(.aload_n 0, 1, 0, 0, 0, 0, 0), (.iconst 0, 1, 0, 0, 0, 0, 0), (.aload_n 1, 1, 0, 1, 0, 0, 0), (.iconst 0, 1, 0, 0, 0, 0, 0), (.aload_n 0, 1, 0, 0, 0, 0, 0), (.arraylength, 1, 0, 0, 0, 0, 0), (.aload_n 1, 1, 0, 1, 0, 0, 0), (.arraylength, 1, 0, 0, 0, 0, 0)] (by decide +kernel) (show m_sgl X _ _ _ _ _ = some (8, [some (.ref 43), some (.ref 193)], [.int (Int32.ofNat 60), .int (Int32.ofNat 60), .int (0 : Int32), .ref 193, .int (0 : Int32), .ref 43], (SH, m.1, m.2)) from rfl) ?_
  obtain ⟨q1, hc1, h⟩ := Option.bind_eq_some_iff.mp h
  refine m_R_cS (v := (some (.int q1.1))) (h1 := (SH, q1.2)) (rest := [.int (0 : Int32), .ref 193, .int (0 : Int32), .ref 43]) (lo' := [some (.int (Int32.ofNat 60)), some (.int (Int32.ofNat 60))]) (ml := 2) (by decide) (m_opb_of (ins := .invokestatic 219) (len := 3) (tag := 4) (a := 50) (b := 2) (c := 0) (q := 893) (by decide +kernel)) (by decide +kernel) (Nat.le_of_ble_eq_true rfl) rfl (Nat.le_of_ble_eq_true rfl) rfl rfl (ok_Math_min_II X (d + 0) F _ _ _ _ _ hc1) ?_
  obtain ⟨c0, h⟩ := m_ite_n h
  refine m_R_cpy (by decide) (m_opb_of (ins := .invokestatic 452) (len := 3) (tag := 8) (a := 0) (b := 0) (c := 0) (q := 1391) (by decide +kernel)) (Nat.le_of_ble_eq_true rfl) (m_cpy_of sh_43 sh_193 c0) ?_
  obtain ⟨rfl, rfl⟩ := m_some h
  exact m_R_vret (by decide) (m_opb_of (ins := .return_) (len := 1) (tag := 3) (a := 0) (b := 0) (c := 0) (q := 0) (by decide +kernel))
def f_x_copyAll_44_194 (F : Nat)    (m : mM) : Option (Unit × mM) := ((f_Math_min_II F (Int32.ofNat 60) (Int32.ofNat 60) m).bind fun q1 => (if (0 : Int32) < 0 ∨ (0 : Int32) < 0 ∨ q1.1 < 0 ∨ 60 < (0 : Int32).toNatClampNeg + q1.1.toNatClampNeg ∨ 60 < (0 : Int32).toNatClampNeg + q1.1.toNatClampNeg then none else some ((), ((m_row q1.2.1 194 (va_cpy (q1.2.1 44) (q1.2.1 194) (0 : Int32).toNatClampNeg (0 : Int32).toNatClampNeg q1.1.toNatClampNeg)), q1.2.2))))
theorem ok_x_copyAll_44_194 (X : mX) (d F : Nat) : ∀   (m : mM) (r : Unit) (m' : mM), f_x_copyAll_44_194 F  m = some (r, m') → m_R X (d + 1) 176 0 [some (.ref 44), some (.ref 194)] [] (SH, m) (none, (SH, m')) := by
  intro m r m' h
  unfold f_x_copyAll_44_194 at h
  refine m_R_sg (by decide) [(.aload_n 0, 1, 0, 0, 0, 0, 0), (.iconst 0, 1, 0, 0, 0, 0, 0), (.aload_n 1, 1, 0, 1, 0, 0, 0), (.iconst 0, 1, 0, 0, 0, 0, 0), (.aload_n 0, 1, 0, 0, 0, 0, 0), (.arraylength, 1, 0, 0, 0, 0, 0), (.aload_n 1, 1, 0, 1, 0, 0, 0), (.arraylength, 1, 0, 0, 0, 0, 0)] (by decide +kernel) (show m_sgl X _ _ _ _ _ = some (8, [some (.ref 44), some (.ref 194)], [.int (Int32.ofNat 60), .int (Int32.ofNat 60), .int (0 : Int32), .ref 194, .int (0 : Int32), .ref 44], (SH, m.1, m.2)) from rfl) ?_
  obtain ⟨q1, hc1, h⟩ := Option.bind_eq_some_iff.mp h
  refine m_R_cS (v := (some (.int q1.1))) (h1 := (SH, q1.2)) (rest := [.int (0 : Int32), .ref 194, .int (0 : Int32), .ref 44]) (lo' := [some (.int (Int32.ofNat 60)), some (.int (Int32.ofNat 60))]) (ml := 2) (by decide) (m_opb_of (ins := .invokestatic 219) (len := 3) (tag := 4) (a := 50) (b := 2) (c := 0) (q := 893) (by decide +kernel)) (by decide +kernel) (Nat.le_of_ble_eq_true rfl) rfl (Nat.le_of_ble_eq_true rfl) rfl rfl (ok_Math_min_II X (d + 0) F _ _ _ _ _ hc1) ?_
  obtain ⟨c0, h⟩ := m_ite_n h
  refine m_R_cpy (by decide) (m_opb_of (ins := .invokestatic 452) (len := 3) (tag := 8) (a := 0) (b := 0) (c := 0) (q := 1391) (by decide +kernel)) (Nat.le_of_ble_eq_true rfl) (m_cpy_of sh_44 sh_194 c0) ?_
  obtain ⟨rfl, rfl⟩ := m_some h
  exact m_R_vret (by decide) (m_opb_of (ins := .return_) (len := 1) (tag := 3) (a := 0) (b := 0) (c := 0) (q := 0) (by decide +kernel))
def f_Papers_become_181_31 (F : Nat)    (m : mM) : Option (Unit × mM) := ((f_x_copyAll_32_182 F m).bind fun q1 => ((f_x_copyAll_33_183 F q1.2).bind fun q2 => ((f_x_copyAll_34_184 F q2.2).bind fun q3 => ((f_x_copyAll_35_185 F q3.2).bind fun q4 => ((f_x_copyAll_36_186 F q4.2).bind fun q5 => ((f_x_copyAll_37_187 F q5.2).bind fun q6 => ((f_x_copyAll_38_188 F q6.2).bind fun q7 => ((f_x_copyAll_39_189 F q7.2).bind fun q8 => ((f_x_copyAll_40_190 F q8.2).bind fun q9 => ((f_x_copyAll_41_191 F q9.2).bind fun q10 => ((f_x_copyAll_42_192 F q10.2).bind fun q11 => ((f_x_copyAll_43_193 F q11.2).bind fun q12 => ((f_x_copyAll_44_194 F q12.2).bind fun q13 => some ((), ((m_up (m_up q13.2.1 181 14 (q13.2.1 31 14)) 181 15 ((m_up q13.2.1 181 14 (q13.2.1 31 14)) 31 15)), q13.2.2)))))))))))))))
theorem ok_Papers_become_181_31 (X : mX) (d F : Nat) : ∀   (m : mM) (r : Unit) (m' : mM), f_Papers_become_181_31 F  m = some (r, m') → m_R X (d + 2) 178 0 [some (.ref 181), some (.ref 31)] [] (SH, m) (none, (SH, m')) := by
  intro m r m' h
  unfold f_Papers_become_181_31 at h
  refine m_R_sg (by decide) [(.aload_n 1, 1, 0, 1, 0, 0, 0), (.getfield 9, 3, 0, 4, 0, 3, 317), (.aload_n 0, 1, 0, 0, 0, 0, 0), (.getfield 9, 3, 0, 4, 0, 3, 317)] (by decide +kernel) (show m_sgl X _ _ _ _ _ = some (8, [some (.ref 181), some (.ref 31)], [.ref 182, .ref 32], (SH, m.1, m.2)) from rfl) ?_
  obtain ⟨q1, hc1, h⟩ := Option.bind_eq_some_iff.mp h
  refine m_R_cS (v := none) (h1 := (SH, q1.2)) (rest := []) (lo' := [some (.ref 32), some (.ref 182)]) (ml := 2) (by decide) (m_opb_of (ins := .invokestatic 55) (len := 3) (tag := 4) (a := 176) (b := 2) (c := 1) (q := 1401) (by decide +kernel)) (by decide +kernel) (Nat.le_of_ble_eq_true rfl) rfl (Nat.le_of_ble_eq_true rfl) rfl rfl (ok_x_copyAll_32_182 X (d + 0) F _ _ _ hc1) ?_
  refine m_R_sg (by decide) [(.aload_n 1, 1, 0, 1, 0, 0, 0), (.getfield 15, 3, 0, 4, 1, 3, 321), (.aload_n 0, 1, 0, 0, 0, 0, 0), (.getfield 15, 3, 0, 4, 1, 3, 321)] (by decide +kernel) (show m_sgl X _ _ _ _ _ = some (19, [some (.ref 181), some (.ref 31)], [.ref 183, .ref 33], (SH, q1.2.1, q1.2.2)) from rfl) ?_
  obtain ⟨q2, hc2, h⟩ := Option.bind_eq_some_iff.mp h
  refine m_R_cS (v := none) (h1 := (SH, q2.2)) (rest := []) (lo' := [some (.ref 33), some (.ref 183)]) (ml := 2) (by decide) (m_opb_of (ins := .invokestatic 55) (len := 3) (tag := 4) (a := 176) (b := 2) (c := 1) (q := 1401) (by decide +kernel)) (by decide +kernel) (Nat.le_of_ble_eq_true rfl) rfl (Nat.le_of_ble_eq_true rfl) rfl rfl (ok_x_copyAll_33_183 X (d + 0) F _ _ _ hc2) ?_
  refine m_R_sg (by decide) [(.aload_n 1, 1, 0, 1, 0, 0, 0), (.getfield 18, 3, 0, 4, 2, 3, 325), (.aload_n 0, 1, 0, 0, 0, 0, 0), (.getfield 18, 3, 0, 4, 2, 3, 325)] (by decide +kernel) (show m_sgl X _ _ _ _ _ = some (30, [some (.ref 181), some (.ref 31)], [.ref 184, .ref 34], (SH, q2.2.1, q2.2.2)) from rfl) ?_
  obtain ⟨q3, hc3, h⟩ := Option.bind_eq_some_iff.mp h
  refine m_R_cS (v := none) (h1 := (SH, q3.2)) (rest := []) (lo' := [some (.ref 34), some (.ref 184)]) (ml := 2) (by decide) (m_opb_of (ins := .invokestatic 55) (len := 3) (tag := 4) (a := 176) (b := 2) (c := 1) (q := 1401) (by decide +kernel)) (by decide +kernel) (Nat.le_of_ble_eq_true rfl) rfl (Nat.le_of_ble_eq_true rfl) rfl rfl (ok_x_copyAll_34_184 X (d + 0) F _ _ _ hc3) ?_
  refine m_R_sg (by decide) [(.aload_n 1, 1, 0, 1, 0, 0, 0), (.getfield 21, 3, 0, 4, 3, 3, 329), (.aload_n 0, 1, 0, 0, 0, 0, 0), (.getfield 21, 3, 0, 4, 3, 3, 329)] (by decide +kernel) (show m_sgl X _ _ _ _ _ = some (41, [some (.ref 181), some (.ref 31)], [.ref 185, .ref 35], (SH, q3.2.1, q3.2.2)) from rfl) ?_
  obtain ⟨q4, hc4, h⟩ := Option.bind_eq_some_iff.mp h
  refine m_R_cS (v := none) (h1 := (SH, q4.2)) (rest := []) (lo' := [some (.ref 35), some (.ref 185)]) (ml := 2) (by decide) (m_opb_of (ins := .invokestatic 55) (len := 3) (tag := 4) (a := 176) (b := 2) (c := 1) (q := 1401) (by decide +kernel)) (by decide +kernel) (Nat.le_of_ble_eq_true rfl) rfl (Nat.le_of_ble_eq_true rfl) rfl rfl (ok_x_copyAll_35_185 X (d + 0) F _ _ _ hc4) ?_
  refine m_R_sg (by decide) [(.aload_n 1, 1, 0, 1, 0, 0, 0), (.getfield 24, 3, 0, 4, 4, 3, 333), (.aload_n 0, 1, 0, 0, 0, 0, 0), (.getfield 24, 3, 0, 4, 4, 3, 333)] (by decide +kernel) (show m_sgl X _ _ _ _ _ = some (52, [some (.ref 181), some (.ref 31)], [.ref 186, .ref 36], (SH, q4.2.1, q4.2.2)) from rfl) ?_
  obtain ⟨q5, hc5, h⟩ := Option.bind_eq_some_iff.mp h
  refine m_R_cS (v := none) (h1 := (SH, q5.2)) (rest := []) (lo' := [some (.ref 36), some (.ref 186)]) (ml := 2) (by decide) (m_opb_of (ins := .invokestatic 55) (len := 3) (tag := 4) (a := 176) (b := 2) (c := 1) (q := 1401) (by decide +kernel)) (by decide +kernel) (Nat.le_of_ble_eq_true rfl) rfl (Nat.le_of_ble_eq_true rfl) rfl rfl (ok_x_copyAll_36_186 X (d + 0) F _ _ _ hc5) ?_
  refine m_R_sg (by decide) [(.aload_n 1, 1, 0, 1, 0, 0, 0), (.getfield 27, 3, 0, 4, 5, 3, 336), (.aload_n 0, 1, 0, 0, 0, 0, 0), (.getfield 27, 3, 0, 4, 5, 3, 336)] (by decide +kernel) (show m_sgl X _ _ _ _ _ = some (63, [some (.ref 181), some (.ref 31)], [.ref 187, .ref 37], (SH, q5.2.1, q5.2.2)) from rfl) ?_
  obtain ⟨q6, hc6, h⟩ := Option.bind_eq_some_iff.mp h
  refine m_R_cS (v := none) (h1 := (SH, q6.2)) (rest := []) (lo' := [some (.ref 37), some (.ref 187)]) (ml := 2) (by decide) (m_opb_of (ins := .invokestatic 55) (len := 3) (tag := 4) (a := 176) (b := 2) (c := 1) (q := 1401) (by decide +kernel)) (by decide +kernel) (Nat.le_of_ble_eq_true rfl) rfl (Nat.le_of_ble_eq_true rfl) rfl rfl (ok_x_copyAll_37_187 X (d + 0) F _ _ _ hc6) ?_
  refine m_R_sg (by decide) [(.aload_n 1, 1, 0, 1, 0, 0, 0), (.getfield 30, 3, 0, 4, 6, 3, 339), (.aload_n 0, 1, 0, 0, 0, 0, 0), (.getfield 30, 3, 0, 4, 6, 3, 339)] (by decide +kernel) (show m_sgl X _ _ _ _ _ = some (74, [some (.ref 181), some (.ref 31)], [.ref 188, .ref 38], (SH, q6.2.1, q6.2.2)) from rfl) ?_
  obtain ⟨q7, hc7, h⟩ := Option.bind_eq_some_iff.mp h
  refine m_R_cS (v := none) (h1 := (SH, q7.2)) (rest := []) (lo' := [some (.ref 38), some (.ref 188)]) (ml := 2) (by decide) (m_opb_of (ins := .invokestatic 55) (len := 3) (tag := 4) (a := 176) (b := 2) (c := 1) (q := 1401) (by decide +kernel)) (by decide +kernel) (Nat.le_of_ble_eq_true rfl) rfl (Nat.le_of_ble_eq_true rfl) rfl rfl (ok_x_copyAll_38_188 X (d + 0) F _ _ _ hc7) ?_
  refine m_R_sg (by decide) [(.aload_n 1, 1, 0, 1, 0, 0, 0), (.getfield 33, 3, 0, 4, 7, 3, 342), (.aload_n 0, 1, 0, 0, 0, 0, 0), (.getfield 33, 3, 0, 4, 7, 3, 342)] (by decide +kernel) (show m_sgl X _ _ _ _ _ = some (85, [some (.ref 181), some (.ref 31)], [.ref 189, .ref 39], (SH, q7.2.1, q7.2.2)) from rfl) ?_
  obtain ⟨q8, hc8, h⟩ := Option.bind_eq_some_iff.mp h
  refine m_R_cS (v := none) (h1 := (SH, q8.2)) (rest := []) (lo' := [some (.ref 39), some (.ref 189)]) (ml := 2) (by decide) (m_opb_of (ins := .invokestatic 55) (len := 3) (tag := 4) (a := 176) (b := 2) (c := 1) (q := 1401) (by decide +kernel)) (by decide +kernel) (Nat.le_of_ble_eq_true rfl) rfl (Nat.le_of_ble_eq_true rfl) rfl rfl (ok_x_copyAll_39_189 X (d + 0) F _ _ _ hc8) ?_
  refine m_R_sg (by decide) [(.aload_n 1, 1, 0, 1, 0, 0, 0), (.getfield 36, 3, 0, 4, 8, 3, 345), (.aload_n 0, 1, 0, 0, 0, 0, 0), (.getfield 36, 3, 0, 4, 8, 3, 345)] (by decide +kernel) (show m_sgl X _ _ _ _ _ = some (96, [some (.ref 181), some (.ref 31)], [.ref 190, .ref 40], (SH, q8.2.1, q8.2.2)) from rfl) ?_
  obtain ⟨q9, hc9, h⟩ := Option.bind_eq_some_iff.mp h
  refine m_R_cS (v := none) (h1 := (SH, q9.2)) (rest := []) (lo' := [some (.ref 40), some (.ref 190)]) (ml := 2) (by decide) (m_opb_of (ins := .invokestatic 55) (len := 3) (tag := 4) (a := 176) (b := 2) (c := 1) (q := 1401) (by decide +kernel)) (by decide +kernel) (Nat.le_of_ble_eq_true rfl) rfl (Nat.le_of_ble_eq_true rfl) rfl rfl (ok_x_copyAll_40_190 X (d + 0) F _ _ _ hc9) ?_
  refine m_R_sg (by decide) [(.aload_n 1, 1, 0, 1, 0, 0, 0), (.getfield 39, 3, 0, 4, 9, 3, 348), (.aload_n 0, 1, 0, 0, 0, 0, 0), (.getfield 39, 3, 0, 4, 9, 3, 348)] (by decide +kernel) (show m_sgl X _ _ _ _ _ = some (107, [some (.ref 181), some (.ref 31)], [.ref 191, .ref 41], (SH, q9.2.1, q9.2.2)) from rfl) ?_
  obtain ⟨q10, hc10, h⟩ := Option.bind_eq_some_iff.mp h
  refine m_R_cS (v := none) (h1 := (SH, q10.2)) (rest := []) (lo' := [some (.ref 41), some (.ref 191)]) (ml := 2) (by decide) (m_opb_of (ins := .invokestatic 55) (len := 3) (tag := 4) (a := 176) (b := 2) (c := 1) (q := 1401) (by decide +kernel)) (by decide +kernel) (Nat.le_of_ble_eq_true rfl) rfl (Nat.le_of_ble_eq_true rfl) rfl rfl (ok_x_copyAll_41_191 X (d + 0) F _ _ _ hc10) ?_
  refine m_R_sg (by decide) [(.aload_n 1, 1, 0, 1, 0, 0, 0), (.getfield 42, 3, 0, 4, 10, 3, 351), (.aload_n 0, 1, 0, 0, 0, 0, 0), (.getfield 42, 3, 0, 4, 10, 3, 351)] (by decide +kernel) (show m_sgl X _ _ _ _ _ = some (118, [some (.ref 181), some (.ref 31)], [.ref 192, .ref 42], (SH, q10.2.1, q10.2.2)) from rfl) ?_
  obtain ⟨q11, hc11, h⟩ := Option.bind_eq_some_iff.mp h
  refine m_R_cS (v := none) (h1 := (SH, q11.2)) (rest := []) (lo' := [some (.ref 42), some (.ref 192)]) (ml := 2) (by decide) (m_opb_of (ins := .invokestatic 55) (len := 3) (tag := 4) (a := 176) (b := 2) (c := 1) (q := 1401) (by decide +kernel)) (by decide +kernel) (Nat.le_of_ble_eq_true rfl) rfl (Nat.le_of_ble_eq_true rfl) rfl rfl (ok_x_copyAll_42_192 X (d + 0) F _ _ _ hc11) ?_
  refine m_R_sg (by decide) [(.aload_n 1, 1, 0, 1, 0, 0, 0), (.getfield 45, 3, 0, 4, 11, 3, 354), (.aload_n 0, 1, 0, 0, 0, 0, 0), (.getfield 45, 3, 0, 4, 11, 3, 354)] (by decide +kernel) (show m_sgl X _ _ _ _ _ = some (129, [some (.ref 181), some (.ref 31)], [.ref 193, .ref 43], (SH, q11.2.1, q11.2.2)) from rfl) ?_
  obtain ⟨q12, hc12, h⟩ := Option.bind_eq_some_iff.mp h
  refine m_R_cS (v := none) (h1 := (SH, q12.2)) (rest := []) (lo' := [some (.ref 43), some (.ref 193)]) (ml := 2) (by decide) (m_opb_of (ins := .invokestatic 55) (len := 3) (tag := 4) (a := 176) (b := 2) (c := 1) (q := 1401) (by decide +kernel)) (by decide +kernel) (Nat.le_of_ble_eq_true rfl) rfl (Nat.le_of_ble_eq_true rfl) rfl rfl (ok_x_copyAll_43_193 X (d + 0) F _ _ _ hc12) ?_
  refine m_R_sg (by decide) [(.aload_n 1, 1, 0, 1, 0, 0, 0), (.getfield 48, 3, 0, 4, 12, 3, 357), (.aload_n 0, 1, 0, 0, 0, 0, 0), (.getfield 48, 3, 0, 4, 12, 3, 357)] (by decide +kernel) (show m_sgl X _ _ _ _ _ = some (140, [some (.ref 181), some (.ref 31)], [.ref 194, .ref 44], (SH, q12.2.1, q12.2.2)) from rfl) ?_
  obtain ⟨q13, hc13, h⟩ := Option.bind_eq_some_iff.mp h
  refine m_R_cS (v := none) (h1 := (SH, q13.2)) (rest := []) (lo' := [some (.ref 44), some (.ref 194)]) (ml := 2) (by decide) (m_opb_of (ins := .invokestatic 55) (len := 3) (tag := 4) (a := 176) (b := 2) (c := 1) (q := 1401) (by decide +kernel)) (by decide +kernel) (Nat.le_of_ble_eq_true rfl) rfl (Nat.le_of_ble_eq_true rfl) rfl rfl (ok_x_copyAll_44_194 X (d + 0) F _ _ _ hc13) ?_
  refine m_R_sg (by decide) [(.aload_n 0, 1, 0, 0, 0, 0, 0), (.aload_n 1, 1, 0, 1, 0, 0, 0), (.getfield 59, 3, 0, 4, 14, 0, 361), (.putfield 59, 3, 0, 4, 14, 0, 361), (.aload_n 0, 1, 0, 0, 0, 0, 0), (.aload_n 1, 1, 0, 1, 0, 0, 0), (.getfield 63, 3, 0, 4, 15, 0, 363), (.putfield 63, 3, 0, 4, 15, 0, 363)] (by decide +kernel) (show m_sgl X _ _ _ _ _ = some (159, [some (.ref 181), some (.ref 31)], [], (SH, (m_up (m_up q13.2.1 181 14 (q13.2.1 31 14)) 181 15 ((m_up q13.2.1 181 14 (q13.2.1 31 14)) 31 15)), q13.2.2)) from rfl) ?_
  obtain ⟨rfl, rfl⟩ := m_some h
  exact m_R_vret (by decide) (m_opb_of (ins := .return_) (len := 1) (tag := 3) (a := 0) (b := 0) (c := 0) (q := 0) (by decide +kernel))
def f_x_copyAll_47_197 (F : Nat)    (m : mM) : Option (Unit × mM) := ((f_Math_min_II F (Int32.ofNat 8) (Int32.ofNat 8) m).bind fun q1 => (if (0 : Int32) < 0 ∨ (0 : Int32) < 0 ∨ q1.1 < 0 ∨ 8 < (0 : Int32).toNatClampNeg + q1.1.toNatClampNeg ∨ 8 < (0 : Int32).toNatClampNeg + q1.1.toNatClampNeg then none else some ((), ((m_row q1.2.1 197 (va_cpy (q1.2.1 47) (q1.2.1 197) (0 : Int32).toNatClampNeg (0 : Int32).toNatClampNeg q1.1.toNatClampNeg)), q1.2.2))))
theorem ok_x_copyAll_47_197 (X : mX) (d F : Nat) : ∀   (m : mM) (r : Unit) (m' : mM), f_x_copyAll_47_197 F  m = some (r, m') → m_R X (d + 1) 176 0 [some (.ref 47), some (.ref 197)] [] (SH, m) (none, (SH, m')) := by
  intro m r m' h
  unfold f_x_copyAll_47_197 at h
  refine m_R_sg (by decide) [(.aload_n 0, 1, 0, 0, 0, 0, 0), (.iconst 0, 1, 0, 0, 0, 0, 0), (.aload_n 1, 1, 0, 1, 0, 0, 0), (.iconst 0, 1, 0, 0, 0, 0, 0), (.aload_n 0, 1, 0, 0, 0, 0, 0), (.arraylength, 1, 0, 0, 0, 0, 0), (.aload_n 1, 1, 0, 1, 0, 0, 0), (.arraylength, 1, 0, 0, 0, 0, 0)] (by decide +kernel) (show m_sgl X _ _ _ _ _ = some (8, [some (.ref 47), some (.ref 197)], [.int (Int32.ofNat 8), .int (Int32.ofNat 8), .int (0 : Int32), .ref 197, .int (0 : Int32), .ref 47], (SH, m.1, m.2)) from rfl) ?_
  obtain ⟨q1, hc1, h⟩ := Option.bind_eq_some_iff.mp h
  refine m_R_cS (v := (some (.int q1.1))) (h1 := (SH, q1.2)) (rest := [.int (0 : Int32), .ref 197, .int (0 : Int32), .ref 47]) (lo' := [some (.int (Int32.ofNat 8)), some (.int (Int32.ofNat 8))]) (ml := 2) (by decide) (m_opb_of (ins := .invokestatic 219) (len := 3) (tag := 4) (a := 50) (b := 2) (c := 0) (q := 893) (by decide +kernel)) (by decide +kernel) (Nat.le_of_ble_eq_true rfl) rfl (Nat.le_of_ble_eq_true rfl) rfl rfl (ok_Math_min_II X (d + 0) F _ _ _ _ _ hc1) ?_
  obtain ⟨c0, h⟩ := m_ite_n h
  refine m_R_cpy (by decide) (m_opb_of (ins := .invokestatic 452) (len := 3) (tag := 8) (a := 0) (b := 0) (c := 0) (q := 1391) (by decide +kernel)) (Nat.le_of_ble_eq_true rfl) (m_cpy_of sh_47 sh_197 c0) ?_
  obtain ⟨rfl, rfl⟩ := m_some h
  exact m_R_vret (by decide) (m_opb_of (ins := .return_) (len := 1) (tag := 3) (a := 0) (b := 0) (c := 0) (q := 0) (by decide +kernel))
def f_x_copyAll_48_198 (F : Nat)    (m : mM) : Option (Unit × mM) := ((f_Math_min_II F (Int32.ofNat 8) (Int32.ofNat 8) m).bind fun q1 => (if (0 : Int32) < 0 ∨ (0 : Int32) < 0 ∨ q1.1 < 0 ∨ 8 < (0 : Int32).toNatClampNeg + q1.1.toNatClampNeg ∨ 8 < (0 : Int32).toNatClampNeg + q1.1.toNatClampNeg then none else some ((), ((m_row q1.2.1 198 (va_cpy (q1.2.1 48) (q1.2.1 198) (0 : Int32).toNatClampNeg (0 : Int32).toNatClampNeg q1.1.toNatClampNeg)), q1.2.2))))
theorem ok_x_copyAll_48_198 (X : mX) (d F : Nat) : ∀   (m : mM) (r : Unit) (m' : mM), f_x_copyAll_48_198 F  m = some (r, m') → m_R X (d + 1) 176 0 [some (.ref 48), some (.ref 198)] [] (SH, m) (none, (SH, m')) := by
  intro m r m' h
  unfold f_x_copyAll_48_198 at h
  refine m_R_sg (by decide) [(.aload_n 0, 1, 0, 0, 0, 0, 0), (.iconst 0, 1, 0, 0, 0, 0, 0), (.aload_n 1, 1, 0, 1, 0, 0, 0), (.iconst 0, 1, 0, 0, 0, 0, 0), (.aload_n 0, 1, 0, 0, 0, 0, 0), (.arraylength, 1, 0, 0, 0, 0, 0), (.aload_n 1, 1, 0, 1, 0, 0, 0), (.arraylength, 1, 0, 0, 0, 0, 0)] (by decide +kernel) (show m_sgl X _ _ _ _ _ = some (8, [some (.ref 48), some (.ref 198)], [.int (Int32.ofNat 8), .int (Int32.ofNat 8), .int (0 : Int32), .ref 198, .int (0 : Int32), .ref 48], (SH, m.1, m.2)) from rfl) ?_
  obtain ⟨q1, hc1, h⟩ := Option.bind_eq_some_iff.mp h
  refine m_R_cS (v := (some (.int q1.1))) (h1 := (SH, q1.2)) (rest := [.int (0 : Int32), .ref 198, .int (0 : Int32), .ref 48]) (lo' := [some (.int (Int32.ofNat 8)), some (.int (Int32.ofNat 8))]) (ml := 2) (by decide) (m_opb_of (ins := .invokestatic 219) (len := 3) (tag := 4) (a := 50) (b := 2) (c := 0) (q := 893) (by decide +kernel)) (by decide +kernel) (Nat.le_of_ble_eq_true rfl) rfl (Nat.le_of_ble_eq_true rfl) rfl rfl (ok_Math_min_II X (d + 0) F _ _ _ _ _ hc1) ?_
  obtain ⟨c0, h⟩ := m_ite_n h
  refine m_R_cpy (by decide) (m_opb_of (ins := .invokestatic 452) (len := 3) (tag := 8) (a := 0) (b := 0) (c := 0) (q := 1391) (by decide +kernel)) (Nat.le_of_ble_eq_true rfl) (m_cpy_of sh_48 sh_198 c0) ?_
  obtain ⟨rfl, rfl⟩ := m_some h
  exact m_R_vret (by decide) (m_opb_of (ins := .return_) (len := 1) (tag := 3) (a := 0) (b := 0) (c := 0) (q := 0) (by decide +kernel))
def f_x_copyAll_49_199 (F : Nat)    (m : mM) : Option (Unit × mM) := ((f_Math_min_II F (Int32.ofNat 8) (Int32.ofNat 8) m).bind fun q1 => (if (0 : Int32) < 0 ∨ (0 : Int32) < 0 ∨ q1.1 < 0 ∨ 8 < (0 : Int32).toNatClampNeg + q1.1.toNatClampNeg ∨ 8 < (0 : Int32).toNatClampNeg + q1.1.toNatClampNeg then none else some ((), ((m_row q1.2.1 199 (va_cpy (q1.2.1 49) (q1.2.1 199) (0 : Int32).toNatClampNeg (0 : Int32).toNatClampNeg q1.1.toNatClampNeg)), q1.2.2))))
theorem ok_x_copyAll_49_199 (X : mX) (d F : Nat) : ∀   (m : mM) (r : Unit) (m' : mM), f_x_copyAll_49_199 F  m = some (r, m') → m_R X (d + 1) 176 0 [some (.ref 49), some (.ref 199)] [] (SH, m) (none, (SH, m')) := by
  intro m r m' h
  unfold f_x_copyAll_49_199 at h
  refine m_R_sg (by decide) [(.aload_n 0, 1, 0, 0, 0, 0, 0), (.iconst 0, 1, 0, 0, 0, 0, 0), (.aload_n 1, 1, 0, 1, 0, 0, 0), (.iconst 0, 1, 0, 0, 0, 0, 0), (.aload_n 0, 1, 0, 0, 0, 0, 0), (.arraylength, 1, 0, 0, 0, 0, 0), (.aload_n 1, 1, 0, 1, 0, 0, 0), (.arraylength, 1, 0, 0, 0, 0, 0)] (by decide +kernel) (show m_sgl X _ _ _ _ _ = some (8, [some (.ref 49), some (.ref 199)], [.int (Int32.ofNat 8), .int (Int32.ofNat 8), .int (0 : Int32), .ref 199, .int (0 : Int32), .ref 49], (SH, m.1, m.2)) from rfl) ?_
  obtain ⟨q1, hc1, h⟩ := Option.bind_eq_some_iff.mp h
  refine m_R_cS (v := (some (.int q1.1))) (h1 := (SH, q1.2)) (rest := [.int (0 : Int32), .ref 199, .int (0 : Int32), .ref 49]) (lo' := [some (.int (Int32.ofNat 8)), some (.int (Int32.ofNat 8))]) (ml := 2) (by decide) (m_opb_of (ins := .invokestatic 219) (len := 3) (tag := 4) (a := 50) (b := 2) (c := 0) (q := 893) (by decide +kernel)) (by decide +kernel) (Nat.le_of_ble_eq_true rfl) rfl (Nat.le_of_ble_eq_true rfl) rfl rfl (ok_Math_min_II X (d + 0) F _ _ _ _ _ hc1) ?_
  obtain ⟨c0, h⟩ := m_ite_n h
  refine m_R_cpy (by decide) (m_opb_of (ins := .invokestatic 452) (len := 3) (tag := 8) (a := 0) (b := 0) (c := 0) (q := 1391) (by decide +kernel)) (Nat.le_of_ble_eq_true rfl) (m_cpy_of sh_49 sh_199 c0) ?_
  obtain ⟨rfl, rfl⟩ := m_some h
  exact m_R_vret (by decide) (m_opb_of (ins := .return_) (len := 1) (tag := 3) (a := 0) (b := 0) (c := 0) (q := 0) (by decide +kernel))
def f_x_copyAll_50_200 (F : Nat)    (m : mM) : Option (Unit × mM) := ((f_Math_min_II F (Int32.ofNat 8) (Int32.ofNat 8) m).bind fun q1 => (if (0 : Int32) < 0 ∨ (0 : Int32) < 0 ∨ q1.1 < 0 ∨ 8 < (0 : Int32).toNatClampNeg + q1.1.toNatClampNeg ∨ 8 < (0 : Int32).toNatClampNeg + q1.1.toNatClampNeg then none else some ((), ((m_row q1.2.1 200 (va_cpy (q1.2.1 50) (q1.2.1 200) (0 : Int32).toNatClampNeg (0 : Int32).toNatClampNeg q1.1.toNatClampNeg)), q1.2.2))))
theorem ok_x_copyAll_50_200 (X : mX) (d F : Nat) : ∀   (m : mM) (r : Unit) (m' : mM), f_x_copyAll_50_200 F  m = some (r, m') → m_R X (d + 1) 176 0 [some (.ref 50), some (.ref 200)] [] (SH, m) (none, (SH, m')) := by
  intro m r m' h
  unfold f_x_copyAll_50_200 at h
  refine m_R_sg (by decide) [(.aload_n 0, 1, 0, 0, 0, 0, 0), (.iconst 0, 1, 0, 0, 0, 0, 0), (.aload_n 1, 1, 0, 1, 0, 0, 0), (.iconst 0, 1, 0, 0, 0, 0, 0), (.aload_n 0, 1, 0, 0, 0, 0, 0), (.arraylength, 1, 0, 0, 0, 0, 0), (.aload_n 1, 1, 0, 1, 0, 0, 0), (.arraylength, 1, 0, 0, 0, 0, 0)] (by decide +kernel) (show m_sgl X _ _ _ _ _ = some (8, [some (.ref 50), some (.ref 200)], [.int (Int32.ofNat 8), .int (Int32.ofNat 8), .int (0 : Int32), .ref 200, .int (0 : Int32), .ref 50], (SH, m.1, m.2)) from rfl) ?_
  obtain ⟨q1, hc1, h⟩ := Option.bind_eq_some_iff.mp h
  refine m_R_cS (v := (some (.int q1.1))) (h1 := (SH, q1.2)) (rest := [.int (0 : Int32), .ref 200, .int (0 : Int32), .ref 50]) (lo' := [some (.int (Int32.ofNat 8)), some (.int (Int32.ofNat 8))]) (ml := 2) (by decide) (m_opb_of (ins := .invokestatic 219) (len := 3) (tag := 4) (a := 50) (b := 2) (c := 0) (q := 893) (by decide +kernel)) (by decide +kernel) (Nat.le_of_ble_eq_true rfl) rfl (Nat.le_of_ble_eq_true rfl) rfl rfl (ok_Math_min_II X (d + 0) F _ _ _ _ _ hc1) ?_
  obtain ⟨c0, h⟩ := m_ite_n h
  refine m_R_cpy (by decide) (m_opb_of (ins := .invokestatic 452) (len := 3) (tag := 8) (a := 0) (b := 0) (c := 0) (q := 1391) (by decide +kernel)) (Nat.le_of_ble_eq_true rfl) (m_cpy_of sh_50 sh_200 c0) ?_
  obtain ⟨rfl, rfl⟩ := m_some h
  exact m_R_vret (by decide) (m_opb_of (ins := .return_) (len := 1) (tag := 3) (a := 0) (b := 0) (c := 0) (q := 0) (by decide +kernel))
def f_x_copyAll_51_201 (F : Nat)    (m : mM) : Option (Unit × mM) := ((f_Math_min_II F (Int32.ofNat 8) (Int32.ofNat 8) m).bind fun q1 => (if (0 : Int32) < 0 ∨ (0 : Int32) < 0 ∨ q1.1 < 0 ∨ 8 < (0 : Int32).toNatClampNeg + q1.1.toNatClampNeg ∨ 8 < (0 : Int32).toNatClampNeg + q1.1.toNatClampNeg then none else some ((), ((m_row q1.2.1 201 (va_cpy (q1.2.1 51) (q1.2.1 201) (0 : Int32).toNatClampNeg (0 : Int32).toNatClampNeg q1.1.toNatClampNeg)), q1.2.2))))
theorem ok_x_copyAll_51_201 (X : mX) (d F : Nat) : ∀   (m : mM) (r : Unit) (m' : mM), f_x_copyAll_51_201 F  m = some (r, m') → m_R X (d + 1) 176 0 [some (.ref 51), some (.ref 201)] [] (SH, m) (none, (SH, m')) := by
  intro m r m' h
  unfold f_x_copyAll_51_201 at h
  refine m_R_sg (by decide) [(.aload_n 0, 1, 0, 0, 0, 0, 0), (.iconst 0, 1, 0, 0, 0, 0, 0), (.aload_n 1, 1, 0, 1, 0, 0, 0), (.iconst 0, 1, 0, 0, 0, 0, 0), (.aload_n 0, 1, 0, 0, 0, 0, 0), (.arraylength, 1, 0, 0, 0, 0, 0), (.aload_n 1, 1, 0, 1, 0, 0, 0), (.arraylength, 1, 0, 0, 0, 0, 0)] (by decide +kernel) (show m_sgl X _ _ _ _ _ = some (8, [some (.ref 51), some (.ref 201)], [.int (Int32.ofNat 8), .int (Int32.ofNat 8), .int (0 : Int32), .ref 201, .int (0 : Int32), .ref 51], (SH, m.1, m.2)) from rfl) ?_
  obtain ⟨q1, hc1, h⟩ := Option.bind_eq_some_iff.mp h
  refine m_R_cS (v := (some (.int q1.1))) (h1 := (SH, q1.2)) (rest := [.int (0 : Int32), .ref 201, .int (0 : Int32), .ref 51]) (lo' := [some (.int (Int32.ofNat 8)), some (.int (Int32.ofNat 8))]) (ml := 2) (by decide) (m_opb_of (ins := .invokestatic 219) (len := 3) (tag := 4) (a := 50) (b := 2) (c := 0) (q := 893) (by decide +kernel)) (by decide +kernel) (Nat.le_of_ble_eq_true rfl) rfl (Nat.le_of_ble_eq_true rfl) rfl rfl (ok_Math_min_II X (d + 0) F _ _ _ _ _ hc1) ?_
  obtain ⟨c0, h⟩ := m_ite_n h
  refine m_R_cpy (by decide) (m_opb_of (ins := .invokestatic 452) (len := 3) (tag := 8) (a := 0) (b := 0) (c := 0) (q := 1391) (by decide +kernel)) (Nat.le_of_ble_eq_true rfl) (m_cpy_of sh_51 sh_201 c0) ?_
  obtain ⟨rfl, rfl⟩ := m_some h
  exact m_R_vret (by decide) (m_opb_of (ins := .return_) (len := 1) (tag := 3) (a := 0) (b := 0) (c := 0) (q := 0) (by decide +kernel))
def f_Trades_become_196_46 (F : Nat)    (m : mM) : Option (Unit × mM) := ((f_x_copyAll_47_197 F m).bind fun q1 => ((f_x_copyAll_48_198 F q1.2).bind fun q2 => ((f_x_copyAll_49_199 F q2.2).bind fun q3 => ((f_x_copyAll_50_200 F q3.2).bind fun q4 => ((f_x_copyAll_51_201 F q4.2).bind fun q5 => some ((), ((m_up q5.2.1 196 5 (q5.2.1 46 5)), q5.2.2)))))))
theorem ok_Trades_become_196_46 (X : mX) (d F : Nat) : ∀   (m : mM) (r : Unit) (m' : mM), f_Trades_become_196_46 F  m = some (r, m') → m_R X (d + 2) 179 0 [some (.ref 196), some (.ref 46)] [] (SH, m) (none, (SH, m')) := by
  intro m r m' h
  unfold f_Trades_become_196_46 at h
  refine m_R_sg (by decide) [(.aload_n 1, 1, 0, 1, 0, 0, 0), (.getfield 9, 3, 0, 9, 0, 3, 406), (.aload_n 0, 1, 0, 0, 0, 0, 0), (.getfield 9, 3, 0, 9, 0, 3, 406)] (by decide +kernel) (show m_sgl X _ _ _ _ _ = some (8, [some (.ref 196), some (.ref 46)], [.ref 197, .ref 47], (SH, m.1, m.2)) from rfl) ?_
  obtain ⟨q1, hc1, h⟩ := Option.bind_eq_some_iff.mp h
  refine m_R_cS (v := none) (h1 := (SH, q1.2)) (rest := []) (lo' := [some (.ref 47), some (.ref 197)]) (ml := 2) (by decide) (m_opb_of (ins := .invokestatic 27) (len := 3) (tag := 4) (a := 176) (b := 2) (c := 1) (q := 1406) (by decide +kernel)) (by decide +kernel) (Nat.le_of_ble_eq_true rfl) rfl (Nat.le_of_ble_eq_true rfl) rfl rfl (ok_x_copyAll_47_197 X (d + 0) F _ _ _ hc1) ?_
  refine m_R_sg (by decide) [(.aload_n 1, 1, 0, 1, 0, 0, 0), (.getfield 15, 3, 0, 9, 1, 3, 408), (.aload_n 0, 1, 0, 0, 0, 0, 0), (.getfield 15, 3, 0, 9, 1, 3, 408)] (by decide +kernel) (show m_sgl X _ _ _ _ _ = some (19, [some (.ref 196), some (.ref 46)], [.ref 198, .ref 48], (SH, q1.2.1, q1.2.2)) from rfl) ?_
  obtain ⟨q2, hc2, h⟩ := Option.bind_eq_some_iff.mp h
  refine m_R_cS (v := none) (h1 := (SH, q2.2)) (rest := []) (lo' := [some (.ref 48), some (.ref 198)]) (ml := 2) (by decide) (m_opb_of (ins := .invokestatic 27) (len := 3) (tag := 4) (a := 176) (b := 2) (c := 1) (q := 1406) (by decide +kernel)) (by decide +kernel) (Nat.le_of_ble_eq_true rfl) rfl (Nat.le_of_ble_eq_true rfl) rfl rfl (ok_x_copyAll_48_198 X (d + 0) F _ _ _ hc2) ?_
  refine m_R_sg (by decide) [(.aload_n 1, 1, 0, 1, 0, 0, 0), (.getfield 18, 3, 0, 9, 2, 3, 410), (.aload_n 0, 1, 0, 0, 0, 0, 0), (.getfield 18, 3, 0, 9, 2, 3, 410)] (by decide +kernel) (show m_sgl X _ _ _ _ _ = some (30, [some (.ref 196), some (.ref 46)], [.ref 199, .ref 49], (SH, q2.2.1, q2.2.2)) from rfl) ?_
  obtain ⟨q3, hc3, h⟩ := Option.bind_eq_some_iff.mp h
  refine m_R_cS (v := none) (h1 := (SH, q3.2)) (rest := []) (lo' := [some (.ref 49), some (.ref 199)]) (ml := 2) (by decide) (m_opb_of (ins := .invokestatic 27) (len := 3) (tag := 4) (a := 176) (b := 2) (c := 1) (q := 1406) (by decide +kernel)) (by decide +kernel) (Nat.le_of_ble_eq_true rfl) rfl (Nat.le_of_ble_eq_true rfl) rfl rfl (ok_x_copyAll_49_199 X (d + 0) F _ _ _ hc3) ?_
  refine m_R_sg (by decide) [(.aload_n 1, 1, 0, 1, 0, 0, 0), (.getfield 21, 3, 0, 9, 3, 3, 412), (.aload_n 0, 1, 0, 0, 0, 0, 0), (.getfield 21, 3, 0, 9, 3, 3, 412)] (by decide +kernel) (show m_sgl X _ _ _ _ _ = some (41, [some (.ref 196), some (.ref 46)], [.ref 200, .ref 50], (SH, q3.2.1, q3.2.2)) from rfl) ?_
  obtain ⟨q4, hc4, h⟩ := Option.bind_eq_some_iff.mp h
  refine m_R_cS (v := none) (h1 := (SH, q4.2)) (rest := []) (lo' := [some (.ref 50), some (.ref 200)]) (ml := 2) (by decide) (m_opb_of (ins := .invokestatic 27) (len := 3) (tag := 4) (a := 176) (b := 2) (c := 1) (q := 1406) (by decide +kernel)) (by decide +kernel) (Nat.le_of_ble_eq_true rfl) rfl (Nat.le_of_ble_eq_true rfl) rfl rfl (ok_x_copyAll_50_200 X (d + 0) F _ _ _ hc4) ?_
  refine m_R_sg (by decide) [(.aload_n 1, 1, 0, 1, 0, 0, 0), (.getfield 24, 3, 0, 9, 4, 3, 414), (.aload_n 0, 1, 0, 0, 0, 0, 0), (.getfield 24, 3, 0, 9, 4, 3, 414)] (by decide +kernel) (show m_sgl X _ _ _ _ _ = some (52, [some (.ref 196), some (.ref 46)], [.ref 201, .ref 51], (SH, q4.2.1, q4.2.2)) from rfl) ?_
  obtain ⟨q5, hc5, h⟩ := Option.bind_eq_some_iff.mp h
  refine m_R_cS (v := none) (h1 := (SH, q5.2)) (rest := []) (lo' := [some (.ref 51), some (.ref 201)]) (ml := 2) (by decide) (m_opb_of (ins := .invokestatic 27) (len := 3) (tag := 4) (a := 176) (b := 2) (c := 1) (q := 1406) (by decide +kernel)) (by decide +kernel) (Nat.le_of_ble_eq_true rfl) rfl (Nat.le_of_ble_eq_true rfl) rfl rfl (ok_x_copyAll_51_201 X (d + 0) F _ _ _ hc5) ?_
  refine m_R_sg (by decide) [(.aload_n 0, 1, 0, 0, 0, 0, 0), (.aload_n 1, 1, 0, 1, 0, 0, 0), (.getfield 31, 3, 0, 9, 5, 0, 417), (.putfield 31, 3, 0, 9, 5, 0, 417)] (by decide +kernel) (show m_sgl X _ _ _ _ _ = some (63, [some (.ref 196), some (.ref 46)], [], (SH, (m_up q5.2.1 196 5 (q5.2.1 46 5)), q5.2.2)) from rfl) ?_
  obtain ⟨rfl, rfl⟩ := m_some h
  exact m_R_vret (by decide) (m_opb_of (ins := .return_) (len := 1) (tag := 3) (a := 0) (b := 0) (c := 0) (q := 0) (by decide +kernel))
def f_x_copyAll_53_203 (F : Nat)    (m : mM) : Option (Unit × mM) := ((f_Math_min_II F (Int32.ofNat 104) (Int32.ofNat 104) m).bind fun q1 => (if (0 : Int32) < 0 ∨ (0 : Int32) < 0 ∨ q1.1 < 0 ∨ 104 < (0 : Int32).toNatClampNeg + q1.1.toNatClampNeg ∨ 104 < (0 : Int32).toNatClampNeg + q1.1.toNatClampNeg then none else some ((), ((m_row q1.2.1 203 (va_cpy (q1.2.1 53) (q1.2.1 203) (0 : Int32).toNatClampNeg (0 : Int32).toNatClampNeg q1.1.toNatClampNeg)), q1.2.2))))
theorem ok_x_copyAll_53_203 (X : mX) (d F : Nat) : ∀   (m : mM) (r : Unit) (m' : mM), f_x_copyAll_53_203 F  m = some (r, m') → m_R X (d + 1) 176 0 [some (.ref 53), some (.ref 203)] [] (SH, m) (none, (SH, m')) := by
  intro m r m' h
  unfold f_x_copyAll_53_203 at h
  refine m_R_sg (by decide) [(.aload_n 0, 1, 0, 0, 0, 0, 0), (.iconst 0, 1, 0, 0, 0, 0, 0), (.aload_n 1, 1, 0, 1, 0, 0, 0), (.iconst 0, 1, 0, 0, 0, 0, 0), (.aload_n 0, 1, 0, 0, 0, 0, 0), (.arraylength, 1, 0, 0, 0, 0, 0), (.aload_n 1, 1, 0, 1, 0, 0, 0), (.arraylength, 1, 0, 0, 0, 0, 0)] (by decide +kernel) (show m_sgl X _ _ _ _ _ = some (8, [some (.ref 53), some (.ref 203)], [.int (Int32.ofNat 104), .int (Int32.ofNat 104), .int (0 : Int32), .ref 203, .int (0 : Int32), .ref 53], (SH, m.1, m.2)) from rfl) ?_
  obtain ⟨q1, hc1, h⟩ := Option.bind_eq_some_iff.mp h
  refine m_R_cS (v := (some (.int q1.1))) (h1 := (SH, q1.2)) (rest := [.int (0 : Int32), .ref 203, .int (0 : Int32), .ref 53]) (lo' := [some (.int (Int32.ofNat 104)), some (.int (Int32.ofNat 104))]) (ml := 2) (by decide) (m_opb_of (ins := .invokestatic 219) (len := 3) (tag := 4) (a := 50) (b := 2) (c := 0) (q := 893) (by decide +kernel)) (by decide +kernel) (Nat.le_of_ble_eq_true rfl) rfl (Nat.le_of_ble_eq_true rfl) rfl rfl (ok_Math_min_II X (d + 0) F _ _ _ _ _ hc1) ?_
  obtain ⟨c0, h⟩ := m_ite_n h
  refine m_R_cpy (by decide) (m_opb_of (ins := .invokestatic 452) (len := 3) (tag := 8) (a := 0) (b := 0) (c := 0) (q := 1391) (by decide +kernel)) (Nat.le_of_ble_eq_true rfl) (m_cpy_of sh_53 sh_203 c0) ?_
  obtain ⟨rfl, rfl⟩ := m_some h
  exact m_R_vret (by decide) (m_opb_of (ins := .return_) (len := 1) (tag := 3) (a := 0) (b := 0) (c := 0) (q := 0) (by decide +kernel))
def f_Seasons_become_202_52 (F : Nat)    (m : mM) : Option (Unit × mM) := ((f_x_copyAll_53_203 F m).bind fun q1 => some ((), q1.2))
theorem ok_Seasons_become_202_52 (X : mX) (d F : Nat) : ∀   (m : mM) (r : Unit) (m' : mM), f_Seasons_become_202_52 F  m = some (r, m') → m_R X (d + 2) 180 0 [some (.ref 202), some (.ref 52)] [] (SH, m) (none, (SH, m')) := by
  intro m r m' h
  unfold f_Seasons_become_202_52 at h
  refine m_R_sg (by decide) [(.aload_n 1, 1, 0, 1, 0, 0, 0), (.getfield 9, 3, 0, 7, 0, 3, 439), (.aload_n 0, 1, 0, 0, 0, 0, 0), (.getfield 9, 3, 0, 7, 0, 3, 439)] (by decide +kernel) (show m_sgl X _ _ _ _ _ = some (8, [some (.ref 202), some (.ref 52)], [.ref 203, .ref 53], (SH, m.1, m.2)) from rfl) ?_
  obtain ⟨q1, hc1, h⟩ := Option.bind_eq_some_iff.mp h
  refine m_R_cS (v := none) (h1 := (SH, q1.2)) (rest := []) (lo' := [some (.ref 53), some (.ref 203)]) (ml := 2) (by decide) (m_opb_of (ins := .invokestatic 15) (len := 3) (tag := 4) (a := 176) (b := 2) (c := 1) (q := 1411) (by decide +kernel)) (by decide +kernel) (Nat.le_of_ble_eq_true rfl) rfl (Nat.le_of_ble_eq_true rfl) rfl rfl (ok_x_copyAll_53_203 X (d + 0) F _ _ _ hc1) ?_
  obtain ⟨rfl, rfl⟩ := m_some h
  exact m_R_vret (by decide) (m_opb_of (ins := .return_) (len := 1) (tag := 3) (a := 0) (b := 0) (c := 0) (q := 0) (by decide +kernel))
def f_x_copyAll_56_206 (F : Nat)    (m : mM) : Option (Unit × mM) := ((f_Math_min_II F (Int32.ofNat 300) (Int32.ofNat 300) m).bind fun q1 => (if (0 : Int32) < 0 ∨ (0 : Int32) < 0 ∨ q1.1 < 0 ∨ 300 < (0 : Int32).toNatClampNeg + q1.1.toNatClampNeg ∨ 300 < (0 : Int32).toNatClampNeg + q1.1.toNatClampNeg then none else some ((), ((m_row q1.2.1 206 (va_cpy (q1.2.1 56) (q1.2.1 206) (0 : Int32).toNatClampNeg (0 : Int32).toNatClampNeg q1.1.toNatClampNeg)), q1.2.2))))
theorem ok_x_copyAll_56_206 (X : mX) (d F : Nat) : ∀   (m : mM) (r : Unit) (m' : mM), f_x_copyAll_56_206 F  m = some (r, m') → m_R X (d + 1) 176 0 [some (.ref 56), some (.ref 206)] [] (SH, m) (none, (SH, m')) := by
  intro m r m' h
  unfold f_x_copyAll_56_206 at h
  refine m_R_sg (by decide) [(.aload_n 0, 1, 0, 0, 0, 0, 0), (.iconst 0, 1, 0, 0, 0, 0, 0), (.aload_n 1, 1, 0, 1, 0, 0, 0), (.iconst 0, 1, 0, 0, 0, 0, 0), (.aload_n 0, 1, 0, 0, 0, 0, 0), (.arraylength, 1, 0, 0, 0, 0, 0), (.aload_n 1, 1, 0, 1, 0, 0, 0), (.arraylength, 1, 0, 0, 0, 0, 0)] (by decide +kernel) (show m_sgl X _ _ _ _ _ = some (8, [some (.ref 56), some (.ref 206)], [.int (Int32.ofNat 300), .int (Int32.ofNat 300), .int (0 : Int32), .ref 206, .int (0 : Int32), .ref 56], (SH, m.1, m.2)) from rfl) ?_
  obtain ⟨q1, hc1, h⟩ := Option.bind_eq_some_iff.mp h
  refine m_R_cS (v := (some (.int q1.1))) (h1 := (SH, q1.2)) (rest := [.int (0 : Int32), .ref 206, .int (0 : Int32), .ref 56]) (lo' := [some (.int (Int32.ofNat 300)), some (.int (Int32.ofNat 300))]) (ml := 2) (by decide) (m_opb_of (ins := .invokestatic 219) (len := 3) (tag := 4) (a := 50) (b := 2) (c := 0) (q := 893) (by decide +kernel)) (by decide +kernel) (Nat.le_of_ble_eq_true rfl) rfl (Nat.le_of_ble_eq_true rfl) rfl rfl (ok_Math_min_II X (d + 0) F _ _ _ _ _ hc1) ?_
  obtain ⟨c0, h⟩ := m_ite_n h
  refine m_R_cpy (by decide) (m_opb_of (ins := .invokestatic 452) (len := 3) (tag := 8) (a := 0) (b := 0) (c := 0) (q := 1391) (by decide +kernel)) (Nat.le_of_ble_eq_true rfl) (m_cpy_of sh_56 sh_206 c0) ?_
  obtain ⟨rfl, rfl⟩ := m_some h
  exact m_R_vret (by decide) (m_opb_of (ins := .return_) (len := 1) (tag := 3) (a := 0) (b := 0) (c := 0) (q := 0) (by decide +kernel))
def f_x_copyAll_57_207 (F : Nat)    (m : mM) : Option (Unit × mM) := ((f_Math_min_II F (Int32.ofNat 300) (Int32.ofNat 300) m).bind fun q1 => (if (0 : Int32) < 0 ∨ (0 : Int32) < 0 ∨ q1.1 < 0 ∨ 300 < (0 : Int32).toNatClampNeg + q1.1.toNatClampNeg ∨ 300 < (0 : Int32).toNatClampNeg + q1.1.toNatClampNeg then none else some ((), ((m_row q1.2.1 207 (va_cpy (q1.2.1 57) (q1.2.1 207) (0 : Int32).toNatClampNeg (0 : Int32).toNatClampNeg q1.1.toNatClampNeg)), q1.2.2))))
theorem ok_x_copyAll_57_207 (X : mX) (d F : Nat) : ∀   (m : mM) (r : Unit) (m' : mM), f_x_copyAll_57_207 F  m = some (r, m') → m_R X (d + 1) 176 0 [some (.ref 57), some (.ref 207)] [] (SH, m) (none, (SH, m')) := by
  intro m r m' h
  unfold f_x_copyAll_57_207 at h
  refine m_R_sg (by decide) [(.aload_n 0, 1, 0, 0, 0, 0, 0), (.iconst 0, 1, 0, 0, 0, 0, 0), (.aload_n 1, 1, 0, 1, 0, 0, 0), (.iconst 0, 1, 0, 0, 0, 0, 0), (.aload_n 0, 1, 0, 0, 0, 0, 0), (.arraylength, 1, 0, 0, 0, 0, 0), (.aload_n 1, 1, 0, 1, 0, 0, 0), (.arraylength, 1, 0, 0, 0, 0, 0)] (by decide +kernel) (show m_sgl X _ _ _ _ _ = some (8, [some (.ref 57), some (.ref 207)], [.int (Int32.ofNat 300), .int (Int32.ofNat 300), .int (0 : Int32), .ref 207, .int (0 : Int32), .ref 57], (SH, m.1, m.2)) from rfl) ?_
  obtain ⟨q1, hc1, h⟩ := Option.bind_eq_some_iff.mp h
  refine m_R_cS (v := (some (.int q1.1))) (h1 := (SH, q1.2)) (rest := [.int (0 : Int32), .ref 207, .int (0 : Int32), .ref 57]) (lo' := [some (.int (Int32.ofNat 300)), some (.int (Int32.ofNat 300))]) (ml := 2) (by decide) (m_opb_of (ins := .invokestatic 219) (len := 3) (tag := 4) (a := 50) (b := 2) (c := 0) (q := 893) (by decide +kernel)) (by decide +kernel) (Nat.le_of_ble_eq_true rfl) rfl (Nat.le_of_ble_eq_true rfl) rfl rfl (ok_Math_min_II X (d + 0) F _ _ _ _ _ hc1) ?_
  obtain ⟨c0, h⟩ := m_ite_n h
  refine m_R_cpy (by decide) (m_opb_of (ins := .invokestatic 452) (len := 3) (tag := 8) (a := 0) (b := 0) (c := 0) (q := 1391) (by decide +kernel)) (Nat.le_of_ble_eq_true rfl) (m_cpy_of sh_57 sh_207 c0) ?_
  obtain ⟨rfl, rfl⟩ := m_some h
  exact m_R_vret (by decide) (m_opb_of (ins := .return_) (len := 1) (tag := 3) (a := 0) (b := 0) (c := 0) (q := 0) (by decide +kernel))
def f_x_copyAll_58_208 (F : Nat)    (m : mM) : Option (Unit × mM) := ((f_Math_min_II F (Int32.ofNat 400) (Int32.ofNat 400) m).bind fun q1 => (if (0 : Int32) < 0 ∨ (0 : Int32) < 0 ∨ q1.1 < 0 ∨ 400 < (0 : Int32).toNatClampNeg + q1.1.toNatClampNeg ∨ 400 < (0 : Int32).toNatClampNeg + q1.1.toNatClampNeg then none else some ((), ((m_row q1.2.1 208 (va_cpy (q1.2.1 58) (q1.2.1 208) (0 : Int32).toNatClampNeg (0 : Int32).toNatClampNeg q1.1.toNatClampNeg)), q1.2.2))))
theorem ok_x_copyAll_58_208 (X : mX) (d F : Nat) : ∀   (m : mM) (r : Unit) (m' : mM), f_x_copyAll_58_208 F  m = some (r, m') → m_R X (d + 1) 176 0 [some (.ref 58), some (.ref 208)] [] (SH, m) (none, (SH, m')) := by
  intro m r m' h
  unfold f_x_copyAll_58_208 at h
  refine m_R_sg (by decide) [(.aload_n 0, 1, 0, 0, 0, 0, 0), (.iconst 0, 1, 0, 0, 0, 0, 0), (.aload_n 1, 1, 0, 1, 0, 0, 0), (.iconst 0, 1, 0, 0, 0, 0, 0), (.aload_n 0, 1, 0, 0, 0, 0, 0), (.arraylength, 1, 0, 0, 0, 0, 0), (.aload_n 1, 1, 0, 1, 0, 0, 0), (.arraylength, 1, 0, 0, 0, 0, 0)] (by decide +kernel) (show m_sgl X _ _ _ _ _ = some (8, [some (.ref 58), some (.ref 208)], [.int (Int32.ofNat 400), .int (Int32.ofNat 400), .int (0 : Int32), .ref 208, .int (0 : Int32), .ref 58], (SH, m.1, m.2)) from rfl) ?_
  obtain ⟨q1, hc1, h⟩ := Option.bind_eq_some_iff.mp h
  refine m_R_cS (v := (some (.int q1.1))) (h1 := (SH, q1.2)) (rest := [.int (0 : Int32), .ref 208, .int (0 : Int32), .ref 58]) (lo' := [some (.int (Int32.ofNat 400)), some (.int (Int32.ofNat 400))]) (ml := 2) (by decide) (m_opb_of (ins := .invokestatic 219) (len := 3) (tag := 4) (a := 50) (b := 2) (c := 0) (q := 893) (by decide +kernel)) (by decide +kernel) (Nat.le_of_ble_eq_true rfl) rfl (Nat.le_of_ble_eq_true rfl) rfl rfl (ok_Math_min_II X (d + 0) F _ _ _ _ _ hc1) ?_
  obtain ⟨c0, h⟩ := m_ite_n h
  refine m_R_cpy (by decide) (m_opb_of (ins := .invokestatic 452) (len := 3) (tag := 8) (a := 0) (b := 0) (c := 0) (q := 1391) (by decide +kernel)) (Nat.le_of_ble_eq_true rfl) (m_cpy_of sh_58 sh_208 c0) ?_
  obtain ⟨rfl, rfl⟩ := m_some h
  exact m_R_vret (by decide) (m_opb_of (ins := .return_) (len := 1) (tag := 3) (a := 0) (b := 0) (c := 0) (q := 0) (by decide +kernel))
def f_x_copyAll_59_209 (F : Nat)    (m : mM) : Option (Unit × mM) := ((f_Math_min_II F (Int32.ofNat 400) (Int32.ofNat 400) m).bind fun q1 => (if (0 : Int32) < 0 ∨ (0 : Int32) < 0 ∨ q1.1 < 0 ∨ 400 < (0 : Int32).toNatClampNeg + q1.1.toNatClampNeg ∨ 400 < (0 : Int32).toNatClampNeg + q1.1.toNatClampNeg then none else some ((), ((m_row q1.2.1 209 (va_cpy (q1.2.1 59) (q1.2.1 209) (0 : Int32).toNatClampNeg (0 : Int32).toNatClampNeg q1.1.toNatClampNeg)), q1.2.2))))
theorem ok_x_copyAll_59_209 (X : mX) (d F : Nat) : ∀   (m : mM) (r : Unit) (m' : mM), f_x_copyAll_59_209 F  m = some (r, m') → m_R X (d + 1) 176 0 [some (.ref 59), some (.ref 209)] [] (SH, m) (none, (SH, m')) := by
  intro m r m' h
  unfold f_x_copyAll_59_209 at h
  refine m_R_sg (by decide) [(.aload_n 0, 1, 0, 0, 0, 0, 0), (.iconst 0, 1, 0, 0, 0, 0, 0), (.aload_n 1, 1, 0, 1, 0, 0, 0), (.iconst 0, 1, 0, 0, 0, 0, 0), (.aload_n 0, 1, 0, 0, 0, 0, 0), (.arraylength, 1, 0, 0, 0, 0, 0), (.aload_n 1, 1, 0, 1, 0, 0, 0), (.arraylength, 1, 0, 0, 0, 0, 0)] (by decide +kernel) (show m_sgl X _ _ _ _ _ = some (8, [some (.ref 59), some (.ref 209)], [.int (Int32.ofNat 400), .int (Int32.ofNat 400), .int (0 : Int32), .ref 209, .int (0 : Int32), .ref 59], (SH, m.1, m.2)) from rfl) ?_
  obtain ⟨q1, hc1, h⟩ := Option.bind_eq_some_iff.mp h
  refine m_R_cS (v := (some (.int q1.1))) (h1 := (SH, q1.2)) (rest := [.int (0 : Int32), .ref 209, .int (0 : Int32), .ref 59]) (lo' := [some (.int (Int32.ofNat 400)), some (.int (Int32.ofNat 400))]) (ml := 2) (by decide) (m_opb_of (ins := .invokestatic 219) (len := 3) (tag := 4) (a := 50) (b := 2) (c := 0) (q := 893) (by decide +kernel)) (by decide +kernel) (Nat.le_of_ble_eq_true rfl) rfl (Nat.le_of_ble_eq_true rfl) rfl rfl (ok_Math_min_II X (d + 0) F _ _ _ _ _ hc1) ?_
  obtain ⟨c0, h⟩ := m_ite_n h
  refine m_R_cpy (by decide) (m_opb_of (ins := .invokestatic 452) (len := 3) (tag := 8) (a := 0) (b := 0) (c := 0) (q := 1391) (by decide +kernel)) (Nat.le_of_ble_eq_true rfl) (m_cpy_of sh_59 sh_209 c0) ?_
  obtain ⟨rfl, rfl⟩ := m_some h
  exact m_R_vret (by decide) (m_opb_of (ins := .return_) (len := 1) (tag := 3) (a := 0) (b := 0) (c := 0) (q := 0) (by decide +kernel))
def f_x_copyAll_60_210 (F : Nat)    (m : mM) : Option (Unit × mM) := ((f_Math_min_II F (Int32.ofNat 400) (Int32.ofNat 400) m).bind fun q1 => (if (0 : Int32) < 0 ∨ (0 : Int32) < 0 ∨ q1.1 < 0 ∨ 400 < (0 : Int32).toNatClampNeg + q1.1.toNatClampNeg ∨ 400 < (0 : Int32).toNatClampNeg + q1.1.toNatClampNeg then none else some ((), ((m_row q1.2.1 210 (va_cpy (q1.2.1 60) (q1.2.1 210) (0 : Int32).toNatClampNeg (0 : Int32).toNatClampNeg q1.1.toNatClampNeg)), q1.2.2))))
theorem ok_x_copyAll_60_210 (X : mX) (d F : Nat) : ∀   (m : mM) (r : Unit) (m' : mM), f_x_copyAll_60_210 F  m = some (r, m') → m_R X (d + 1) 176 0 [some (.ref 60), some (.ref 210)] [] (SH, m) (none, (SH, m')) := by
  intro m r m' h
  unfold f_x_copyAll_60_210 at h
  refine m_R_sg (by decide) [(.aload_n 0, 1, 0, 0, 0, 0, 0), (.iconst 0, 1, 0, 0, 0, 0, 0), (.aload_n 1, 1, 0, 1, 0, 0, 0), (.iconst 0, 1, 0, 0, 0, 0, 0), (.aload_n 0, 1, 0, 0, 0, 0, 0), (.arraylength, 1, 0, 0, 0, 0, 0), (.aload_n 1, 1, 0, 1, 0, 0, 0), (.arraylength, 1, 0, 0, 0, 0, 0)] (by decide +kernel) (show m_sgl X _ _ _ _ _ = some (8, [some (.ref 60), some (.ref 210)], [.int (Int32.ofNat 400), .int (Int32.ofNat 400), .int (0 : Int32), .ref 210, .int (0 : Int32), .ref 60], (SH, m.1, m.2)) from rfl) ?_
  obtain ⟨q1, hc1, h⟩ := Option.bind_eq_some_iff.mp h
  refine m_R_cS (v := (some (.int q1.1))) (h1 := (SH, q1.2)) (rest := [.int (0 : Int32), .ref 210, .int (0 : Int32), .ref 60]) (lo' := [some (.int (Int32.ofNat 400)), some (.int (Int32.ofNat 400))]) (ml := 2) (by decide) (m_opb_of (ins := .invokestatic 219) (len := 3) (tag := 4) (a := 50) (b := 2) (c := 0) (q := 893) (by decide +kernel)) (by decide +kernel) (Nat.le_of_ble_eq_true rfl) rfl (Nat.le_of_ble_eq_true rfl) rfl rfl (ok_Math_min_II X (d + 0) F _ _ _ _ _ hc1) ?_
  obtain ⟨c0, h⟩ := m_ite_n h
  refine m_R_cpy (by decide) (m_opb_of (ins := .invokestatic 452) (len := 3) (tag := 8) (a := 0) (b := 0) (c := 0) (q := 1391) (by decide +kernel)) (Nat.le_of_ble_eq_true rfl) (m_cpy_of sh_60 sh_210 c0) ?_
  obtain ⟨rfl, rfl⟩ := m_some h
  exact m_R_vret (by decide) (m_opb_of (ins := .return_) (len := 1) (tag := 3) (a := 0) (b := 0) (c := 0) (q := 0) (by decide +kernel))
def f_x_copyAll_61_211 (F : Nat)    (m : mM) : Option (Unit × mM) := ((f_Math_min_II F (Int32.ofNat 16) (Int32.ofNat 16) m).bind fun q1 => (if (0 : Int32) < 0 ∨ (0 : Int32) < 0 ∨ q1.1 < 0 ∨ 16 < (0 : Int32).toNatClampNeg + q1.1.toNatClampNeg ∨ 16 < (0 : Int32).toNatClampNeg + q1.1.toNatClampNeg then none else some ((), ((m_row q1.2.1 211 (va_cpy (q1.2.1 61) (q1.2.1 211) (0 : Int32).toNatClampNeg (0 : Int32).toNatClampNeg q1.1.toNatClampNeg)), q1.2.2))))
theorem ok_x_copyAll_61_211 (X : mX) (d F : Nat) : ∀   (m : mM) (r : Unit) (m' : mM), f_x_copyAll_61_211 F  m = some (r, m') → m_R X (d + 1) 176 0 [some (.ref 61), some (.ref 211)] [] (SH, m) (none, (SH, m')) := by
  intro m r m' h
  unfold f_x_copyAll_61_211 at h
  refine m_R_sg (by decide) [(.aload_n 0, 1, 0, 0, 0, 0, 0), (.iconst 0, 1, 0, 0, 0, 0, 0), (.aload_n 1, 1, 0, 1, 0, 0, 0), (.iconst 0, 1, 0, 0, 0, 0, 0), (.aload_n 0, 1, 0, 0, 0, 0, 0), (.arraylength, 1, 0, 0, 0, 0, 0), (.aload_n 1, 1, 0, 1, 0, 0, 0), (.arraylength, 1, 0, 0, 0, 0, 0)] (by decide +kernel) (show m_sgl X _ _ _ _ _ = some (8, [some (.ref 61), some (.ref 211)], [.int (Int32.ofNat 16), .int (Int32.ofNat 16), .int (0 : Int32), .ref 211, .int (0 : Int32), .ref 61], (SH, m.1, m.2)) from rfl) ?_
  obtain ⟨q1, hc1, h⟩ := Option.bind_eq_some_iff.mp h
  refine m_R_cS (v := (some (.int q1.1))) (h1 := (SH, q1.2)) (rest := [.int (0 : Int32), .ref 211, .int (0 : Int32), .ref 61]) (lo' := [some (.int (Int32.ofNat 16)), some (.int (Int32.ofNat 16))]) (ml := 2) (by decide) (m_opb_of (ins := .invokestatic 219) (len := 3) (tag := 4) (a := 50) (b := 2) (c := 0) (q := 893) (by decide +kernel)) (by decide +kernel) (Nat.le_of_ble_eq_true rfl) rfl (Nat.le_of_ble_eq_true rfl) rfl rfl (ok_Math_min_II X (d + 0) F _ _ _ _ _ hc1) ?_
  obtain ⟨c0, h⟩ := m_ite_n h
  refine m_R_cpy (by decide) (m_opb_of (ins := .invokestatic 452) (len := 3) (tag := 8) (a := 0) (b := 0) (c := 0) (q := 1391) (by decide +kernel)) (Nat.le_of_ble_eq_true rfl) (m_cpy_of sh_61 sh_211 c0) ?_
  obtain ⟨rfl, rfl⟩ := m_some h
  exact m_R_vret (by decide) (m_opb_of (ins := .return_) (len := 1) (tag := 3) (a := 0) (b := 0) (c := 0) (q := 0) (by decide +kernel))
def f_Notes_become_205_55_90 (F : Nat)    (m : mM) : Option (Unit × mM) := some ((), ((m_up (m_up (m_up m.1 205 10 (m.1 55 10)) 205 11 ((m_up m.1 205 10 (m.1 55 10)) 55 11)) 205 12 ((m_up (m_up m.1 205 10 (m.1 55 10)) 205 11 ((m_up m.1 205 10 (m.1 55 10)) 55 11)) 55 12)), m.2))
theorem ok_Notes_become_205_55_90 (X : mX) (d F : Nat) : ∀   (m : mM) (r : Unit) (m' : mM), f_Notes_become_205_55_90 F  m = some (r, m') → m_R X (d + 2) 181 90 [some (.ref 205), some (.ref 55)] [] (SH, m) (none, (SH, m')) := by
  intro m r m' h
  unfold f_Notes_become_205_55_90 at h
  refine m_R_sg (by decide) [(.aload_n 0, 1, 0, 0, 0, 0, 0), (.aload_n 1, 1, 0, 1, 0, 0, 0), (.getfield 48, 3, 0, 3, 10, 0, 470), (.putfield 48, 3, 0, 3, 10, 0, 470), (.aload_n 0, 1, 0, 0, 0, 0, 0), (.aload_n 1, 1, 0, 1, 0, 0, 0), (.getfield 51, 3, 0, 3, 11, 0, 472), (.putfield 51, 3, 0, 3, 11, 0, 472), (.aload_n 0, 1, 0, 0, 0, 0, 0), (.aload_n 1, 1, 0, 1, 0, 0, 0), (.getfield 54, 3, 0, 3, 12, 0, 474), (.putfield 54, 3, 0, 3, 12, 0, 474)] (by decide +kernel) (show m_sgl X _ _ _ _ _ = some (114, [some (.ref 205), some (.ref 55)], [], (SH, (m_up (m_up (m_up m.1 205 10 (m.1 55 10)) 205 11 ((m_up m.1 205 10 (m.1 55 10)) 55 11)) 205 12 ((m_up (m_up m.1 205 10 (m.1 55 10)) 205 11 ((m_up m.1 205 10 (m.1 55 10)) 55 11)) 55 12)), m.2)) from rfl) ?_
  obtain ⟨rfl, rfl⟩ := m_some h
  exact m_R_vret (by decide) (m_opb_of (ins := .return_) (len := 1) (tag := 3) (a := 0) (b := 0) (c := 0) (q := 0) (by decide +kernel))
def f_Notes_become_205_55 (F : Nat)    (m : mM) : Option (Unit × mM) := ((f_x_copyAll_56_206 F m).bind fun q1 => ((f_x_copyAll_57_207 F q1.2).bind fun q2 => ((f_x_copyAll_58_208 F q2.2).bind fun q3 => ((f_x_copyAll_59_209 F q3.2).bind fun q4 => ((f_x_copyAll_60_210 F q4.2).bind fun q5 => ((f_x_copyAll_61_211 F q5.2).bind fun q6 => f_Notes_become_205_55_90 F ((m_up (m_up (m_up q6.2.1 205 7 (q6.2.1 55 7)) 205 8 ((m_up q6.2.1 205 7 (q6.2.1 55 7)) 55 8)) 205 9 ((m_up (m_up q6.2.1 205 7 (q6.2.1 55 7)) 205 8 ((m_up q6.2.1 205 7 (q6.2.1 55 7)) 55 8)) 55 9)), q6.2.2)))))))
theorem ok_Notes_become_205_55 (X : mX) (d F : Nat) : ∀   (m : mM) (r : Unit) (m' : mM), f_Notes_become_205_55 F  m = some (r, m') → m_R X (d + 2) 181 0 [some (.ref 205), some (.ref 55)] [] (SH, m) (none, (SH, m')) := by
  intro m r m' h
  unfold f_Notes_become_205_55 at h
  refine m_R_sg (by decide) [(.aload_n 1, 1, 0, 1, 0, 0, 0), (.getfield 9, 3, 0, 3, 1, 3, 450), (.aload_n 0, 1, 0, 0, 0, 0, 0), (.getfield 9, 3, 0, 3, 1, 3, 450)] (by decide +kernel) (show m_sgl X _ _ _ _ _ = some (8, [some (.ref 205), some (.ref 55)], [.ref 206, .ref 56], (SH, m.1, m.2)) from rfl) ?_
  obtain ⟨q1, hc1, h⟩ := Option.bind_eq_some_iff.mp h
  refine m_R_cS (v := none) (h1 := (SH, q1.2)) (rest := []) (lo' := [some (.ref 56), some (.ref 206)]) (ml := 2) (by decide) (m_opb_of (ins := .invokestatic 34) (len := 3) (tag := 4) (a := 176) (b := 2) (c := 1) (q := 1416) (by decide +kernel)) (by decide +kernel) (Nat.le_of_ble_eq_true rfl) rfl (Nat.le_of_ble_eq_true rfl) rfl rfl (ok_x_copyAll_56_206 X (d + 0) F _ _ _ hc1) ?_
  refine m_R_sg (by decide) [(.aload_n 1, 1, 0, 1, 0, 0, 0), (.getfield 15, 3, 0, 3, 2, 3, 452), (.aload_n 0, 1, 0, 0, 0, 0, 0), (.getfield 15, 3, 0, 3, 2, 3, 452)] (by decide +kernel) (show m_sgl X _ _ _ _ _ = some (19, [some (.ref 205), some (.ref 55)], [.ref 207, .ref 57], (SH, q1.2.1, q1.2.2)) from rfl) ?_
  obtain ⟨q2, hc2, h⟩ := Option.bind_eq_some_iff.mp h
  refine m_R_cS (v := none) (h1 := (SH, q2.2)) (rest := []) (lo' := [some (.ref 57), some (.ref 207)]) (ml := 2) (by decide) (m_opb_of (ins := .invokestatic 34) (len := 3) (tag := 4) (a := 176) (b := 2) (c := 1) (q := 1416) (by decide +kernel)) (by decide +kernel) (Nat.le_of_ble_eq_true rfl) rfl (Nat.le_of_ble_eq_true rfl) rfl rfl (ok_x_copyAll_57_207 X (d + 0) F _ _ _ hc2) ?_
  refine m_R_sg (by decide) [(.aload_n 1, 1, 0, 1, 0, 0, 0), (.getfield 18, 3, 0, 3, 3, 3, 453), (.aload_n 0, 1, 0, 0, 0, 0, 0), (.getfield 18, 3, 0, 3, 3, 3, 453)] (by decide +kernel) (show m_sgl X _ _ _ _ _ = some (30, [some (.ref 205), some (.ref 55)], [.ref 208, .ref 58], (SH, q2.2.1, q2.2.2)) from rfl) ?_
  obtain ⟨q3, hc3, h⟩ := Option.bind_eq_some_iff.mp h
  refine m_R_cS (v := none) (h1 := (SH, q3.2)) (rest := []) (lo' := [some (.ref 58), some (.ref 208)]) (ml := 2) (by decide) (m_opb_of (ins := .invokestatic 34) (len := 3) (tag := 4) (a := 176) (b := 2) (c := 1) (q := 1416) (by decide +kernel)) (by decide +kernel) (Nat.le_of_ble_eq_true rfl) rfl (Nat.le_of_ble_eq_true rfl) rfl rfl (ok_x_copyAll_58_208 X (d + 0) F _ _ _ hc3) ?_
  refine m_R_sg (by decide) [(.aload_n 1, 1, 0, 1, 0, 0, 0), (.getfield 21, 3, 0, 3, 4, 3, 456), (.aload_n 0, 1, 0, 0, 0, 0, 0), (.getfield 21, 3, 0, 3, 4, 3, 456)] (by decide +kernel) (show m_sgl X _ _ _ _ _ = some (41, [some (.ref 205), some (.ref 55)], [.ref 209, .ref 59], (SH, q3.2.1, q3.2.2)) from rfl) ?_
  obtain ⟨q4, hc4, h⟩ := Option.bind_eq_some_iff.mp h
  refine m_R_cS (v := none) (h1 := (SH, q4.2)) (rest := []) (lo' := [some (.ref 59), some (.ref 209)]) (ml := 2) (by decide) (m_opb_of (ins := .invokestatic 34) (len := 3) (tag := 4) (a := 176) (b := 2) (c := 1) (q := 1416) (by decide +kernel)) (by decide +kernel) (Nat.le_of_ble_eq_true rfl) rfl (Nat.le_of_ble_eq_true rfl) rfl rfl (ok_x_copyAll_59_209 X (d + 0) F _ _ _ hc4) ?_
  refine m_R_sg (by decide) [(.aload_n 1, 1, 0, 1, 0, 0, 0), (.getfield 24, 3, 0, 3, 5, 3, 458), (.aload_n 0, 1, 0, 0, 0, 0, 0), (.getfield 24, 3, 0, 3, 5, 3, 458)] (by decide +kernel) (show m_sgl X _ _ _ _ _ = some (52, [some (.ref 205), some (.ref 55)], [.ref 210, .ref 60], (SH, q4.2.1, q4.2.2)) from rfl) ?_
  obtain ⟨q5, hc5, h⟩ := Option.bind_eq_some_iff.mp h
  refine m_R_cS (v := none) (h1 := (SH, q5.2)) (rest := []) (lo' := [some (.ref 60), some (.ref 210)]) (ml := 2) (by decide) (m_opb_of (ins := .invokestatic 34) (len := 3) (tag := 4) (a := 176) (b := 2) (c := 1) (q := 1416) (by decide +kernel)) (by decide +kernel) (Nat.le_of_ble_eq_true rfl) rfl (Nat.le_of_ble_eq_true rfl) rfl rfl (ok_x_copyAll_60_210 X (d + 0) F _ _ _ hc5) ?_
  refine m_R_sg (by decide) [(.aload_n 1, 1, 0, 1, 0, 0, 0), (.getfield 27, 3, 0, 3, 6, 3, 460), (.aload_n 0, 1, 0, 0, 0, 0, 0), (.getfield 27, 3, 0, 3, 6, 3, 460)] (by decide +kernel) (show m_sgl X _ _ _ _ _ = some (63, [some (.ref 205), some (.ref 55)], [.ref 211, .ref 61], (SH, q5.2.1, q5.2.2)) from rfl) ?_
  obtain ⟨q6, hc6, h⟩ := Option.bind_eq_some_iff.mp h
  refine m_R_cS (v := none) (h1 := (SH, q6.2)) (rest := []) (lo' := [some (.ref 61), some (.ref 211)]) (ml := 2) (by decide) (m_opb_of (ins := .invokestatic 34) (len := 3) (tag := 4) (a := 176) (b := 2) (c := 1) (q := 1416) (by decide +kernel)) (by decide +kernel) (Nat.le_of_ble_eq_true rfl) rfl (Nat.le_of_ble_eq_true rfl) rfl rfl (ok_x_copyAll_61_211 X (d + 0) F _ _ _ hc6) ?_
  refine m_R_sg (by decide) [(.aload_n 0, 1, 0, 0, 0, 0, 0), (.aload_n 1, 1, 0, 1, 0, 0, 0), (.getfield 38, 3, 0, 3, 7, 0, 463), (.putfield 38, 3, 0, 3, 7, 0, 463), (.aload_n 0, 1, 0, 0, 0, 0, 0), (.aload_n 1, 1, 0, 1, 0, 0, 0), (.getfield 42, 3, 0, 3, 8, 0, 466), (.putfield 42, 3, 0, 3, 8, 0, 466), (.aload_n 0, 1, 0, 0, 0, 0, 0), (.aload_n 1, 1, 0, 1, 0, 0, 0), (.getfield 45, 3, 0, 3, 9, 0, 467), (.putfield 45, 3, 0, 3, 9, 0, 467)] (by decide +kernel) (show m_sgl X _ _ _ _ _ = some (90, [some (.ref 205), some (.ref 55)], [], (SH, (m_up (m_up (m_up q6.2.1 205 7 (q6.2.1 55 7)) 205 8 ((m_up q6.2.1 205 7 (q6.2.1 55 7)) 55 8)) 205 9 ((m_up (m_up q6.2.1 205 7 (q6.2.1 55 7)) 205 8 ((m_up q6.2.1 205 7 (q6.2.1 55 7)) 55 8)) 55 9)), q6.2.2)) from rfl) ?_
  exact ok_Notes_become_205_55_90 X d F _ _ _ h
def f_World_become_166_16_90 (F : Nat)    (m : mM) : Option (Unit × mM) := some ((), ((m_up (m_up (m_up m.1 166 12 (m.1 16 12)) 166 13 ((m_up m.1 166 12 (m.1 16 12)) 16 13)) 166 14 ((m_up (m_up m.1 166 12 (m.1 16 12)) 166 13 ((m_up m.1 166 12 (m.1 16 12)) 16 13)) 16 14)), m.2))
theorem ok_World_become_166_16_90 (X : mX) (d F : Nat) : ∀   (m : mM) (r : Unit) (m' : mM), f_World_become_166_16_90 F  m = some (r, m') → m_R X (d + 3) 174 90 [some (.ref 166), some (.ref 16)] [] (SH, m) (none, (SH, m')) := by
  intro m r m' h
  unfold f_World_become_166_16_90 at h
  refine m_R_sg (by decide) [(.aload_n 0, 1, 0, 0, 0, 0, 0), (.aload_n 1, 1, 0, 1, 0, 0, 0), (.getfield 101, 3, 0, 10, 12, 0, 526), (.putfield 101, 3, 0, 10, 12, 0, 526), (.aload_n 0, 1, 0, 0, 0, 0, 0), (.aload_n 1, 1, 0, 1, 0, 0, 0), (.getfield 56, 3, 0, 10, 13, 0, 528), (.putfield 56, 3, 0, 10, 13, 0, 528), (.aload_n 0, 1, 0, 0, 0, 0, 0), (.aload_n 1, 1, 0, 1, 0, 0, 0), (.getfield 104, 3, 0, 10, 14, 0, 530), (.putfield 104, 3, 0, 10, 14, 0, 530)] (by decide +kernel) (show m_sgl X _ _ _ _ _ = some (114, [some (.ref 166), some (.ref 16)], [], (SH, (m_up (m_up (m_up m.1 166 12 (m.1 16 12)) 166 13 ((m_up m.1 166 12 (m.1 16 12)) 16 13)) 166 14 ((m_up (m_up m.1 166 12 (m.1 16 12)) 166 13 ((m_up m.1 166 12 (m.1 16 12)) 16 13)) 16 14)), m.2)) from rfl) ?_
  obtain ⟨rfl, rfl⟩ := m_some h
  exact m_R_vret (by decide) (m_opb_of (ins := .return_) (len := 1) (tag := 3) (a := 0) (b := 0) (c := 0) (q := 0) (by decide +kernel))
def f_World_become_166_16 (F : Nat)    (m : mM) : Option (Unit × mM) := ((f_Land_become_167_17 F m).bind fun q1 => ((f_Houses_become_169_19 F q1.2).bind fun q2 => ((f_Papers_become_181_31 F q2.2).bind fun q3 => ((f_Trades_become_196_46 F q3.2).bind fun q4 => ((f_Seasons_become_202_52 F q4.2).bind fun q5 => ((f_Notes_become_205_55 F q5.2).bind fun q6 => f_World_become_166_16_90 F ((m_up (m_up (m_up q6.2.1 166 9 (q6.2.1 16 9)) 166 10 ((m_up q6.2.1 166 9 (q6.2.1 16 9)) 16 10)) 166 11 ((m_up (m_up q6.2.1 166 9 (q6.2.1 16 9)) 166 10 ((m_up q6.2.1 166 9 (q6.2.1 16 9)) 16 10)) 16 11)), q6.2.2)))))))
theorem ok_World_become_166_16 (X : mX) (d F : Nat) : ∀   (m : mM) (r : Unit) (m' : mM), f_World_become_166_16 F  m = some (r, m') → m_R X (d + 3) 174 0 [some (.ref 166), some (.ref 16)] [] (SH, m) (none, (SH, m')) := by
  intro m r m' h
  unfold f_World_become_166_16 at h
  refine m_R_sg (by decide) [(.aload_n 0, 1, 0, 0, 0, 0, 0), (.getfield 12, 3, 0, 10, 0, 3, 503), (.aload_n 1, 1, 0, 1, 0, 0, 0), (.getfield 12, 3, 0, 10, 0, 3, 503)] (by decide +kernel) (show m_sgl X _ _ _ _ _ = some (8, [some (.ref 166), some (.ref 16)], [.ref 17, .ref 167], (SH, m.1, m.2)) from rfl) ?_
  obtain ⟨q1, hc1, h⟩ := Option.bind_eq_some_iff.mp h
  refine m_R_cV (v := none) (h1 := (SH, q1.2)) (rest := []) (lo' := [some (.ref 167), some (.ref 17)]) (ml := 2) (k0 := 167) (by decide) (Or.inl rfl) (m_opb_of (ins := .invokevirtual 76) (len := 3) (tag := 5) (a := 175) (b := 1) (c := 0) (q := 1384) (by decide +kernel)) (by decide +kernel) rfl (show m_isO 175 167 (SH, _) = true from m_isO_of (by decide +kernel)) (Nat.le_of_ble_eq_true rfl) rfl rfl (ok_Land_become_167_17 X (d + 0) F _ _ _ hc1) ?_
  refine m_R_sg (by decide) [(.aload_n 0, 1, 0, 0, 0, 0, 0), (.getfield 21, 3, 0, 10, 1, 3, 505), (.aload_n 1, 1, 0, 1, 0, 0, 0), (.getfield 21, 3, 0, 10, 1, 3, 505)] (by decide +kernel) (show m_sgl X _ _ _ _ _ = some (19, [some (.ref 166), some (.ref 16)], [.ref 19, .ref 169], (SH, q1.2.1, q1.2.2)) from rfl) ?_
  obtain ⟨q2, hc2, h⟩ := Option.bind_eq_some_iff.mp h
  refine m_R_cV (v := none) (h1 := (SH, q2.2)) (rest := []) (lo' := [some (.ref 169), some (.ref 19)]) (ml := 2) (k0 := 169) (by decide) (Or.inl rfl) (m_opb_of (ins := .invokevirtual 80) (len := 3) (tag := 5) (a := 177) (b := 1) (c := 0) (q := 1392) (by decide +kernel)) (by decide +kernel) rfl (show m_isO 177 169 (SH, _) = true from m_isO_of (by decide +kernel)) (Nat.le_of_ble_eq_true rfl) rfl rfl (ok_Houses_become_169_19 X (d + 0) F _ _ _ hc2) ?_
  refine m_R_sg (by decide) [(.aload_n 0, 1, 0, 0, 0, 0, 0), (.getfield 28, 3, 0, 10, 2, 3, 508), (.aload_n 1, 1, 0, 1, 0, 0, 0), (.getfield 28, 3, 0, 10, 2, 3, 508)] (by decide +kernel) (show m_sgl X _ _ _ _ _ = some (30, [some (.ref 166), some (.ref 16)], [.ref 31, .ref 181], (SH, q2.2.1, q2.2.2)) from rfl) ?_
  obtain ⟨q3, hc3, h⟩ := Option.bind_eq_some_iff.mp h
  refine m_R_cV (v := none) (h1 := (SH, q3.2)) (rest := []) (lo' := [some (.ref 181), some (.ref 31)]) (ml := 2) (k0 := 181) (by decide) (Or.inl rfl) (m_opb_of (ins := .invokevirtual 83) (len := 3) (tag := 5) (a := 178) (b := 1) (c := 0) (q := 1397) (by decide +kernel)) (by decide +kernel) rfl (show m_isO 178 181 (SH, _) = true from m_isO_of (by decide +kernel)) (Nat.le_of_ble_eq_true rfl) rfl rfl (ok_Papers_become_181_31 X (d + 0) F _ _ _ hc3) ?_
  refine m_R_sg (by decide) [(.aload_n 0, 1, 0, 0, 0, 0, 0), (.getfield 35, 3, 0, 10, 3, 3, 511), (.aload_n 1, 1, 0, 1, 0, 0, 0), (.getfield 35, 3, 0, 10, 3, 3, 511)] (by decide +kernel) (show m_sgl X _ _ _ _ _ = some (41, [some (.ref 166), some (.ref 16)], [.ref 46, .ref 196], (SH, q3.2.1, q3.2.2)) from rfl) ?_
  obtain ⟨q4, hc4, h⟩ := Option.bind_eq_some_iff.mp h
  refine m_R_cV (v := none) (h1 := (SH, q4.2)) (rest := []) (lo' := [some (.ref 196), some (.ref 46)]) (ml := 2) (k0 := 196) (by decide) (Or.inl rfl) (m_opb_of (ins := .invokevirtual 86) (len := 3) (tag := 5) (a := 179) (b := 1) (c := 0) (q := 1402) (by decide +kernel)) (by decide +kernel) rfl (show m_isO 179 196 (SH, _) = true from m_isO_of (by decide +kernel)) (Nat.le_of_ble_eq_true rfl) rfl rfl (ok_Trades_become_196_46 X (d + 0) F _ _ _ hc4) ?_
  refine m_R_sg (by decide) [(.aload_n 0, 1, 0, 0, 0, 0, 0), (.getfield 42, 3, 0, 10, 4, 3, 513), (.aload_n 1, 1, 0, 1, 0, 0, 0), (.getfield 42, 3, 0, 10, 4, 3, 513)] (by decide +kernel) (show m_sgl X _ _ _ _ _ = some (52, [some (.ref 166), some (.ref 16)], [.ref 52, .ref 202], (SH, q4.2.1, q4.2.2)) from rfl) ?_
  obtain ⟨q5, hc5, h⟩ := Option.bind_eq_some_iff.mp h
  refine m_R_cV (v := none) (h1 := (SH, q5.2)) (rest := []) (lo' := [some (.ref 202), some (.ref 52)]) (ml := 2) (k0 := 202) (by decide) (Or.inl rfl) (m_opb_of (ins := .invokevirtual 89) (len := 3) (tag := 5) (a := 180) (b := 1) (c := 0) (q := 1407) (by decide +kernel)) (by decide +kernel) rfl (show m_isO 180 202 (SH, _) = true from m_isO_of (by decide +kernel)) (Nat.le_of_ble_eq_true rfl) rfl rfl (ok_Seasons_become_202_52 X (d + 0) F _ _ _ hc5) ?_
  refine m_R_sg (by decide) [(.aload_n 0, 1, 0, 0, 0, 0, 0), (.getfield 72, 3, 0, 10, 8, 3, 518), (.aload_n 1, 1, 0, 1, 0, 0, 0), (.getfield 72, 3, 0, 10, 8, 3, 518)] (by decide +kernel) (show m_sgl X _ _ _ _ _ = some (63, [some (.ref 166), some (.ref 16)], [.ref 55, .ref 205], (SH, q5.2.1, q5.2.2)) from rfl) ?_
  obtain ⟨q6, hc6, h⟩ := Option.bind_eq_some_iff.mp h
  refine m_R_cV (v := none) (h1 := (SH, q6.2)) (rest := []) (lo' := [some (.ref 205), some (.ref 55)]) (ml := 2) (k0 := 205) (by decide) (Or.inl rfl) (m_opb_of (ins := .invokevirtual 92) (len := 3) (tag := 5) (a := 181) (b := 1) (c := 0) (q := 1412) (by decide +kernel)) (by decide +kernel) rfl (show m_isO 181 205 (SH, _) = true from m_isO_of (by decide +kernel)) (Nat.le_of_ble_eq_true rfl) rfl rfl (ok_Notes_become_205_55 X (d + 0) F _ _ _ hc6) ?_
  refine m_R_sg (by decide) [(.aload_n 0, 1, 0, 0, 0, 0, 0), (.aload_n 1, 1, 0, 1, 0, 0, 0), (.getfield 95, 3, 0, 10, 9, 0, 520), (.putfield 95, 3, 0, 10, 9, 0, 520), (.aload_n 0, 1, 0, 0, 0, 0, 0), (.aload_n 1, 1, 0, 1, 0, 0, 0), (.getfield 52, 3, 0, 10, 10, 0, 522), (.putfield 52, 3, 0, 10, 10, 0, 522), (.aload_n 0, 1, 0, 0, 0, 0, 0), (.aload_n 1, 1, 0, 1, 0, 0, 0), (.getfield 98, 3, 0, 10, 11, 0, 524), (.putfield 98, 3, 0, 10, 11, 0, 524)] (by decide +kernel) (show m_sgl X _ _ _ _ _ = some (90, [some (.ref 166), some (.ref 16)], [], (SH, (m_up (m_up (m_up q6.2.1 166 9 (q6.2.1 16 9)) 166 10 ((m_up q6.2.1 166 9 (q6.2.1 16 9)) 16 10)) 166 11 ((m_up (m_up q6.2.1 166 9 (q6.2.1 16 9)) 166 10 ((m_up q6.2.1 166 9 (q6.2.1 16 9)) 16 10)) 16 11)), q6.2.2)) from rfl) ?_
  exact ok_World_become_166_16_90 X d F _ _ _ h
def f_x_copyAll_18_214 (F : Nat)    (m : mM) : Option (Unit × mM) := ((f_Math_min_II F (Int32.ofNat 64) (Int32.ofNat 64) m).bind fun q1 => (if (0 : Int32) < 0 ∨ (0 : Int32) < 0 ∨ q1.1 < 0 ∨ 64 < (0 : Int32).toNatClampNeg + q1.1.toNatClampNeg ∨ 64 < (0 : Int32).toNatClampNeg + q1.1.toNatClampNeg then none else some ((), ((m_row q1.2.1 214 (va_cpy (q1.2.1 18) (q1.2.1 214) (0 : Int32).toNatClampNeg (0 : Int32).toNatClampNeg q1.1.toNatClampNeg)), q1.2.2))))
theorem ok_x_copyAll_18_214 (X : mX) (d F : Nat) : ∀   (m : mM) (r : Unit) (m' : mM), f_x_copyAll_18_214 F  m = some (r, m') → m_R X (d + 1) 176 0 [some (.ref 18), some (.ref 214)] [] (SH, m) (none, (SH, m')) := by
  intro m r m' h
  unfold f_x_copyAll_18_214 at h
  refine m_R_sg (by decide) [(.aload_n 0, 1, 0, 0, 0, 0, 0), (.iconst 0, 1, 0, 0, 0, 0, 0), (.aload_n 1, 1, 0, 1, 0, 0, 0), (.iconst 0, 1, 0, 0, 0, 0, 0), (.aload_n 0, 1, 0, 0, 0, 0, 0), (.arraylength, 1, 0, 0, 0, 0, 0), (.aload_n 1, 1, 0, 1, 0, 0, 0), (.arraylength, 1, 0, 0, 0, 0, 0)] (by decide +kernel) (show m_sgl X _ _ _ _ _ = some (8, [some (.ref 18), some (.ref 214)], [.int (Int32.ofNat 64), .int (Int32.ofNat 64), .int (0 : Int32), .ref 214, .int (0 : Int32), .ref 18], (SH, m.1, m.2)) from rfl) ?_
  obtain ⟨q1, hc1, h⟩ := Option.bind_eq_some_iff.mp h
  refine m_R_cS (v := (some (.int q1.1))) (h1 := (SH, q1.2)) (rest := [.int (0 : Int32), .ref 214, .int (0 : Int32), .ref 18]) (lo' := [some (.int (Int32.ofNat 64)), some (.int (Int32.ofNat 64))]) (ml := 2) (by decide) (m_opb_of (ins := .invokestatic 219) (len := 3) (tag := 4) (a := 50) (b := 2) (c := 0) (q := 893) (by decide +kernel)) (by decide +kernel) (Nat.le_of_ble_eq_true rfl) rfl (Nat.le_of_ble_eq_true rfl) rfl rfl (ok_Math_min_II X (d + 0) F _ _ _ _ _ hc1) ?_
  obtain ⟨c0, h⟩ := m_ite_n h
  refine m_R_cpy (by decide) (m_opb_of (ins := .invokestatic 452) (len := 3) (tag := 8) (a := 0) (b := 0) (c := 0) (q := 1391) (by decide +kernel)) (Nat.le_of_ble_eq_true rfl) (m_cpy_of sh_18 sh_214 c0) ?_
  obtain ⟨rfl, rfl⟩ := m_some h
  exact m_R_vret (by decide) (m_opb_of (ins := .return_) (len := 1) (tag := 3) (a := 0) (b := 0) (c := 0) (q := 0) (by decide +kernel))
def f_Land_become_213_17 (F : Nat)    (m : mM) : Option (Unit × mM) := ((f_x_copyAll_18_214 F m).bind fun q1 => some ((), ((m_up (m_up q1.2.1 213 1 (q1.2.1 17 1)) 213 2 ((m_up q1.2.1 213 1 (q1.2.1 17 1)) 17 2)), q1.2.2)))
theorem ok_Land_become_213_17 (X : mX) (d F : Nat) : ∀   (m : mM) (r : Unit) (m' : mM), f_Land_become_213_17 F  m = some (r, m') → m_R X (d + 2) 175 0 [some (.ref 213), some (.ref 17)] [] (SH, m) (none, (SH, m')) := by
  intro m r m' h
  unfold f_Land_become_213_17 at h
  refine m_R_sg (by decide) [(.aload_n 1, 1, 0, 1, 0, 0, 0), (.getfield 9, 3, 0, 2, 0, 3, 231), (.aload_n 0, 1, 0, 0, 0, 0, 0), (.getfield 9, 3, 0, 2, 0, 3, 231)] (by decide +kernel) (show m_sgl X _ _ _ _ _ = some (8, [some (.ref 213), some (.ref 17)], [.ref 214, .ref 18], (SH, m.1, m.2)) from rfl) ?_
  obtain ⟨q1, hc1, h⟩ := Option.bind_eq_some_iff.mp h
  refine m_R_cS (v := none) (h1 := (SH, q1.2)) (rest := []) (lo' := [some (.ref 18), some (.ref 214)]) (ml := 2) (by decide) (m_opb_of (ins := .invokestatic 19) (len := 3) (tag := 4) (a := 176) (b := 2) (c := 1) (q := 1388) (by decide +kernel)) (by decide +kernel) (Nat.le_of_ble_eq_true rfl) rfl (Nat.le_of_ble_eq_true rfl) rfl rfl (ok_x_copyAll_18_214 X (d + 0) F _ _ _ hc1) ?_
  refine m_R_sg (by decide) [(.aload_n 0, 1, 0, 0, 0, 0, 0), (.aload_n 1, 1, 0, 1, 0, 0, 0), (.getfield 15, 3, 0, 2, 1, 0, 232), (.putfield 15, 3, 0, 2, 1, 0, 232), (.aload_n 0, 1, 0, 0, 0, 0, 0), (.aload_n 1, 1, 0, 1, 0, 0, 0), (.getfield 23, 3, 0, 2, 2, 0, 234), (.putfield 23, 3, 0, 2, 2, 0, 234)] (by decide +kernel) (show m_sgl X _ _ _ _ _ = some (27, [some (.ref 213), some (.ref 17)], [], (SH, (m_up (m_up q1.2.1 213 1 (q1.2.1 17 1)) 213 2 ((m_up q1.2.1 213 1 (q1.2.1 17 1)) 17 2)), q1.2.2)) from rfl) ?_
  obtain ⟨rfl, rfl⟩ := m_some h
  exact m_R_vret (by decide) (m_opb_of (ins := .return_) (len := 1) (tag := 3) (a := 0) (b := 0) (c := 0) (q := 0) (by decide +kernel))
def f_x_copyAll_20_216 (F : Nat)    (m : mM) : Option (Unit × mM) := ((f_Math_min_II F (Int32.ofNat 16) (Int32.ofNat 16) m).bind fun q1 => (if (0 : Int32) < 0 ∨ (0 : Int32) < 0 ∨ q1.1 < 0 ∨ 16 < (0 : Int32).toNatClampNeg + q1.1.toNatClampNeg ∨ 16 < (0 : Int32).toNatClampNeg + q1.1.toNatClampNeg then none else some ((), ((m_row q1.2.1 216 (va_cpy (q1.2.1 20) (q1.2.1 216) (0 : Int32).toNatClampNeg (0 : Int32).toNatClampNeg q1.1.toNatClampNeg)), q1.2.2))))
theorem ok_x_copyAll_20_216 (X : mX) (d F : Nat) : ∀   (m : mM) (r : Unit) (m' : mM), f_x_copyAll_20_216 F  m = some (r, m') → m_R X (d + 1) 176 0 [some (.ref 20), some (.ref 216)] [] (SH, m) (none, (SH, m')) := by
  intro m r m' h
  unfold f_x_copyAll_20_216 at h
  refine m_R_sg (by decide) [(.aload_n 0, 1, 0, 0, 0, 0, 0), (.iconst 0, 1, 0, 0, 0, 0, 0), (.aload_n 1, 1, 0, 1, 0, 0, 0), (.iconst 0, 1, 0, 0, 0, 0, 0), (.aload_n 0, 1, 0, 0, 0, 0, 0), (.arraylength, 1, 0, 0, 0, 0, 0), (.aload_n 1, 1, 0, 1, 0, 0, 0), (.arraylength, 1, 0, 0, 0, 0, 0)] (by decide +kernel) (show m_sgl X _ _ _ _ _ = some (8, [some (.ref 20), some (.ref 216)], [.int (Int32.ofNat 16), .int (Int32.ofNat 16), .int (0 : Int32), .ref 216, .int (0 : Int32), .ref 20], (SH, m.1, m.2)) from rfl) ?_
  obtain ⟨q1, hc1, h⟩ := Option.bind_eq_some_iff.mp h
  refine m_R_cS (v := (some (.int q1.1))) (h1 := (SH, q1.2)) (rest := [.int (0 : Int32), .ref 216, .int (0 : Int32), .ref 20]) (lo' := [some (.int (Int32.ofNat 16)), some (.int (Int32.ofNat 16))]) (ml := 2) (by decide) (m_opb_of (ins := .invokestatic 219) (len := 3) (tag := 4) (a := 50) (b := 2) (c := 0) (q := 893) (by decide +kernel)) (by decide +kernel) (Nat.le_of_ble_eq_true rfl) rfl (Nat.le_of_ble_eq_true rfl) rfl rfl (ok_Math_min_II X (d + 0) F _ _ _ _ _ hc1) ?_
  obtain ⟨c0, h⟩ := m_ite_n h
  refine m_R_cpy (by decide) (m_opb_of (ins := .invokestatic 452) (len := 3) (tag := 8) (a := 0) (b := 0) (c := 0) (q := 1391) (by decide +kernel)) (Nat.le_of_ble_eq_true rfl) (m_cpy_of sh_20 sh_216 c0) ?_
  obtain ⟨rfl, rfl⟩ := m_some h
  exact m_R_vret (by decide) (m_opb_of (ins := .return_) (len := 1) (tag := 3) (a := 0) (b := 0) (c := 0) (q := 0) (by decide +kernel))
def f_x_copyAll_21_217 (F : Nat)    (m : mM) : Option (Unit × mM) := ((f_Math_min_II F (Int32.ofNat 16) (Int32.ofNat 16) m).bind fun q1 => (if (0 : Int32) < 0 ∨ (0 : Int32) < 0 ∨ q1.1 < 0 ∨ 16 < (0 : Int32).toNatClampNeg + q1.1.toNatClampNeg ∨ 16 < (0 : Int32).toNatClampNeg + q1.1.toNatClampNeg then none else some ((), ((m_row q1.2.1 217 (va_cpy (q1.2.1 21) (q1.2.1 217) (0 : Int32).toNatClampNeg (0 : Int32).toNatClampNeg q1.1.toNatClampNeg)), q1.2.2))))
theorem ok_x_copyAll_21_217 (X : mX) (d F : Nat) : ∀   (m : mM) (r : Unit) (m' : mM), f_x_copyAll_21_217 F  m = some (r, m') → m_R X (d + 1) 176 0 [some (.ref 21), some (.ref 217)] [] (SH, m) (none, (SH, m')) := by
  intro m r m' h
  unfold f_x_copyAll_21_217 at h
  refine m_R_sg (by decide) [(.aload_n 0, 1, 0, 0, 0, 0, 0), (.iconst 0, 1, 0, 0, 0, 0, 0), (.aload_n 1, 1, 0, 1, 0, 0, 0), (.iconst 0, 1, 0, 0, 0, 0, 0), (.aload_n 0, 1, 0, 0, 0, 0, 0), (.arraylength, 1, 0, 0, 0, 0, 0), (.aload_n 1, 1, 0, 1, 0, 0, 0), (.arraylength, 1, 0, 0, 0, 0, 0)] (by decide +kernel) (show m_sgl X _ _ _ _ _ = some (8, [some (.ref 21), some (.ref 217)], [.int (Int32.ofNat 16), .int (Int32.ofNat 16), .int (0 : Int32), .ref 217, .int (0 : Int32), .ref 21], (SH, m.1, m.2)) from rfl) ?_
  obtain ⟨q1, hc1, h⟩ := Option.bind_eq_some_iff.mp h
  refine m_R_cS (v := (some (.int q1.1))) (h1 := (SH, q1.2)) (rest := [.int (0 : Int32), .ref 217, .int (0 : Int32), .ref 21]) (lo' := [some (.int (Int32.ofNat 16)), some (.int (Int32.ofNat 16))]) (ml := 2) (by decide) (m_opb_of (ins := .invokestatic 219) (len := 3) (tag := 4) (a := 50) (b := 2) (c := 0) (q := 893) (by decide +kernel)) (by decide +kernel) (Nat.le_of_ble_eq_true rfl) rfl (Nat.le_of_ble_eq_true rfl) rfl rfl (ok_Math_min_II X (d + 0) F _ _ _ _ _ hc1) ?_
  obtain ⟨c0, h⟩ := m_ite_n h
  refine m_R_cpy (by decide) (m_opb_of (ins := .invokestatic 452) (len := 3) (tag := 8) (a := 0) (b := 0) (c := 0) (q := 1391) (by decide +kernel)) (Nat.le_of_ble_eq_true rfl) (m_cpy_of sh_21 sh_217 c0) ?_
  obtain ⟨rfl, rfl⟩ := m_some h
  exact m_R_vret (by decide) (m_opb_of (ins := .return_) (len := 1) (tag := 3) (a := 0) (b := 0) (c := 0) (q := 0) (by decide +kernel))
def f_x_copyAll_22_218 (F : Nat)    (m : mM) : Option (Unit × mM) := ((f_Math_min_II F (Int32.ofNat 16) (Int32.ofNat 16) m).bind fun q1 => (if (0 : Int32) < 0 ∨ (0 : Int32) < 0 ∨ q1.1 < 0 ∨ 16 < (0 : Int32).toNatClampNeg + q1.1.toNatClampNeg ∨ 16 < (0 : Int32).toNatClampNeg + q1.1.toNatClampNeg then none else some ((), ((m_row q1.2.1 218 (va_cpy (q1.2.1 22) (q1.2.1 218) (0 : Int32).toNatClampNeg (0 : Int32).toNatClampNeg q1.1.toNatClampNeg)), q1.2.2))))
theorem ok_x_copyAll_22_218 (X : mX) (d F : Nat) : ∀   (m : mM) (r : Unit) (m' : mM), f_x_copyAll_22_218 F  m = some (r, m') → m_R X (d + 1) 176 0 [some (.ref 22), some (.ref 218)] [] (SH, m) (none, (SH, m')) := by
  intro m r m' h
  unfold f_x_copyAll_22_218 at h
  refine m_R_sg (by decide) [(.aload_n 0, 1, 0, 0, 0, 0, 0), (.iconst 0, 1, 0, 0, 0, 0, 0), (.aload_n 1, 1, 0, 1, 0, 0, 0), (.iconst 0, 1, 0, 0, 0, 0, 0), (.aload_n 0, 1, 0, 0, 0, 0, 0), (.arraylength, 1, 0, 0, 0, 0, 0), (.aload_n 1, 1, 0, 1, 0, 0, 0), (.arraylength, 1, 0, 0, 0, 0, 0)] (by decide +kernel) (show m_sgl X _ _ _ _ _ = some (8, [some (.ref 22), some (.ref 218)], [.int (Int32.ofNat 16), .int (Int32.ofNat 16), .int (0 : Int32), .ref 218, .int (0 : Int32), .ref 22], (SH, m.1, m.2)) from rfl) ?_
  obtain ⟨q1, hc1, h⟩ := Option.bind_eq_some_iff.mp h
  refine m_R_cS (v := (some (.int q1.1))) (h1 := (SH, q1.2)) (rest := [.int (0 : Int32), .ref 218, .int (0 : Int32), .ref 22]) (lo' := [some (.int (Int32.ofNat 16)), some (.int (Int32.ofNat 16))]) (ml := 2) (by decide) (m_opb_of (ins := .invokestatic 219) (len := 3) (tag := 4) (a := 50) (b := 2) (c := 0) (q := 893) (by decide +kernel)) (by decide +kernel) (Nat.le_of_ble_eq_true rfl) rfl (Nat.le_of_ble_eq_true rfl) rfl rfl (ok_Math_min_II X (d + 0) F _ _ _ _ _ hc1) ?_
  obtain ⟨c0, h⟩ := m_ite_n h
  refine m_R_cpy (by decide) (m_opb_of (ins := .invokestatic 452) (len := 3) (tag := 8) (a := 0) (b := 0) (c := 0) (q := 1391) (by decide +kernel)) (Nat.le_of_ble_eq_true rfl) (m_cpy_of sh_22 sh_218 c0) ?_
  obtain ⟨rfl, rfl⟩ := m_some h
  exact m_R_vret (by decide) (m_opb_of (ins := .return_) (len := 1) (tag := 3) (a := 0) (b := 0) (c := 0) (q := 0) (by decide +kernel))
def f_x_copyAll_23_219 (F : Nat)    (m : mM) : Option (Unit × mM) := ((f_Math_min_II F (Int32.ofNat 16) (Int32.ofNat 16) m).bind fun q1 => (if (0 : Int32) < 0 ∨ (0 : Int32) < 0 ∨ q1.1 < 0 ∨ 16 < (0 : Int32).toNatClampNeg + q1.1.toNatClampNeg ∨ 16 < (0 : Int32).toNatClampNeg + q1.1.toNatClampNeg then none else some ((), ((m_row q1.2.1 219 (va_cpy (q1.2.1 23) (q1.2.1 219) (0 : Int32).toNatClampNeg (0 : Int32).toNatClampNeg q1.1.toNatClampNeg)), q1.2.2))))
theorem ok_x_copyAll_23_219 (X : mX) (d F : Nat) : ∀   (m : mM) (r : Unit) (m' : mM), f_x_copyAll_23_219 F  m = some (r, m') → m_R X (d + 1) 176 0 [some (.ref 23), some (.ref 219)] [] (SH, m) (none, (SH, m')) := by
  intro m r m' h
  unfold f_x_copyAll_23_219 at h
  refine m_R_sg (by decide) [(.aload_n 0, 1, 0, 0, 0, 0, 0), (.iconst 0, 1, 0, 0, 0, 0, 0), (.aload_n 1, 1, 0, 1, 0, 0, 0), (.iconst 0, 1, 0, 0, 0, 0, 0), (.aload_n 0, 1, 0, 0, 0, 0, 0), (.arraylength, 1, 0, 0, 0, 0, 0), (.aload_n 1, 1, 0, 1, 0, 0, 0), (.arraylength, 1, 0, 0, 0, 0, 0)] (by decide +kernel) (show m_sgl X _ _ _ _ _ = some (8, [some (.ref 23), some (.ref 219)], [.int (Int32.ofNat 16), .int (Int32.ofNat 16), .int (0 : Int32), .ref 219, .int (0 : Int32), .ref 23], (SH, m.1, m.2)) from rfl) ?_
  obtain ⟨q1, hc1, h⟩ := Option.bind_eq_some_iff.mp h
  refine m_R_cS (v := (some (.int q1.1))) (h1 := (SH, q1.2)) (rest := [.int (0 : Int32), .ref 219, .int (0 : Int32), .ref 23]) (lo' := [some (.int (Int32.ofNat 16)), some (.int (Int32.ofNat 16))]) (ml := 2) (by decide) (m_opb_of (ins := .invokestatic 219) (len := 3) (tag := 4) (a := 50) (b := 2) (c := 0) (q := 893) (by decide +kernel)) (by decide +kernel) (Nat.le_of_ble_eq_true rfl) rfl (Nat.le_of_ble_eq_true rfl) rfl rfl (ok_Math_min_II X (d + 0) F _ _ _ _ _ hc1) ?_
  obtain ⟨c0, h⟩ := m_ite_n h
  refine m_R_cpy (by decide) (m_opb_of (ins := .invokestatic 452) (len := 3) (tag := 8) (a := 0) (b := 0) (c := 0) (q := 1391) (by decide +kernel)) (Nat.le_of_ble_eq_true rfl) (m_cpy_of sh_23 sh_219 c0) ?_
  obtain ⟨rfl, rfl⟩ := m_some h
  exact m_R_vret (by decide) (m_opb_of (ins := .return_) (len := 1) (tag := 3) (a := 0) (b := 0) (c := 0) (q := 0) (by decide +kernel))
def f_x_copyAll_24_220 (F : Nat)    (m : mM) : Option (Unit × mM) := ((f_Math_min_II F (Int32.ofNat 16) (Int32.ofNat 16) m).bind fun q1 => (if (0 : Int32) < 0 ∨ (0 : Int32) < 0 ∨ q1.1 < 0 ∨ 16 < (0 : Int32).toNatClampNeg + q1.1.toNatClampNeg ∨ 16 < (0 : Int32).toNatClampNeg + q1.1.toNatClampNeg then none else some ((), ((m_row q1.2.1 220 (va_cpy (q1.2.1 24) (q1.2.1 220) (0 : Int32).toNatClampNeg (0 : Int32).toNatClampNeg q1.1.toNatClampNeg)), q1.2.2))))
theorem ok_x_copyAll_24_220 (X : mX) (d F : Nat) : ∀   (m : mM) (r : Unit) (m' : mM), f_x_copyAll_24_220 F  m = some (r, m') → m_R X (d + 1) 176 0 [some (.ref 24), some (.ref 220)] [] (SH, m) (none, (SH, m')) := by
  intro m r m' h
  unfold f_x_copyAll_24_220 at h
  refine m_R_sg (by decide) [(.aload_n 0, 1, 0, 0, 0, 0, 0), (.iconst 0, 1, 0, 0, 0, 0, 0), (.aload_n 1, 1, 0, 1, 0, 0, 0), (.iconst 0, 1, 0, 0, 0, 0, 0), (.aload_n 0, 1, 0, 0, 0, 0, 0), (.arraylength, 1, 0, 0, 0, 0, 0), (.aload_n 1, 1, 0, 1, 0, 0, 0), (.arraylength, 1, 0, 0, 0, 0, 0)] (by decide +kernel) (show m_sgl X _ _ _ _ _ = some (8, [some (.ref 24), some (.ref 220)], [.int (Int32.ofNat 16), .int (Int32.ofNat 16), .int (0 : Int32), .ref 220, .int (0 : Int32), .ref 24], (SH, m.1, m.2)) from rfl) ?_
  obtain ⟨q1, hc1, h⟩ := Option.bind_eq_some_iff.mp h
  refine m_R_cS (v := (some (.int q1.1))) (h1 := (SH, q1.2)) (rest := [.int (0 : Int32), .ref 220, .int (0 : Int32), .ref 24]) (lo' := [some (.int (Int32.ofNat 16)), some (.int (Int32.ofNat 16))]) (ml := 2) (by decide) (m_opb_of (ins := .invokestatic 219) (len := 3) (tag := 4) (a := 50) (b := 2) (c := 0) (q := 893) (by decide +kernel)) (by decide +kernel) (Nat.le_of_ble_eq_true rfl) rfl (Nat.le_of_ble_eq_true rfl) rfl rfl (ok_Math_min_II X (d + 0) F _ _ _ _ _ hc1) ?_
  obtain ⟨c0, h⟩ := m_ite_n h
  refine m_R_cpy (by decide) (m_opb_of (ins := .invokestatic 452) (len := 3) (tag := 8) (a := 0) (b := 0) (c := 0) (q := 1391) (by decide +kernel)) (Nat.le_of_ble_eq_true rfl) (m_cpy_of sh_24 sh_220 c0) ?_
  obtain ⟨rfl, rfl⟩ := m_some h
  exact m_R_vret (by decide) (m_opb_of (ins := .return_) (len := 1) (tag := 3) (a := 0) (b := 0) (c := 0) (q := 0) (by decide +kernel))
def f_x_copyAll_25_221 (F : Nat)    (m : mM) : Option (Unit × mM) := ((f_Math_min_II F (Int32.ofNat 16) (Int32.ofNat 16) m).bind fun q1 => (if (0 : Int32) < 0 ∨ (0 : Int32) < 0 ∨ q1.1 < 0 ∨ 16 < (0 : Int32).toNatClampNeg + q1.1.toNatClampNeg ∨ 16 < (0 : Int32).toNatClampNeg + q1.1.toNatClampNeg then none else some ((), ((m_row q1.2.1 221 (va_cpy (q1.2.1 25) (q1.2.1 221) (0 : Int32).toNatClampNeg (0 : Int32).toNatClampNeg q1.1.toNatClampNeg)), q1.2.2))))
theorem ok_x_copyAll_25_221 (X : mX) (d F : Nat) : ∀   (m : mM) (r : Unit) (m' : mM), f_x_copyAll_25_221 F  m = some (r, m') → m_R X (d + 1) 176 0 [some (.ref 25), some (.ref 221)] [] (SH, m) (none, (SH, m')) := by
  intro m r m' h
  unfold f_x_copyAll_25_221 at h
  refine m_R_sg (by decide) [(.aload_n 0, 1, 0, 0, 0, 0, 0), (.iconst 0, 1, 0, 0, 0, 0, 0), (.aload_n 1, 1, 0, 1, 0, 0, 0), (.iconst 0, 1, 0, 0, 0, 0, 0), (.aload_n 0, 1, 0, 0, 0, 0, 0), (.arraylength, 1, 0, 0, 0, 0, 0), (.aload_n 1, 1, 0, 1, 0, 0, 0), (.arraylength, 1, 0, 0, 0, 0, 0)] (by decide +kernel) (show m_sgl X _ _ _ _ _ = some (8, [some (.ref 25), some (.ref 221)], [.int (Int32.ofNat 16), .int (Int32.ofNat 16), .int (0 : Int32), .ref 221, .int (0 : Int32), .ref 25], (SH, m.1, m.2)) from rfl) ?_
  obtain ⟨q1, hc1, h⟩ := Option.bind_eq_some_iff.mp h
  refine m_R_cS (v := (some (.int q1.1))) (h1 := (SH, q1.2)) (rest := [.int (0 : Int32), .ref 221, .int (0 : Int32), .ref 25]) (lo' := [some (.int (Int32.ofNat 16)), some (.int (Int32.ofNat 16))]) (ml := 2) (by decide) (m_opb_of (ins := .invokestatic 219) (len := 3) (tag := 4) (a := 50) (b := 2) (c := 0) (q := 893) (by decide +kernel)) (by decide +kernel) (Nat.le_of_ble_eq_true rfl) rfl (Nat.le_of_ble_eq_true rfl) rfl rfl (ok_Math_min_II X (d + 0) F _ _ _ _ _ hc1) ?_
  obtain ⟨c0, h⟩ := m_ite_n h
  refine m_R_cpy (by decide) (m_opb_of (ins := .invokestatic 452) (len := 3) (tag := 8) (a := 0) (b := 0) (c := 0) (q := 1391) (by decide +kernel)) (Nat.le_of_ble_eq_true rfl) (m_cpy_of sh_25 sh_221 c0) ?_
  obtain ⟨rfl, rfl⟩ := m_some h
  exact m_R_vret (by decide) (m_opb_of (ins := .return_) (len := 1) (tag := 3) (a := 0) (b := 0) (c := 0) (q := 0) (by decide +kernel))
def f_x_copyAll_26_222 (F : Nat)    (m : mM) : Option (Unit × mM) := ((f_Math_min_II F (Int32.ofNat 16) (Int32.ofNat 16) m).bind fun q1 => (if (0 : Int32) < 0 ∨ (0 : Int32) < 0 ∨ q1.1 < 0 ∨ 16 < (0 : Int32).toNatClampNeg + q1.1.toNatClampNeg ∨ 16 < (0 : Int32).toNatClampNeg + q1.1.toNatClampNeg then none else some ((), ((m_row q1.2.1 222 (va_cpy (q1.2.1 26) (q1.2.1 222) (0 : Int32).toNatClampNeg (0 : Int32).toNatClampNeg q1.1.toNatClampNeg)), q1.2.2))))
theorem ok_x_copyAll_26_222 (X : mX) (d F : Nat) : ∀   (m : mM) (r : Unit) (m' : mM), f_x_copyAll_26_222 F  m = some (r, m') → m_R X (d + 1) 176 0 [some (.ref 26), some (.ref 222)] [] (SH, m) (none, (SH, m')) := by
  intro m r m' h
  unfold f_x_copyAll_26_222 at h
  refine m_R_sg (by decide) [(.aload_n 0, 1, 0, 0, 0, 0, 0), (.iconst 0, 1, 0, 0, 0, 0, 0), (.aload_n 1, 1, 0, 1, 0, 0, 0), (.iconst 0, 1, 0, 0, 0, 0, 0), (.aload_n 0, 1, 0, 0, 0, 0, 0), (.arraylength, 1, 0, 0, 0, 0, 0), (.aload_n 1, 1, 0, 1, 0, 0, 0), (.arraylength, 1, 0, 0, 0, 0, 0)] (by decide +kernel) (show m_sgl X _ _ _ _ _ = some (8, [some (.ref 26), some (.ref 222)], [.int (Int32.ofNat 16), .int (Int32.ofNat 16), .int (0 : Int32), .ref 222, .int (0 : Int32), .ref 26], (SH, m.1, m.2)) from rfl) ?_
  obtain ⟨q1, hc1, h⟩ := Option.bind_eq_some_iff.mp h
  refine m_R_cS (v := (some (.int q1.1))) (h1 := (SH, q1.2)) (rest := [.int (0 : Int32), .ref 222, .int (0 : Int32), .ref 26]) (lo' := [some (.int (Int32.ofNat 16)), some (.int (Int32.ofNat 16))]) (ml := 2) (by decide) (m_opb_of (ins := .invokestatic 219) (len := 3) (tag := 4) (a := 50) (b := 2) (c := 0) (q := 893) (by decide +kernel)) (by decide +kernel) (Nat.le_of_ble_eq_true rfl) rfl (Nat.le_of_ble_eq_true rfl) rfl rfl (ok_Math_min_II X (d + 0) F _ _ _ _ _ hc1) ?_
  obtain ⟨c0, h⟩ := m_ite_n h
  refine m_R_cpy (by decide) (m_opb_of (ins := .invokestatic 452) (len := 3) (tag := 8) (a := 0) (b := 0) (c := 0) (q := 1391) (by decide +kernel)) (Nat.le_of_ble_eq_true rfl) (m_cpy_of sh_26 sh_222 c0) ?_
  obtain ⟨rfl, rfl⟩ := m_some h
  exact m_R_vret (by decide) (m_opb_of (ins := .return_) (len := 1) (tag := 3) (a := 0) (b := 0) (c := 0) (q := 0) (by decide +kernel))
def f_x_copyAll_27_223 (F : Nat)    (m : mM) : Option (Unit × mM) := ((f_Math_min_II F (Int32.ofNat 16) (Int32.ofNat 16) m).bind fun q1 => (if (0 : Int32) < 0 ∨ (0 : Int32) < 0 ∨ q1.1 < 0 ∨ 16 < (0 : Int32).toNatClampNeg + q1.1.toNatClampNeg ∨ 16 < (0 : Int32).toNatClampNeg + q1.1.toNatClampNeg then none else some ((), ((m_row q1.2.1 223 (va_cpy (q1.2.1 27) (q1.2.1 223) (0 : Int32).toNatClampNeg (0 : Int32).toNatClampNeg q1.1.toNatClampNeg)), q1.2.2))))
theorem ok_x_copyAll_27_223 (X : mX) (d F : Nat) : ∀   (m : mM) (r : Unit) (m' : mM), f_x_copyAll_27_223 F  m = some (r, m') → m_R X (d + 1) 176 0 [some (.ref 27), some (.ref 223)] [] (SH, m) (none, (SH, m')) := by
  intro m r m' h
  unfold f_x_copyAll_27_223 at h
  refine m_R_sg (by decide) [(.aload_n 0, 1, 0, 0, 0, 0, 0), (.iconst 0, 1, 0, 0, 0, 0, 0), (.aload_n 1, 1, 0, 1, 0, 0, 0), (.iconst 0, 1, 0, 0, 0, 0, 0), (.aload_n 0, 1, 0, 0, 0, 0, 0), (.arraylength, 1, 0, 0, 0, 0, 0), (.aload_n 1, 1, 0, 1, 0, 0, 0), (.arraylength, 1, 0, 0, 0, 0, 0)] (by decide +kernel) (show m_sgl X _ _ _ _ _ = some (8, [some (.ref 27), some (.ref 223)], [.int (Int32.ofNat 16), .int (Int32.ofNat 16), .int (0 : Int32), .ref 223, .int (0 : Int32), .ref 27], (SH, m.1, m.2)) from rfl) ?_
  obtain ⟨q1, hc1, h⟩ := Option.bind_eq_some_iff.mp h
  refine m_R_cS (v := (some (.int q1.1))) (h1 := (SH, q1.2)) (rest := [.int (0 : Int32), .ref 223, .int (0 : Int32), .ref 27]) (lo' := [some (.int (Int32.ofNat 16)), some (.int (Int32.ofNat 16))]) (ml := 2) (by decide) (m_opb_of (ins := .invokestatic 219) (len := 3) (tag := 4) (a := 50) (b := 2) (c := 0) (q := 893) (by decide +kernel)) (by decide +kernel) (Nat.le_of_ble_eq_true rfl) rfl (Nat.le_of_ble_eq_true rfl) rfl rfl (ok_Math_min_II X (d + 0) F _ _ _ _ _ hc1) ?_
  obtain ⟨c0, h⟩ := m_ite_n h
  refine m_R_cpy (by decide) (m_opb_of (ins := .invokestatic 452) (len := 3) (tag := 8) (a := 0) (b := 0) (c := 0) (q := 1391) (by decide +kernel)) (Nat.le_of_ble_eq_true rfl) (m_cpy_of sh_27 sh_223 c0) ?_
  obtain ⟨rfl, rfl⟩ := m_some h
  exact m_R_vret (by decide) (m_opb_of (ins := .return_) (len := 1) (tag := 3) (a := 0) (b := 0) (c := 0) (q := 0) (by decide +kernel))
def f_x_copyAll_28_224 (F : Nat)    (m : mM) : Option (Unit × mM) := ((f_Math_min_II F (Int32.ofNat 16) (Int32.ofNat 16) m).bind fun q1 => (if (0 : Int32) < 0 ∨ (0 : Int32) < 0 ∨ q1.1 < 0 ∨ 16 < (0 : Int32).toNatClampNeg + q1.1.toNatClampNeg ∨ 16 < (0 : Int32).toNatClampNeg + q1.1.toNatClampNeg then none else some ((), ((m_row q1.2.1 224 (va_cpy (q1.2.1 28) (q1.2.1 224) (0 : Int32).toNatClampNeg (0 : Int32).toNatClampNeg q1.1.toNatClampNeg)), q1.2.2))))
theorem ok_x_copyAll_28_224 (X : mX) (d F : Nat) : ∀   (m : mM) (r : Unit) (m' : mM), f_x_copyAll_28_224 F  m = some (r, m') → m_R X (d + 1) 176 0 [some (.ref 28), some (.ref 224)] [] (SH, m) (none, (SH, m')) := by
  intro m r m' h
  unfold f_x_copyAll_28_224 at h
  refine m_R_sg (by decide) [(.aload_n 0, 1, 0, 0, 0, 0, 0), (.iconst 0, 1, 0, 0, 0, 0, 0), (.aload_n 1, 1, 0, 1, 0, 0, 0), (.iconst 0, 1, 0, 0, 0, 0, 0), (.aload_n 0, 1, 0, 0, 0, 0, 0), (.arraylength, 1, 0, 0, 0, 0, 0), (.aload_n 1, 1, 0, 1, 0, 0, 0), (.arraylength, 1, 0, 0, 0, 0, 0)] (by decide +kernel) (show m_sgl X _ _ _ _ _ = some (8, [some (.ref 28), some (.ref 224)], [.int (Int32.ofNat 16), .int (Int32.ofNat 16), .int (0 : Int32), .ref 224, .int (0 : Int32), .ref 28], (SH, m.1, m.2)) from rfl) ?_
  obtain ⟨q1, hc1, h⟩ := Option.bind_eq_some_iff.mp h
  refine m_R_cS (v := (some (.int q1.1))) (h1 := (SH, q1.2)) (rest := [.int (0 : Int32), .ref 224, .int (0 : Int32), .ref 28]) (lo' := [some (.int (Int32.ofNat 16)), some (.int (Int32.ofNat 16))]) (ml := 2) (by decide) (m_opb_of (ins := .invokestatic 219) (len := 3) (tag := 4) (a := 50) (b := 2) (c := 0) (q := 893) (by decide +kernel)) (by decide +kernel) (Nat.le_of_ble_eq_true rfl) rfl (Nat.le_of_ble_eq_true rfl) rfl rfl (ok_Math_min_II X (d + 0) F _ _ _ _ _ hc1) ?_
  obtain ⟨c0, h⟩ := m_ite_n h
  refine m_R_cpy (by decide) (m_opb_of (ins := .invokestatic 452) (len := 3) (tag := 8) (a := 0) (b := 0) (c := 0) (q := 1391) (by decide +kernel)) (Nat.le_of_ble_eq_true rfl) (m_cpy_of sh_28 sh_224 c0) ?_
  obtain ⟨rfl, rfl⟩ := m_some h
  exact m_R_vret (by decide) (m_opb_of (ins := .return_) (len := 1) (tag := 3) (a := 0) (b := 0) (c := 0) (q := 0) (by decide +kernel))
def f_x_copyAll_29_225 (F : Nat)    (m : mM) : Option (Unit × mM) := ((f_Math_min_II F (Int32.ofNat 16) (Int32.ofNat 16) m).bind fun q1 => (if (0 : Int32) < 0 ∨ (0 : Int32) < 0 ∨ q1.1 < 0 ∨ 16 < (0 : Int32).toNatClampNeg + q1.1.toNatClampNeg ∨ 16 < (0 : Int32).toNatClampNeg + q1.1.toNatClampNeg then none else some ((), ((m_row q1.2.1 225 (va_cpy (q1.2.1 29) (q1.2.1 225) (0 : Int32).toNatClampNeg (0 : Int32).toNatClampNeg q1.1.toNatClampNeg)), q1.2.2))))
theorem ok_x_copyAll_29_225 (X : mX) (d F : Nat) : ∀   (m : mM) (r : Unit) (m' : mM), f_x_copyAll_29_225 F  m = some (r, m') → m_R X (d + 1) 176 0 [some (.ref 29), some (.ref 225)] [] (SH, m) (none, (SH, m')) := by
  intro m r m' h
  unfold f_x_copyAll_29_225 at h
  refine m_R_sg (by decide) [(.aload_n 0, 1, 0, 0, 0, 0, 0), (.iconst 0, 1, 0, 0, 0, 0, 0), (.aload_n 1, 1, 0, 1, 0, 0, 0), (.iconst 0, 1, 0, 0, 0, 0, 0), (.aload_n 0, 1, 0, 0, 0, 0, 0), (.arraylength, 1, 0, 0, 0, 0, 0), (.aload_n 1, 1, 0, 1, 0, 0, 0), (.arraylength, 1, 0, 0, 0, 0, 0)] (by decide +kernel) (show m_sgl X _ _ _ _ _ = some (8, [some (.ref 29), some (.ref 225)], [.int (Int32.ofNat 16), .int (Int32.ofNat 16), .int (0 : Int32), .ref 225, .int (0 : Int32), .ref 29], (SH, m.1, m.2)) from rfl) ?_
  obtain ⟨q1, hc1, h⟩ := Option.bind_eq_some_iff.mp h
  refine m_R_cS (v := (some (.int q1.1))) (h1 := (SH, q1.2)) (rest := [.int (0 : Int32), .ref 225, .int (0 : Int32), .ref 29]) (lo' := [some (.int (Int32.ofNat 16)), some (.int (Int32.ofNat 16))]) (ml := 2) (by decide) (m_opb_of (ins := .invokestatic 219) (len := 3) (tag := 4) (a := 50) (b := 2) (c := 0) (q := 893) (by decide +kernel)) (by decide +kernel) (Nat.le_of_ble_eq_true rfl) rfl (Nat.le_of_ble_eq_true rfl) rfl rfl (ok_Math_min_II X (d + 0) F _ _ _ _ _ hc1) ?_
  obtain ⟨c0, h⟩ := m_ite_n h
  refine m_R_cpy (by decide) (m_opb_of (ins := .invokestatic 452) (len := 3) (tag := 8) (a := 0) (b := 0) (c := 0) (q := 1391) (by decide +kernel)) (Nat.le_of_ble_eq_true rfl) (m_cpy_of sh_29 sh_225 c0) ?_
  obtain ⟨rfl, rfl⟩ := m_some h
  exact m_R_vret (by decide) (m_opb_of (ins := .return_) (len := 1) (tag := 3) (a := 0) (b := 0) (c := 0) (q := 0) (by decide +kernel))
def f_x_copyAll_30_226 (F : Nat)    (m : mM) : Option (Unit × mM) := ((f_Math_min_II F (Int32.ofNat 16) (Int32.ofNat 16) m).bind fun q1 => (if (0 : Int32) < 0 ∨ (0 : Int32) < 0 ∨ q1.1 < 0 ∨ 16 < (0 : Int32).toNatClampNeg + q1.1.toNatClampNeg ∨ 16 < (0 : Int32).toNatClampNeg + q1.1.toNatClampNeg then none else some ((), ((m_row q1.2.1 226 (va_cpy (q1.2.1 30) (q1.2.1 226) (0 : Int32).toNatClampNeg (0 : Int32).toNatClampNeg q1.1.toNatClampNeg)), q1.2.2))))
theorem ok_x_copyAll_30_226 (X : mX) (d F : Nat) : ∀   (m : mM) (r : Unit) (m' : mM), f_x_copyAll_30_226 F  m = some (r, m') → m_R X (d + 1) 176 0 [some (.ref 30), some (.ref 226)] [] (SH, m) (none, (SH, m')) := by
  intro m r m' h
  unfold f_x_copyAll_30_226 at h
  refine m_R_sg (by decide) [(.aload_n 0, 1, 0, 0, 0, 0, 0), (.iconst 0, 1, 0, 0, 0, 0, 0), (.aload_n 1, 1, 0, 1, 0, 0, 0), (.iconst 0, 1, 0, 0, 0, 0, 0), (.aload_n 0, 1, 0, 0, 0, 0, 0), (.arraylength, 1, 0, 0, 0, 0, 0), (.aload_n 1, 1, 0, 1, 0, 0, 0), (.arraylength, 1, 0, 0, 0, 0, 0)] (by decide +kernel) (show m_sgl X _ _ _ _ _ = some (8, [some (.ref 30), some (.ref 226)], [.int (Int32.ofNat 16), .int (Int32.ofNat 16), .int (0 : Int32), .ref 226, .int (0 : Int32), .ref 30], (SH, m.1, m.2)) from rfl) ?_
  obtain ⟨q1, hc1, h⟩ := Option.bind_eq_some_iff.mp h
  refine m_R_cS (v := (some (.int q1.1))) (h1 := (SH, q1.2)) (rest := [.int (0 : Int32), .ref 226, .int (0 : Int32), .ref 30]) (lo' := [some (.int (Int32.ofNat 16)), some (.int (Int32.ofNat 16))]) (ml := 2) (by decide) (m_opb_of (ins := .invokestatic 219) (len := 3) (tag := 4) (a := 50) (b := 2) (c := 0) (q := 893) (by decide +kernel)) (by decide +kernel) (Nat.le_of_ble_eq_true rfl) rfl (Nat.le_of_ble_eq_true rfl) rfl rfl (ok_Math_min_II X (d + 0) F _ _ _ _ _ hc1) ?_
  obtain ⟨c0, h⟩ := m_ite_n h
  refine m_R_cpy (by decide) (m_opb_of (ins := .invokestatic 452) (len := 3) (tag := 8) (a := 0) (b := 0) (c := 0) (q := 1391) (by decide +kernel)) (Nat.le_of_ble_eq_true rfl) (m_cpy_of sh_30 sh_226 c0) ?_
  obtain ⟨rfl, rfl⟩ := m_some h
  exact m_R_vret (by decide) (m_opb_of (ins := .return_) (len := 1) (tag := 3) (a := 0) (b := 0) (c := 0) (q := 0) (by decide +kernel))
def f_Houses_become_215_19 (F : Nat)    (m : mM) : Option (Unit × mM) := ((f_x_copyAll_20_216 F m).bind fun q1 => ((f_x_copyAll_21_217 F q1.2).bind fun q2 => ((f_x_copyAll_22_218 F q2.2).bind fun q3 => ((f_x_copyAll_23_219 F q3.2).bind fun q4 => ((f_x_copyAll_24_220 F q4.2).bind fun q5 => ((f_x_copyAll_25_221 F q5.2).bind fun q6 => ((f_x_copyAll_26_222 F q6.2).bind fun q7 => ((f_x_copyAll_27_223 F q7.2).bind fun q8 => ((f_x_copyAll_28_224 F q8.2).bind fun q9 => ((f_x_copyAll_29_225 F q9.2).bind fun q10 => ((f_x_copyAll_30_226 F q10.2).bind fun q11 => some ((), ((m_up (m_up q11.2.1 215 11 (q11.2.1 19 11)) 215 12 ((m_up q11.2.1 215 11 (q11.2.1 19 11)) 19 12)), q11.2.2)))))))))))))
theorem ok_Houses_become_215_19 (X : mX) (d F : Nat) : ∀   (m : mM) (r : Unit) (m' : mM), f_Houses_become_215_19 F  m = some (r, m') → m_R X (d + 2) 177 0 [some (.ref 215), some (.ref 19)] [] (SH, m) (none, (SH, m')) := by
  intro m r m' h
  unfold f_Houses_become_215_19 at h
  refine m_R_sg (by decide) [(.aload_n 1, 1, 0, 1, 0, 0, 0), (.getfield 9, 3, 0, 1, 0, 3, 249), (.aload_n 0, 1, 0, 0, 0, 0, 0), (.getfield 9, 3, 0, 1, 0, 3, 249)] (by decide +kernel) (show m_sgl X _ _ _ _ _ = some (8, [some (.ref 215), some (.ref 19)], [.ref 216, .ref 20], (SH, m.1, m.2)) from rfl) ?_
  obtain ⟨q1, hc1, h⟩ := Option.bind_eq_some_iff.mp h
  refine m_R_cS (v := none) (h1 := (SH, q1.2)) (rest := []) (lo' := [some (.ref 20), some (.ref 216)]) (ml := 2) (by decide) (m_opb_of (ins := .invokestatic 49) (len := 3) (tag := 4) (a := 176) (b := 2) (c := 1) (q := 1396) (by decide +kernel)) (by decide +kernel) (Nat.le_of_ble_eq_true rfl) rfl (Nat.le_of_ble_eq_true rfl) rfl rfl (ok_x_copyAll_20_216 X (d + 0) F _ _ _ hc1) ?_
  refine m_R_sg (by decide) [(.aload_n 1, 1, 0, 1, 0, 0, 0), (.getfield 15, 3, 0, 1, 1, 3, 251), (.aload_n 0, 1, 0, 0, 0, 0, 0), (.getfield 15, 3, 0, 1, 1, 3, 251)] (by decide +kernel) (show m_sgl X _ _ _ _ _ = some (19, [some (.ref 215), some (.ref 19)], [.ref 217, .ref 21], (SH, q1.2.1, q1.2.2)) from rfl) ?_
  obtain ⟨q2, hc2, h⟩ := Option.bind_eq_some_iff.mp h
  refine m_R_cS (v := none) (h1 := (SH, q2.2)) (rest := []) (lo' := [some (.ref 21), some (.ref 217)]) (ml := 2) (by decide) (m_opb_of (ins := .invokestatic 49) (len := 3) (tag := 4) (a := 176) (b := 2) (c := 1) (q := 1396) (by decide +kernel)) (by decide +kernel) (Nat.le_of_ble_eq_true rfl) rfl (Nat.le_of_ble_eq_true rfl) rfl rfl (ok_x_copyAll_21_217 X (d + 0) F _ _ _ hc2) ?_
  refine m_R_sg (by decide) [(.aload_n 1, 1, 0, 1, 0, 0, 0), (.getfield 18, 3, 0, 1, 2, 3, 254), (.aload_n 0, 1, 0, 0, 0, 0, 0), (.getfield 18, 3, 0, 1, 2, 3, 254)] (by decide +kernel) (show m_sgl X _ _ _ _ _ = some (30, [some (.ref 215), some (.ref 19)], [.ref 218, .ref 22], (SH, q2.2.1, q2.2.2)) from rfl) ?_
  obtain ⟨q3, hc3, h⟩ := Option.bind_eq_some_iff.mp h
  refine m_R_cS (v := none) (h1 := (SH, q3.2)) (rest := []) (lo' := [some (.ref 22), some (.ref 218)]) (ml := 2) (by decide) (m_opb_of (ins := .invokestatic 49) (len := 3) (tag := 4) (a := 176) (b := 2) (c := 1) (q := 1396) (by decide +kernel)) (by decide +kernel) (Nat.le_of_ble_eq_true rfl) rfl (Nat.le_of_ble_eq_true rfl) rfl rfl (ok_x_copyAll_22_218 X (d + 0) F _ _ _ hc3) ?_
  refine m_R_sg (by decide) [(.aload_n 1, 1, 0, 1, 0, 0, 0), (.getfield 21, 3, 0, 1, 3, 3, 257), (.aload_n 0, 1, 0, 0, 0, 0, 0), (.getfield 21, 3, 0, 1, 3, 3, 257)] (by decide +kernel) (show m_sgl X _ _ _ _ _ = some (41, [some (.ref 215), some (.ref 19)], [.ref 219, .ref 23], (SH, q3.2.1, q3.2.2)) from rfl) ?_
  obtain ⟨q4, hc4, h⟩ := Option.bind_eq_some_iff.mp h
  refine m_R_cS (v := none) (h1 := (SH, q4.2)) (rest := []) (lo' := [some (.ref 23), some (.ref 219)]) (ml := 2) (by decide) (m_opb_of (ins := .invokestatic 49) (len := 3) (tag := 4) (a := 176) (b := 2) (c := 1) (q := 1396) (by decide +kernel)) (by decide +kernel) (Nat.le_of_ble_eq_true rfl) rfl (Nat.le_of_ble_eq_true rfl) rfl rfl (ok_x_copyAll_23_219 X (d + 0) F _ _ _ hc4) ?_
  refine m_R_sg (by decide) [(.aload_n 1, 1, 0, 1, 0, 0, 0), (.getfield 24, 3, 0, 1, 4, 3, 260), (.aload_n 0, 1, 0, 0, 0, 0, 0), (.getfield 24, 3, 0, 1, 4, 3, 260)] (by decide +kernel) (show m_sgl X _ _ _ _ _ = some (52, [some (.ref 215), some (.ref 19)], [.ref 220, .ref 24], (SH, q4.2.1, q4.2.2)) from rfl) ?_
  obtain ⟨q5, hc5, h⟩ := Option.bind_eq_some_iff.mp h
  refine m_R_cS (v := none) (h1 := (SH, q5.2)) (rest := []) (lo' := [some (.ref 24), some (.ref 220)]) (ml := 2) (by decide) (m_opb_of (ins := .invokestatic 49) (len := 3) (tag := 4) (a := 176) (b := 2) (c := 1) (q := 1396) (by decide +kernel)) (by decide +kernel) (Nat.le_of_ble_eq_true rfl) rfl (Nat.le_of_ble_eq_true rfl) rfl rfl (ok_x_copyAll_24_220 X (d + 0) F _ _ _ hc5) ?_
  refine m_R_sg (by decide) [(.aload_n 1, 1, 0, 1, 0, 0, 0), (.getfield 27, 3, 0, 1, 5, 3, 263), (.aload_n 0, 1, 0, 0, 0, 0, 0), (.getfield 27, 3, 0, 1, 5, 3, 263)] (by decide +kernel) (show m_sgl X _ _ _ _ _ = some (63, [some (.ref 215), some (.ref 19)], [.ref 221, .ref 25], (SH, q5.2.1, q5.2.2)) from rfl) ?_
  obtain ⟨q6, hc6, h⟩ := Option.bind_eq_some_iff.mp h
  refine m_R_cS (v := none) (h1 := (SH, q6.2)) (rest := []) (lo' := [some (.ref 25), some (.ref 221)]) (ml := 2) (by decide) (m_opb_of (ins := .invokestatic 49) (len := 3) (tag := 4) (a := 176) (b := 2) (c := 1) (q := 1396) (by decide +kernel)) (by decide +kernel) (Nat.le_of_ble_eq_true rfl) rfl (Nat.le_of_ble_eq_true rfl) rfl rfl (ok_x_copyAll_25_221 X (d + 0) F _ _ _ hc6) ?_
  refine m_R_sg (by decide) [(.aload_n 1, 1, 0, 1, 0, 0, 0), (.getfield 30, 3, 0, 1, 6, 3, 266), (.aload_n 0, 1, 0, 0, 0, 0, 0), (.getfield 30, 3, 0, 1, 6, 3, 266)] (by decide +kernel) (show m_sgl X _ _ _ _ _ = some (74, [some (.ref 215), some (.ref 19)], [.ref 222, .ref 26], (SH, q6.2.1, q6.2.2)) from rfl) ?_
  obtain ⟨q7, hc7, h⟩ := Option.bind_eq_some_iff.mp h
  refine m_R_cS (v := none) (h1 := (SH, q7.2)) (rest := []) (lo' := [some (.ref 26), some (.ref 222)]) (ml := 2) (by decide) (m_opb_of (ins := .invokestatic 49) (len := 3) (tag := 4) (a := 176) (b := 2) (c := 1) (q := 1396) (by decide +kernel)) (by decide +kernel) (Nat.le_of_ble_eq_true rfl) rfl (Nat.le_of_ble_eq_true rfl) rfl rfl (ok_x_copyAll_26_222 X (d + 0) F _ _ _ hc7) ?_
  refine m_R_sg (by decide) [(.aload_n 1, 1, 0, 1, 0, 0, 0), (.getfield 33, 3, 0, 1, 7, 3, 269), (.aload_n 0, 1, 0, 0, 0, 0, 0), (.getfield 33, 3, 0, 1, 7, 3, 269)] (by decide +kernel) (show m_sgl X _ _ _ _ _ = some (85, [some (.ref 215), some (.ref 19)], [.ref 223, .ref 27], (SH, q7.2.1, q7.2.2)) from rfl) ?_
  obtain ⟨q8, hc8, h⟩ := Option.bind_eq_some_iff.mp h
  refine m_R_cS (v := none) (h1 := (SH, q8.2)) (rest := []) (lo' := [some (.ref 27), some (.ref 223)]) (ml := 2) (by decide) (m_opb_of (ins := .invokestatic 49) (len := 3) (tag := 4) (a := 176) (b := 2) (c := 1) (q := 1396) (by decide +kernel)) (by decide +kernel) (Nat.le_of_ble_eq_true rfl) rfl (Nat.le_of_ble_eq_true rfl) rfl rfl (ok_x_copyAll_27_223 X (d + 0) F _ _ _ hc8) ?_
  refine m_R_sg (by decide) [(.aload_n 1, 1, 0, 1, 0, 0, 0), (.getfield 36, 3, 0, 1, 8, 3, 272), (.aload_n 0, 1, 0, 0, 0, 0, 0), (.getfield 36, 3, 0, 1, 8, 3, 272)] (by decide +kernel) (show m_sgl X _ _ _ _ _ = some (96, [some (.ref 215), some (.ref 19)], [.ref 224, .ref 28], (SH, q8.2.1, q8.2.2)) from rfl) ?_
  obtain ⟨q9, hc9, h⟩ := Option.bind_eq_some_iff.mp h
  refine m_R_cS (v := none) (h1 := (SH, q9.2)) (rest := []) (lo' := [some (.ref 28), some (.ref 224)]) (ml := 2) (by decide) (m_opb_of (ins := .invokestatic 49) (len := 3) (tag := 4) (a := 176) (b := 2) (c := 1) (q := 1396) (by decide +kernel)) (by decide +kernel) (Nat.le_of_ble_eq_true rfl) rfl (Nat.le_of_ble_eq_true rfl) rfl rfl (ok_x_copyAll_28_224 X (d + 0) F _ _ _ hc9) ?_
  refine m_R_sg (by decide) [(.aload_n 1, 1, 0, 1, 0, 0, 0), (.getfield 39, 3, 0, 1, 9, 3, 274), (.aload_n 0, 1, 0, 0, 0, 0, 0), (.getfield 39, 3, 0, 1, 9, 3, 274)] (by decide +kernel) (show m_sgl X _ _ _ _ _ = some (107, [some (.ref 215), some (.ref 19)], [.ref 225, .ref 29], (SH, q9.2.1, q9.2.2)) from rfl) ?_
  obtain ⟨q10, hc10, h⟩ := Option.bind_eq_some_iff.mp h
  refine m_R_cS (v := none) (h1 := (SH, q10.2)) (rest := []) (lo' := [some (.ref 29), some (.ref 225)]) (ml := 2) (by decide) (m_opb_of (ins := .invokestatic 49) (len := 3) (tag := 4) (a := 176) (b := 2) (c := 1) (q := 1396) (by decide +kernel)) (by decide +kernel) (Nat.le_of_ble_eq_true rfl) rfl (Nat.le_of_ble_eq_true rfl) rfl rfl (ok_x_copyAll_29_225 X (d + 0) F _ _ _ hc10) ?_
  refine m_R_sg (by decide) [(.aload_n 1, 1, 0, 1, 0, 0, 0), (.getfield 42, 3, 0, 1, 10, 3, 276), (.aload_n 0, 1, 0, 0, 0, 0, 0), (.getfield 42, 3, 0, 1, 10, 3, 276)] (by decide +kernel) (show m_sgl X _ _ _ _ _ = some (118, [some (.ref 215), some (.ref 19)], [.ref 226, .ref 30], (SH, q10.2.1, q10.2.2)) from rfl) ?_
  obtain ⟨q11, hc11, h⟩ := Option.bind_eq_some_iff.mp h
  refine m_R_cS (v := none) (h1 := (SH, q11.2)) (rest := []) (lo' := [some (.ref 30), some (.ref 226)]) (ml := 2) (by decide) (m_opb_of (ins := .invokestatic 49) (len := 3) (tag := 4) (a := 176) (b := 2) (c := 1) (q := 1396) (by decide +kernel)) (by decide +kernel) (Nat.le_of_ble_eq_true rfl) rfl (Nat.le_of_ble_eq_true rfl) rfl rfl (ok_x_copyAll_30_226 X (d + 0) F _ _ _ hc11) ?_
  refine m_R_sg (by decide) [(.aload_n 0, 1, 0, 0, 0, 0, 0), (.aload_n 1, 1, 0, 1, 0, 0, 0), (.getfield 45, 3, 0, 1, 11, 0, 278), (.putfield 45, 3, 0, 1, 11, 0, 278), (.aload_n 0, 1, 0, 0, 0, 0, 0), (.aload_n 1, 1, 0, 1, 0, 0, 0), (.getfield 53, 3, 0, 1, 12, 0, 281), (.putfield 53, 3, 0, 1, 12, 0, 281)] (by decide +kernel) (show m_sgl X _ _ _ _ _ = some (137, [some (.ref 215), some (.ref 19)], [], (SH, (m_up (m_up q11.2.1 215 11 (q11.2.1 19 11)) 215 12 ((m_up q11.2.1 215 11 (q11.2.1 19 11)) 19 12)), q11.2.2)) from rfl) ?_
  obtain ⟨rfl, rfl⟩ := m_some h
  exact m_R_vret (by decide) (m_opb_of (ins := .return_) (len := 1) (tag := 3) (a := 0) (b := 0) (c := 0) (q := 0) (by decide +kernel))
def f_x_copyAll_32_228 (F : Nat)    (m : mM) : Option (Unit × mM) := ((f_Math_min_II F (Int32.ofNat 60) (Int32.ofNat 60) m).bind fun q1 => (if (0 : Int32) < 0 ∨ (0 : Int32) < 0 ∨ q1.1 < 0 ∨ 60 < (0 : Int32).toNatClampNeg + q1.1.toNatClampNeg ∨ 60 < (0 : Int32).toNatClampNeg + q1.1.toNatClampNeg then none else some ((), ((m_row q1.2.1 228 (va_cpy (q1.2.1 32) (q1.2.1 228) (0 : Int32).toNatClampNeg (0 : Int32).toNatClampNeg q1.1.toNatClampNeg)), q1.2.2))))
theorem ok_x_copyAll_32_228 (X : mX) (d F : Nat) : ∀   (m : mM) (r : Unit) (m' : mM), f_x_copyAll_32_228 F  m = some (r, m') → m_R X (d + 1) 176 0 [some (.ref 32), some (.ref 228)] [] (SH, m) (none, (SH, m')) := by
  intro m r m' h
  unfold f_x_copyAll_32_228 at h
  refine m_R_sg (by decide) [(.aload_n 0, 1, 0, 0, 0, 0, 0), (.iconst 0, 1, 0, 0, 0, 0, 0), (.aload_n 1, 1, 0, 1, 0, 0, 0), (.iconst 0, 1, 0, 0, 0, 0, 0), (.aload_n 0, 1, 0, 0, 0, 0, 0), (.arraylength, 1, 0, 0, 0, 0, 0), (.aload_n 1, 1, 0, 1, 0, 0, 0), (.arraylength, 1, 0, 0, 0, 0, 0)] (by decide +kernel) (show m_sgl X _ _ _ _ _ = some (8, [some (.ref 32), some (.ref 228)], [.int (Int32.ofNat 60), .int (Int32.ofNat 60), .int (0 : Int32), .ref 228, .int (0 : Int32), .ref 32], (SH, m.1, m.2)) from rfl) ?_
  obtain ⟨q1, hc1, h⟩ := Option.bind_eq_some_iff.mp h
  refine m_R_cS (v := (some (.int q1.1))) (h1 := (SH, q1.2)) (rest := [.int (0 : Int32), .ref 228, .int (0 : Int32), .ref 32]) (lo' := [some (.int (Int32.ofNat 60)), some (.int (Int32.ofNat 60))]) (ml := 2) (by decide) (m_opb_of (ins := .invokestatic 219) (len := 3) (tag := 4) (a := 50) (b := 2) (c := 0) (q := 893) (by decide +kernel)) (by decide +kernel) (Nat.le_of_ble_eq_true rfl) rfl (Nat.le_of_ble_eq_true rfl) rfl rfl (ok_Math_min_II X (d + 0) F _ _ _ _ _ hc1) ?_
  obtain ⟨c0, h⟩ := m_ite_n h
  refine m_R_cpy (by decide) (m_opb_of (ins := .invokestatic 452) (len := 3) (tag := 8) (a := 0) (b := 0) (c := 0) (q := 1391) (by decide +kernel)) (Nat.le_of_ble_eq_true rfl) (m_cpy_of sh_32 sh_228 c0) ?_
  obtain ⟨rfl, rfl⟩ := m_some h
  exact m_R_vret (by decide) (m_opb_of (ins := .return_) (len := 1) (tag := 3) (a := 0) (b := 0) (c := 0) (q := 0) (by decide +kernel))
def f_x_copyAll_33_229 (F : Nat)    (m : mM) : Option (Unit × mM) := ((f_Math_min_II F (Int32.ofNat 60) (Int32.ofNat 60) m).bind fun q1 => (if (0 : Int32) < 0 ∨ (0 : Int32) < 0 ∨ q1.1 < 0 ∨ 60 < (0 : Int32).toNatClampNeg + q1.1.toNatClampNeg ∨ 60 < (0 : Int32).toNatClampNeg + q1.1.toNatClampNeg then none else some ((), ((m_row q1.2.1 229 (va_cpy (q1.2.1 33) (q1.2.1 229) (0 : Int32).toNatClampNeg (0 : Int32).toNatClampNeg q1.1.toNatClampNeg)), q1.2.2))))
theorem ok_x_copyAll_33_229 (X : mX) (d F : Nat) : ∀   (m : mM) (r : Unit) (m' : mM), f_x_copyAll_33_229 F  m = some (r, m') → m_R X (d + 1) 176 0 [some (.ref 33), some (.ref 229)] [] (SH, m) (none, (SH, m')) := by
  intro m r m' h
  unfold f_x_copyAll_33_229 at h
  refine m_R_sg (by decide) [(.aload_n 0, 1, 0, 0, 0, 0, 0), (.iconst 0, 1, 0, 0, 0, 0, 0), (.aload_n 1, 1, 0, 1, 0, 0, 0), (.iconst 0, 1, 0, 0, 0, 0, 0), (.aload_n 0, 1, 0, 0, 0, 0, 0), (.arraylength, 1, 0, 0, 0, 0, 0), (.aload_n 1, 1, 0, 1, 0, 0, 0), (.arraylength, 1, 0, 0, 0, 0, 0)] (by decide +kernel) (show m_sgl X _ _ _ _ _ = some (8, [some (.ref 33), some (.ref 229)], [.int (Int32.ofNat 60), .int (Int32.ofNat 60), .int (0 : Int32), .ref 229, .int (0 : Int32), .ref 33], (SH, m.1, m.2)) from rfl) ?_
  obtain ⟨q1, hc1, h⟩ := Option.bind_eq_some_iff.mp h
  refine m_R_cS (v := (some (.int q1.1))) (h1 := (SH, q1.2)) (rest := [.int (0 : Int32), .ref 229, .int (0 : Int32), .ref 33]) (lo' := [some (.int (Int32.ofNat 60)), some (.int (Int32.ofNat 60))]) (ml := 2) (by decide) (m_opb_of (ins := .invokestatic 219) (len := 3) (tag := 4) (a := 50) (b := 2) (c := 0) (q := 893) (by decide +kernel)) (by decide +kernel) (Nat.le_of_ble_eq_true rfl) rfl (Nat.le_of_ble_eq_true rfl) rfl rfl (ok_Math_min_II X (d + 0) F _ _ _ _ _ hc1) ?_
  obtain ⟨c0, h⟩ := m_ite_n h
  refine m_R_cpy (by decide) (m_opb_of (ins := .invokestatic 452) (len := 3) (tag := 8) (a := 0) (b := 0) (c := 0) (q := 1391) (by decide +kernel)) (Nat.le_of_ble_eq_true rfl) (m_cpy_of sh_33 sh_229 c0) ?_
  obtain ⟨rfl, rfl⟩ := m_some h
  exact m_R_vret (by decide) (m_opb_of (ins := .return_) (len := 1) (tag := 3) (a := 0) (b := 0) (c := 0) (q := 0) (by decide +kernel))
def f_x_copyAll_34_230 (F : Nat)    (m : mM) : Option (Unit × mM) := ((f_Math_min_II F (Int32.ofNat 60) (Int32.ofNat 60) m).bind fun q1 => (if (0 : Int32) < 0 ∨ (0 : Int32) < 0 ∨ q1.1 < 0 ∨ 60 < (0 : Int32).toNatClampNeg + q1.1.toNatClampNeg ∨ 60 < (0 : Int32).toNatClampNeg + q1.1.toNatClampNeg then none else some ((), ((m_row q1.2.1 230 (va_cpy (q1.2.1 34) (q1.2.1 230) (0 : Int32).toNatClampNeg (0 : Int32).toNatClampNeg q1.1.toNatClampNeg)), q1.2.2))))
theorem ok_x_copyAll_34_230 (X : mX) (d F : Nat) : ∀   (m : mM) (r : Unit) (m' : mM), f_x_copyAll_34_230 F  m = some (r, m') → m_R X (d + 1) 176 0 [some (.ref 34), some (.ref 230)] [] (SH, m) (none, (SH, m')) := by
  intro m r m' h
  unfold f_x_copyAll_34_230 at h
  refine m_R_sg (by decide) [(.aload_n 0, 1, 0, 0, 0, 0, 0), (.iconst 0, 1, 0, 0, 0, 0, 0), (.aload_n 1, 1, 0, 1, 0, 0, 0), (.iconst 0, 1, 0, 0, 0, 0, 0), (.aload_n 0, 1, 0, 0, 0, 0, 0), (.arraylength, 1, 0, 0, 0, 0, 0), (.aload_n 1, 1, 0, 1, 0, 0, 0), (.arraylength, 1, 0, 0, 0, 0, 0)] (by decide +kernel) (show m_sgl X _ _ _ _ _ = some (8, [some (.ref 34), some (.ref 230)], [.int (Int32.ofNat 60), .int (Int32.ofNat 60), .int (0 : Int32), .ref 230, .int (0 : Int32), .ref 34], (SH, m.1, m.2)) from rfl) ?_
  obtain ⟨q1, hc1, h⟩ := Option.bind_eq_some_iff.mp h
  refine m_R_cS (v := (some (.int q1.1))) (h1 := (SH, q1.2)) (rest := [.int (0 : Int32), .ref 230, .int (0 : Int32), .ref 34]) (lo' := [some (.int (Int32.ofNat 60)), some (.int (Int32.ofNat 60))]) (ml := 2) (by decide) (m_opb_of (ins := .invokestatic 219) (len := 3) (tag := 4) (a := 50) (b := 2) (c := 0) (q := 893) (by decide +kernel)) (by decide +kernel) (Nat.le_of_ble_eq_true rfl) rfl (Nat.le_of_ble_eq_true rfl) rfl rfl (ok_Math_min_II X (d + 0) F _ _ _ _ _ hc1) ?_
  obtain ⟨c0, h⟩ := m_ite_n h
  refine m_R_cpy (by decide) (m_opb_of (ins := .invokestatic 452) (len := 3) (tag := 8) (a := 0) (b := 0) (c := 0) (q := 1391) (by decide +kernel)) (Nat.le_of_ble_eq_true rfl) (m_cpy_of sh_34 sh_230 c0) ?_
  obtain ⟨rfl, rfl⟩ := m_some h
  exact m_R_vret (by decide) (m_opb_of (ins := .return_) (len := 1) (tag := 3) (a := 0) (b := 0) (c := 0) (q := 0) (by decide +kernel))
def f_x_copyAll_35_231 (F : Nat)    (m : mM) : Option (Unit × mM) := ((f_Math_min_II F (Int32.ofNat 60) (Int32.ofNat 60) m).bind fun q1 => (if (0 : Int32) < 0 ∨ (0 : Int32) < 0 ∨ q1.1 < 0 ∨ 60 < (0 : Int32).toNatClampNeg + q1.1.toNatClampNeg ∨ 60 < (0 : Int32).toNatClampNeg + q1.1.toNatClampNeg then none else some ((), ((m_row q1.2.1 231 (va_cpy (q1.2.1 35) (q1.2.1 231) (0 : Int32).toNatClampNeg (0 : Int32).toNatClampNeg q1.1.toNatClampNeg)), q1.2.2))))
theorem ok_x_copyAll_35_231 (X : mX) (d F : Nat) : ∀   (m : mM) (r : Unit) (m' : mM), f_x_copyAll_35_231 F  m = some (r, m') → m_R X (d + 1) 176 0 [some (.ref 35), some (.ref 231)] [] (SH, m) (none, (SH, m')) := by
  intro m r m' h
  unfold f_x_copyAll_35_231 at h
  refine m_R_sg (by decide) [(.aload_n 0, 1, 0, 0, 0, 0, 0), (.iconst 0, 1, 0, 0, 0, 0, 0), (.aload_n 1, 1, 0, 1, 0, 0, 0), (.iconst 0, 1, 0, 0, 0, 0, 0), (.aload_n 0, 1, 0, 0, 0, 0, 0), (.arraylength, 1, 0, 0, 0, 0, 0), (.aload_n 1, 1, 0, 1, 0, 0, 0), (.arraylength, 1, 0, 0, 0, 0, 0)] (by decide +kernel) (show m_sgl X _ _ _ _ _ = some (8, [some (.ref 35), some (.ref 231)], [.int (Int32.ofNat 60), .int (Int32.ofNat 60), .int (0 : Int32), .ref 231, .int (0 : Int32), .ref 35], (SH, m.1, m.2)) from rfl) ?_
  obtain ⟨q1, hc1, h⟩ := Option.bind_eq_some_iff.mp h
  refine m_R_cS (v := (some (.int q1.1))) (h1 := (SH, q1.2)) (rest := [.int (0 : Int32), .ref 231, .int (0 : Int32), .ref 35]) (lo' := [some (.int (Int32.ofNat 60)), some (.int (Int32.ofNat 60))]) (ml := 2) (by decide) (m_opb_of (ins := .invokestatic 219) (len := 3) (tag := 4) (a := 50) (b := 2) (c := 0) (q := 893) (by decide +kernel)) (by decide +kernel) (Nat.le_of_ble_eq_true rfl) rfl (Nat.le_of_ble_eq_true rfl) rfl rfl (ok_Math_min_II X (d + 0) F _ _ _ _ _ hc1) ?_
  obtain ⟨c0, h⟩ := m_ite_n h
  refine m_R_cpy (by decide) (m_opb_of (ins := .invokestatic 452) (len := 3) (tag := 8) (a := 0) (b := 0) (c := 0) (q := 1391) (by decide +kernel)) (Nat.le_of_ble_eq_true rfl) (m_cpy_of sh_35 sh_231 c0) ?_
  obtain ⟨rfl, rfl⟩ := m_some h
  exact m_R_vret (by decide) (m_opb_of (ins := .return_) (len := 1) (tag := 3) (a := 0) (b := 0) (c := 0) (q := 0) (by decide +kernel))
def f_x_copyAll_36_232 (F : Nat)    (m : mM) : Option (Unit × mM) := ((f_Math_min_II F (Int32.ofNat 60) (Int32.ofNat 60) m).bind fun q1 => (if (0 : Int32) < 0 ∨ (0 : Int32) < 0 ∨ q1.1 < 0 ∨ 60 < (0 : Int32).toNatClampNeg + q1.1.toNatClampNeg ∨ 60 < (0 : Int32).toNatClampNeg + q1.1.toNatClampNeg then none else some ((), ((m_row q1.2.1 232 (va_cpy (q1.2.1 36) (q1.2.1 232) (0 : Int32).toNatClampNeg (0 : Int32).toNatClampNeg q1.1.toNatClampNeg)), q1.2.2))))
theorem ok_x_copyAll_36_232 (X : mX) (d F : Nat) : ∀   (m : mM) (r : Unit) (m' : mM), f_x_copyAll_36_232 F  m = some (r, m') → m_R X (d + 1) 176 0 [some (.ref 36), some (.ref 232)] [] (SH, m) (none, (SH, m')) := by
  intro m r m' h
  unfold f_x_copyAll_36_232 at h
  refine m_R_sg (by decide) [(.aload_n 0, 1, 0, 0, 0, 0, 0), (.iconst 0, 1, 0, 0, 0, 0, 0), (.aload_n 1, 1, 0, 1, 0, 0, 0), (.iconst 0, 1, 0, 0, 0, 0, 0), (.aload_n 0, 1, 0, 0, 0, 0, 0), (.arraylength, 1, 0, 0, 0, 0, 0), (.aload_n 1, 1, 0, 1, 0, 0, 0), (.arraylength, 1, 0, 0, 0, 0, 0)] (by decide +kernel) (show m_sgl X _ _ _ _ _ = some (8, [some (.ref 36), some (.ref 232)], [.int (Int32.ofNat 60), .int (Int32.ofNat 60), .int (0 : Int32), .ref 232, .int (0 : Int32), .ref 36], (SH, m.1, m.2)) from rfl) ?_
  obtain ⟨q1, hc1, h⟩ := Option.bind_eq_some_iff.mp h
  refine m_R_cS (v := (some (.int q1.1))) (h1 := (SH, q1.2)) (rest := [.int (0 : Int32), .ref 232, .int (0 : Int32), .ref 36]) (lo' := [some (.int (Int32.ofNat 60)), some (.int (Int32.ofNat 60))]) (ml := 2) (by decide) (m_opb_of (ins := .invokestatic 219) (len := 3) (tag := 4) (a := 50) (b := 2) (c := 0) (q := 893) (by decide +kernel)) (by decide +kernel) (Nat.le_of_ble_eq_true rfl) rfl (Nat.le_of_ble_eq_true rfl) rfl rfl (ok_Math_min_II X (d + 0) F _ _ _ _ _ hc1) ?_
  obtain ⟨c0, h⟩ := m_ite_n h
  refine m_R_cpy (by decide) (m_opb_of (ins := .invokestatic 452) (len := 3) (tag := 8) (a := 0) (b := 0) (c := 0) (q := 1391) (by decide +kernel)) (Nat.le_of_ble_eq_true rfl) (m_cpy_of sh_36 sh_232 c0) ?_
  obtain ⟨rfl, rfl⟩ := m_some h
  exact m_R_vret (by decide) (m_opb_of (ins := .return_) (len := 1) (tag := 3) (a := 0) (b := 0) (c := 0) (q := 0) (by decide +kernel))
def f_x_copyAll_37_233 (F : Nat)    (m : mM) : Option (Unit × mM) := ((f_Math_min_II F (Int32.ofNat 60) (Int32.ofNat 60) m).bind fun q1 => (if (0 : Int32) < 0 ∨ (0 : Int32) < 0 ∨ q1.1 < 0 ∨ 60 < (0 : Int32).toNatClampNeg + q1.1.toNatClampNeg ∨ 60 < (0 : Int32).toNatClampNeg + q1.1.toNatClampNeg then none else some ((), ((m_row q1.2.1 233 (va_cpy (q1.2.1 37) (q1.2.1 233) (0 : Int32).toNatClampNeg (0 : Int32).toNatClampNeg q1.1.toNatClampNeg)), q1.2.2))))
theorem ok_x_copyAll_37_233 (X : mX) (d F : Nat) : ∀   (m : mM) (r : Unit) (m' : mM), f_x_copyAll_37_233 F  m = some (r, m') → m_R X (d + 1) 176 0 [some (.ref 37), some (.ref 233)] [] (SH, m) (none, (SH, m')) := by
  intro m r m' h
  unfold f_x_copyAll_37_233 at h
  refine m_R_sg (by decide) [(.aload_n 0, 1, 0, 0, 0, 0, 0), (.iconst 0, 1, 0, 0, 0, 0, 0), (.aload_n 1, 1, 0, 1, 0, 0, 0), (.iconst 0, 1, 0, 0, 0, 0, 0), (.aload_n 0, 1, 0, 0, 0, 0, 0), (.arraylength, 1, 0, 0, 0, 0, 0), (.aload_n 1, 1, 0, 1, 0, 0, 0), (.arraylength, 1, 0, 0, 0, 0, 0)] (by decide +kernel) (show m_sgl X _ _ _ _ _ = some (8, [some (.ref 37), some (.ref 233)], [.int (Int32.ofNat 60), .int (Int32.ofNat 60), .int (0 : Int32), .ref 233, .int (0 : Int32), .ref 37], (SH, m.1, m.2)) from rfl) ?_
  obtain ⟨q1, hc1, h⟩ := Option.bind_eq_some_iff.mp h
  refine m_R_cS (v := (some (.int q1.1))) (h1 := (SH, q1.2)) (rest := [.int (0 : Int32), .ref 233, .int (0 : Int32), .ref 37]) (lo' := [some (.int (Int32.ofNat 60)), some (.int (Int32.ofNat 60))]) (ml := 2) (by decide) (m_opb_of (ins := .invokestatic 219) (len := 3) (tag := 4) (a := 50) (b := 2) (c := 0) (q := 893) (by decide +kernel)) (by decide +kernel) (Nat.le_of_ble_eq_true rfl) rfl (Nat.le_of_ble_eq_true rfl) rfl rfl (ok_Math_min_II X (d + 0) F _ _ _ _ _ hc1) ?_
  obtain ⟨c0, h⟩ := m_ite_n h
  refine m_R_cpy (by decide) (m_opb_of (ins := .invokestatic 452) (len := 3) (tag := 8) (a := 0) (b := 0) (c := 0) (q := 1391) (by decide +kernel)) (Nat.le_of_ble_eq_true rfl) (m_cpy_of sh_37 sh_233 c0) ?_
  obtain ⟨rfl, rfl⟩ := m_some h
  exact m_R_vret (by decide) (m_opb_of (ins := .return_) (len := 1) (tag := 3) (a := 0) (b := 0) (c := 0) (q := 0) (by decide +kernel))
def f_x_copyAll_38_234 (F : Nat)    (m : mM) : Option (Unit × mM) := ((f_Math_min_II F (Int32.ofNat 360) (Int32.ofNat 360) m).bind fun q1 => (if (0 : Int32) < 0 ∨ (0 : Int32) < 0 ∨ q1.1 < 0 ∨ 360 < (0 : Int32).toNatClampNeg + q1.1.toNatClampNeg ∨ 360 < (0 : Int32).toNatClampNeg + q1.1.toNatClampNeg then none else some ((), ((m_row q1.2.1 234 (va_cpy (q1.2.1 38) (q1.2.1 234) (0 : Int32).toNatClampNeg (0 : Int32).toNatClampNeg q1.1.toNatClampNeg)), q1.2.2))))
theorem ok_x_copyAll_38_234 (X : mX) (d F : Nat) : ∀   (m : mM) (r : Unit) (m' : mM), f_x_copyAll_38_234 F  m = some (r, m') → m_R X (d + 1) 176 0 [some (.ref 38), some (.ref 234)] [] (SH, m) (none, (SH, m')) := by
  intro m r m' h
  unfold f_x_copyAll_38_234 at h
  refine m_R_sg (by decide) [(.aload_n 0, 1, 0, 0, 0, 0, 0), (.iconst 0, 1, 0, 0, 0, 0, 0), (.aload_n 1, 1, 0, 1, 0, 0, 0), (.iconst 0, 1, 0, 0, 0, 0, 0), (.aload_n 0, 1, 0, 0, 0, 0, 0), (.arraylength, 1, 0, 0, 0, 0, 0), (.aload_n 1, 1, 0, 1, 0, 0, 0), (.arraylength, 1, 0, 0, 0, 0, 0)] (by decide +kernel) (show m_sgl X _ _ _ _ _ = some (8, [some (.ref 38), some (.ref 234)], [.int (Int32.ofNat 360), .int (Int32.ofNat 360), .int (0 : Int32), .ref 234, .int (0 : Int32), .ref 38], (SH, m.1, m.2)) from rfl) ?_
  obtain ⟨q1, hc1, h⟩ := Option.bind_eq_some_iff.mp h
  refine m_R_cS (v := (some (.int q1.1))) (h1 := (SH, q1.2)) (rest := [.int (0 : Int32), .ref 234, .int (0 : Int32), .ref 38]) (lo' := [some (.int (Int32.ofNat 360)), some (.int (Int32.ofNat 360))]) (ml := 2) (by decide) (m_opb_of (ins := .invokestatic 219) (len := 3) (tag := 4) (a := 50) (b := 2) (c := 0) (q := 893) (by decide +kernel)) (by decide +kernel) (Nat.le_of_ble_eq_true rfl) rfl (Nat.le_of_ble_eq_true rfl) rfl rfl (ok_Math_min_II X (d + 0) F _ _ _ _ _ hc1) ?_
  obtain ⟨c0, h⟩ := m_ite_n h
  refine m_R_cpy (by decide) (m_opb_of (ins := .invokestatic 452) (len := 3) (tag := 8) (a := 0) (b := 0) (c := 0) (q := 1391) (by decide +kernel)) (Nat.le_of_ble_eq_true rfl) (m_cpy_of sh_38 sh_234 c0) ?_
  obtain ⟨rfl, rfl⟩ := m_some h
  exact m_R_vret (by decide) (m_opb_of (ins := .return_) (len := 1) (tag := 3) (a := 0) (b := 0) (c := 0) (q := 0) (by decide +kernel))
def f_x_copyAll_39_235 (F : Nat)    (m : mM) : Option (Unit × mM) := ((f_Math_min_II F (Int32.ofNat 60) (Int32.ofNat 60) m).bind fun q1 => (if (0 : Int32) < 0 ∨ (0 : Int32) < 0 ∨ q1.1 < 0 ∨ 60 < (0 : Int32).toNatClampNeg + q1.1.toNatClampNeg ∨ 60 < (0 : Int32).toNatClampNeg + q1.1.toNatClampNeg then none else some ((), ((m_row q1.2.1 235 (va_cpy (q1.2.1 39) (q1.2.1 235) (0 : Int32).toNatClampNeg (0 : Int32).toNatClampNeg q1.1.toNatClampNeg)), q1.2.2))))
theorem ok_x_copyAll_39_235 (X : mX) (d F : Nat) : ∀   (m : mM) (r : Unit) (m' : mM), f_x_copyAll_39_235 F  m = some (r, m') → m_R X (d + 1) 176 0 [some (.ref 39), some (.ref 235)] [] (SH, m) (none, (SH, m')) := by
  intro m r m' h
  unfold f_x_copyAll_39_235 at h
  refine m_R_sg (by decide) [(.aload_n 0, 1, 0, 0, 0, 0, 0), (.iconst 0, 1, 0, 0, 0, 0, 0), (.aload_n 1, 1, 0, 1, 0, 0, 0), (.iconst 0, 1, 0, 0, 0, 0, 0), (.aload_n 0, 1, 0, 0, 0, 0, 0), (.arraylength, 1, 0, 0, 0, 0, 0), (.aload_n 1, 1, 0, 1, 0, 0, 0), (.arraylength, 1, 0, 0, 0, 0, 0)] (by decide +kernel) (show m_sgl X _ _ _ _ _ = some (8, [some (.ref 39), some (.ref 235)], [.int (Int32.ofNat 60), .int (Int32.ofNat 60), .int (0 : Int32), .ref 235, .int (0 : Int32), .ref 39], (SH, m.1, m.2)) from rfl) ?_
  obtain ⟨q1, hc1, h⟩ := Option.bind_eq_some_iff.mp h
  refine m_R_cS (v := (some (.int q1.1))) (h1 := (SH, q1.2)) (rest := [.int (0 : Int32), .ref 235, .int (0 : Int32), .ref 39]) (lo' := [some (.int (Int32.ofNat 60)), some (.int (Int32.ofNat 60))]) (ml := 2) (by decide) (m_opb_of (ins := .invokestatic 219) (len := 3) (tag := 4) (a := 50) (b := 2) (c := 0) (q := 893) (by decide +kernel)) (by decide +kernel) (Nat.le_of_ble_eq_true rfl) rfl (Nat.le_of_ble_eq_true rfl) rfl rfl (ok_Math_min_II X (d + 0) F _ _ _ _ _ hc1) ?_
  obtain ⟨c0, h⟩ := m_ite_n h
  refine m_R_cpy (by decide) (m_opb_of (ins := .invokestatic 452) (len := 3) (tag := 8) (a := 0) (b := 0) (c := 0) (q := 1391) (by decide +kernel)) (Nat.le_of_ble_eq_true rfl) (m_cpy_of sh_39 sh_235 c0) ?_
  obtain ⟨rfl, rfl⟩ := m_some h
  exact m_R_vret (by decide) (m_opb_of (ins := .return_) (len := 1) (tag := 3) (a := 0) (b := 0) (c := 0) (q := 0) (by decide +kernel))
def f_x_copyAll_40_236 (F : Nat)    (m : mM) : Option (Unit × mM) := ((f_Math_min_II F (Int32.ofNat 60) (Int32.ofNat 60) m).bind fun q1 => (if (0 : Int32) < 0 ∨ (0 : Int32) < 0 ∨ q1.1 < 0 ∨ 60 < (0 : Int32).toNatClampNeg + q1.1.toNatClampNeg ∨ 60 < (0 : Int32).toNatClampNeg + q1.1.toNatClampNeg then none else some ((), ((m_row q1.2.1 236 (va_cpy (q1.2.1 40) (q1.2.1 236) (0 : Int32).toNatClampNeg (0 : Int32).toNatClampNeg q1.1.toNatClampNeg)), q1.2.2))))
theorem ok_x_copyAll_40_236 (X : mX) (d F : Nat) : ∀   (m : mM) (r : Unit) (m' : mM), f_x_copyAll_40_236 F  m = some (r, m') → m_R X (d + 1) 176 0 [some (.ref 40), some (.ref 236)] [] (SH, m) (none, (SH, m')) := by
  intro m r m' h
  unfold f_x_copyAll_40_236 at h
  refine m_R_sg (by decide) [(.aload_n 0, 1, 0, 0, 0, 0, 0), (.iconst 0, 1, 0, 0, 0, 0, 0), (.aload_n 1, 1, 0, 1, 0, 0, 0), (.iconst 0, 1, 0, 0, 0, 0, 0), (.aload_n 0, 1, 0, 0, 0, 0, 0), (.arraylength, 1, 0, 0, 0, 0, 0), (.aload_n 1, 1, 0, 1, 0, 0, 0), (.arraylength, 1, 0, 0, 0, 0, 0)] (by decide +kernel) (show m_sgl X _ _ _ _ _ = some (8, [some (.ref 40), some (.ref 236)], [.int (Int32.ofNat 60), .int (Int32.ofNat 60), .int (0 : Int32), .ref 236, .int (0 : Int32), .ref 40], (SH, m.1, m.2)) from rfl) ?_
  obtain ⟨q1, hc1, h⟩ := Option.bind_eq_some_iff.mp h
  refine m_R_cS (v := (some (.int q1.1))) (h1 := (SH, q1.2)) (rest := [.int (0 : Int32), .ref 236, .int (0 : Int32), .ref 40]) (lo' := [some (.int (Int32.ofNat 60)), some (.int (Int32.ofNat 60))]) (ml := 2) (by decide) (m_opb_of (ins := .invokestatic 219) (len := 3) (tag := 4) (a := 50) (b := 2) (c := 0) (q := 893) (by decide +kernel)) (by decide +kernel) (Nat.le_of_ble_eq_true rfl) rfl (Nat.le_of_ble_eq_true rfl) rfl rfl (ok_Math_min_II X (d + 0) F _ _ _ _ _ hc1) ?_
  obtain ⟨c0, h⟩ := m_ite_n h
  refine m_R_cpy (by decide) (m_opb_of (ins := .invokestatic 452) (len := 3) (tag := 8) (a := 0) (b := 0) (c := 0) (q := 1391) (by decide +kernel)) (Nat.le_of_ble_eq_true rfl) (m_cpy_of sh_40 sh_236 c0) ?_
  obtain ⟨rfl, rfl⟩ := m_some h
  exact m_R_vret (by decide) (m_opb_of (ins := .return_) (len := 1) (tag := 3) (a := 0) (b := 0) (c := 0) (q := 0) (by decide +kernel))
def f_x_copyAll_41_237 (F : Nat)    (m : mM) : Option (Unit × mM) := ((f_Math_min_II F (Int32.ofNat 60) (Int32.ofNat 60) m).bind fun q1 => (if (0 : Int32) < 0 ∨ (0 : Int32) < 0 ∨ q1.1 < 0 ∨ 60 < (0 : Int32).toNatClampNeg + q1.1.toNatClampNeg ∨ 60 < (0 : Int32).toNatClampNeg + q1.1.toNatClampNeg then none else some ((), ((m_row q1.2.1 237 (va_cpy (q1.2.1 41) (q1.2.1 237) (0 : Int32).toNatClampNeg (0 : Int32).toNatClampNeg q1.1.toNatClampNeg)), q1.2.2))))
theorem ok_x_copyAll_41_237 (X : mX) (d F : Nat) : ∀   (m : mM) (r : Unit) (m' : mM), f_x_copyAll_41_237 F  m = some (r, m') → m_R X (d + 1) 176 0 [some (.ref 41), some (.ref 237)] [] (SH, m) (none, (SH, m')) := by
  intro m r m' h
  unfold f_x_copyAll_41_237 at h
  refine m_R_sg (by decide) [(.aload_n 0, 1, 0, 0, 0, 0, 0), (.iconst 0, 1, 0, 0, 0, 0, 0), (.aload_n 1, 1, 0, 1, 0, 0, 0), (.iconst 0, 1, 0, 0, 0, 0, 0), (.aload_n 0, 1, 0, 0, 0, 0, 0), (.arraylength, 1, 0, 0, 0, 0, 0), (.aload_n 1, 1, 0, 1, 0, 0, 0), (.arraylength, 1, 0, 0, 0, 0, 0)] (by decide +kernel) (show m_sgl X _ _ _ _ _ = some (8, [some (.ref 41), some (.ref 237)], [.int (Int32.ofNat 60), .int (Int32.ofNat 60), .int (0 : Int32), .ref 237, .int (0 : Int32), .ref 41], (SH, m.1, m.2)) from rfl) ?_
  obtain ⟨q1, hc1, h⟩ := Option.bind_eq_some_iff.mp h
  refine m_R_cS (v := (some (.int q1.1))) (h1 := (SH, q1.2)) (rest := [.int (0 : Int32), .ref 237, .int (0 : Int32), .ref 41]) (lo' := [some (.int (Int32.ofNat 60)), some (.int (Int32.ofNat 60))]) (ml := 2) (by decide) (m_opb_of (ins := .invokestatic 219) (len := 3) (tag := 4) (a := 50) (b := 2) (c := 0) (q := 893) (by decide +kernel)) (by decide +kernel) (Nat.le_of_ble_eq_true rfl) rfl (Nat.le_of_ble_eq_true rfl) rfl rfl (ok_Math_min_II X (d + 0) F _ _ _ _ _ hc1) ?_
  obtain ⟨c0, h⟩ := m_ite_n h
  refine m_R_cpy (by decide) (m_opb_of (ins := .invokestatic 452) (len := 3) (tag := 8) (a := 0) (b := 0) (c := 0) (q := 1391) (by decide +kernel)) (Nat.le_of_ble_eq_true rfl) (m_cpy_of sh_41 sh_237 c0) ?_
  obtain ⟨rfl, rfl⟩ := m_some h
  exact m_R_vret (by decide) (m_opb_of (ins := .return_) (len := 1) (tag := 3) (a := 0) (b := 0) (c := 0) (q := 0) (by decide +kernel))
def f_x_copyAll_42_238 (F : Nat)    (m : mM) : Option (Unit × mM) := ((f_Math_min_II F (Int32.ofNat 60) (Int32.ofNat 60) m).bind fun q1 => (if (0 : Int32) < 0 ∨ (0 : Int32) < 0 ∨ q1.1 < 0 ∨ 60 < (0 : Int32).toNatClampNeg + q1.1.toNatClampNeg ∨ 60 < (0 : Int32).toNatClampNeg + q1.1.toNatClampNeg then none else some ((), ((m_row q1.2.1 238 (va_cpy (q1.2.1 42) (q1.2.1 238) (0 : Int32).toNatClampNeg (0 : Int32).toNatClampNeg q1.1.toNatClampNeg)), q1.2.2))))
theorem ok_x_copyAll_42_238 (X : mX) (d F : Nat) : ∀   (m : mM) (r : Unit) (m' : mM), f_x_copyAll_42_238 F  m = some (r, m') → m_R X (d + 1) 176 0 [some (.ref 42), some (.ref 238)] [] (SH, m) (none, (SH, m')) := by
  intro m r m' h
  unfold f_x_copyAll_42_238 at h
  refine m_R_sg (by decide) [(.aload_n 0, 1, 0, 0, 0, 0, 0), (.iconst 0, 1, 0, 0, 0, 0, 0), (.aload_n 1, 1, 0, 1, 0, 0, 0), (.iconst 0, 1, 0, 0, 0, 0, 0), (.aload_n 0, 1, 0, 0, 0, 0, 0), (.arraylength, 1, 0, 0, 0, 0, 0), (.aload_n 1, 1, 0, 1, 0, 0, 0), (.arraylength, 1, 0, 0, 0, 0, 0)] (by decide +kernel) (show m_sgl X _ _ _ _ _ = some (8, [some (.ref 42), some (.ref 238)], [.int (Int32.ofNat 60), .int (Int32.ofNat 60), .int (0 : Int32), .ref 238, .int (0 : Int32), .ref 42], (SH, m.1, m.2)) from rfl) ?_
  obtain ⟨q1, hc1, h⟩ := Option.bind_eq_some_iff.mp h
  refine m_R_cS (v := (some (.int q1.1))) (h1 := (SH, q1.2)) (rest := [.int (0 : Int32), .ref 238, .int (0 : Int32), .ref 42]) (lo' := [some (.int (Int32.ofNat 60)), some (.int (Int32.ofNat 60))]) (ml := 2) (by decide) (m_opb_of (ins := .invokestatic 219) (len := 3) (tag := 4) (a := 50) (b := 2) (c := 0) (q := 893) (by decide +kernel)) (by decide +kernel) (Nat.le_of_ble_eq_true rfl) rfl (Nat.le_of_ble_eq_true rfl) rfl rfl (ok_Math_min_II X (d + 0) F _ _ _ _ _ hc1) ?_
  obtain ⟨c0, h⟩ := m_ite_n h
  refine m_R_cpy (by decide) (m_opb_of (ins := .invokestatic 452) (len := 3) (tag := 8) (a := 0) (b := 0) (c := 0) (q := 1391) (by decide +kernel)) (Nat.le_of_ble_eq_true rfl) (m_cpy_of sh_42 sh_238 c0) ?_
  obtain ⟨rfl, rfl⟩ := m_some h
  exact m_R_vret (by decide) (m_opb_of (ins := .return_) (len := 1) (tag := 3) (a := 0) (b := 0) (c := 0) (q := 0) (by decide +kernel))
def f_x_copyAll_43_239 (F : Nat)    (m : mM) : Option (Unit × mM) := ((f_Math_min_II F (Int32.ofNat 60) (Int32.ofNat 60) m).bind fun q1 => (if (0 : Int32) < 0 ∨ (0 : Int32) < 0 ∨ q1.1 < 0 ∨ 60 < (0 : Int32).toNatClampNeg + q1.1.toNatClampNeg ∨ 60 < (0 : Int32).toNatClampNeg + q1.1.toNatClampNeg then none else some ((), ((m_row q1.2.1 239 (va_cpy (q1.2.1 43) (q1.2.1 239) (0 : Int32).toNatClampNeg (0 : Int32).toNatClampNeg q1.1.toNatClampNeg)), q1.2.2))))
theorem ok_x_copyAll_43_239 (X : mX) (d F : Nat) : ∀   (m : mM) (r : Unit) (m' : mM), f_x_copyAll_43_239 F  m = some (r, m') → m_R X (d + 1) 176 0 [some (.ref 43), some (.ref 239)] [] (SH, m) (none, (SH, m')) := by
  intro m r m' h
  unfold f_x_copyAll_43_239 at h
  refine m_R_sg (by decide) [(.aload_n 0, 1, 0, 0, 0, 0, 0), (.iconst 0, 1, 0, 0, 0, 0, 0), (.aload_n 1, 1, 0, 1, 0, 0, 0), (.iconst 0, 1, 0, 0, 0, 0, 0), (.aload_n 0, 1, 0, 0, 0, 0, 0), (.arraylength, 1, 0, 0, 0, 0, 0), (.aload_n 1, 1, 0, 1, 0, 0, 0), (.arraylength, 1, 0, 0, 0, 0, 0)] (by decide +kernel) (show m_sgl X _ _ _ _ _ = some (8, [some (.ref 43), some (.ref 239)], [.int (Int32.ofNat 60), .int (Int32.ofNat 60), .int (0 : Int32), .ref 239, .int (0 : Int32), .ref 43], (SH, m.1, m.2)) from rfl) ?_
  obtain ⟨q1, hc1, h⟩ := Option.bind_eq_some_iff.mp h
  refine m_R_cS (v := (some (.int q1.1))) (h1 := (SH, q1.2)) (rest := [.int (0 : Int32), .ref 239, .int (0 : Int32), .ref 43]) (lo' := [some (.int (Int32.ofNat 60)), some (.int (Int32.ofNat 60))]) (ml := 2) (by decide) (m_opb_of (ins := .invokestatic 219) (len := 3) (tag := 4) (a := 50) (b := 2) (c := 0) (q := 893) (by decide +kernel)) (by decide +kernel) (Nat.le_of_ble_eq_true rfl) rfl (Nat.le_of_ble_eq_true rfl) rfl rfl (ok_Math_min_II X (d + 0) F _ _ _ _ _ hc1) ?_
  obtain ⟨c0, h⟩ := m_ite_n h
  refine m_R_cpy (by decide) (m_opb_of (ins := .invokestatic 452) (len := 3) (tag := 8) (a := 0) (b := 0) (c := 0) (q := 1391) (by decide +kernel)) (Nat.le_of_ble_eq_true rfl) (m_cpy_of sh_43 sh_239 c0) ?_
  obtain ⟨rfl, rfl⟩ := m_some h
  exact m_R_vret (by decide) (m_opb_of (ins := .return_) (len := 1) (tag := 3) (a := 0) (b := 0) (c := 0) (q := 0) (by decide +kernel))
def f_x_copyAll_44_240 (F : Nat)    (m : mM) : Option (Unit × mM) := ((f_Math_min_II F (Int32.ofNat 60) (Int32.ofNat 60) m).bind fun q1 => (if (0 : Int32) < 0 ∨ (0 : Int32) < 0 ∨ q1.1 < 0 ∨ 60 < (0 : Int32).toNatClampNeg + q1.1.toNatClampNeg ∨ 60 < (0 : Int32).toNatClampNeg + q1.1.toNatClampNeg then none else some ((), ((m_row q1.2.1 240 (va_cpy (q1.2.1 44) (q1.2.1 240) (0 : Int32).toNatClampNeg (0 : Int32).toNatClampNeg q1.1.toNatClampNeg)), q1.2.2))))
theorem ok_x_copyAll_44_240 (X : mX) (d F : Nat) : ∀   (m : mM) (r : Unit) (m' : mM), f_x_copyAll_44_240 F  m = some (r, m') → m_R X (d + 1) 176 0 [some (.ref 44), some (.ref 240)] [] (SH, m) (none, (SH, m')) := by
  intro m r m' h
  unfold f_x_copyAll_44_240 at h
  refine m_R_sg (by decide) [(.aload_n 0, 1, 0, 0, 0, 0, 0), (.iconst 0, 1, 0, 0, 0, 0, 0), (.aload_n 1, 1, 0, 1, 0, 0, 0), (.iconst 0, 1, 0, 0, 0, 0, 0), (.aload_n 0, 1, 0, 0, 0, 0, 0), (.arraylength, 1, 0, 0, 0, 0, 0), (.aload_n 1, 1, 0, 1, 0, 0, 0), (.arraylength, 1, 0, 0, 0, 0, 0)] (by decide +kernel) (show m_sgl X _ _ _ _ _ = some (8, [some (.ref 44), some (.ref 240)], [.int (Int32.ofNat 60), .int (Int32.ofNat 60), .int (0 : Int32), .ref 240, .int (0 : Int32), .ref 44], (SH, m.1, m.2)) from rfl) ?_
  obtain ⟨q1, hc1, h⟩ := Option.bind_eq_some_iff.mp h
  refine m_R_cS (v := (some (.int q1.1))) (h1 := (SH, q1.2)) (rest := [.int (0 : Int32), .ref 240, .int (0 : Int32), .ref 44]) (lo' := [some (.int (Int32.ofNat 60)), some (.int (Int32.ofNat 60))]) (ml := 2) (by decide) (m_opb_of (ins := .invokestatic 219) (len := 3) (tag := 4) (a := 50) (b := 2) (c := 0) (q := 893) (by decide +kernel)) (by decide +kernel) (Nat.le_of_ble_eq_true rfl) rfl (Nat.le_of_ble_eq_true rfl) rfl rfl (ok_Math_min_II X (d + 0) F _ _ _ _ _ hc1) ?_
  obtain ⟨c0, h⟩ := m_ite_n h
  refine m_R_cpy (by decide) (m_opb_of (ins := .invokestatic 452) (len := 3) (tag := 8) (a := 0) (b := 0) (c := 0) (q := 1391) (by decide +kernel)) (Nat.le_of_ble_eq_true rfl) (m_cpy_of sh_44 sh_240 c0) ?_
  obtain ⟨rfl, rfl⟩ := m_some h
  exact m_R_vret (by decide) (m_opb_of (ins := .return_) (len := 1) (tag := 3) (a := 0) (b := 0) (c := 0) (q := 0) (by decide +kernel))
def f_Papers_become_227_31 (F : Nat)    (m : mM) : Option (Unit × mM) := ((f_x_copyAll_32_228 F m).bind fun q1 => ((f_x_copyAll_33_229 F q1.2).bind fun q2 => ((f_x_copyAll_34_230 F q2.2).bind fun q3 => ((f_x_copyAll_35_231 F q3.2).bind fun q4 => ((f_x_copyAll_36_232 F q4.2).bind fun q5 => ((f_x_copyAll_37_233 F q5.2).bind fun q6 => ((f_x_copyAll_38_234 F q6.2).bind fun q7 => ((f_x_copyAll_39_235 F q7.2).bind fun q8 => ((f_x_copyAll_40_236 F q8.2).bind fun q9 => ((f_x_copyAll_41_237 F q9.2).bind fun q10 => ((f_x_copyAll_42_238 F q10.2).bind fun q11 => ((f_x_copyAll_43_239 F q11.2).bind fun q12 => ((f_x_copyAll_44_240 F q12.2).bind fun q13 => some ((), ((m_up (m_up q13.2.1 227 14 (q13.2.1 31 14)) 227 15 ((m_up q13.2.1 227 14 (q13.2.1 31 14)) 31 15)), q13.2.2)))))))))))))))
theorem ok_Papers_become_227_31 (X : mX) (d F : Nat) : ∀   (m : mM) (r : Unit) (m' : mM), f_Papers_become_227_31 F  m = some (r, m') → m_R X (d + 2) 178 0 [some (.ref 227), some (.ref 31)] [] (SH, m) (none, (SH, m')) := by
  intro m r m' h
  unfold f_Papers_become_227_31 at h
  refine m_R_sg (by decide) [(.aload_n 1, 1, 0, 1, 0, 0, 0), (.getfield 9, 3, 0, 4, 0, 3, 317), (.aload_n 0, 1, 0, 0, 0, 0, 0), (.getfield 9, 3, 0, 4, 0, 3, 317)] (by decide +kernel) (show m_sgl X _ _ _ _ _ = some (8, [some (.ref 227), some (.ref 31)], [.ref 228, .ref 32], (SH, m.1, m.2)) from rfl) ?_
  obtain ⟨q1, hc1, h⟩ := Option.bind_eq_some_iff.mp h
  refine m_R_cS (v := none) (h1 := (SH, q1.2)) (rest := []) (lo' := [some (.ref 32), some (.ref 228)]) (ml := 2) (by decide) (m_opb_of (ins := .invokestatic 55) (len := 3) (tag := 4) (a := 176) (b := 2) (c := 1) (q := 1401) (by decide +kernel)) (by decide +kernel) (Nat.le_of_ble_eq_true rfl) rfl (Nat.le_of_ble_eq_true rfl) rfl rfl (ok_x_copyAll_32_228 X (d + 0) F _ _ _ hc1) ?_
  refine m_R_sg (by decide) [(.aload_n 1, 1, 0, 1, 0, 0, 0), (.getfield 15, 3, 0, 4, 1, 3, 321), (.aload_n 0, 1, 0, 0, 0, 0, 0), (.getfield 15, 3, 0, 4, 1, 3, 321)] (by decide +kernel) (show m_sgl X _ _ _ _ _ = some (19, [some (.ref 227), some (.ref 31)], [.ref 229, .ref 33], (SH, q1.2.1, q1.2.2)) from rfl) ?_
  obtain ⟨q2, hc2, h⟩ := Option.bind_eq_some_iff.mp h
  refine m_R_cS (v := none) (h1 := (SH, q2.2)) (rest := []) (lo' := [some (.ref 33), some (.ref 229)]) (ml := 2) (by decide) (m_opb_of (ins := .invokestatic 55) (len := 3) (tag := 4) (a := 176) (b := 2) (c := 1) (q := 1401) (by decide +kernel)) (by decide +kernel) (Nat.le_of_ble_eq_true rfl) rfl (Nat.le_of_ble_eq_true rfl) rfl rfl (ok_x_copyAll_33_229 X (d + 0) F _ _ _ hc2) ?_
  refine m_R_sg (by decide) [(.aload_n 1, 1, 0, 1, 0, 0, 0), (.getfield 18, 3, 0, 4, 2, 3, 325), (.aload_n 0, 1, 0, 0, 0, 0, 0), (.getfield 18, 3, 0, 4, 2, 3, 325)] (by decide +kernel) (show m_sgl X _ _ _ _ _ = some (30, [some (.ref 227), some (.ref 31)], [.ref 230, .ref 34], (SH, q2.2.1, q2.2.2)) from rfl) ?_
  obtain ⟨q3, hc3, h⟩ := Option.bind_eq_some_iff.mp h
  refine m_R_cS (v := none) (h1 := (SH, q3.2)) (rest := []) (lo' := [some (.ref 34), some (.ref 230)]) (ml := 2) (by decide) (m_opb_of (ins := .invokestatic 55) (len := 3) (tag := 4) (a := 176) (b := 2) (c := 1) (q := 1401) (by decide +kernel)) (by decide +kernel) (Nat.le_of_ble_eq_true rfl) rfl (Nat.le_of_ble_eq_true rfl) rfl rfl (ok_x_copyAll_34_230 X (d + 0) F _ _ _ hc3) ?_
  refine m_R_sg (by decide) [(.aload_n 1, 1, 0, 1, 0, 0, 0), (.getfield 21, 3, 0, 4, 3, 3, 329), (.aload_n 0, 1, 0, 0, 0, 0, 0), (.getfield 21, 3, 0, 4, 3, 3, 329)] (by decide +kernel) (show m_sgl X _ _ _ _ _ = some (41, [some (.ref 227), some (.ref 31)], [.ref 231, .ref 35], (SH, q3.2.1, q3.2.2)) from rfl) ?_
  obtain ⟨q4, hc4, h⟩ := Option.bind_eq_some_iff.mp h
  refine m_R_cS (v := none) (h1 := (SH, q4.2)) (rest := []) (lo' := [some (.ref 35), some (.ref 231)]) (ml := 2) (by decide) (m_opb_of (ins := .invokestatic 55) (len := 3) (tag := 4) (a := 176) (b := 2) (c := 1) (q := 1401) (by decide +kernel)) (by decide +kernel) (Nat.le_of_ble_eq_true rfl) rfl (Nat.le_of_ble_eq_true rfl) rfl rfl (ok_x_copyAll_35_231 X (d + 0) F _ _ _ hc4) ?_
  refine m_R_sg (by decide) [(.aload_n 1, 1, 0, 1, 0, 0, 0), (.getfield 24, 3, 0, 4, 4, 3, 333), (.aload_n 0, 1, 0, 0, 0, 0, 0), (.getfield 24, 3, 0, 4, 4, 3, 333)] (by decide +kernel) (show m_sgl X _ _ _ _ _ = some (52, [some (.ref 227), some (.ref 31)], [.ref 232, .ref 36], (SH, q4.2.1, q4.2.2)) from rfl) ?_
  obtain ⟨q5, hc5, h⟩ := Option.bind_eq_some_iff.mp h
  refine m_R_cS (v := none) (h1 := (SH, q5.2)) (rest := []) (lo' := [some (.ref 36), some (.ref 232)]) (ml := 2) (by decide) (m_opb_of (ins := .invokestatic 55) (len := 3) (tag := 4) (a := 176) (b := 2) (c := 1) (q := 1401) (by decide +kernel)) (by decide +kernel) (Nat.le_of_ble_eq_true rfl) rfl (Nat.le_of_ble_eq_true rfl) rfl rfl (ok_x_copyAll_36_232 X (d + 0) F _ _ _ hc5) ?_
  refine m_R_sg (by decide) [(.aload_n 1, 1, 0, 1, 0, 0, 0), (.getfield 27, 3, 0, 4, 5, 3, 336), (.aload_n 0, 1, 0, 0, 0, 0, 0), (.getfield 27, 3, 0, 4, 5, 3, 336)] (by decide +kernel) (show m_sgl X _ _ _ _ _ = some (63, [some (.ref 227), some (.ref 31)], [.ref 233, .ref 37], (SH, q5.2.1, q5.2.2)) from rfl) ?_
  obtain ⟨q6, hc6, h⟩ := Option.bind_eq_some_iff.mp h
  refine m_R_cS (v := none) (h1 := (SH, q6.2)) (rest := []) (lo' := [some (.ref 37), some (.ref 233)]) (ml := 2) (by decide) (m_opb_of (ins := .invokestatic 55) (len := 3) (tag := 4) (a := 176) (b := 2) (c := 1) (q := 1401) (by decide +kernel)) (by decide +kernel) (Nat.le_of_ble_eq_true rfl) rfl (Nat.le_of_ble_eq_true rfl) rfl rfl (ok_x_copyAll_37_233 X (d + 0) F _ _ _ hc6) ?_
  refine m_R_sg (by decide) [(.aload_n 1, 1, 0, 1, 0, 0, 0), (.getfield 30, 3, 0, 4, 6, 3, 339), (.aload_n 0, 1, 0, 0, 0, 0, 0), (.getfield 30, 3, 0, 4, 6, 3, 339)] (by decide +kernel) (show m_sgl X _ _ _ _ _ = some (74, [some (.ref 227), some (.ref 31)], [.ref 234, .ref 38], (SH, q6.2.1, q6.2.2)) from rfl) ?_
  obtain ⟨q7, hc7, h⟩ := Option.bind_eq_some_iff.mp h
  refine m_R_cS (v := none) (h1 := (SH, q7.2)) (rest := []) (lo' := [some (.ref 38), some (.ref 234)]) (ml := 2) (by decide) (m_opb_of (ins := .invokestatic 55) (len := 3) (tag := 4) (a := 176) (b := 2) (c := 1) (q := 1401) (by decide +kernel)) (by decide +kernel) (Nat.le_of_ble_eq_true rfl) rfl (Nat.le_of_ble_eq_true rfl) rfl rfl (ok_x_copyAll_38_234 X (d + 0) F _ _ _ hc7) ?_
  refine m_R_sg (by decide) [(.aload_n 1, 1, 0, 1, 0, 0, 0), (.getfield 33, 3, 0, 4, 7, 3, 342), (.aload_n 0, 1, 0, 0, 0, 0, 0), (.getfield 33, 3, 0, 4, 7, 3, 342)] (by decide +kernel) (show m_sgl X _ _ _ _ _ = some (85, [some (.ref 227), some (.ref 31)], [.ref 235, .ref 39], (SH, q7.2.1, q7.2.2)) from rfl) ?_
  obtain ⟨q8, hc8, h⟩ := Option.bind_eq_some_iff.mp h
  refine m_R_cS (v := none) (h1 := (SH, q8.2)) (rest := []) (lo' := [some (.ref 39), some (.ref 235)]) (ml := 2) (by decide) (m_opb_of (ins := .invokestatic 55) (len := 3) (tag := 4) (a := 176) (b := 2) (c := 1) (q := 1401) (by decide +kernel)) (by decide +kernel) (Nat.le_of_ble_eq_true rfl) rfl (Nat.le_of_ble_eq_true rfl) rfl rfl (ok_x_copyAll_39_235 X (d + 0) F _ _ _ hc8) ?_
  refine m_R_sg (by decide) [(.aload_n 1, 1, 0, 1, 0, 0, 0), (.getfield 36, 3, 0, 4, 8, 3, 345), (.aload_n 0, 1, 0, 0, 0, 0, 0), (.getfield 36, 3, 0, 4, 8, 3, 345)] (by decide +kernel) (show m_sgl X _ _ _ _ _ = some (96, [some (.ref 227), some (.ref 31)], [.ref 236, .ref 40], (SH, q8.2.1, q8.2.2)) from rfl) ?_
  obtain ⟨q9, hc9, h⟩ := Option.bind_eq_some_iff.mp h
  refine m_R_cS (v := none) (h1 := (SH, q9.2)) (rest := []) (lo' := [some (.ref 40), some (.ref 236)]) (ml := 2) (by decide) (m_opb_of (ins := .invokestatic 55) (len := 3) (tag := 4) (a := 176) (b := 2) (c := 1) (q := 1401) (by decide +kernel)) (by decide +kernel) (Nat.le_of_ble_eq_true rfl) rfl (Nat.le_of_ble_eq_true rfl) rfl rfl (ok_x_copyAll_40_236 X (d + 0) F _ _ _ hc9) ?_
  refine m_R_sg (by decide) [(.aload_n 1, 1, 0, 1, 0, 0, 0), (.getfield 39, 3, 0, 4, 9, 3, 348), (.aload_n 0, 1, 0, 0, 0, 0, 0), (.getfield 39, 3, 0, 4, 9, 3, 348)] (by decide +kernel) (show m_sgl X _ _ _ _ _ = some (107, [some (.ref 227), some (.ref 31)], [.ref 237, .ref 41], (SH, q9.2.1, q9.2.2)) from rfl) ?_
  obtain ⟨q10, hc10, h⟩ := Option.bind_eq_some_iff.mp h
  refine m_R_cS (v := none) (h1 := (SH, q10.2)) (rest := []) (lo' := [some (.ref 41), some (.ref 237)]) (ml := 2) (by decide) (m_opb_of (ins := .invokestatic 55) (len := 3) (tag := 4) (a := 176) (b := 2) (c := 1) (q := 1401) (by decide +kernel)) (by decide +kernel) (Nat.le_of_ble_eq_true rfl) rfl (Nat.le_of_ble_eq_true rfl) rfl rfl (ok_x_copyAll_41_237 X (d + 0) F _ _ _ hc10) ?_
  refine m_R_sg (by decide) [(.aload_n 1, 1, 0, 1, 0, 0, 0), (.getfield 42, 3, 0, 4, 10, 3, 351), (.aload_n 0, 1, 0, 0, 0, 0, 0), (.getfield 42, 3, 0, 4, 10, 3, 351)] (by decide +kernel) (show m_sgl X _ _ _ _ _ = some (118, [some (.ref 227), some (.ref 31)], [.ref 238, .ref 42], (SH, q10.2.1, q10.2.2)) from rfl) ?_
  obtain ⟨q11, hc11, h⟩ := Option.bind_eq_some_iff.mp h
  refine m_R_cS (v := none) (h1 := (SH, q11.2)) (rest := []) (lo' := [some (.ref 42), some (.ref 238)]) (ml := 2) (by decide) (m_opb_of (ins := .invokestatic 55) (len := 3) (tag := 4) (a := 176) (b := 2) (c := 1) (q := 1401) (by decide +kernel)) (by decide +kernel) (Nat.le_of_ble_eq_true rfl) rfl (Nat.le_of_ble_eq_true rfl) rfl rfl (ok_x_copyAll_42_238 X (d + 0) F _ _ _ hc11) ?_
  refine m_R_sg (by decide) [(.aload_n 1, 1, 0, 1, 0, 0, 0), (.getfield 45, 3, 0, 4, 11, 3, 354), (.aload_n 0, 1, 0, 0, 0, 0, 0), (.getfield 45, 3, 0, 4, 11, 3, 354)] (by decide +kernel) (show m_sgl X _ _ _ _ _ = some (129, [some (.ref 227), some (.ref 31)], [.ref 239, .ref 43], (SH, q11.2.1, q11.2.2)) from rfl) ?_
  obtain ⟨q12, hc12, h⟩ := Option.bind_eq_some_iff.mp h
  refine m_R_cS (v := none) (h1 := (SH, q12.2)) (rest := []) (lo' := [some (.ref 43), some (.ref 239)]) (ml := 2) (by decide) (m_opb_of (ins := .invokestatic 55) (len := 3) (tag := 4) (a := 176) (b := 2) (c := 1) (q := 1401) (by decide +kernel)) (by decide +kernel) (Nat.le_of_ble_eq_true rfl) rfl (Nat.le_of_ble_eq_true rfl) rfl rfl (ok_x_copyAll_43_239 X (d + 0) F _ _ _ hc12) ?_
  refine m_R_sg (by decide) [(.aload_n 1, 1, 0, 1, 0, 0, 0), (.getfield 48, 3, 0, 4, 12, 3, 357), (.aload_n 0, 1, 0, 0, 0, 0, 0), (.getfield 48, 3, 0, 4, 12, 3, 357)] (by decide +kernel) (show m_sgl X _ _ _ _ _ = some (140, [some (.ref 227), some (.ref 31)], [.ref 240, .ref 44], (SH, q12.2.1, q12.2.2)) from rfl) ?_
  obtain ⟨q13, hc13, h⟩ := Option.bind_eq_some_iff.mp h
  refine m_R_cS (v := none) (h1 := (SH, q13.2)) (rest := []) (lo' := [some (.ref 44), some (.ref 240)]) (ml := 2) (by decide) (m_opb_of (ins := .invokestatic 55) (len := 3) (tag := 4) (a := 176) (b := 2) (c := 1) (q := 1401) (by decide +kernel)) (by decide +kernel) (Nat.le_of_ble_eq_true rfl) rfl (Nat.le_of_ble_eq_true rfl) rfl rfl (ok_x_copyAll_44_240 X (d + 0) F _ _ _ hc13) ?_
  refine m_R_sg (by decide) [(.aload_n 0, 1, 0, 0, 0, 0, 0), (.aload_n 1, 1, 0, 1, 0, 0, 0), (.getfield 59, 3, 0, 4, 14, 0, 361), (.putfield 59, 3, 0, 4, 14, 0, 361), (.aload_n 0, 1, 0, 0, 0, 0, 0), (.aload_n 1, 1, 0, 1, 0, 0, 0), (.getfield 63, 3, 0, 4, 15, 0, 363), (.putfield 63, 3, 0, 4, 15, 0, 363)] (by decide +kernel) (show m_sgl X _ _ _ _ _ = some (159, [some (.ref 227), some (.ref 31)], [], (SH, (m_up (m_up q13.2.1 227 14 (q13.2.1 31 14)) 227 15 ((m_up q13.2.1 227 14 (q13.2.1 31 14)) 31 15)), q13.2.2)) from rfl) ?_
  obtain ⟨rfl, rfl⟩ := m_some h
  exact m_R_vret (by decide) (m_opb_of (ins := .return_) (len := 1) (tag := 3) (a := 0) (b := 0) (c := 0) (q := 0) (by decide +kernel))
def f_x_copyAll_47_243 (F : Nat)    (m : mM) : Option (Unit × mM) := ((f_Math_min_II F (Int32.ofNat 8) (Int32.ofNat 8) m).bind fun q1 => (if (0 : Int32) < 0 ∨ (0 : Int32) < 0 ∨ q1.1 < 0 ∨ 8 < (0 : Int32).toNatClampNeg + q1.1.toNatClampNeg ∨ 8 < (0 : Int32).toNatClampNeg + q1.1.toNatClampNeg then none else some ((), ((m_row q1.2.1 243 (va_cpy (q1.2.1 47) (q1.2.1 243) (0 : Int32).toNatClampNeg (0 : Int32).toNatClampNeg q1.1.toNatClampNeg)), q1.2.2))))
theorem ok_x_copyAll_47_243 (X : mX) (d F : Nat) : ∀   (m : mM) (r : Unit) (m' : mM), f_x_copyAll_47_243 F  m = some (r, m') → m_R X (d + 1) 176 0 [some (.ref 47), some (.ref 243)] [] (SH, m) (none, (SH, m')) := by
  intro m r m' h
  unfold f_x_copyAll_47_243 at h
  refine m_R_sg (by decide) [(.aload_n 0, 1, 0, 0, 0, 0, 0), (.iconst 0, 1, 0, 0, 0, 0, 0), (.aload_n 1, 1, 0, 1, 0, 0, 0), (.iconst 0, 1, 0, 0, 0, 0, 0), (.aload_n 0, 1, 0, 0, 0, 0, 0), (.arraylength, 1, 0, 0, 0, 0, 0), (.aload_n 1, 1, 0, 1, 0, 0, 0), (.arraylength, 1, 0, 0, 0, 0, 0)] (by decide +kernel) (show m_sgl X _ _ _ _ _ = some (8, [some (.ref 47), some (.ref 243)], [.int (Int32.ofNat 8), .int (Int32.ofNat 8), .int (0 : Int32), .ref 243, .int (0 : Int32), .ref 47], (SH, m.1, m.2)) from rfl) ?_
  obtain ⟨q1, hc1, h⟩ := Option.bind_eq_some_iff.mp h
  refine m_R_cS (v := (some (.int q1.1))) (h1 := (SH, q1.2)) (rest := [.int (0 : Int32), .ref 243, .int (0 : Int32), .ref 47]) (lo' := [some (.int (Int32.ofNat 8)), some (.int (Int32.ofNat 8))]) (ml := 2) (by decide) (m_opb_of (ins := .invokestatic 219) (len := 3) (tag := 4) (a := 50) (b := 2) (c := 0) (q := 893) (by decide +kernel)) (by decide +kernel) (Nat.le_of_ble_eq_true rfl) rfl (Nat.le_of_ble_eq_true rfl) rfl rfl (ok_Math_min_II X (d + 0) F _ _ _ _ _ hc1) ?_
  obtain ⟨c0, h⟩ := m_ite_n h
  refine m_R_cpy (by decide) (m_opb_of (ins := .invokestatic 452) (len := 3) (tag := 8) (a := 0) (b := 0) (c := 0) (q := 1391) (by decide +kernel)) (Nat.le_of_ble_eq_true rfl) (m_cpy_of sh_47 sh_243 c0) ?_
  obtain ⟨rfl, rfl⟩ := m_some h
  exact m_R_vret (by decide) (m_opb_of (ins := .return_) (len := 1) (tag := 3) (a := 0) (b := 0) (c := 0) (q := 0) (by decide +kernel))
def f_x_copyAll_48_244 (F : Nat)    (m : mM) : Option (Unit × mM) := ((f_Math_min_II F (Int32.ofNat 8) (Int32.ofNat 8) m).bind fun q1 => (if (0 : Int32) < 0 ∨ (0 : Int32) < 0 ∨ q1.1 < 0 ∨ 8 < (0 : Int32).toNatClampNeg + q1.1.toNatClampNeg ∨ 8 < (0 : Int32).toNatClampNeg + q1.1.toNatClampNeg then none else some ((), ((m_row q1.2.1 244 (va_cpy (q1.2.1 48) (q1.2.1 244) (0 : Int32).toNatClampNeg (0 : Int32).toNatClampNeg q1.1.toNatClampNeg)), q1.2.2))))
theorem ok_x_copyAll_48_244 (X : mX) (d F : Nat) : ∀   (m : mM) (r : Unit) (m' : mM), f_x_copyAll_48_244 F  m = some (r, m') → m_R X (d + 1) 176 0 [some (.ref 48), some (.ref 244)] [] (SH, m) (none, (SH, m')) := by
  intro m r m' h
  unfold f_x_copyAll_48_244 at h
  refine m_R_sg (by decide) [(.aload_n 0, 1, 0, 0, 0, 0, 0), (.iconst 0, 1, 0, 0, 0, 0, 0), (.aload_n 1, 1, 0, 1, 0, 0, 0), (.iconst 0, 1, 0, 0, 0, 0, 0), (.aload_n 0, 1, 0, 0, 0, 0, 0), (.arraylength, 1, 0, 0, 0, 0, 0), (.aload_n 1, 1, 0, 1, 0, 0, 0), (.arraylength, 1, 0, 0, 0, 0, 0)] (by decide +kernel) (show m_sgl X _ _ _ _ _ = some (8, [some (.ref 48), some (.ref 244)], [.int (Int32.ofNat 8), .int (Int32.ofNat 8), .int (0 : Int32), .ref 244, .int (0 : Int32), .ref 48], (SH, m.1, m.2)) from rfl) ?_
  obtain ⟨q1, hc1, h⟩ := Option.bind_eq_some_iff.mp h
  refine m_R_cS (v := (some (.int q1.1))) (h1 := (SH, q1.2)) (rest := [.int (0 : Int32), .ref 244, .int (0 : Int32), .ref 48]) (lo' := [some (.int (Int32.ofNat 8)), some (.int (Int32.ofNat 8))]) (ml := 2) (by decide) (m_opb_of (ins := .invokestatic 219) (len := 3) (tag := 4) (a := 50) (b := 2) (c := 0) (q := 893) (by decide +kernel)) (by decide +kernel) (Nat.le_of_ble_eq_true rfl) rfl (Nat.le_of_ble_eq_true rfl) rfl rfl (ok_Math_min_II X (d + 0) F _ _ _ _ _ hc1) ?_
  obtain ⟨c0, h⟩ := m_ite_n h
  refine m_R_cpy (by decide) (m_opb_of (ins := .invokestatic 452) (len := 3) (tag := 8) (a := 0) (b := 0) (c := 0) (q := 1391) (by decide +kernel)) (Nat.le_of_ble_eq_true rfl) (m_cpy_of sh_48 sh_244 c0) ?_
  obtain ⟨rfl, rfl⟩ := m_some h
  exact m_R_vret (by decide) (m_opb_of (ins := .return_) (len := 1) (tag := 3) (a := 0) (b := 0) (c := 0) (q := 0) (by decide +kernel))
def f_x_copyAll_49_245 (F : Nat)    (m : mM) : Option (Unit × mM) := ((f_Math_min_II F (Int32.ofNat 8) (Int32.ofNat 8) m).bind fun q1 => (if (0 : Int32) < 0 ∨ (0 : Int32) < 0 ∨ q1.1 < 0 ∨ 8 < (0 : Int32).toNatClampNeg + q1.1.toNatClampNeg ∨ 8 < (0 : Int32).toNatClampNeg + q1.1.toNatClampNeg then none else some ((), ((m_row q1.2.1 245 (va_cpy (q1.2.1 49) (q1.2.1 245) (0 : Int32).toNatClampNeg (0 : Int32).toNatClampNeg q1.1.toNatClampNeg)), q1.2.2))))
theorem ok_x_copyAll_49_245 (X : mX) (d F : Nat) : ∀   (m : mM) (r : Unit) (m' : mM), f_x_copyAll_49_245 F  m = some (r, m') → m_R X (d + 1) 176 0 [some (.ref 49), some (.ref 245)] [] (SH, m) (none, (SH, m')) := by
  intro m r m' h
  unfold f_x_copyAll_49_245 at h
  refine m_R_sg (by decide) [(.aload_n 0, 1, 0, 0, 0, 0, 0), (.iconst 0, 1, 0, 0, 0, 0, 0), (.aload_n 1, 1, 0, 1, 0, 0, 0), (.iconst 0, 1, 0, 0, 0, 0, 0), (.aload_n 0, 1, 0, 0, 0, 0, 0), (.arraylength, 1, 0, 0, 0, 0, 0), (.aload_n 1, 1, 0, 1, 0, 0, 0), (.arraylength, 1, 0, 0, 0, 0, 0)] (by decide +kernel) (show m_sgl X _ _ _ _ _ = some (8, [some (.ref 49), some (.ref 245)], [.int (Int32.ofNat 8), .int (Int32.ofNat 8), .int (0 : Int32), .ref 245, .int (0 : Int32), .ref 49], (SH, m.1, m.2)) from rfl) ?_
  obtain ⟨q1, hc1, h⟩ := Option.bind_eq_some_iff.mp h
  refine m_R_cS (v := (some (.int q1.1))) (h1 := (SH, q1.2)) (rest := [.int (0 : Int32), .ref 245, .int (0 : Int32), .ref 49]) (lo' := [some (.int (Int32.ofNat 8)), some (.int (Int32.ofNat 8))]) (ml := 2) (by decide) (m_opb_of (ins := .invokestatic 219) (len := 3) (tag := 4) (a := 50) (b := 2) (c := 0) (q := 893) (by decide +kernel)) (by decide +kernel) (Nat.le_of_ble_eq_true rfl) rfl (Nat.le_of_ble_eq_true rfl) rfl rfl (ok_Math_min_II X (d + 0) F _ _ _ _ _ hc1) ?_
  obtain ⟨c0, h⟩ := m_ite_n h
  refine m_R_cpy (by decide) (m_opb_of (ins := .invokestatic 452) (len := 3) (tag := 8) (a := 0) (b := 0) (c := 0) (q := 1391) (by decide +kernel)) (Nat.le_of_ble_eq_true rfl) (m_cpy_of sh_49 sh_245 c0) ?_
  obtain ⟨rfl, rfl⟩ := m_some h
  exact m_R_vret (by decide) (m_opb_of (ins := .return_) (len := 1) (tag := 3) (a := 0) (b := 0) (c := 0) (q := 0) (by decide +kernel))
def f_x_copyAll_50_246 (F : Nat)    (m : mM) : Option (Unit × mM) := ((f_Math_min_II F (Int32.ofNat 8) (Int32.ofNat 8) m).bind fun q1 => (if (0 : Int32) < 0 ∨ (0 : Int32) < 0 ∨ q1.1 < 0 ∨ 8 < (0 : Int32).toNatClampNeg + q1.1.toNatClampNeg ∨ 8 < (0 : Int32).toNatClampNeg + q1.1.toNatClampNeg then none else some ((), ((m_row q1.2.1 246 (va_cpy (q1.2.1 50) (q1.2.1 246) (0 : Int32).toNatClampNeg (0 : Int32).toNatClampNeg q1.1.toNatClampNeg)), q1.2.2))))
theorem ok_x_copyAll_50_246 (X : mX) (d F : Nat) : ∀   (m : mM) (r : Unit) (m' : mM), f_x_copyAll_50_246 F  m = some (r, m') → m_R X (d + 1) 176 0 [some (.ref 50), some (.ref 246)] [] (SH, m) (none, (SH, m')) := by
  intro m r m' h
  unfold f_x_copyAll_50_246 at h
  refine m_R_sg (by decide) [(.aload_n 0, 1, 0, 0, 0, 0, 0), (.iconst 0, 1, 0, 0, 0, 0, 0), (.aload_n 1, 1, 0, 1, 0, 0, 0), (.iconst 0, 1, 0, 0, 0, 0, 0), (.aload_n 0, 1, 0, 0, 0, 0, 0), (.arraylength, 1, 0, 0, 0, 0, 0), (.aload_n 1, 1, 0, 1, 0, 0, 0), (.arraylength, 1, 0, 0, 0, 0, 0)] (by decide +kernel) (show m_sgl X _ _ _ _ _ = some (8, [some (.ref 50), some (.ref 246)], [.int (Int32.ofNat 8), .int (Int32.ofNat 8), .int (0 : Int32), .ref 246, .int (0 : Int32), .ref 50], (SH, m.1, m.2)) from rfl) ?_
  obtain ⟨q1, hc1, h⟩ := Option.bind_eq_some_iff.mp h
  refine m_R_cS (v := (some (.int q1.1))) (h1 := (SH, q1.2)) (rest := [.int (0 : Int32), .ref 246, .int (0 : Int32), .ref 50]) (lo' := [some (.int (Int32.ofNat 8)), some (.int (Int32.ofNat 8))]) (ml := 2) (by decide) (m_opb_of (ins := .invokestatic 219) (len := 3) (tag := 4) (a := 50) (b := 2) (c := 0) (q := 893) (by decide +kernel)) (by decide +kernel) (Nat.le_of_ble_eq_true rfl) rfl (Nat.le_of_ble_eq_true rfl) rfl rfl (ok_Math_min_II X (d + 0) F _ _ _ _ _ hc1) ?_
  obtain ⟨c0, h⟩ := m_ite_n h
  refine m_R_cpy (by decide) (m_opb_of (ins := .invokestatic 452) (len := 3) (tag := 8) (a := 0) (b := 0) (c := 0) (q := 1391) (by decide +kernel)) (Nat.le_of_ble_eq_true rfl) (m_cpy_of sh_50 sh_246 c0) ?_
  obtain ⟨rfl, rfl⟩ := m_some h
  exact m_R_vret (by decide) (m_opb_of (ins := .return_) (len := 1) (tag := 3) (a := 0) (b := 0) (c := 0) (q := 0) (by decide +kernel))
def f_x_copyAll_51_247 (F : Nat)    (m : mM) : Option (Unit × mM) := ((f_Math_min_II F (Int32.ofNat 8) (Int32.ofNat 8) m).bind fun q1 => (if (0 : Int32) < 0 ∨ (0 : Int32) < 0 ∨ q1.1 < 0 ∨ 8 < (0 : Int32).toNatClampNeg + q1.1.toNatClampNeg ∨ 8 < (0 : Int32).toNatClampNeg + q1.1.toNatClampNeg then none else some ((), ((m_row q1.2.1 247 (va_cpy (q1.2.1 51) (q1.2.1 247) (0 : Int32).toNatClampNeg (0 : Int32).toNatClampNeg q1.1.toNatClampNeg)), q1.2.2))))
theorem ok_x_copyAll_51_247 (X : mX) (d F : Nat) : ∀   (m : mM) (r : Unit) (m' : mM), f_x_copyAll_51_247 F  m = some (r, m') → m_R X (d + 1) 176 0 [some (.ref 51), some (.ref 247)] [] (SH, m) (none, (SH, m')) := by
  intro m r m' h
  unfold f_x_copyAll_51_247 at h
  refine m_R_sg (by decide) [(.aload_n 0, 1, 0, 0, 0, 0, 0), (.iconst 0, 1, 0, 0, 0, 0, 0), (.aload_n 1, 1, 0, 1, 0, 0, 0), (.iconst 0, 1, 0, 0, 0, 0, 0), (.aload_n 0, 1, 0, 0, 0, 0, 0), (.arraylength, 1, 0, 0, 0, 0, 0), (.aload_n 1, 1, 0, 1, 0, 0, 0), (.arraylength, 1, 0, 0, 0, 0, 0)] (by decide +kernel) (show m_sgl X _ _ _ _ _ = some (8, [some (.ref 51), some (.ref 247)], [.int (Int32.ofNat 8), .int (Int32.ofNat 8), .int (0 : Int32), .ref 247, .int (0 : Int32), .ref 51], (SH, m.1, m.2)) from rfl) ?_
  obtain ⟨q1, hc1, h⟩ := Option.bind_eq_some_iff.mp h
  refine m_R_cS (v := (some (.int q1.1))) (h1 := (SH, q1.2)) (rest := [.int (0 : Int32), .ref 247, .int (0 : Int32), .ref 51]) (lo' := [some (.int (Int32.ofNat 8)), some (.int (Int32.ofNat 8))]) (ml := 2) (by decide) (m_opb_of (ins := .invokestatic 219) (len := 3) (tag := 4) (a := 50) (b := 2) (c := 0) (q := 893) (by decide +kernel)) (by decide +kernel) (Nat.le_of_ble_eq_true rfl) rfl (Nat.le_of_ble_eq_true rfl) rfl rfl (ok_Math_min_II X (d + 0) F _ _ _ _ _ hc1) ?_
  obtain ⟨c0, h⟩ := m_ite_n h
  refine m_R_cpy (by decide) (m_opb_of (ins := .invokestatic 452) (len := 3) (tag := 8) (a := 0) (b := 0) (c := 0) (q := 1391) (by decide +kernel)) (Nat.le_of_ble_eq_true rfl) (m_cpy_of sh_51 sh_247 c0) ?_
  obtain ⟨rfl, rfl⟩ := m_some h
  exact m_R_vret (by decide) (m_opb_of (ins := .return_) (len := 1) (tag := 3) (a := 0) (b := 0) (c := 0) (q := 0) (by decide +kernel))
def f_Trades_become_242_46 (F : Nat)    (m : mM) : Option (Unit × mM) := ((f_x_copyAll_47_243 F m).bind fun q1 => ((f_x_copyAll_48_244 F q1.2).bind fun q2 => ((f_x_copyAll_49_245 F q2.2).bind fun q3 => ((f_x_copyAll_50_246 F q3.2).bind fun q4 => ((f_x_copyAll_51_247 F q4.2).bind fun q5 => some ((), ((m_up q5.2.1 242 5 (q5.2.1 46 5)), q5.2.2)))))))
theorem ok_Trades_become_242_46 (X : mX) (d F : Nat) : ∀   (m : mM) (r : Unit) (m' : mM), f_Trades_become_242_46 F  m = some (r, m') → m_R X (d + 2) 179 0 [some (.ref 242), some (.ref 46)] [] (SH, m) (none, (SH, m')) := by
  intro m r m' h
  unfold f_Trades_become_242_46 at h
  refine m_R_sg (by decide) [(.aload_n 1, 1, 0, 1, 0, 0, 0), (.getfield 9, 3, 0, 9, 0, 3, 406), (.aload_n 0, 1, 0, 0, 0, 0, 0), (.getfield 9, 3, 0, 9, 0, 3, 406)] (by decide +kernel) (show m_sgl X _ _ _ _ _ = some (8, [some (.ref 242), some (.ref 46)], [.ref 243, .ref 47], (SH, m.1, m.2)) from rfl) ?_
  obtain ⟨q1, hc1, h⟩ := Option.bind_eq_some_iff.mp h
  refine m_R_cS (v := none) (h1 := (SH, q1.2)) (rest := []) (lo' := [some (.ref 47), some (.ref 243)]) (ml := 2) (by decide) (m_opb_of (ins := .invokestatic 27) (len := 3) (tag := 4) (a := 176) (b := 2) (c := 1) (q := 1406) (by decide +kernel)) (by decide +kernel) (Nat.le_of_ble_eq_true rfl) rfl (Nat.le_of_ble_eq_true rfl) rfl rfl (ok_x_copyAll_47_243 X (d + 0) F _ _ _ hc1) ?_
  refine m_R_sg (by decide) [(.aload_n 1, 1, 0, 1, 0, 0, 0), (.getfield 15, 3, 0, 9, 1, 3, 408), (.aload_n 0, 1, 0, 0, 0, 0, 0), (.getfield 15, 3, 0, 9, 1, 3, 408)] (by decide +kernel) (show m_sgl X _ _ _ _ _ = some (19, [some (.ref 242), some (.ref 46)], [.ref 244, .ref 48], (SH, q1.2.1, q1.2.2)) from rfl) ?_
  obtain ⟨q2, hc2, h⟩ := Option.bind_eq_some_iff.mp h
  refine m_R_cS (v := none) (h1 := (SH, q2.2)) (rest := []) (lo' := [some (.ref 48), some (.ref 244)]) (ml := 2) (by decide) (m_opb_of (ins := .invokestatic 27) (len := 3) (tag := 4) (a := 176) (b := 2) (c := 1) (q := 1406) (by decide +kernel)) (by decide +kernel) (Nat.le_of_ble_eq_true rfl) rfl (Nat.le_of_ble_eq_true rfl) rfl rfl (ok_x_copyAll_48_244 X (d + 0) F _ _ _ hc2) ?_
  refine m_R_sg (by decide) [(.aload_n 1, 1, 0, 1, 0, 0, 0), (.getfield 18, 3, 0, 9, 2, 3, 410), (.aload_n 0, 1, 0, 0, 0, 0, 0), (.getfield 18, 3, 0, 9, 2, 3, 410)] (by decide +kernel) (show m_sgl X _ _ _ _ _ = some (30, [some (.ref 242), some (.ref 46)], [.ref 245, .ref 49], (SH, q2.2.1, q2.2.2)) from rfl) ?_
  obtain ⟨q3, hc3, h⟩ := Option.bind_eq_some_iff.mp h
  refine m_R_cS (v := none) (h1 := (SH, q3.2)) (rest := []) (lo' := [some (.ref 49), some (.ref 245)]) (ml := 2) (by decide) (m_opb_of (ins := .invokestatic 27) (len := 3) (tag := 4) (a := 176) (b := 2) (c := 1) (q := 1406) (by decide +kernel)) (by decide +kernel) (Nat.le_of_ble_eq_true rfl) rfl (Nat.le_of_ble_eq_true rfl) rfl rfl (ok_x_copyAll_49_245 X (d + 0) F _ _ _ hc3) ?_
  refine m_R_sg (by decide) [(.aload_n 1, 1, 0, 1, 0, 0, 0), (.getfield 21, 3, 0, 9, 3, 3, 412), (.aload_n 0, 1, 0, 0, 0, 0, 0), (.getfield 21, 3, 0, 9, 3, 3, 412)] (by decide +kernel) (show m_sgl X _ _ _ _ _ = some (41, [some (.ref 242), some (.ref 46)], [.ref 246, .ref 50], (SH, q3.2.1, q3.2.2)) from rfl) ?_
  obtain ⟨q4, hc4, h⟩ := Option.bind_eq_some_iff.mp h
  refine m_R_cS (v := none) (h1 := (SH, q4.2)) (rest := []) (lo' := [some (.ref 50), some (.ref 246)]) (ml := 2) (by decide) (m_opb_of (ins := .invokestatic 27) (len := 3) (tag := 4) (a := 176) (b := 2) (c := 1) (q := 1406) (by decide +kernel)) (by decide +kernel) (Nat.le_of_ble_eq_true rfl) rfl (Nat.le_of_ble_eq_true rfl) rfl rfl (ok_x_copyAll_50_246 X (d + 0) F _ _ _ hc4) ?_
  refine m_R_sg (by decide) [(.aload_n 1, 1, 0, 1, 0, 0, 0), (.getfield 24, 3, 0, 9, 4, 3, 414), (.aload_n 0, 1, 0, 0, 0, 0, 0), (.getfield 24, 3, 0, 9, 4, 3, 414)] (by decide +kernel) (show m_sgl X _ _ _ _ _ = some (52, [some (.ref 242), some (.ref 46)], [.ref 247, .ref 51], (SH, q4.2.1, q4.2.2)) from rfl) ?_
  obtain ⟨q5, hc5, h⟩ := Option.bind_eq_some_iff.mp h
  refine m_R_cS (v := none) (h1 := (SH, q5.2)) (rest := []) (lo' := [some (.ref 51), some (.ref 247)]) (ml := 2) (by decide) (m_opb_of (ins := .invokestatic 27) (len := 3) (tag := 4) (a := 176) (b := 2) (c := 1) (q := 1406) (by decide +kernel)) (by decide +kernel) (Nat.le_of_ble_eq_true rfl) rfl (Nat.le_of_ble_eq_true rfl) rfl rfl (ok_x_copyAll_51_247 X (d + 0) F _ _ _ hc5) ?_
  refine m_R_sg (by decide) [(.aload_n 0, 1, 0, 0, 0, 0, 0), (.aload_n 1, 1, 0, 1, 0, 0, 0), (.getfield 31, 3, 0, 9, 5, 0, 417), (.putfield 31, 3, 0, 9, 5, 0, 417)] (by decide +kernel) (show m_sgl X _ _ _ _ _ = some (63, [some (.ref 242), some (.ref 46)], [], (SH, (m_up q5.2.1 242 5 (q5.2.1 46 5)), q5.2.2)) from rfl) ?_
  obtain ⟨rfl, rfl⟩ := m_some h
  exact m_R_vret (by decide) (m_opb_of (ins := .return_) (len := 1) (tag := 3) (a := 0) (b := 0) (c := 0) (q := 0) (by decide +kernel))
def f_x_copyAll_53_249 (F : Nat)    (m : mM) : Option (Unit × mM) := ((f_Math_min_II F (Int32.ofNat 104) (Int32.ofNat 104) m).bind fun q1 => (if (0 : Int32) < 0 ∨ (0 : Int32) < 0 ∨ q1.1 < 0 ∨ 104 < (0 : Int32).toNatClampNeg + q1.1.toNatClampNeg ∨ 104 < (0 : Int32).toNatClampNeg + q1.1.toNatClampNeg then none else some ((), ((m_row q1.2.1 249 (va_cpy (q1.2.1 53) (q1.2.1 249) (0 : Int32).toNatClampNeg (0 : Int32).toNatClampNeg q1.1.toNatClampNeg)), q1.2.2))))
theorem ok_x_copyAll_53_249 (X : mX) (d F : Nat) : ∀   (m : mM) (r : Unit) (m' : mM), f_x_copyAll_53_249 F  m = some (r, m') → m_R X (d + 1) 176 0 [some (.ref 53), some (.ref 249)] [] (SH, m) (none, (SH, m')) := by
  intro m r m' h
  unfold f_x_copyAll_53_249 at h
  refine m_R_sg (by decide) [(.aload_n 0, 1, 0, 0, 0, 0, 0), (.iconst 0, 1, 0, 0, 0, 0, 0), (.aload_n 1, 1, 0, 1, 0, 0, 0), (.iconst 0, 1, 0, 0, 0, 0, 0), (.aload_n 0, 1, 0, 0, 0, 0, 0), (.arraylength, 1, 0, 0, 0, 0, 0), (.aload_n 1, 1, 0, 1, 0, 0, 0), (.arraylength, 1, 0, 0, 0, 0, 0)] (by decide +kernel) (show m_sgl X _ _ _ _ _ = some (8, [some (.ref 53), some (.ref 249)], [.int (Int32.ofNat 104), .int (Int32.ofNat 104), .int (0 : Int32), .ref 249, .int (0 : Int32), .ref 53], (SH, m.1, m.2)) from rfl) ?_
  obtain ⟨q1, hc1, h⟩ := Option.bind_eq_some_iff.mp h
  refine m_R_cS (v := (some (.int q1.1))) (h1 := (SH, q1.2)) (rest := [.int (0 : Int32), .ref 249, .int (0 : Int32), .ref 53]) (lo' := [some (.int (Int32.ofNat 104)), some (.int (Int32.ofNat 104))]) (ml := 2) (by decide) (m_opb_of (ins := .invokestatic 219) (len := 3) (tag := 4) (a := 50) (b := 2) (c := 0) (q := 893) (by decide +kernel)) (by decide +kernel) (Nat.le_of_ble_eq_true rfl) rfl (Nat.le_of_ble_eq_true rfl) rfl rfl (ok_Math_min_II X (d + 0) F _ _ _ _ _ hc1) ?_
  obtain ⟨c0, h⟩ := m_ite_n h
  refine m_R_cpy (by decide) (m_opb_of (ins := .invokestatic 452) (len := 3) (tag := 8) (a := 0) (b := 0) (c := 0) (q := 1391) (by decide +kernel)) (Nat.le_of_ble_eq_true rfl) (m_cpy_of sh_53 sh_249 c0) ?_
  obtain ⟨rfl, rfl⟩ := m_some h
  exact m_R_vret (by decide) (m_opb_of (ins := .return_) (len := 1) (tag := 3) (a := 0) (b := 0) (c := 0) (q := 0) (by decide +kernel))
def f_Seasons_become_248_52 (F : Nat)    (m : mM) : Option (Unit × mM) := ((f_x_copyAll_53_249 F m).bind fun q1 => some ((), q1.2))
theorem ok_Seasons_become_248_52 (X : mX) (d F : Nat) : ∀   (m : mM) (r : Unit) (m' : mM), f_Seasons_become_248_52 F  m = some (r, m') → m_R X (d + 2) 180 0 [some (.ref 248), some (.ref 52)] [] (SH, m) (none, (SH, m')) := by
  intro m r m' h
  unfold f_Seasons_become_248_52 at h
  refine m_R_sg (by decide) [(.aload_n 1, 1, 0, 1, 0, 0, 0), (.getfield 9, 3, 0, 7, 0, 3, 439), (.aload_n 0, 1, 0, 0, 0, 0, 0), (.getfield 9, 3, 0, 7, 0, 3, 439)] (by decide +kernel) (show m_sgl X _ _ _ _ _ = some (8, [some (.ref 248), some (.ref 52)], [.ref 249, .ref 53], (SH, m.1, m.2)) from rfl) ?_
  obtain ⟨q1, hc1, h⟩ := Option.bind_eq_some_iff.mp h
  refine m_R_cS (v := none) (h1 := (SH, q1.2)) (rest := []) (lo' := [some (.ref 53), some (.ref 249)]) (ml := 2) (by decide) (m_opb_of (ins := .invokestatic 15) (len := 3) (tag := 4) (a := 176) (b := 2) (c := 1) (q := 1411) (by decide +kernel)) (by decide +kernel) (Nat.le_of_ble_eq_true rfl) rfl (Nat.le_of_ble_eq_true rfl) rfl rfl (ok_x_copyAll_53_249 X (d + 0) F _ _ _ hc1) ?_
  obtain ⟨rfl, rfl⟩ := m_some h
  exact m_R_vret (by decide) (m_opb_of (ins := .return_) (len := 1) (tag := 3) (a := 0) (b := 0) (c := 0) (q := 0) (by decide +kernel))
def f_x_copyAll_56_252 (F : Nat)    (m : mM) : Option (Unit × mM) := ((f_Math_min_II F (Int32.ofNat 300) (Int32.ofNat 300) m).bind fun q1 => (if (0 : Int32) < 0 ∨ (0 : Int32) < 0 ∨ q1.1 < 0 ∨ 300 < (0 : Int32).toNatClampNeg + q1.1.toNatClampNeg ∨ 300 < (0 : Int32).toNatClampNeg + q1.1.toNatClampNeg then none else some ((), ((m_row q1.2.1 252 (va_cpy (q1.2.1 56) (q1.2.1 252) (0 : Int32).toNatClampNeg (0 : Int32).toNatClampNeg q1.1.toNatClampNeg)), q1.2.2))))
theorem ok_x_copyAll_56_252 (X : mX) (d F : Nat) : ∀   (m : mM) (r : Unit) (m' : mM), f_x_copyAll_56_252 F  m = some (r, m') → m_R X (d + 1) 176 0 [some (.ref 56), some (.ref 252)] [] (SH, m) (none, (SH, m')) := by
  intro m r m' h
  unfold f_x_copyAll_56_252 at h
  refine m_R_sg (by decide) [(.aload_n 0, 1, 0, 0, 0, 0, 0), (.iconst 0, 1, 0, 0, 0, 0, 0), (.aload_n 1, 1, 0, 1, 0, 0, 0), (.iconst 0, 1, 0, 0, 0, 0, 0), (.aload_n 0, 1, 0, 0, 0, 0, 0), (.arraylength, 1, 0, 0, 0, 0, 0), (.aload_n 1, 1, 0, 1, 0, 0, 0), (.arraylength, 1, 0, 0, 0, 0, 0)] (by decide +kernel) (show m_sgl X _ _ _ _ _ = some (8, [some (.ref 56), some (.ref 252)], [.int (Int32.ofNat 300), .int (Int32.ofNat 300), .int (0 : Int32), .ref 252, .int (0 : Int32), .ref 56], (SH, m.1, m.2)) from rfl) ?_
  obtain ⟨q1, hc1, h⟩ := Option.bind_eq_some_iff.mp h
  refine m_R_cS (v := (some (.int q1.1))) (h1 := (SH, q1.2)) (rest := [.int (0 : Int32), .ref 252, .int (0 : Int32), .ref 56]) (lo' := [some (.int (Int32.ofNat 300)), some (.int (Int32.ofNat 300))]) (ml := 2) (by decide) (m_opb_of (ins := .invokestatic 219) (len := 3) (tag := 4) (a := 50) (b := 2) (c := 0) (q := 893) (by decide +kernel)) (by decide +kernel) (Nat.le_of_ble_eq_true rfl) rfl (Nat.le_of_ble_eq_true rfl) rfl rfl (ok_Math_min_II X (d + 0) F _ _ _ _ _ hc1) ?_
  obtain ⟨c0, h⟩ := m_ite_n h
  refine m_R_cpy (by decide) (m_opb_of (ins := .invokestatic 452) (len := 3) (tag := 8) (a := 0) (b := 0) (c := 0) (q := 1391) (by decide +kernel)) (Nat.le_of_ble_eq_true rfl) (m_cpy_of sh_56 sh_252 c0) ?_
  obtain ⟨rfl, rfl⟩ := m_some h
  exact m_R_vret (by decide) (m_opb_of (ins := .return_) (len := 1) (tag := 3) (a := 0) (b := 0) (c := 0) (q := 0) (by decide +kernel))
def f_x_copyAll_57_253 (F : Nat)    (m : mM) : Option (Unit × mM) := ((f_Math_min_II F (Int32.ofNat 300) (Int32.ofNat 300) m).bind fun q1 => (if (0 : Int32) < 0 ∨ (0 : Int32) < 0 ∨ q1.1 < 0 ∨ 300 < (0 : Int32).toNatClampNeg + q1.1.toNatClampNeg ∨ 300 < (0 : Int32).toNatClampNeg + q1.1.toNatClampNeg then none else some ((), ((m_row q1.2.1 253 (va_cpy (q1.2.1 57) (q1.2.1 253) (0 : Int32).toNatClampNeg (0 : Int32).toNatClampNeg q1.1.toNatClampNeg)), q1.2.2))))
theorem ok_x_copyAll_57_253 (X : mX) (d F : Nat) : ∀   (m : mM) (r : Unit) (m' : mM), f_x_copyAll_57_253 F  m = some (r, m') → m_R X (d + 1) 176 0 [some (.ref 57), some (.ref 253)] [] (SH, m) (none, (SH, m')) := by
  intro m r m' h
  unfold f_x_copyAll_57_253 at h
  refine m_R_sg (by decide) [(.aload_n 0, 1, 0, 0, 0, 0, 0), (.iconst 0, 1, 0, 0, 0, 0, 0), (.aload_n 1, 1, 0, 1, 0, 0, 0), (.iconst 0, 1, 0, 0, 0, 0, 0), (.aload_n 0, 1, 0, 0, 0, 0, 0), (.arraylength, 1, 0, 0, 0, 0, 0), (.aload_n 1, 1, 0, 1, 0, 0, 0), (.arraylength, 1, 0, 0, 0, 0, 0)] (by decide +kernel) (show m_sgl X _ _ _ _ _ = some (8, [some (.ref 57), some (.ref 253)], [.int (Int32.ofNat 300), .int (Int32.ofNat 300), .int (0 : Int32), .ref 253, .int (0 : Int32), .ref 57], (SH, m.1, m.2)) from rfl) ?_
  obtain ⟨q1, hc1, h⟩ := Option.bind_eq_some_iff.mp h
  refine m_R_cS (v := (some (.int q1.1))) (h1 := (SH, q1.2)) (rest := [.int (0 : Int32), .ref 253, .int (0 : Int32), .ref 57]) (lo' := [some (.int (Int32.ofNat 300)), some (.int (Int32.ofNat 300))]) (ml := 2) (by decide) (m_opb_of (ins := .invokestatic 219) (len := 3) (tag := 4) (a := 50) (b := 2) (c := 0) (q := 893) (by decide +kernel)) (by decide +kernel) (Nat.le_of_ble_eq_true rfl) rfl (Nat.le_of_ble_eq_true rfl) rfl rfl (ok_Math_min_II X (d + 0) F _ _ _ _ _ hc1) ?_
  obtain ⟨c0, h⟩ := m_ite_n h
  refine m_R_cpy (by decide) (m_opb_of (ins := .invokestatic 452) (len := 3) (tag := 8) (a := 0) (b := 0) (c := 0) (q := 1391) (by decide +kernel)) (Nat.le_of_ble_eq_true rfl) (m_cpy_of sh_57 sh_253 c0) ?_
  obtain ⟨rfl, rfl⟩ := m_some h
  exact m_R_vret (by decide) (m_opb_of (ins := .return_) (len := 1) (tag := 3) (a := 0) (b := 0) (c := 0) (q := 0) (by decide +kernel))
def f_x_copyAll_58_254 (F : Nat)    (m : mM) : Option (Unit × mM) := ((f_Math_min_II F (Int32.ofNat 400) (Int32.ofNat 400) m).bind fun q1 => (if (0 : Int32) < 0 ∨ (0 : Int32) < 0 ∨ q1.1 < 0 ∨ 400 < (0 : Int32).toNatClampNeg + q1.1.toNatClampNeg ∨ 400 < (0 : Int32).toNatClampNeg + q1.1.toNatClampNeg then none else some ((), ((m_row q1.2.1 254 (va_cpy (q1.2.1 58) (q1.2.1 254) (0 : Int32).toNatClampNeg (0 : Int32).toNatClampNeg q1.1.toNatClampNeg)), q1.2.2))))
theorem ok_x_copyAll_58_254 (X : mX) (d F : Nat) : ∀   (m : mM) (r : Unit) (m' : mM), f_x_copyAll_58_254 F  m = some (r, m') → m_R X (d + 1) 176 0 [some (.ref 58), some (.ref 254)] [] (SH, m) (none, (SH, m')) := by
  intro m r m' h
  unfold f_x_copyAll_58_254 at h
  refine m_R_sg (by decide) [(.aload_n 0, 1, 0, 0, 0, 0, 0), (.iconst 0, 1, 0, 0, 0, 0, 0), (.aload_n 1, 1, 0, 1, 0, 0, 0), (.iconst 0, 1, 0, 0, 0, 0, 0), (.aload_n 0, 1, 0, 0, 0, 0, 0), (.arraylength, 1, 0, 0, 0, 0, 0), (.aload_n 1, 1, 0, 1, 0, 0, 0), (.arraylength, 1, 0, 0, 0, 0, 0)] (by decide +kernel) (show m_sgl X _ _ _ _ _ = some (8, [some (.ref 58), some (.ref 254)], [.int (Int32.ofNat 400), .int (Int32.ofNat 400), .int (0 : Int32), .ref 254, .int (0 : Int32), .ref 58], (SH, m.1, m.2)) from rfl) ?_
  obtain ⟨q1, hc1, h⟩ := Option.bind_eq_some_iff.mp h
  refine m_R_cS (v := (some (.int q1.1))) (h1 := (SH, q1.2)) (rest := [.int (0 : Int32), .ref 254, .int (0 : Int32), .ref 58]) (lo' := [some (.int (Int32.ofNat 400)), some (.int (Int32.ofNat 400))]) (ml := 2) (by decide) (m_opb_of (ins := .invokestatic 219) (len := 3) (tag := 4) (a := 50) (b := 2) (c := 0) (q := 893) (by decide +kernel)) (by decide +kernel) (Nat.le_of_ble_eq_true rfl) rfl (Nat.le_of_ble_eq_true rfl) rfl rfl (ok_Math_min_II X (d + 0) F _ _ _ _ _ hc1) ?_
  obtain ⟨c0, h⟩ := m_ite_n h
  refine m_R_cpy (by decide) (m_opb_of (ins := .invokestatic 452) (len := 3) (tag := 8) (a := 0) (b := 0) (c := 0) (q := 1391) (by decide +kernel)) (Nat.le_of_ble_eq_true rfl) (m_cpy_of sh_58 sh_254 c0) ?_
  obtain ⟨rfl, rfl⟩ := m_some h
  exact m_R_vret (by decide) (m_opb_of (ins := .return_) (len := 1) (tag := 3) (a := 0) (b := 0) (c := 0) (q := 0) (by decide +kernel))
def f_x_copyAll_59_255 (F : Nat)    (m : mM) : Option (Unit × mM) := ((f_Math_min_II F (Int32.ofNat 400) (Int32.ofNat 400) m).bind fun q1 => (if (0 : Int32) < 0 ∨ (0 : Int32) < 0 ∨ q1.1 < 0 ∨ 400 < (0 : Int32).toNatClampNeg + q1.1.toNatClampNeg ∨ 400 < (0 : Int32).toNatClampNeg + q1.1.toNatClampNeg then none else some ((), ((m_row q1.2.1 255 (va_cpy (q1.2.1 59) (q1.2.1 255) (0 : Int32).toNatClampNeg (0 : Int32).toNatClampNeg q1.1.toNatClampNeg)), q1.2.2))))
theorem ok_x_copyAll_59_255 (X : mX) (d F : Nat) : ∀   (m : mM) (r : Unit) (m' : mM), f_x_copyAll_59_255 F  m = some (r, m') → m_R X (d + 1) 176 0 [some (.ref 59), some (.ref 255)] [] (SH, m) (none, (SH, m')) := by
  intro m r m' h
  unfold f_x_copyAll_59_255 at h
  refine m_R_sg (by decide) [(.aload_n 0, 1, 0, 0, 0, 0, 0), (.iconst 0, 1, 0, 0, 0, 0, 0), (.aload_n 1, 1, 0, 1, 0, 0, 0), (.iconst 0, 1, 0, 0, 0, 0, 0), (.aload_n 0, 1, 0, 0, 0, 0, 0), (.arraylength, 1, 0, 0, 0, 0, 0), (.aload_n 1, 1, 0, 1, 0, 0, 0), (.arraylength, 1, 0, 0, 0, 0, 0)] (by decide +kernel) (show m_sgl X _ _ _ _ _ = some (8, [some (.ref 59), some (.ref 255)], [.int (Int32.ofNat 400), .int (Int32.ofNat 400), .int (0 : Int32), .ref 255, .int (0 : Int32), .ref 59], (SH, m.1, m.2)) from rfl) ?_
  obtain ⟨q1, hc1, h⟩ := Option.bind_eq_some_iff.mp h
  refine m_R_cS (v := (some (.int q1.1))) (h1 := (SH, q1.2)) (rest := [.int (0 : Int32), .ref 255, .int (0 : Int32), .ref 59]) (lo' := [some (.int (Int32.ofNat 400)), some (.int (Int32.ofNat 400))]) (ml := 2) (by decide) (m_opb_of (ins := .invokestatic 219) (len := 3) (tag := 4) (a := 50) (b := 2) (c := 0) (q := 893) (by decide +kernel)) (by decide +kernel) (Nat.le_of_ble_eq_true rfl) rfl (Nat.le_of_ble_eq_true rfl) rfl rfl (ok_Math_min_II X (d + 0) F _ _ _ _ _ hc1) ?_
  obtain ⟨c0, h⟩ := m_ite_n h
  refine m_R_cpy (by decide) (m_opb_of (ins := .invokestatic 452) (len := 3) (tag := 8) (a := 0) (b := 0) (c := 0) (q := 1391) (by decide +kernel)) (Nat.le_of_ble_eq_true rfl) (m_cpy_of sh_59 sh_255 c0) ?_
  obtain ⟨rfl, rfl⟩ := m_some h
  exact m_R_vret (by decide) (m_opb_of (ins := .return_) (len := 1) (tag := 3) (a := 0) (b := 0) (c := 0) (q := 0) (by decide +kernel))
def f_x_copyAll_60_256 (F : Nat)    (m : mM) : Option (Unit × mM) := ((f_Math_min_II F (Int32.ofNat 400) (Int32.ofNat 400) m).bind fun q1 => (if (0 : Int32) < 0 ∨ (0 : Int32) < 0 ∨ q1.1 < 0 ∨ 400 < (0 : Int32).toNatClampNeg + q1.1.toNatClampNeg ∨ 400 < (0 : Int32).toNatClampNeg + q1.1.toNatClampNeg then none else some ((), ((m_row q1.2.1 256 (va_cpy (q1.2.1 60) (q1.2.1 256) (0 : Int32).toNatClampNeg (0 : Int32).toNatClampNeg q1.1.toNatClampNeg)), q1.2.2))))
theorem ok_x_copyAll_60_256 (X : mX) (d F : Nat) : ∀   (m : mM) (r : Unit) (m' : mM), f_x_copyAll_60_256 F  m = some (r, m') → m_R X (d + 1) 176 0 [some (.ref 60), some (.ref 256)] [] (SH, m) (none, (SH, m')) := by
  intro m r m' h
  unfold f_x_copyAll_60_256 at h
  refine m_R_sg (by decide) [(.aload_n 0, 1, 0, 0, 0, 0, 0), (.iconst 0, 1, 0, 0, 0, 0, 0), (.aload_n 1, 1, 0, 1, 0, 0, 0), (.iconst 0, 1, 0, 0, 0, 0, 0), (.aload_n 0, 1, 0, 0, 0, 0, 0), (.arraylength, 1, 0, 0, 0, 0, 0), (.aload_n 1, 1, 0, 1, 0, 0, 0), (.arraylength, 1, 0, 0, 0, 0, 0)] (by decide +kernel) (show m_sgl X _ _ _ _ _ = some (8, [some (.ref 60), some (.ref 256)], [.int (Int32.ofNat 400), .int (Int32.ofNat 400), .int (0 : Int32), .ref 256, .int (0 : Int32), .ref 60], (SH, m.1, m.2)) from rfl) ?_
  obtain ⟨q1, hc1, h⟩ := Option.bind_eq_some_iff.mp h
  refine m_R_cS (v := (some (.int q1.1))) (h1 := (SH, q1.2)) (rest := [.int (0 : Int32), .ref 256, .int (0 : Int32), .ref 60]) (lo' := [some (.int (Int32.ofNat 400)), some (.int (Int32.ofNat 400))]) (ml := 2) (by decide) (m_opb_of (ins := .invokestatic 219) (len := 3) (tag := 4) (a := 50) (b := 2) (c := 0) (q := 893) (by decide +kernel)) (by decide +kernel) (Nat.le_of_ble_eq_true rfl) rfl (Nat.le_of_ble_eq_true rfl) rfl rfl (ok_Math_min_II X (d + 0) F _ _ _ _ _ hc1) ?_
  obtain ⟨c0, h⟩ := m_ite_n h
  refine m_R_cpy (by decide) (m_opb_of (ins := .invokestatic 452) (len := 3) (tag := 8) (a := 0) (b := 0) (c := 0) (q := 1391) (by decide +kernel)) (Nat.le_of_ble_eq_true rfl) (m_cpy_of sh_60 sh_256 c0) ?_
  obtain ⟨rfl, rfl⟩ := m_some h
  exact m_R_vret (by decide) (m_opb_of (ins := .return_) (len := 1) (tag := 3) (a := 0) (b := 0) (c := 0) (q := 0) (by decide +kernel))
def f_x_copyAll_61_257 (F : Nat)    (m : mM) : Option (Unit × mM) := ((f_Math_min_II F (Int32.ofNat 16) (Int32.ofNat 16) m).bind fun q1 => (if (0 : Int32) < 0 ∨ (0 : Int32) < 0 ∨ q1.1 < 0 ∨ 16 < (0 : Int32).toNatClampNeg + q1.1.toNatClampNeg ∨ 16 < (0 : Int32).toNatClampNeg + q1.1.toNatClampNeg then none else some ((), ((m_row q1.2.1 257 (va_cpy (q1.2.1 61) (q1.2.1 257) (0 : Int32).toNatClampNeg (0 : Int32).toNatClampNeg q1.1.toNatClampNeg)), q1.2.2))))
theorem ok_x_copyAll_61_257 (X : mX) (d F : Nat) : ∀   (m : mM) (r : Unit) (m' : mM), f_x_copyAll_61_257 F  m = some (r, m') → m_R X (d + 1) 176 0 [some (.ref 61), some (.ref 257)] [] (SH, m) (none, (SH, m')) := by
  intro m r m' h
  unfold f_x_copyAll_61_257 at h
  refine m_R_sg (by decide) [(.aload_n 0, 1, 0, 0, 0, 0, 0), (.iconst 0, 1, 0, 0, 0, 0, 0), (.aload_n 1, 1, 0, 1, 0, 0, 0), (.iconst 0, 1, 0, 0, 0, 0, 0), (.aload_n 0, 1, 0, 0, 0, 0, 0), (.arraylength, 1, 0, 0, 0, 0, 0), (.aload_n 1, 1, 0, 1, 0, 0, 0), (.arraylength, 1, 0, 0, 0, 0, 0)] (by decide +kernel) (show m_sgl X _ _ _ _ _ = some (8, [some (.ref 61), some (.ref 257)], [.int (Int32.ofNat 16), .int (Int32.ofNat 16), .int (0 : Int32), .ref 257, .int (0 : Int32), .ref 61], (SH, m.1, m.2)) from rfl) ?_
  obtain ⟨q1, hc1, h⟩ := Option.bind_eq_some_iff.mp h
  refine m_R_cS (v := (some (.int q1.1))) (h1 := (SH, q1.2)) (rest := [.int (0 : Int32), .ref 257, .int (0 : Int32), .ref 61]) (lo' := [some (.int (Int32.ofNat 16)), some (.int (Int32.ofNat 16))]) (ml := 2) (by decide) (m_opb_of (ins := .invokestatic 219) (len := 3) (tag := 4) (a := 50) (b := 2) (c := 0) (q := 893) (by decide +kernel)) (by decide +kernel) (Nat.le_of_ble_eq_true rfl) rfl (Nat.le_of_ble_eq_true rfl) rfl rfl (ok_Math_min_II X (d + 0) F _ _ _ _ _ hc1) ?_
  obtain ⟨c0, h⟩ := m_ite_n h
  refine m_R_cpy (by decide) (m_opb_of (ins := .invokestatic 452) (len := 3) (tag := 8) (a := 0) (b := 0) (c := 0) (q := 1391) (by decide +kernel)) (Nat.le_of_ble_eq_true rfl) (m_cpy_of sh_61 sh_257 c0) ?_
  obtain ⟨rfl, rfl⟩ := m_some h
  exact m_R_vret (by decide) (m_opb_of (ins := .return_) (len := 1) (tag := 3) (a := 0) (b := 0) (c := 0) (q := 0) (by decide +kernel))
def f_Notes_become_251_55_90 (F : Nat)    (m : mM) : Option (Unit × mM) := some ((), ((m_up (m_up (m_up m.1 251 10 (m.1 55 10)) 251 11 ((m_up m.1 251 10 (m.1 55 10)) 55 11)) 251 12 ((m_up (m_up m.1 251 10 (m.1 55 10)) 251 11 ((m_up m.1 251 10 (m.1 55 10)) 55 11)) 55 12)), m.2))
theorem ok_Notes_become_251_55_90 (X : mX) (d F : Nat) : ∀   (m : mM) (r : Unit) (m' : mM), f_Notes_become_251_55_90 F  m = some (r, m') → m_R X (d + 2) 181 90 [some (.ref 251), some (.ref 55)] [] (SH, m) (none, (SH, m')) := by
  intro m r m' h
  unfold f_Notes_become_251_55_90 at h
  refine m_R_sg (by decide) [(.aload_n 0, 1, 0, 0, 0, 0, 0), (.aload_n 1, 1, 0, 1, 0, 0, 0), (.getfield 48, 3, 0, 3, 10, 0, 470), (.putfield 48, 3, 0, 3, 10, 0, 470), (.aload_n 0, 1, 0, 0, 0, 0, 0), (.aload_n 1, 1, 0, 1, 0, 0, 0), (.getfield 51, 3, 0, 3, 11, 0, 472), (.putfield 51, 3, 0, 3, 11, 0, 472), (.aload_n 0, 1, 0, 0, 0, 0, 0), (.aload_n 1, 1, 0, 1, 0, 0, 0), (.getfield 54, 3, 0, 3, 12, 0, 474), (.putfield 54, 3, 0, 3, 12, 0, 474)] (by decide +kernel) (show m_sgl X _ _ _ _ _ = some (114, [some (.ref 251), some (.ref 55)], [], (SH, (m_up (m_up (m_up m.1 251 10 (m.1 55 10)) 251 11 ((m_up m.1 251 10 (m.1 55 10)) 55 11)) 251 12 ((m_up (m_up m.1 251 10 (m.1 55 10)) 251 11 ((m_up m.1 251 10 (m.1 55 10)) 55 11)) 55 12)), m.2)) from rfl) ?_
  obtain ⟨rfl, rfl⟩ := m_some h
  exact m_R_vret (by decide) (m_opb_of (ins := .return_) (len := 1) (tag := 3) (a := 0) (b := 0) (c := 0) (q := 0) (by decide +kernel))
def f_Notes_become_251_55 (F : Nat)    (m : mM) : Option (Unit × mM) := ((f_x_copyAll_56_252 F m).bind fun q1 => ((f_x_copyAll_57_253 F q1.2).bind fun q2 => ((f_x_copyAll_58_254 F q2.2).bind fun q3 => ((f_x_copyAll_59_255 F q3.2).bind fun q4 => ((f_x_copyAll_60_256 F q4.2).bind fun q5 => ((f_x_copyAll_61_257 F q5.2).bind fun q6 => f_Notes_become_251_55_90 F ((m_up (m_up (m_up q6.2.1 251 7 (q6.2.1 55 7)) 251 8 ((m_up q6.2.1 251 7 (q6.2.1 55 7)) 55 8)) 251 9 ((m_up (m_up q6.2.1 251 7 (q6.2.1 55 7)) 251 8 ((m_up q6.2.1 251 7 (q6.2.1 55 7)) 55 8)) 55 9)), q6.2.2)))))))
theorem ok_Notes_become_251_55 (X : mX) (d F : Nat) : ∀   (m : mM) (r : Unit) (m' : mM), f_Notes_become_251_55 F  m = some (r, m') → m_R X (d + 2) 181 0 [some (.ref 251), some (.ref 55)] [] (SH, m) (none, (SH, m')) := by
  intro m r m' h
  unfold f_Notes_become_251_55 at h
  refine m_R_sg (by decide) [(.aload_n 1, 1, 0, 1, 0, 0, 0), (.getfield 9, 3, 0, 3, 1, 3, 450), (.aload_n 0, 1, 0, 0, 0, 0, 0), (.getfield 9, 3, 0, 3, 1, 3, 450)] (by decide +kernel) (show m_sgl X _ _ _ _ _ = some (8, [some (.ref 251), some (.ref 55)], [.ref 252, .ref 56], (SH, m.1, m.2)) from rfl) ?_
  obtain ⟨q1, hc1, h⟩ := Option.bind_eq_some_iff.mp h
  refine m_R_cS (v := none) (h1 := (SH, q1.2)) (rest := []) (lo' := [some (.ref 56), some (.ref 252)]) (ml := 2) (by decide) (m_opb_of (ins := .invokestatic 34) (len := 3) (tag := 4) (a := 176) (b := 2) (c := 1) (q := 1416) (by decide +kernel)) (by decide +kernel) (Nat.le_of_ble_eq_true rfl) rfl (Nat.le_of_ble_eq_true rfl) rfl rfl (ok_x_copyAll_56_252 X (d + 0) F _ _ _ hc1) ?_
  refine m_R_sg (by decide) [(.aload_n 1, 1, 0, 1, 0, 0, 0), (.getfield 15, 3, 0, 3, 2, 3, 452), (.aload_n 0, 1, 0, 0, 0, 0, 0), (.getfield 15, 3, 0, 3, 2, 3, 452)] (by decide +kernel) (show m_sgl X _ _ _ _ _ = some (19, [some (.ref 251), some (.ref 55)], [.ref 253, .ref 57], (SH, q1.2.1, q1.2.2)) from rfl) ?_
  obtain ⟨q2, hc2, h⟩ := Option.bind_eq_some_iff.mp h
  refine m_R_cS (v := none) (h1 := (SH, q2.2)) (rest := []) (lo' := [some (.ref 57), some (.ref 253)]) (ml := 2) (by decide) (m_opb_of (ins := .invokestatic 34) (len := 3) (tag := 4) (a := 176) (b := 2) (c := 1) (q := 1416) (by decide +kernel)) (by decide +kernel) (Nat.le_of_ble_eq_true rfl) rfl (Nat.le_of_ble_eq_true rfl) rfl rfl (ok_x_copyAll_57_253 X (d + 0) F _ _ _ hc2) ?_
  refine m_R_sg (by decide) [(.aload_n 1, 1, 0, 1, 0, 0, 0), (.getfield 18, 3, 0, 3, 3, 3, 453), (.aload_n 0, 1, 0, 0, 0, 0, 0), (.getfield 18, 3, 0, 3, 3, 3, 453)] (by decide +kernel) (show m_sgl X _ _ _ _ _ = some (30, [some (.ref 251), some (.ref 55)], [.ref 254, .ref 58], (SH, q2.2.1, q2.2.2)) from rfl) ?_
  obtain ⟨q3, hc3, h⟩ := Option.bind_eq_some_iff.mp h
  refine m_R_cS (v := none) (h1 := (SH, q3.2)) (rest := []) (lo' := [some (.ref 58), some (.ref 254)]) (ml := 2) (by decide) (m_opb_of (ins := .invokestatic 34) (len := 3) (tag := 4) (a := 176) (b := 2) (c := 1) (q := 1416) (by decide +kernel)) (by decide +kernel) (Nat.le_of_ble_eq_true rfl) rfl (Nat.le_of_ble_eq_true rfl) rfl rfl (ok_x_copyAll_58_254 X (d + 0) F _ _ _ hc3) ?_
  refine m_R_sg (by decide) [(.aload_n 1, 1, 0, 1, 0, 0, 0), (.getfield 21, 3, 0, 3, 4, 3, 456), (.aload_n 0, 1, 0, 0, 0, 0, 0), (.getfield 21, 3, 0, 3, 4, 3, 456)] (by decide +kernel) (show m_sgl X _ _ _ _ _ = some (41, [some (.ref 251), some (.ref 55)], [.ref 255, .ref 59], (SH, q3.2.1, q3.2.2)) from rfl) ?_
  obtain ⟨q4, hc4, h⟩ := Option.bind_eq_some_iff.mp h
  refine m_R_cS (v := none) (h1 := (SH, q4.2)) (rest := []) (lo' := [some (.ref 59), some (.ref 255)]) (ml := 2) (by decide) (m_opb_of (ins := .invokestatic 34) (len := 3) (tag := 4) (a := 176) (b := 2) (c := 1) (q := 1416) (by decide +kernel)) (by decide +kernel) (Nat.le_of_ble_eq_true rfl) rfl (Nat.le_of_ble_eq_true rfl) rfl rfl (ok_x_copyAll_59_255 X (d + 0) F _ _ _ hc4) ?_
  refine m_R_sg (by decide) [(.aload_n 1, 1, 0, 1, 0, 0, 0), (.getfield 24, 3, 0, 3, 5, 3, 458), (.aload_n 0, 1, 0, 0, 0, 0, 0), (.getfield 24, 3, 0, 3, 5, 3, 458)] (by decide +kernel) (show m_sgl X _ _ _ _ _ = some (52, [some (.ref 251), some (.ref 55)], [.ref 256, .ref 60], (SH, q4.2.1, q4.2.2)) from rfl) ?_
  obtain ⟨q5, hc5, h⟩ := Option.bind_eq_some_iff.mp h
  refine m_R_cS (v := none) (h1 := (SH, q5.2)) (rest := []) (lo' := [some (.ref 60), some (.ref 256)]) (ml := 2) (by decide) (m_opb_of (ins := .invokestatic 34) (len := 3) (tag := 4) (a := 176) (b := 2) (c := 1) (q := 1416) (by decide +kernel)) (by decide +kernel) (Nat.le_of_ble_eq_true rfl) rfl (Nat.le_of_ble_eq_true rfl) rfl rfl (ok_x_copyAll_60_256 X (d + 0) F _ _ _ hc5) ?_
  refine m_R_sg (by decide) [(.aload_n 1, 1, 0, 1, 0, 0, 0), (.getfield 27, 3, 0, 3, 6, 3, 460), (.aload_n 0, 1, 0, 0, 0, 0, 0), (.getfield 27, 3, 0, 3, 6, 3, 460)] (by decide +kernel) (show m_sgl X _ _ _ _ _ = some (63, [some (.ref 251), some (.ref 55)], [.ref 257, .ref 61], (SH, q5.2.1, q5.2.2)) from rfl) ?_
  obtain ⟨q6, hc6, h⟩ := Option.bind_eq_some_iff.mp h
  refine m_R_cS (v := none) (h1 := (SH, q6.2)) (rest := []) (lo' := [some (.ref 61), some (.ref 257)]) (ml := 2) (by decide) (m_opb_of (ins := .invokestatic 34) (len := 3) (tag := 4) (a := 176) (b := 2) (c := 1) (q := 1416) (by decide +kernel)) (by decide +kernel) (Nat.le_of_ble_eq_true rfl) rfl (Nat.le_of_ble_eq_true rfl) rfl rfl (ok_x_copyAll_61_257 X (d + 0) F _ _ _ hc6) ?_
  refine m_R_sg (by decide) [(.aload_n 0, 1, 0, 0, 0, 0, 0), (.aload_n 1, 1, 0, 1, 0, 0, 0), (.getfield 38, 3, 0, 3, 7, 0, 463), (.putfield 38, 3, 0, 3, 7, 0, 463), (.aload_n 0, 1, 0, 0, 0, 0, 0), (.aload_n 1, 1, 0, 1, 0, 0, 0), (.getfield 42, 3, 0, 3, 8, 0, 466), (.putfield 42, 3, 0, 3, 8, 0, 466), (.aload_n 0, 1, 0, 0, 0, 0, 0), (.aload_n 1, 1, 0, 1, 0, 0, 0), (.getfield 45, 3, 0, 3, 9, 0, 467), (.putfield 45, 3, 0, 3, 9, 0, 467)] (by decide +kernel) (show m_sgl X _ _ _ _ _ = some (90, [some (.ref 251), some (.ref 55)], [], (SH, (m_up (m_up (m_up q6.2.1 251 7 (q6.2.1 55 7)) 251 8 ((m_up q6.2.1 251 7 (q6.2.1 55 7)) 55 8)) 251 9 ((m_up (m_up q6.2.1 251 7 (q6.2.1 55 7)) 251 8 ((m_up q6.2.1 251 7 (q6.2.1 55 7)) 55 8)) 55 9)), q6.2.2)) from rfl) ?_
  exact ok_Notes_become_251_55_90 X d F _ _ _ h
def f_World_become_212_16_90 (F : Nat)    (m : mM) : Option (Unit × mM) := some ((), ((m_up (m_up (m_up m.1 212 12 (m.1 16 12)) 212 13 ((m_up m.1 212 12 (m.1 16 12)) 16 13)) 212 14 ((m_up (m_up m.1 212 12 (m.1 16 12)) 212 13 ((m_up m.1 212 12 (m.1 16 12)) 16 13)) 16 14)), m.2))
theorem ok_World_become_212_16_90 (X : mX) (d F : Nat) : ∀   (m : mM) (r : Unit) (m' : mM), f_World_become_212_16_90 F  m = some (r, m') → m_R X (d + 3) 174 90 [some (.ref 212), some (.ref 16)] [] (SH, m) (none, (SH, m')) := by
  intro m r m' h
  unfold f_World_become_212_16_90 at h
  refine m_R_sg (by decide) [(.aload_n 0, 1, 0, 0, 0, 0, 0), (.aload_n 1, 1, 0, 1, 0, 0, 0), (.getfield 101, 3, 0, 10, 12, 0, 526), (.putfield 101, 3, 0, 10, 12, 0, 526), (.aload_n 0, 1, 0, 0, 0, 0, 0), (.aload_n 1, 1, 0, 1, 0, 0, 0), (.getfield 56, 3, 0, 10, 13, 0, 528), (.putfield 56, 3, 0, 10, 13, 0, 528), (.aload_n 0, 1, 0, 0, 0, 0, 0), (.aload_n 1, 1, 0, 1, 0, 0, 0), (.getfield 104, 3, 0, 10, 14, 0, 530), (.putfield 104, 3, 0, 10, 14, 0, 530)] (by decide +kernel) (show m_sgl X _ _ _ _ _ = some (114, [some (.ref 212), some (.ref 16)], [], (SH, (m_up (m_up (m_up m.1 212 12 (m.1 16 12)) 212 13 ((m_up m.1 212 12 (m.1 16 12)) 16 13)) 212 14 ((m_up (m_up m.1 212 12 (m.1 16 12)) 212 13 ((m_up m.1 212 12 (m.1 16 12)) 16 13)) 16 14)), m.2)) from rfl) ?_
  obtain ⟨rfl, rfl⟩ := m_some h
  exact m_R_vret (by decide) (m_opb_of (ins := .return_) (len := 1) (tag := 3) (a := 0) (b := 0) (c := 0) (q := 0) (by decide +kernel))
def f_World_become_212_16 (F : Nat)    (m : mM) : Option (Unit × mM) := ((f_Land_become_213_17 F m).bind fun q1 => ((f_Houses_become_215_19 F q1.2).bind fun q2 => ((f_Papers_become_227_31 F q2.2).bind fun q3 => ((f_Trades_become_242_46 F q3.2).bind fun q4 => ((f_Seasons_become_248_52 F q4.2).bind fun q5 => ((f_Notes_become_251_55 F q5.2).bind fun q6 => f_World_become_212_16_90 F ((m_up (m_up (m_up q6.2.1 212 9 (q6.2.1 16 9)) 212 10 ((m_up q6.2.1 212 9 (q6.2.1 16 9)) 16 10)) 212 11 ((m_up (m_up q6.2.1 212 9 (q6.2.1 16 9)) 212 10 ((m_up q6.2.1 212 9 (q6.2.1 16 9)) 16 10)) 16 11)), q6.2.2)))))))
theorem ok_World_become_212_16 (X : mX) (d F : Nat) : ∀   (m : mM) (r : Unit) (m' : mM), f_World_become_212_16 F  m = some (r, m') → m_R X (d + 3) 174 0 [some (.ref 212), some (.ref 16)] [] (SH, m) (none, (SH, m')) := by
  intro m r m' h
  unfold f_World_become_212_16 at h
  refine m_R_sg (by decide) [(.aload_n 0, 1, 0, 0, 0, 0, 0), (.getfield 12, 3, 0, 10, 0, 3, 503), (.aload_n 1, 1, 0, 1, 0, 0, 0), (.getfield 12, 3, 0, 10, 0, 3, 503)] (by decide +kernel) (show m_sgl X _ _ _ _ _ = some (8, [some (.ref 212), some (.ref 16)], [.ref 17, .ref 213], (SH, m.1, m.2)) from rfl) ?_
  obtain ⟨q1, hc1, h⟩ := Option.bind_eq_some_iff.mp h
  refine m_R_cV (v := none) (h1 := (SH, q1.2)) (rest := []) (lo' := [some (.ref 213), some (.ref 17)]) (ml := 2) (k0 := 213) (by decide) (Or.inl rfl) (m_opb_of (ins := .invokevirtual 76) (len := 3) (tag := 5) (a := 175) (b := 1) (c := 0) (q := 1384) (by decide +kernel)) (by decide +kernel) rfl (show m_isO 175 213 (SH, _) = true from m_isO_of (by decide +kernel)) (Nat.le_of_ble_eq_true rfl) rfl rfl (ok_Land_become_213_17 X (d + 0) F _ _ _ hc1) ?_
  refine m_R_sg (by decide) [(.aload_n 0, 1, 0, 0, 0, 0, 0), (.getfield 21, 3, 0, 10, 1, 3, 505), (.aload_n 1, 1, 0, 1, 0, 0, 0), (.getfield 21, 3, 0, 10, 1, 3, 505)] (by decide +kernel) (show m_sgl X _ _ _ _ _ = some (19, [some (.ref 212), some (.ref 16)], [.ref 19, .ref 215], (SH, q1.2.1, q1.2.2)) from rfl) ?_
  obtain ⟨q2, hc2, h⟩ := Option.bind_eq_some_iff.mp h
  refine m_R_cV (v := none) (h1 := (SH, q2.2)) (rest := []) (lo' := [some (.ref 215), some (.ref 19)]) (ml := 2) (k0 := 215) (by decide) (Or.inl rfl) (m_opb_of (ins := .invokevirtual 80) (len := 3) (tag := 5) (a := 177) (b := 1) (c := 0) (q := 1392) (by decide +kernel)) (by decide +kernel) rfl (show m_isO 177 215 (SH, _) = true from m_isO_of (by decide +kernel)) (Nat.le_of_ble_eq_true rfl) rfl rfl (ok_Houses_become_215_19 X (d + 0) F _ _ _ hc2) ?_
  refine m_R_sg (by decide) [(.aload_n 0, 1, 0, 0, 0, 0, 0), (.getfield 28, 3, 0, 10, 2, 3, 508), (.aload_n 1, 1, 0, 1, 0, 0, 0), (.getfield 28, 3, 0, 10, 2, 3, 508)] (by decide +kernel) (show m_sgl X _ _ _ _ _ = some (30, [some (.ref 212), some (.ref 16)], [.ref 31, .ref 227], (SH, q2.2.1, q2.2.2)) from rfl) ?_
  obtain ⟨q3, hc3, h⟩ := Option.bind_eq_some_iff.mp h
  refine m_R_cV (v := none) (h1 := (SH, q3.2)) (rest := []) (lo' := [some (.ref 227), some (.ref 31)]) (ml := 2) (k0 := 227) (by decide) (Or.inl rfl) (m_opb_of (ins := .invokevirtual 83) (len := 3) (tag := 5) (a := 178) (b := 1) (c := 0) (q := 1397) (by decide +kernel)) (by decide +kernel) rfl (show m_isO 178 227 (SH, _) = true from m_isO_of (by decide +kernel)) (Nat.le_of_ble_eq_true rfl) rfl rfl (ok_Papers_become_227_31 X (d + 0) F _ _ _ hc3) ?_
  refine m_R_sg (by decide) [(.aload_n 0, 1, 0, 0, 0, 0, 0), (.getfield 35, 3, 0, 10, 3, 3, 511), (.aload_n 1, 1, 0, 1, 0, 0, 0), (.getfield 35, 3, 0, 10, 3, 3, 511)] (by decide +kernel) (show m_sgl X _ _ _ _ _ = some (41, [some (.ref 212), some (.ref 16)], [.ref 46, .ref 242], (SH, q3.2.1, q3.2.2)) from rfl) ?_
  obtain ⟨q4, hc4, h⟩ := Option.bind_eq_some_iff.mp h
  refine m_R_cV (v := none) (h1 := (SH, q4.2)) (rest := []) (lo' := [some (.ref 242), some (.ref 46)]) (ml := 2) (k0 := 242) (by decide) (Or.inl rfl) (m_opb_of (ins := .invokevirtual 86) (len := 3) (tag := 5) (a := 179) (b := 1) (c := 0) (q := 1402) (by decide +kernel)) (by decide +kernel) rfl (show m_isO 179 242 (SH, _) = true from m_isO_of (by decide +kernel)) (Nat.le_of_ble_eq_true rfl) rfl rfl (ok_Trades_become_242_46 X (d + 0) F _ _ _ hc4) ?_
  refine m_R_sg (by decide) [(.aload_n 0, 1, 0, 0, 0, 0, 0), (.getfield 42, 3, 0, 10, 4, 3, 513), (.aload_n 1, 1, 0, 1, 0, 0, 0), (.getfield 42, 3, 0, 10, 4, 3, 513)] (by decide +kernel) (show m_sgl X _ _ _ _ _ = some (52, [some (.ref 212), some (.ref 16)], [.ref 52, .ref 248], (SH, q4.2.1, q4.2.2)) from rfl) ?_
  obtain ⟨q5, hc5, h⟩ := Option.bind_eq_some_iff.mp h
  refine m_R_cV (v := none) (h1 := (SH, q5.2)) (rest := []) (lo' := [some (.ref 248), some (.ref 52)]) (ml := 2) (k0 := 248) (by decide) (Or.inl rfl) (m_opb_of (ins := .invokevirtual 89) (len := 3) (tag := 5) (a := 180) (b := 1) (c := 0) (q := 1407) (by decide +kernel)) (by decide +kernel) rfl (show m_isO 180 248 (SH, _) = true from m_isO_of (by decide +kernel)) (Nat.le_of_ble_eq_true rfl) rfl rfl (ok_Seasons_become_248_52 X (d + 0) F _ _ _ hc5) ?_
  refine m_R_sg (by decide) [(.aload_n 0, 1, 0, 0, 0, 0, 0), (.getfield 72, 3, 0, 10, 8, 3, 518), (.aload_n 1, 1, 0, 1, 0, 0, 0), (.getfield 72, 3, 0, 10, 8, 3, 518)] (by decide +kernel) (show m_sgl X _ _ _ _ _ = some (63, [some (.ref 212), some (.ref 16)], [.ref 55, .ref 251], (SH, q5.2.1, q5.2.2)) from rfl) ?_
  obtain ⟨q6, hc6, h⟩ := Option.bind_eq_some_iff.mp h
  refine m_R_cV (v := none) (h1 := (SH, q6.2)) (rest := []) (lo' := [some (.ref 251), some (.ref 55)]) (ml := 2) (k0 := 251) (by decide) (Or.inl rfl) (m_opb_of (ins := .invokevirtual 92) (len := 3) (tag := 5) (a := 181) (b := 1) (c := 0) (q := 1412) (by decide +kernel)) (by decide +kernel) rfl (show m_isO 181 251 (SH, _) = true from m_isO_of (by decide +kernel)) (Nat.le_of_ble_eq_true rfl) rfl rfl (ok_Notes_become_251_55 X (d + 0) F _ _ _ hc6) ?_
  refine m_R_sg (by decide) [(.aload_n 0, 1, 0, 0, 0, 0, 0), (.aload_n 1, 1, 0, 1, 0, 0, 0), (.getfield 95, 3, 0, 10, 9, 0, 520), (.putfield 95, 3, 0, 10, 9, 0, 520), (.aload_n 0, 1, 0, 0, 0, 0, 0), (.aload_n 1, 1, 0, 1, 0, 0, 0), (.getfield 52, 3, 0, 10, 10, 0, 522), (.putfield 52, 3, 0, 10, 10, 0, 522), (.aload_n 0, 1, 0, 0, 0, 0, 0), (.aload_n 1, 1, 0, 1, 0, 0, 0), (.getfield 98, 3, 0, 10, 11, 0, 524), (.putfield 98, 3, 0, 10, 11, 0, 524)] (by decide +kernel) (show m_sgl X _ _ _ _ _ = some (90, [some (.ref 212), some (.ref 16)], [], (SH, (m_up (m_up (m_up q6.2.1 212 9 (q6.2.1 16 9)) 212 10 ((m_up q6.2.1 212 9 (q6.2.1 16 9)) 16 10)) 212 11 ((m_up (m_up q6.2.1 212 9 (q6.2.1 16 9)) 212 10 ((m_up q6.2.1 212 9 (q6.2.1 16 9)) 16 10)) 16 11)), q6.2.2)) from rfl) ?_
  exact ok_World_become_212_16_90 X d F _ _ _ h
def f_x_copyAll_18_260 (F : Nat)    (m : mM) : Option (Unit × mM) := ((f_Math_min_II F (Int32.ofNat 64) (Int32.ofNat 64) m).bind fun q1 => (if (0 : Int32) < 0 ∨ (0 : Int32) < 0 ∨ q1.1 < 0 ∨ 64 < (0 : Int32).toNatClampNeg + q1.1.toNatClampNeg ∨ 64 < (0 : Int32).toNatClampNeg + q1.1.toNatClampNeg then none else some ((), ((m_row q1.2.1 260 (va_cpy (q1.2.1 18) (q1.2.1 260) (0 : Int32).toNatClampNeg (0 : Int32).toNatClampNeg q1.1.toNatClampNeg)), q1.2.2))))
theorem ok_x_copyAll_18_260 (X : mX) (d F : Nat) : ∀   (m : mM) (r : Unit) (m' : mM), f_x_copyAll_18_260 F  m = some (r, m') → m_R X (d + 1) 176 0 [some (.ref 18), some (.ref 260)] [] (SH, m) (none, (SH, m')) := by
  intro m r m' h
  unfold f_x_copyAll_18_260 at h
  refine m_R_sg (by decide) [(.aload_n 0, 1, 0, 0, 0, 0, 0), (.iconst 0, 1, 0, 0, 0, 0, 0), (.aload_n 1, 1, 0, 1, 0, 0, 0), (.iconst 0, 1, 0, 0, 0, 0, 0), (.aload_n 0, 1, 0, 0, 0, 0, 0), (.arraylength, 1, 0, 0, 0, 0, 0), (.aload_n 1, 1, 0, 1, 0, 0, 0), (.arraylength, 1, 0, 0, 0, 0, 0)] (by decide +kernel) (show m_sgl X _ _ _ _ _ = some (8, [some (.ref 18), some (.ref 260)], [.int (Int32.ofNat 64), .int (Int32.ofNat 64), .int (0 : Int32), .ref 260, .int (0 : Int32), .ref 18], (SH, m.1, m.2)) from rfl) ?_
  obtain ⟨q1, hc1, h⟩ := Option.bind_eq_some_iff.mp h
  refine m_R_cS (v := (some (.int q1.1))) (h1 := (SH, q1.2)) (rest := [.int (0 : Int32), .ref 260, .int (0 : Int32), .ref 18]) (lo' := [some (.int (Int32.ofNat 64)), some (.int (Int32.ofNat 64))]) (ml := 2) (by decide) (m_opb_of (ins := .invokestatic 219) (len := 3) (tag := 4) (a := 50) (b := 2) (c := 0) (q := 893) (by decide +kernel)) (by decide +kernel) (Nat.le_of_ble_eq_true rfl) rfl (Nat.le_of_ble_eq_true rfl) rfl rfl (ok_Math_min_II X (d + 0) F _ _ _ _ _ hc1) ?_
  obtain ⟨c0, h⟩ := m_ite_n h
  refine m_R_cpy (by decide) (m_opb_of (ins := .invokestatic 452) (len := 3) (tag := 8) (a := 0) (b := 0) (c := 0) (q := 1391) (by decide +kernel)) (Nat.le_of_ble_eq_true rfl) (m_cpy_of sh_18 sh_260 c0) ?_
  obtain ⟨rfl, rfl⟩ := m_some h
  exact m_R_vret (by decide) (m_opb_of (ins := .return_) (len := 1) (tag := 3) (a := 0) (b := 0) (c := 0) (q := 0) (by decide +kernel))
def f_Land_become_259_17 (F : Nat)    (m : mM) : Option (Unit × mM) := ((f_x_copyAll_18_260 F m).bind fun q1 => some ((), ((m_up (m_up q1.2.1 259 1 (q1.2.1 17 1)) 259 2 ((m_up q1.2.1 259 1 (q1.2.1 17 1)) 17 2)), q1.2.2)))
theorem ok_Land_become_259_17 (X : mX) (d F : Nat) : ∀   (m : mM) (r : Unit) (m' : mM), f_Land_become_259_17 F  m = some (r, m') → m_R X (d + 2) 175 0 [some (.ref 259), some (.ref 17)] [] (SH, m) (none, (SH, m')) := by
  intro m r m' h
  unfold f_Land_become_259_17 at h
  refine m_R_sg (by decide) [(.aload_n 1, 1, 0, 1, 0, 0, 0), (.getfield 9, 3, 0, 2, 0, 3, 231), (.aload_n 0, 1, 0, 0, 0, 0, 0), (.getfield 9, 3, 0, 2, 0, 3, 231)] (by decide +kernel) (show m_sgl X _ _ _ _ _ = some (8, [some (.ref 259), some (.ref 17)], [.ref 260, .ref 18], (SH, m.1, m.2)) from rfl) ?_
  obtain ⟨q1, hc1, h⟩ := Option.bind_eq_some_iff.mp h
  refine m_R_cS (v := none) (h1 := (SH, q1.2)) (rest := []) (lo' := [some (.ref 18), some (.ref 260)]) (ml := 2) (by decide) (m_opb_of (ins := .invokestatic 19) (len := 3) (tag := 4) (a := 176) (b := 2) (c := 1) (q := 1388) (by decide +kernel)) (by decide +kernel) (Nat.le_of_ble_eq_true rfl) rfl (Nat.le_of_ble_eq_true rfl) rfl rfl (ok_x_copyAll_18_260 X (d + 0) F _ _ _ hc1) ?_
  refine m_R_sg (by decide) [(.aload_n 0, 1, 0, 0, 0, 0, 0), (.aload_n 1, 1, 0, 1, 0, 0, 0), (.getfield 15, 3, 0, 2, 1, 0, 232), (.putfield 15, 3, 0, 2, 1, 0, 232), (.aload_n 0, 1, 0, 0, 0, 0, 0), (.aload_n 1, 1, 0, 1, 0, 0, 0), (.getfield 23, 3, 0, 2, 2, 0, 234), (.putfield 23, 3, 0, 2, 2, 0, 234)] (by decide +kernel) (show m_sgl X _ _ _ _ _ = some (27, [some (.ref 259), some (.ref 17)], [], (SH, (m_up (m_up q1.2.1 259 1 (q1.2.1 17 1)) 259 2 ((m_up q1.2.1 259 1 (q1.2.1 17 1)) 17 2)), q1.2.2)) from rfl) ?_
  obtain ⟨rfl, rfl⟩ := m_some h
  exact m_R_vret (by decide) (m_opb_of (ins := .return_) (len := 1) (tag := 3) (a := 0) (b := 0) (c := 0) (q := 0) (by decide +kernel))
def f_x_copyAll_20_262 (F : Nat)    (m : mM) : Option (Unit × mM) := ((f_Math_min_II F (Int32.ofNat 16) (Int32.ofNat 16) m).bind fun q1 => (if (0 : Int32) < 0 ∨ (0 : Int32) < 0 ∨ q1.1 < 0 ∨ 16 < (0 : Int32).toNatClampNeg + q1.1.toNatClampNeg ∨ 16 < (0 : Int32).toNatClampNeg + q1.1.toNatClampNeg then none else some ((), ((m_row q1.2.1 262 (va_cpy (q1.2.1 20) (q1.2.1 262) (0 : Int32).toNatClampNeg (0 : Int32).toNatClampNeg q1.1.toNatClampNeg)), q1.2.2))))
theorem ok_x_copyAll_20_262 (X : mX) (d F : Nat) : ∀   (m : mM) (r : Unit) (m' : mM), f_x_copyAll_20_262 F  m = some (r, m') → m_R X (d + 1) 176 0 [some (.ref 20), some (.ref 262)] [] (SH, m) (none, (SH, m')) := by
  intro m r m' h
  unfold f_x_copyAll_20_262 at h
  refine m_R_sg (by decide) [(.aload_n 0, 1, 0, 0, 0, 0, 0), (.iconst 0, 1, 0, 0, 0, 0, 0), (.aload_n 1, 1, 0, 1, 0, 0, 0), (.iconst 0, 1, 0, 0, 0, 0, 0), (.aload_n 0, 1, 0, 0, 0, 0, 0), (.arraylength, 1, 0, 0, 0, 0, 0), (.aload_n 1, 1, 0, 1, 0, 0, 0), (.arraylength, 1, 0, 0, 0, 0, 0)] (by decide +kernel) (show m_sgl X _ _ _ _ _ = some (8, [some (.ref 20), some (.ref 262)], [.int (Int32.ofNat 16), .int (Int32.ofNat 16), .int (0 : Int32), .ref 262, .int (0 : Int32), .ref 20], (SH, m.1, m.2)) from rfl) ?_
  obtain ⟨q1, hc1, h⟩ := Option.bind_eq_some_iff.mp h
  refine m_R_cS (v := (some (.int q1.1))) (h1 := (SH, q1.2)) (rest := [.int (0 : Int32), .ref 262, .int (0 : Int32), .ref 20]) (lo' := [some (.int (Int32.ofNat 16)), some (.int (Int32.ofNat 16))]) (ml := 2) (by decide) (m_opb_of (ins := .invokestatic 219) (len := 3) (tag := 4) (a := 50) (b := 2) (c := 0) (q := 893) (by decide +kernel)) (by decide +kernel) (Nat.le_of_ble_eq_true rfl) rfl (Nat.le_of_ble_eq_true rfl) rfl rfl (ok_Math_min_II X (d + 0) F _ _ _ _ _ hc1) ?_
  obtain ⟨c0, h⟩ := m_ite_n h
  refine m_R_cpy (by decide) (m_opb_of (ins := .invokestatic 452) (len := 3) (tag := 8) (a := 0) (b := 0) (c := 0) (q := 1391) (by decide +kernel)) (Nat.le_of_ble_eq_true rfl) (m_cpy_of sh_20 sh_262 c0) ?_
  obtain ⟨rfl, rfl⟩ := m_some h
  exact m_R_vret (by decide) (m_opb_of (ins := .return_) (len := 1) (tag := 3) (a := 0) (b := 0) (c := 0) (q := 0) (by decide +kernel))
def f_x_copyAll_21_263 (F : Nat)    (m : mM) : Option (Unit × mM) := ((f_Math_min_II F (Int32.ofNat 16) (Int32.ofNat 16) m).bind fun q1 => (if (0 : Int32) < 0 ∨ (0 : Int32) < 0 ∨ q1.1 < 0 ∨ 16 < (0 : Int32).toNatClampNeg + q1.1.toNatClampNeg ∨ 16 < (0 : Int32).toNatClampNeg + q1.1.toNatClampNeg then none else some ((), ((m_row q1.2.1 263 (va_cpy (q1.2.1 21) (q1.2.1 263) (0 : Int32).toNatClampNeg (0 : Int32).toNatClampNeg q1.1.toNatClampNeg)), q1.2.2))))
theorem ok_x_copyAll_21_263 (X : mX) (d F : Nat) : ∀   (m : mM) (r : Unit) (m' : mM), f_x_copyAll_21_263 F  m = some (r, m') → m_R X (d + 1) 176 0 [some (.ref 21), some (.ref 263)] [] (SH, m) (none, (SH, m')) := by
  intro m r m' h
  unfold f_x_copyAll_21_263 at h
  refine m_R_sg (by decide) [(.aload_n 0, 1, 0, 0, 0, 0, 0), (.iconst 0, 1, 0, 0, 0, 0, 0), (.aload_n 1, 1, 0, 1, 0, 0, 0), (.iconst 0, 1, 0, 0, 0, 0, 0), (.aload_n 0, 1, 0, 0, 0, 0, 0), (.arraylength, 1, 0, 0, 0, 0, 0), (.aload_n 1, 1, 0, 1, 0, 0, 0), (.arraylength, 1, 0, 0, 0, 0, 0)] (by decide +kernel) (show m_sgl X _ _ _ _ _ = some (8, [some (.ref 21), some (.ref 263)], [.int (Int32.ofNat 16), .int (Int32.ofNat 16), .int (0 : Int32), .ref 263, .int (0 : Int32), .ref 21], (SH, m.1, m.2)) from rfl) ?_
  obtain ⟨q1, hc1, h⟩ := Option.bind_eq_some_iff.mp h
  refine m_R_cS (v := (some (.int q1.1))) (h1 := (SH, q1.2)) (rest := [.int (0 : Int32), .ref 263, .int (0 : Int32), .ref 21]) (lo' := [some (.int (Int32.ofNat 16)), some (.int (Int32.ofNat 16))]) (ml := 2) (by decide) (m_opb_of (ins := .invokestatic 219) (len := 3) (tag := 4) (a := 50) (b := 2) (c := 0) (q := 893) (by decide +kernel)) (by decide +kernel) (Nat.le_of_ble_eq_true rfl) rfl (Nat.le_of_ble_eq_true rfl) rfl rfl (ok_Math_min_II X (d + 0) F _ _ _ _ _ hc1) ?_
  obtain ⟨c0, h⟩ := m_ite_n h
  refine m_R_cpy (by decide) (m_opb_of (ins := .invokestatic 452) (len := 3) (tag := 8) (a := 0) (b := 0) (c := 0) (q := 1391) (by decide +kernel)) (Nat.le_of_ble_eq_true rfl) (m_cpy_of sh_21 sh_263 c0) ?_
  obtain ⟨rfl, rfl⟩ := m_some h
  exact m_R_vret (by decide) (m_opb_of (ins := .return_) (len := 1) (tag := 3) (a := 0) (b := 0) (c := 0) (q := 0) (by decide +kernel))
def f_x_copyAll_22_264 (F : Nat)    (m : mM) : Option (Unit × mM) := ((f_Math_min_II F (Int32.ofNat 16) (Int32.ofNat 16) m).bind fun q1 => (if (0 : Int32) < 0 ∨ (0 : Int32) < 0 ∨ q1.1 < 0 ∨ 16 < (0 : Int32).toNatClampNeg + q1.1.toNatClampNeg ∨ 16 < (0 : Int32).toNatClampNeg + q1.1.toNatClampNeg then none else some ((), ((m_row q1.2.1 264 (va_cpy (q1.2.1 22) (q1.2.1 264) (0 : Int32).toNatClampNeg (0 : Int32).toNatClampNeg q1.1.toNatClampNeg)), q1.2.2))))
theorem ok_x_copyAll_22_264 (X : mX) (d F : Nat) : ∀   (m : mM) (r : Unit) (m' : mM), f_x_copyAll_22_264 F  m = some (r, m') → m_R X (d + 1) 176 0 [some (.ref 22), some (.ref 264)] [] (SH, m) (none, (SH, m')) := by
  intro m r m' h
  unfold f_x_copyAll_22_264 at h
  refine m_R_sg (by decide) [(.aload_n 0, 1, 0, 0, 0, 0, 0), (.iconst 0, 1, 0, 0, 0, 0, 0), (.aload_n 1, 1, 0, 1, 0, 0, 0), (.iconst 0, 1, 0, 0, 0, 0, 0), (.aload_n 0, 1, 0, 0, 0, 0, 0), (.arraylength, 1, 0, 0, 0, 0, 0), (.aload_n 1, 1, 0, 1, 0, 0, 0), (.arraylength, 1, 0, 0, 0, 0, 0)] (by decide +kernel) (show m_sgl X _ _ _ _ _ = some (8, [some (.ref 22), some (.ref 264)], [.int (Int32.ofNat 16), .int (Int32.ofNat 16), .int (0 : Int32), .ref 264, .int (0 : Int32), .ref 22], (SH, m.1, m.2)) from rfl) ?_
  obtain ⟨q1, hc1, h⟩ := Option.bind_eq_some_iff.mp h
  refine m_R_cS (v := (some (.int q1.1))) (h1 := (SH, q1.2)) (rest := [.int (0 : Int32), .ref 264, .int (0 : Int32), .ref 22]) (lo' := [some (.int (Int32.ofNat 16)), some (.int (Int32.ofNat 16))]) (ml := 2) (by decide) (m_opb_of (ins := .invokestatic 219) (len := 3) (tag := 4) (a := 50) (b := 2) (c := 0) (q := 893) (by decide +kernel)) (by decide +kernel) (Nat.le_of_ble_eq_true rfl) rfl (Nat.le_of_ble_eq_true rfl) rfl rfl (ok_Math_min_II X (d + 0) F _ _ _ _ _ hc1) ?_
  obtain ⟨c0, h⟩ := m_ite_n h
  refine m_R_cpy (by decide) (m_opb_of (ins := .invokestatic 452) (len := 3) (tag := 8) (a := 0) (b := 0) (c := 0) (q := 1391) (by decide +kernel)) (Nat.le_of_ble_eq_true rfl) (m_cpy_of sh_22 sh_264 c0) ?_
  obtain ⟨rfl, rfl⟩ := m_some h
  exact m_R_vret (by decide) (m_opb_of (ins := .return_) (len := 1) (tag := 3) (a := 0) (b := 0) (c := 0) (q := 0) (by decide +kernel))
def f_x_copyAll_23_265 (F : Nat)    (m : mM) : Option (Unit × mM) := ((f_Math_min_II F (Int32.ofNat 16) (Int32.ofNat 16) m).bind fun q1 => (if (0 : Int32) < 0 ∨ (0 : Int32) < 0 ∨ q1.1 < 0 ∨ 16 < (0 : Int32).toNatClampNeg + q1.1.toNatClampNeg ∨ 16 < (0 : Int32).toNatClampNeg + q1.1.toNatClampNeg then none else some ((), ((m_row q1.2.1 265 (va_cpy (q1.2.1 23) (q1.2.1 265) (0 : Int32).toNatClampNeg (0 : Int32).toNatClampNeg q1.1.toNatClampNeg)), q1.2.2))))
theorem ok_x_copyAll_23_265 (X : mX) (d F : Nat) : ∀   (m : mM) (r : Unit) (m' : mM), f_x_copyAll_23_265 F  m = some (r, m') → m_R X (d + 1) 176 0 [some (.ref 23), some (.ref 265)] [] (SH, m) (none, (SH, m')) := by
  intro m r m' h
  unfold f_x_copyAll_23_265 at h
  refine m_R_sg (by decide) [(.aload_n 0, 1, 0, 0, 0, 0, 0), (.iconst 0, 1, 0, 0, 0, 0, 0), (.aload_n 1, 1, 0, 1, 0, 0, 0), (.iconst 0, 1, 0, 0, 0, 0, 0), (.aload_n 0, 1, 0, 0, 0, 0, 0), (.arraylength, 1, 0, 0, 0, 0, 0), (.aload_n 1, 1, 0, 1, 0, 0, 0), (.arraylength, 1, 0, 0, 0, 0, 0)] (by decide +kernel) (show m_sgl X _ _ _ _ _ = some (8, [some (.ref 23), some (.ref 265)], [.int (Int32.ofNat 16), .int (Int32.ofNat 16), .int (0 : Int32), .ref 265, .int (0 : Int32), .ref 23], (SH, m.1, m.2)) from rfl) ?_
  obtain ⟨q1, hc1, h⟩ := Option.bind_eq_some_iff.mp h
  refine m_R_cS (v := (some (.int q1.1))) (h1 := (SH, q1.2)) (rest := [.int (0 : Int32), .ref 265, .int (0 : Int32), .ref 23]) (lo' := [some (.int (Int32.ofNat 16)), some (.int (Int32.ofNat 16))]) (ml := 2) (by decide) (m_opb_of (ins := .invokestatic 219) (len := 3) (tag := 4) (a := 50) (b := 2) (c := 0) (q := 893) (by decide +kernel)) (by decide +kernel) (Nat.le_of_ble_eq_true rfl) rfl (Nat.le_of_ble_eq_true rfl) rfl rfl (ok_Math_min_II X (d + 0) F _ _ _ _ _ hc1) ?_
  obtain ⟨c0, h⟩ := m_ite_n h
  refine m_R_cpy (by decide) (m_opb_of (ins := .invokestatic 452) (len := 3) (tag := 8) (a := 0) (b := 0) (c := 0) (q := 1391) (by decide +kernel)) (Nat.le_of_ble_eq_true rfl) (m_cpy_of sh_23 sh_265 c0) ?_
  obtain ⟨rfl, rfl⟩ := m_some h
  exact m_R_vret (by decide) (m_opb_of (ins := .return_) (len := 1) (tag := 3) (a := 0) (b := 0) (c := 0) (q := 0) (by decide +kernel))
def f_x_copyAll_24_266 (F : Nat)    (m : mM) : Option (Unit × mM) := ((f_Math_min_II F (Int32.ofNat 16) (Int32.ofNat 16) m).bind fun q1 => (if (0 : Int32) < 0 ∨ (0 : Int32) < 0 ∨ q1.1 < 0 ∨ 16 < (0 : Int32).toNatClampNeg + q1.1.toNatClampNeg ∨ 16 < (0 : Int32).toNatClampNeg + q1.1.toNatClampNeg then none else some ((), ((m_row q1.2.1 266 (va_cpy (q1.2.1 24) (q1.2.1 266) (0 : Int32).toNatClampNeg (0 : Int32).toNatClampNeg q1.1.toNatClampNeg)), q1.2.2))))
theorem ok_x_copyAll_24_266 (X : mX) (d F : Nat) : ∀   (m : mM) (r : Unit) (m' : mM), f_x_copyAll_24_266 F  m = some (r, m') → m_R X (d + 1) 176 0 [some (.ref 24), some (.ref 266)] [] (SH, m) (none, (SH, m')) := by
  intro m r m' h
  unfold f_x_copyAll_24_266 at h
  refine m_R_sg (by decide) [(.aload_n 0, 1, 0, 0, 0, 0, 0), (.iconst 0, 1, 0, 0, 0, 0, 0), (.aload_n 1, 1, 0, 1, 0, 0, 0), (.iconst 0, 1, 0, 0, 0, 0, 0), (.aload_n 0, 1, 0, 0, 0, 0, 0), (.arraylength, 1, 0, 0, 0, 0, 0), (.aload_n 1, 1, 0, 1, 0, 0, 0), (.arraylength, 1, 0, 0, 0, 0, 0)] (by decide +kernel) (show m_sgl X _ _ _ _ _ = some (8, [some (.ref 24), some (.ref 266)], [.int (Int32.ofNat 16), .int (Int32.ofNat 16), .int (0 : Int32), .ref 266, .int (0 : Int32), .ref 24], (SH, m.1, m.2)) from rfl) ?_
  obtain ⟨q1, hc1, h⟩ := Option.bind_eq_some_iff.mp h
  refine m_R_cS (v := (some (.int q1.1))) (h1 := (SH, q1.2)) (rest := [.int (0 : Int32), .ref 266, .int (0 : Int32), .ref 24]) (lo' := [some (.int (Int32.ofNat 16)), some (.int (Int32.ofNat 16))]) (ml := 2) (by decide) (m_opb_of (ins := .invokestatic 219) (len := 3) (tag := 4) (a := 50) (b := 2) (c := 0) (q := 893) (by decide +kernel)) (by decide +kernel) (Nat.le_of_ble_eq_true rfl) rfl (Nat.le_of_ble_eq_true rfl) rfl rfl (ok_Math_min_II X (d + 0) F _ _ _ _ _ hc1) ?_
  obtain ⟨c0, h⟩ := m_ite_n h
  refine m_R_cpy (by decide) (m_opb_of (ins := .invokestatic 452) (len := 3) (tag := 8) (a := 0) (b := 0) (c := 0) (q := 1391) (by decide +kernel)) (Nat.le_of_ble_eq_true rfl) (m_cpy_of sh_24 sh_266 c0) ?_
  obtain ⟨rfl, rfl⟩ := m_some h
  exact m_R_vret (by decide) (m_opb_of (ins := .return_) (len := 1) (tag := 3) (a := 0) (b := 0) (c := 0) (q := 0) (by decide +kernel))
def f_x_copyAll_25_267 (F : Nat)    (m : mM) : Option (Unit × mM) := ((f_Math_min_II F (Int32.ofNat 16) (Int32.ofNat 16) m).bind fun q1 => (if (0 : Int32) < 0 ∨ (0 : Int32) < 0 ∨ q1.1 < 0 ∨ 16 < (0 : Int32).toNatClampNeg + q1.1.toNatClampNeg ∨ 16 < (0 : Int32).toNatClampNeg + q1.1.toNatClampNeg then none else some ((), ((m_row q1.2.1 267 (va_cpy (q1.2.1 25) (q1.2.1 267) (0 : Int32).toNatClampNeg (0 : Int32).toNatClampNeg q1.1.toNatClampNeg)), q1.2.2))))
theorem ok_x_copyAll_25_267 (X : mX) (d F : Nat) : ∀   (m : mM) (r : Unit) (m' : mM), f_x_copyAll_25_267 F  m = some (r, m') → m_R X (d + 1) 176 0 [some (.ref 25), some (.ref 267)] [] (SH, m) (none, (SH, m')) := by
  intro m r m' h
  unfold f_x_copyAll_25_267 at h
  refine m_R_sg (by decide) [(.aload_n 0, 1, 0, 0, 0, 0, 0), (.iconst 0, 1, 0, 0, 0, 0, 0), (.aload_n 1, 1, 0, 1, 0, 0, 0), (.iconst 0, 1, 0, 0, 0, 0, 0), (.aload_n 0, 1, 0, 0, 0, 0, 0), (.arraylength, 1, 0, 0, 0, 0, 0), (.aload_n 1, 1, 0, 1, 0, 0, 0), (.arraylength, 1, 0, 0, 0, 0, 0)] (by decide +kernel) (show m_sgl X _ _ _ _ _ = some (8, [some (.ref 25), some (.ref 267)], [.int (Int32.ofNat 16), .int (Int32.ofNat 16), .int (0 : Int32), .ref 267, .int (0 : Int32), .ref 25], (SH, m.1, m.2)) from rfl) ?_
  obtain ⟨q1, hc1, h⟩ := Option.bind_eq_some_iff.mp h
  refine m_R_cS (v := (some (.int q1.1))) (h1 := (SH, q1.2)) (rest := [.int (0 : Int32), .ref 267, .int (0 : Int32), .ref 25]) (lo' := [some (.int (Int32.ofNat 16)), some (.int (Int32.ofNat 16))]) (ml := 2) (by decide) (m_opb_of (ins := .invokestatic 219) (len := 3) (tag := 4) (a := 50) (b := 2) (c := 0) (q := 893) (by decide +kernel)) (by decide +kernel) (Nat.le_of_ble_eq_true rfl) rfl (Nat.le_of_ble_eq_true rfl) rfl rfl (ok_Math_min_II X (d + 0) F _ _ _ _ _ hc1) ?_
  obtain ⟨c0, h⟩ := m_ite_n h
  refine m_R_cpy (by decide) (m_opb_of (ins := .invokestatic 452) (len := 3) (tag := 8) (a := 0) (b := 0) (c := 0) (q := 1391) (by decide +kernel)) (Nat.le_of_ble_eq_true rfl) (m_cpy_of sh_25 sh_267 c0) ?_
  obtain ⟨rfl, rfl⟩ := m_some h
  exact m_R_vret (by decide) (m_opb_of (ins := .return_) (len := 1) (tag := 3) (a := 0) (b := 0) (c := 0) (q := 0) (by decide +kernel))
def f_x_copyAll_26_268 (F : Nat)    (m : mM) : Option (Unit × mM) := ((f_Math_min_II F (Int32.ofNat 16) (Int32.ofNat 16) m).bind fun q1 => (if (0 : Int32) < 0 ∨ (0 : Int32) < 0 ∨ q1.1 < 0 ∨ 16 < (0 : Int32).toNatClampNeg + q1.1.toNatClampNeg ∨ 16 < (0 : Int32).toNatClampNeg + q1.1.toNatClampNeg then none else some ((), ((m_row q1.2.1 268 (va_cpy (q1.2.1 26) (q1.2.1 268) (0 : Int32).toNatClampNeg (0 : Int32).toNatClampNeg q1.1.toNatClampNeg)), q1.2.2))))
theorem ok_x_copyAll_26_268 (X : mX) (d F : Nat) : ∀   (m : mM) (r : Unit) (m' : mM), f_x_copyAll_26_268 F  m = some (r, m') → m_R X (d + 1) 176 0 [some (.ref 26), some (.ref 268)] [] (SH, m) (none, (SH, m')) := by
  intro m r m' h
  unfold f_x_copyAll_26_268 at h
  refine m_R_sg (by decide) [(.aload_n 0, 1, 0, 0, 0, 0, 0), (.iconst 0, 1, 0, 0, 0, 0, 0), (.aload_n 1, 1, 0, 1, 0, 0, 0), (.iconst 0, 1, 0, 0, 0, 0, 0), (.aload_n 0, 1, 0, 0, 0, 0, 0), (.arraylength, 1, 0, 0, 0, 0, 0), (.aload_n 1, 1, 0, 1, 0, 0, 0), (.arraylength, 1, 0, 0, 0, 0, 0)] (by decide +kernel) (show m_sgl X _ _ _ _ _ = some (8, [some (.ref 26), some (.ref 268)], [.int (Int32.ofNat 16), .int (Int32.ofNat 16), .int (0 : Int32), .ref 268, .int (0 : Int32), .ref 26], (SH, m.1, m.2)) from rfl) ?_
  obtain ⟨q1, hc1, h⟩ := Option.bind_eq_some_iff.mp h
  refine m_R_cS (v := (some (.int q1.1))) (h1 := (SH, q1.2)) (rest := [.int (0 : Int32), .ref 268, .int (0 : Int32), .ref 26]) (lo' := [some (.int (Int32.ofNat 16)), some (.int (Int32.ofNat 16))]) (ml := 2) (by decide) (m_opb_of (ins := .invokestatic 219) (len := 3) (tag := 4) (a := 50) (b := 2) (c := 0) (q := 893) (by decide +kernel)) (by decide +kernel) (Nat.le_of_ble_eq_true rfl) rfl (Nat.le_of_ble_eq_true rfl) rfl rfl (ok_Math_min_II X (d + 0) F _ _ _ _ _ hc1) ?_
  obtain ⟨c0, h⟩ := m_ite_n h
  refine m_R_cpy (by decide) (m_opb_of (ins := .invokestatic 452) (len := 3) (tag := 8) (a := 0) (b := 0) (c := 0) (q := 1391) (by decide +kernel)) (Nat.le_of_ble_eq_true rfl) (m_cpy_of sh_26 sh_268 c0) ?_
  obtain ⟨rfl, rfl⟩ := m_some h
  exact m_R_vret (by decide) (m_opb_of (ins := .return_) (len := 1) (tag := 3) (a := 0) (b := 0) (c := 0) (q := 0) (by decide +kernel))
def f_x_copyAll_27_269 (F : Nat)    (m : mM) : Option (Unit × mM) := ((f_Math_min_II F (Int32.ofNat 16) (Int32.ofNat 16) m).bind fun q1 => (if (0 : Int32) < 0 ∨ (0 : Int32) < 0 ∨ q1.1 < 0 ∨ 16 < (0 : Int32).toNatClampNeg + q1.1.toNatClampNeg ∨ 16 < (0 : Int32).toNatClampNeg + q1.1.toNatClampNeg then none else some ((), ((m_row q1.2.1 269 (va_cpy (q1.2.1 27) (q1.2.1 269) (0 : Int32).toNatClampNeg (0 : Int32).toNatClampNeg q1.1.toNatClampNeg)), q1.2.2))))
theorem ok_x_copyAll_27_269 (X : mX) (d F : Nat) : ∀   (m : mM) (r : Unit) (m' : mM), f_x_copyAll_27_269 F  m = some (r, m') → m_R X (d + 1) 176 0 [some (.ref 27), some (.ref 269)] [] (SH, m) (none, (SH, m')) := by
  intro m r m' h
  unfold f_x_copyAll_27_269 at h
  refine m_R_sg (by decide) [(.aload_n 0, 1, 0, 0, 0, 0, 0), (.iconst 0, 1, 0, 0, 0, 0, 0), (.aload_n 1, 1, 0, 1, 0, 0, 0), (.iconst 0, 1, 0, 0, 0, 0, 0), (.aload_n 0, 1, 0, 0, 0, 0, 0), (.arraylength, 1, 0, 0, 0, 0, 0), (.aload_n 1, 1, 0, 1, 0, 0, 0), (.arraylength, 1, 0, 0, 0, 0, 0)] (by decide +kernel) (show m_sgl X _ _ _ _ _ = some (8, [some (.ref 27), some (.ref 269)], [.int (Int32.ofNat 16), .int (Int32.ofNat 16), .int (0 : Int32), .ref 269, .int (0 : Int32), .ref 27], (SH, m.1, m.2)) from rfl) ?_
  obtain ⟨q1, hc1, h⟩ := Option.bind_eq_some_iff.mp h
  refine m_R_cS (v := (some (.int q1.1))) (h1 := (SH, q1.2)) (rest := [.int (0 : Int32), .ref 269, .int (0 : Int32), .ref 27]) (lo' := [some (.int (Int32.ofNat 16)), some (.int (Int32.ofNat 16))]) (ml := 2) (by decide) (m_opb_of (ins := .invokestatic 219) (len := 3) (tag := 4) (a := 50) (b := 2) (c := 0) (q := 893) (by decide +kernel)) (by decide +kernel) (Nat.le_of_ble_eq_true rfl) rfl (Nat.le_of_ble_eq_true rfl) rfl rfl (ok_Math_min_II X (d + 0) F _ _ _ _ _ hc1) ?_
  obtain ⟨c0, h⟩ := m_ite_n h
  refine m_R_cpy (by decide) (m_opb_of (ins := .invokestatic 452) (len := 3) (tag := 8) (a := 0) (b := 0) (c := 0) (q := 1391) (by decide +kernel)) (Nat.le_of_ble_eq_true rfl) (m_cpy_of sh_27 sh_269 c0) ?_
  obtain ⟨rfl, rfl⟩ := m_some h
  exact m_R_vret (by decide) (m_opb_of (ins := .return_) (len := 1) (tag := 3) (a := 0) (b := 0) (c := 0) (q := 0) (by decide +kernel))
def f_x_copyAll_28_270 (F : Nat)    (m : mM) : Option (Unit × mM) := ((f_Math_min_II F (Int32.ofNat 16) (Int32.ofNat 16) m).bind fun q1 => (if (0 : Int32) < 0 ∨ (0 : Int32) < 0 ∨ q1.1 < 0 ∨ 16 < (0 : Int32).toNatClampNeg + q1.1.toNatClampNeg ∨ 16 < (0 : Int32).toNatClampNeg + q1.1.toNatClampNeg then none else some ((), ((m_row q1.2.1 270 (va_cpy (q1.2.1 28) (q1.2.1 270) (0 : Int32).toNatClampNeg (0 : Int32).toNatClampNeg q1.1.toNatClampNeg)), q1.2.2))))
theorem ok_x_copyAll_28_270 (X : mX) (d F : Nat) : ∀   (m : mM) (r : Unit) (m' : mM), f_x_copyAll_28_270 F  m = some (r, m') → m_R X (d + 1) 176 0 [some (.ref 28), some (.ref 270)] [] (SH, m) (none, (SH, m')) := by
  intro m r m' h
  unfold f_x_copyAll_28_270 at h
  refine m_R_sg (by decide) [(.aload_n 0, 1, 0, 0, 0, 0, 0), (.iconst 0, 1, 0, 0, 0, 0, 0), (.aload_n 1, 1, 0, 1, 0, 0, 0), (.iconst 0, 1, 0, 0, 0, 0, 0), (.aload_n 0, 1, 0, 0, 0, 0, 0), (.arraylength, 1, 0, 0, 0, 0, 0), (.aload_n 1, 1, 0, 1, 0, 0, 0), (.arraylength, 1, 0, 0, 0, 0, 0)] (by decide +kernel) (show m_sgl X _ _ _ _ _ = some (8, [some (.ref 28), some (.ref 270)], [.int (Int32.ofNat 16), .int (Int32.ofNat 16), .int (0 : Int32), .ref 270, .int (0 : Int32), .ref 28], (SH, m.1, m.2)) from rfl) ?_
  obtain ⟨q1, hc1, h⟩ := Option.bind_eq_some_iff.mp h
  refine m_R_cS (v := (some (.int q1.1))) (h1 := (SH, q1.2)) (rest := [.int (0 : Int32), .ref 270, .int (0 : Int32), .ref 28]) (lo' := [some (.int (Int32.ofNat 16)), some (.int (Int32.ofNat 16))]) (ml := 2) (by decide) (m_opb_of (ins := .invokestatic 219) (len := 3) (tag := 4) (a := 50) (b := 2) (c := 0) (q := 893) (by decide +kernel)) (by decide +kernel) (Nat.le_of_ble_eq_true rfl) rfl (Nat.le_of_ble_eq_true rfl) rfl rfl (ok_Math_min_II X (d + 0) F _ _ _ _ _ hc1) ?_
  obtain ⟨c0, h⟩ := m_ite_n h
  refine m_R_cpy (by decide) (m_opb_of (ins := .invokestatic 452) (len := 3) (tag := 8) (a := 0) (b := 0) (c := 0) (q := 1391) (by decide +kernel)) (Nat.le_of_ble_eq_true rfl) (m_cpy_of sh_28 sh_270 c0) ?_
  obtain ⟨rfl, rfl⟩ := m_some h
  exact m_R_vret (by decide) (m_opb_of (ins := .return_) (len := 1) (tag := 3) (a := 0) (b := 0) (c := 0) (q := 0) (by decide +kernel))
