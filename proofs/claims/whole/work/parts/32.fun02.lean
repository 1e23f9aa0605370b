/-! METHODS AS FUNCTIONS, on (written by program: wip/whole/gen/emit.py) -/
def f_m_price_67 (F : Nat)   (s0 : Int32) (m : mM) : Option (Int32 × mM) := some (s0, m)
theorem ok_m_price_67 (X : mX) (d F : Nat) : ∀ (s0 : Int32) (w0 : Option Value) (w1 : Option Value) (w2 : Option Value) (m : mM) (r : Int32) (m' : mM), f_m_price_67 F s0 m = some (r, m') → m_R X (d + 2) 282 67 [w0, w1, w2] [.int s0] (SH, m) (some (.int r), (SH, m')) := by
  intro s0 w0 w1 w2 m r m' h
  unfold f_m_price_67 at h
  obtain ⟨rfl, rfl⟩ := m_some h
  exact m_R_iret (by decide) (m_opb_of (ins := .ireturn) (len := 1) (tag := 1) (a := 0) (b := 0) (c := 0) (q := 0) (by decide +kernel)) (Or.inl rfl)
def f_m_price_61 (F : Nat)    (m : mM) : Option (Int32 × mM) := ((f_m_refuse F (-7 : Int32) m).bind fun q8 => f_m_price_67 F q8.1 q8.2)
theorem ok_m_price_61 (X : mX) (d F : Nat) : ∀  (w1 : Option Value) (w2 : Option Value) (m : mM) (r : Int32) (m' : mM), f_m_price_61 F  m = some (r, m') → m_R X (d + 2) 282 61 [some (.ref 304), w1, w2] [] (SH, m) (some (.int r), (SH, m')) := by
  intro w1 w2 m r m' h
  unfold f_m_price_61 at h
  refine m_R_sg (by decide) [(.aload_n 0, 1, 0, 0, 0, 0, 0), (.bipush (-7), 2, 0, 7, 1, 0, 0)] (by decide +kernel) (show m_sgl X _ _ _ _ _ = some (64, [some (.ref 304), w1, w2], [.int (-7 : Int32), .ref 304], (SH, m.1, m.2)) from rfl) ?_
  obtain ⟨q8, hc8, h⟩ := Option.bind_eq_some_iff.mp h
  refine m_R_cV (v := (some (.int q8.1))) (h1 := (SH, q8.2)) (rest := []) (lo' := [some (.ref 304), some (.int (-7 : Int32))]) (ml := 2) (k0 := 304) (by decide) (Or.inl rfl) (m_opb_of (ins := .invokevirtual 61) (len := 3) (tag := 5) (a := 202) (b := 1) (c := 0) (q := 1593) (by decide +kernel)) (by decide +kernel) rfl (show m_isO 202 304 (SH, _) = true from m_isO_of (by decide +kernel)) (Nat.le_of_ble_eq_true rfl) rfl rfl (ok_m_refuse X (d + 1) F _ _ _ _ hc8) ?_
  exact ok_m_price_67 X d F _ _ _ _ _ _ _ h
def f_m_price (F : Nat)   (v1 : Int32) (v2 : Int32) (m : mM) : Option (Int32 × mM) := ((f_m_isPaper F v1 m).bind fun q1 => (if q1.1 = 0 then ((f_m_refuse F (-3 : Int32) q1.2).bind fun q2 => some (q2.1, q2.2)) else ((f_m_paper F v1 (1 : Int32) q1.2).bind fun q3 => (if q3.1 = (1 : Int32) then ((f_m_paper F v1 (6 : Int32) q3.2).bind fun q4 => (if q4.1 = 0 then ((f_m_in F v2 (0 : Int32) (30 : Int32) q4.2).bind fun q5 => (if q5.1 = 0 then f_m_price_61 F q5.2 else ((f_m_priceOf F v1 v2 q5.2).bind fun q6 => f_m_price_67 F q6.1 q6.2))) else f_m_price_61 F q4.2)) else ((f_m_refuse F (-5 : Int32) q3.2).bind fun q7 => some (q7.1, q7.2))))))
theorem ok_m_price (X : mX) (d F : Nat) : ∀ (v1 : Int32) (v2 : Int32)  (m : mM) (r : Int32) (m' : mM), f_m_price F v1 v2 m = some (r, m') → m_R X (d + 2) 282 0 [some (.ref 304), some (.int v1), some (.int v2)] [] (SH, m) (some (.int r), (SH, m')) := by
  intro v1 v2 m r m' h
  unfold f_m_price at h
  refine m_R_sg (by decide) [(.aload_n 0, 1, 0, 0, 0, 0, 0), (.iload_n 1, 1, 0, 1, 0, 0, 0)] (by decide +kernel) (show m_sgl X _ _ _ _ _ = some (2, [some (.ref 304), some (.int v1), some (.int v2)], [.int v1, .ref 304], (SH, m.1, m.2)) from rfl) ?_
  obtain ⟨q1, hc1, h⟩ := Option.bind_eq_some_iff.mp h
  refine m_R_cV (v := (some (.int q1.1))) (h1 := (SH, q1.2)) (rest := []) (lo' := [some (.ref 304), some (.int v1)]) (ml := 2) (k0 := 304) (by decide) (Or.inl rfl) (m_opb_of (ins := .invokevirtual 173) (len := 3) (tag := 5) (a := 272) (b := 1) (c := 0) (q := 1905) (by decide +kernel)) (by decide +kernel) rfl (show m_isO 272 304 (SH, _) = true from m_isO_of (by decide +kernel)) (Nat.le_of_ble_eq_true rfl) rfl rfl (ok_m_isPaper X (d + 0) F _ _ _ _ hc1) ?_
  rcases m_ite h with ⟨c829, h⟩ | ⟨c829, h⟩
  · refine m_R_1 (by decide) (m_opb_of (ins := .ifCond .ne 10) (len := 3) (tag := 0) (a := 15) (b := 0) (c := 0) (q := 0) (by decide +kernel)) (if_pos c829) ?_
    refine m_R_sg (by decide) [(.aload_n 0, 1, 0, 0, 0, 0, 0), (.bipush (-3), 2, 0, 3, 1, 0, 0)] (by decide +kernel) (show m_sgl X _ _ _ _ _ = some (11, [some (.ref 304), some (.int v1), some (.int v2)], [.int (-3 : Int32), .ref 304], (SH, q1.2.1, q1.2.2)) from rfl) ?_
    obtain ⟨q2, hc2, h⟩ := Option.bind_eq_some_iff.mp h
    refine m_R_cV (v := (some (.int q2.1))) (h1 := (SH, q2.2)) (rest := []) (lo' := [some (.ref 304), some (.int (-3 : Int32))]) (ml := 2) (k0 := 304) (by decide) (Or.inl rfl) (m_opb_of (ins := .invokevirtual 61) (len := 3) (tag := 5) (a := 202) (b := 1) (c := 0) (q := 1593) (by decide +kernel)) (by decide +kernel) rfl (show m_isO 202 304 (SH, _) = true from m_isO_of (by decide +kernel)) (Nat.le_of_ble_eq_true rfl) rfl rfl (ok_m_refuse X (d + 1) F _ _ _ _ hc2) ?_
    obtain ⟨rfl, rfl⟩ := m_some h
    exact m_R_iret (by decide) (m_opb_of (ins := .ireturn) (len := 1) (tag := 1) (a := 0) (b := 0) (c := 0) (q := 0) (by decide +kernel)) (Or.inl rfl)
  · refine m_R_1 (by decide) (m_opb_of (ins := .ifCond .ne 10) (len := 3) (tag := 0) (a := 15) (b := 0) (c := 0) (q := 0) (by decide +kernel)) (if_neg c829) ?_
    refine m_R_sg (by decide) [(.aload_n 0, 1, 0, 0, 0, 0, 0), (.iload_n 1, 1, 0, 1, 0, 0, 0), (.iconst 1, 1, 0, 1, 0, 0, 0)] (by decide +kernel) (show m_sgl X _ _ _ _ _ = some (18, [some (.ref 304), some (.int v1), some (.int v2)], [.int (1 : Int32), .int v1, .ref 304], (SH, q1.2.1, q1.2.2)) from rfl) ?_
    obtain ⟨q3, hc3, h⟩ := Option.bind_eq_some_iff.mp h
    refine m_R_cV (v := (some (.int q3.1))) (h1 := (SH, q3.2)) (rest := []) (lo' := [some (.ref 304), some (.int v1), some (.int (1 : Int32))]) (ml := 3) (k0 := 304) (by decide) (Or.inl rfl) (m_opb_of (ins := .invokevirtual 160) (len := 3) (tag := 5) (a := 246) (b := 2) (c := 0) (q := 1791) (by decide +kernel)) (by decide +kernel) rfl (show m_isO 246 304 (SH, _) = true from m_isO_of (by decide +kernel)) (Nat.le_of_ble_eq_true rfl) rfl rfl (ok_m_paper X (d + 1) F _ _ _ _ _ hc3) ?_
    refine m_R_sg (by decide) [(.iconst 1, 1, 0, 1, 0, 0, 0)] (by decide +kernel) (show m_sgl X _ _ _ _ _ = some (22, [some (.ref 304), some (.int v1), some (.int v2)], [.int (1 : Int32), .int q3.1], (SH, q3.2.1, q3.2.2)) from rfl) ?_
    rcases m_ite h with ⟨c830, h⟩ | ⟨c830, h⟩
    · refine m_R_1 (by decide) (m_opb_of (ins := .if_icmp .eq 10) (len := 3) (tag := 0) (a := 32) (b := 0) (c := 0) (q := 0) (by decide +kernel)) (if_pos c830) ?_
      refine m_R_sg (by decide) [(.aload_n 0, 1, 0, 0, 0, 0, 0), (.iload_n 1, 1, 0, 1, 0, 0, 0), (.bipush 6, 2, 0, 6, 0, 0, 0)] (by decide +kernel) (show m_sgl X _ _ _ _ _ = some (36, [some (.ref 304), some (.int v1), some (.int v2)], [.int (6 : Int32), .int v1, .ref 304], (SH, q3.2.1, q3.2.2)) from rfl) ?_
      obtain ⟨q4, hc4, h⟩ := Option.bind_eq_some_iff.mp h
      refine m_R_cV (v := (some (.int q4.1))) (h1 := (SH, q4.2)) (rest := []) (lo' := [some (.ref 304), some (.int v1), some (.int (6 : Int32))]) (ml := 3) (k0 := 304) (by decide) (Or.inl rfl) (m_opb_of (ins := .invokevirtual 160) (len := 3) (tag := 5) (a := 246) (b := 2) (c := 0) (q := 1791) (by decide +kernel)) (by decide +kernel) rfl (show m_isO 246 304 (SH, _) = true from m_isO_of (by decide +kernel)) (Nat.le_of_ble_eq_true rfl) rfl rfl (ok_m_paper X (d + 1) F _ _ _ _ _ hc4) ?_
      rcases m_ite h with ⟨c831, h⟩ | ⟨c831, h⟩
      · refine m_R_1 (by decide) (m_opb_of (ins := .ifCond .ne 22) (len := 3) (tag := 0) (a := 61) (b := 0) (c := 0) (q := 0) (by decide +kernel)) (if_pos c831) ?_
        refine m_R_sg (by decide) [(.iload_n 2, 1, 0, 2, 0, 0, 0), (.iconst 0, 1, 0, 0, 0, 0, 0), (.bipush 30, 2, 0, 30, 0, 0, 0)] (by decide +kernel) (show m_sgl X _ _ _ _ _ = some (46, [some (.ref 304), some (.int v1), some (.int v2)], [.int (30 : Int32), .int (0 : Int32), .int v2], (SH, q4.2.1, q4.2.2)) from rfl) ?_
        obtain ⟨q5, hc5, h⟩ := Option.bind_eq_some_iff.mp h
        refine m_R_cS (v := (some (.int q5.1))) (h1 := (SH, q5.2)) (rest := []) (lo' := [some (.int v2), some (.int (0 : Int32)), some (.int (30 : Int32))]) (ml := 3) (by decide) (m_opb_of (ins := .invokestatic 57) (len := 3) (tag := 4) (a := 201) (b := 3) (c := 0) (q := 1590) (by decide +kernel)) (by decide +kernel) (Nat.le_of_ble_eq_true rfl) rfl (Nat.le_of_ble_eq_true rfl) rfl rfl (ok_m_in X (d + 1) F _ _ _ _ _ _ hc5) ?_
        rcases m_ite h with ⟨c832, h⟩ | ⟨c832, h⟩
        · refine m_R_1 (by decide) (m_opb_of (ins := .ifCond .eq 12) (len := 3) (tag := 0) (a := 61) (b := 0) (c := 0) (q := 0) (by decide +kernel)) (if_pos c832) ?_
          exact ok_m_price_61 X d F _ _ _ _ _ h
        · refine m_R_1 (by decide) (m_opb_of (ins := .ifCond .eq 12) (len := 3) (tag := 0) (a := 61) (b := 0) (c := 0) (q := 0) (by decide +kernel)) (if_neg c832) ?_
          refine m_R_sg (by decide) [(.aload_n 0, 1, 0, 0, 0, 0, 0), (.iload_n 1, 1, 0, 1, 0, 0, 0), (.iload_n 2, 1, 0, 2, 0, 0, 0)] (by decide +kernel) (show m_sgl X _ _ _ _ _ = some (55, [some (.ref 304), some (.int v1), some (.int v2)], [.int v2, .int v1, .ref 304], (SH, q5.2.1, q5.2.2)) from rfl) ?_
          obtain ⟨q6, hc6, h⟩ := Option.bind_eq_some_iff.mp h
          refine m_R_cV (v := (some (.int q6.1))) (h1 := (SH, q6.2)) (rest := []) (lo' := [some (.ref 304), some (.int v1), some (.int v2)]) (ml := 3) (k0 := 304) (by decide) (Or.inl rfl) (m_opb_of (ins := .invokevirtual 180) (len := 3) (tag := 5) (a := 277) (b := 2) (c := 0) (q := 1926) (by decide +kernel)) (by decide +kernel) rfl (show m_isO 277 304 (SH, _) = true from m_isO_of (by decide +kernel)) (Nat.le_of_ble_eq_true rfl) rfl rfl (ok_m_priceOf X (d + 0) F _ _ _ _ _ hc6) ?_
          refine m_R_sg (by decide) [(.goto 9, 3, 0, 67, 0, 0, 0)] (by decide +kernel) (show m_sgl X _ _ _ _ _ = some (67, [some (.ref 304), some (.int v1), some (.int v2)], [.int q6.1], (SH, q6.2.1, q6.2.2)) from rfl) ?_
          exact ok_m_price_67 X d F _ _ _ _ _ _ _ h
      · refine m_R_1 (by decide) (m_opb_of (ins := .ifCond .ne 22) (len := 3) (tag := 0) (a := 61) (b := 0) (c := 0) (q := 0) (by decide +kernel)) (if_neg c831) ?_
        exact ok_m_price_61 X d F _ _ _ _ _ h
    · refine m_R_1 (by decide) (m_opb_of (ins := .if_icmp .eq 10) (len := 3) (tag := 0) (a := 32) (b := 0) (c := 0) (q := 0) (by decide +kernel)) (if_neg c830) ?_
      refine m_R_sg (by decide) [(.aload_n 0, 1, 0, 0, 0, 0, 0), (.bipush (-5), 2, 0, 5, 1, 0, 0)] (by decide +kernel) (show m_sgl X _ _ _ _ _ = some (28, [some (.ref 304), some (.int v1), some (.int v2)], [.int (-5 : Int32), .ref 304], (SH, q3.2.1, q3.2.2)) from rfl) ?_
      obtain ⟨q7, hc7, h⟩ := Option.bind_eq_some_iff.mp h
      refine m_R_cV (v := (some (.int q7.1))) (h1 := (SH, q7.2)) (rest := []) (lo' := [some (.ref 304), some (.int (-5 : Int32))]) (ml := 2) (k0 := 304) (by decide) (Or.inl rfl) (m_opb_of (ins := .invokevirtual 61) (len := 3) (tag := 5) (a := 202) (b := 1) (c := 0) (q := 1593) (by decide +kernel)) (by decide +kernel) rfl (show m_isO 202 304 (SH, _) = true from m_isO_of (by decide +kernel)) (Nat.le_of_ble_eq_true rfl) rfl rfl (ok_m_refuse X (d + 1) F _ _ _ _ hc7) ?_
      obtain ⟨rfl, rfl⟩ := m_some h
      exact m_R_iret (by decide) (m_opb_of (ins := .ireturn) (len := 1) (tag := 1) (a := 0) (b := 0) (c := 0) (q := 0) (by decide +kernel)) (Or.inl rfl)
def f_Claims_begin_109_16_162 (F : Nat)  (k46 : Int32 → mM → Option (Unit × mM)) (v3 : Int32) (m : mM) : Option (Unit × mM) := k46 (v3 + (1 : Int32)) m
theorem ok_Claims_begin_109_16_162 (X : mX) (d F : Nat) (k46 : Int32 → mM → Option (Unit × mM)) (hk46 : ∀ (v3 : Int32) (w4 : Option Value) (m : mM) (r : Unit) (m' : mM), k46 v3 m = some (r, m') → m_R X (d + 2) 98 46 [some (.ref 109), some (.ref 16), some (.ref 31), some (.int v3), w4] [] (SH, m) (none, (SH, m'))) : ∀ (v3 : Int32) (w4 : Option Value) (m : mM) (r : Unit) (m' : mM), f_Claims_begin_109_16_162 F k46 v3 m = some (r, m') → m_R X (d + 2) 98 162 [some (.ref 109), some (.ref 16), some (.ref 31), some (.int v3), w4] [] (SH, m) (none, (SH, m')) := by
  intro v3 w4 m r m' h
  unfold f_Claims_begin_109_16_162 at h
  refine m_R_sg (by decide) [(.iinc 3 1, 3, 0, 3, 1, 0, 0), (.goto (-119), 3, 0, 46, 0, 0, 0)] (by decide +kernel) (show m_sgl X _ _ _ _ _ = some (46, [some (.ref 109), some (.ref 16), some (.ref 31), some (.int (v3 + (1 : Int32))), w4], [], (SH, m.1, m.2)) from rfl) ?_
  exact hk46 _ _ _ _ _ h
def f_Claims_begin_109_16_143 (F : Nat)  (k46 : Int32 → mM → Option (Unit × mM)) (v3 : Int32) (m : mM) : Option (Unit × mM) := f_Claims_begin_109_16_162 F k46 v3 m
theorem ok_Claims_begin_109_16_143 (X : mX) (d F : Nat) (k46 : Int32 → mM → Option (Unit × mM)) (hk46 : ∀ (v3 : Int32) (w4 : Option Value) (m : mM) (r : Unit) (m' : mM), k46 v3 m = some (r, m') → m_R X (d + 2) 98 46 [some (.ref 109), some (.ref 16), some (.ref 31), some (.int v3), w4] [] (SH, m) (none, (SH, m'))) : ∀ (v3 : Int32) (w4 : Option Value) (m : mM) (r : Unit) (m' : mM), f_Claims_begin_109_16_143 F k46 v3 m = some (r, m') → m_R X (d + 2) 98 143 [some (.ref 109), some (.ref 16), some (.ref 31), some (.int v3), w4] [] (SH, m) (none, (SH, m')) := by
  intro v3 w4 m r m' h
  unfold f_Claims_begin_109_16_143 at h
  refine m_R_sg (by decide) [(.goto 19, 3, 0, 162, 0, 0, 0)] (by decide +kernel) (show m_sgl X _ _ _ _ _ = some (162, [some (.ref 109), some (.ref 16), some (.ref 31), some (.int v3), w4], [], (SH, m.1, m.2)) from rfl) ?_
  exact ok_Claims_begin_109_16_162 X d F _ hk46 _ _ _ _ _ h
def f_Claims_begin_109_16_46 (F : Nat)   : Nat → Int32 → mM → Option (Unit × mM)
  | 0, _, _ => none
  | n + 1, v3, m => (if (m.1 31 15) ≤ v3 then some ((), m) else (if v3 < 0 ∨ 60 ≤ v3.toNatClampNeg then none else (if ((m_up m.1 110 v3.toNatClampNeg (0 : Int32)) 32 v3.toNatClampNeg) = (-1 : Int32) then f_Claims_begin_109_16_162 F (f_Claims_begin_109_16_46 F n) v3 ((m_up m.1 110 v3.toNatClampNeg (0 : Int32)), m.2) else ((f_Houses_isUp F ((m_up m.1 110 v3.toNatClampNeg (0 : Int32)) 34 v3.toNatClampNeg) ((m_up m.1 110 v3.toNatClampNeg (0 : Int32)), m.2)).bind fun q2 => (if q2.1 = 0 then (if (q2.2.1 32 v3.toNatClampNeg) = (2 : Int32) then (if ((m_up m.1 110 v3.toNatClampNeg (0 : Int32)) 34 v3.toNatClampNeg) < 0 ∨ 16 ≤ ((m_up m.1 110 v3.toNatClampNeg (0 : Int32)) 34 v3.toNatClampNeg).toNatClampNeg then none else f_Claims_begin_109_16_143 F (f_Claims_begin_109_16_46 F n) v3 ((m_up q2.2.1 112 ((m_up m.1 110 v3.toNatClampNeg (0 : Int32)) 34 v3.toNatClampNeg).toNatClampNeg ((q2.2.1 112 ((m_up m.1 110 v3.toNatClampNeg (0 : Int32)) 34 v3.toNatClampNeg).toNatClampNeg) + (q2.2.1 33 v3.toNatClampNeg))), q2.2.2)) else (if ((m_up m.1 110 v3.toNatClampNeg (0 : Int32)) 34 v3.toNatClampNeg) < 0 ∨ 16 ≤ ((m_up m.1 110 v3.toNatClampNeg (0 : Int32)) 34 v3.toNatClampNeg).toNatClampNeg then none else f_Claims_begin_109_16_162 F (f_Claims_begin_109_16_46 F n) v3 ((m_up q2.2.1 113 ((m_up m.1 110 v3.toNatClampNeg (0 : Int32)) 34 v3.toNatClampNeg).toNatClampNeg ((q2.2.1 113 ((m_up m.1 110 v3.toNatClampNeg (0 : Int32)) 34 v3.toNatClampNeg).toNatClampNeg) + (q2.2.1 33 v3.toNatClampNeg))), q2.2.2))) else (if (q2.2.1 35 v3.toNatClampNeg) < 0 ∨ 16 ≤ (q2.2.1 35 v3.toNatClampNeg).toNatClampNeg then none else f_Claims_begin_109_16_162 F (f_Claims_begin_109_16_46 F n) v3 ((m_up q2.2.1 111 (q2.2.1 35 v3.toNatClampNeg).toNatClampNeg ((q2.2.1 111 (q2.2.1 35 v3.toNatClampNeg).toNatClampNeg) + (q2.2.1 33 v3.toNatClampNeg))), q2.2.2)))))))
theorem ok_Claims_begin_109_16_46 (X : mX) (d F : Nat) : ∀ (n : Nat) (v3 : Int32) (w4 : Option Value) (m : mM) (r : Unit) (m' : mM), f_Claims_begin_109_16_46 F n v3 m = some (r, m') → m_R X (d + 2) 98 46 [some (.ref 109), some (.ref 16), some (.ref 31), some (.int v3), w4] [] (SH, m) (none, (SH, m')) := by
  intro n
  induction n with
  | zero => intro v3 w4 m r m' h; cases h
  | succ n ih =>
    intro v3 w4 m r m' h
    simp only [f_Claims_begin_109_16_46] at h
    refine m_R_sg (by decide) [(.iload_n 3, 1, 0, 3, 0, 0, 0), (.aload_n 2, 1, 0, 2, 0, 0, 0), (.getfield 43, 3, 0, 4, 15, 0, 364)] (by decide +kernel) (show m_sgl X _ _ _ _ _ = some (51, [some (.ref 109), some (.ref 16), some (.ref 31), some (.int v3), w4], [.int (m.1 31 15), .int v3], (SH, m.1, m.2)) from rfl) ?_
    rcases m_ite h with ⟨c833, h⟩ | ⟨c833, h⟩
    · refine m_R_1 (by decide) (m_opb_of (ins := .if_icmp .ge 117) (len := 3) (tag := 0) (a := 168) (b := 0) (c := 0) (q := 0) (by decide +kernel)) (if_pos c833) ?_
      obtain ⟨rfl, rfl⟩ := m_some h
      exact m_R_vret (by decide) (m_opb_of (ins := .return_) (len := 1) (tag := 3) (a := 0) (b := 0) (c := 0) (q := 0) (by decide +kernel))
    · refine m_R_1 (by decide) (m_opb_of (ins := .if_icmp .ge 117) (len := 3) (tag := 0) (a := 168) (b := 0) (c := 0) (q := 0) (by decide +kernel)) (if_neg c833) ?_
      refine m_R_sg (by decide) [(.aload_n 0, 1, 0, 0, 0, 0, 0), (.getfield 9, 3, 0, 0, 0, 3, 570), (.iload_n 3, 1, 0, 3, 0, 0, 0), (.iconst 0, 1, 0, 0, 0, 0, 0)] (by decide +kernel) (show m_sgl X _ _ _ _ _ = some (60, [some (.ref 109), some (.ref 16), some (.ref 31), some (.int v3), w4], [.int (0 : Int32), .int v3, .ref 110], (SH, m.1, m.2)) from rfl) ?_
      obtain ⟨c834, h⟩ := m_ite_n h
      refine m_R_1 (by decide) (m_opb_of (ins := .iastore) (len := 1) (tag := 0) (a := 0) (b := 0) (c := 0) (q := 0) (by decide +kernel)) (m_s_iast sh_110 c834) ?_
      refine m_R_sg (by decide) [(.aload_n 2, 1, 0, 2, 0, 0, 0), (.getfield 49, 3, 0, 4, 0, 3, 318), (.iload_n 3, 1, 0, 3, 0, 0, 0)] (by decide +kernel) (show m_sgl X _ _ _ _ _ = some (66, [some (.ref 109), some (.ref 16), some (.ref 31), some (.int v3), w4], [.int v3, .ref 32], (SH, (m_up m.1 110 v3.toNatClampNeg (0 : Int32)), m.2)) from rfl) ?_
      refine m_R_1 (by decide) (m_opb_of (ins := .iaload) (len := 1) (tag := 0) (a := 0) (b := 0) (c := 0) (q := 0) (by decide +kernel)) (m_s_iald sh_32 (by decide) c834) ?_
      refine m_R_sg (by decide) [(.iconst (-1), 1, 0, 1, 1, 0, 0)] (by decide +kernel) (show m_sgl X _ _ _ _ _ = some (68, [some (.ref 109), some (.ref 16), some (.ref 31), some (.int v3), w4], [.int (-1 : Int32), .int ((m_up m.1 110 v3.toNatClampNeg (0 : Int32)) 32 v3.toNatClampNeg)], (SH, (m_up m.1 110 v3.toNatClampNeg (0 : Int32)), m.2)) from rfl) ?_
      rcases m_ite h with ⟨c835, h⟩ | ⟨c835, h⟩
      · refine m_R_1 (by decide) (m_opb_of (ins := .if_icmp .ne 6) (len := 3) (tag := 0) (a := 74) (b := 0) (c := 0) (q := 0) (by decide +kernel)) (if_pos c835) ?_
        refine m_R_sg (by decide) [(.goto 91, 3, 0, 162, 0, 0, 0)] (by decide +kernel) (show m_sgl X _ _ _ _ _ = some (162, [some (.ref 109), some (.ref 16), some (.ref 31), some (.int v3), w4], [], (SH, (m_up m.1 110 v3.toNatClampNeg (0 : Int32)), m.2)) from rfl) ?_
        exact ok_Claims_begin_109_16_162 X d F _ (fun a0 a1 m r m' h => ih a0 a1 m r m' h) _ _ _ _ _ h
      · refine m_R_1 (by decide) (m_opb_of (ins := .if_icmp .ne 6) (len := 3) (tag := 0) (a := 74) (b := 0) (c := 0) (q := 0) (by decide +kernel)) (if_neg c835) ?_
        refine m_R_sg (by decide) [(.aload_n 2, 1, 0, 2, 0, 0, 0), (.getfield 52, 3, 0, 4, 2, 3, 326), (.iload_n 3, 1, 0, 3, 0, 0, 0)] (by decide +kernel) (show m_sgl X _ _ _ _ _ = some (79, [some (.ref 109), some (.ref 16), some (.ref 31), some (.int v3), w4], [.int v3, .ref 34], (SH, (m_up m.1 110 v3.toNatClampNeg (0 : Int32)), m.2)) from rfl) ?_
        refine m_R_1 (by decide) (m_opb_of (ins := .iaload) (len := 1) (tag := 0) (a := 0) (b := 0) (c := 0) (q := 0) (by decide +kernel)) (m_s_iald sh_34 (by decide) c834) ?_
        refine m_R_sg (by decide) [(.istore 4, 2, 0, 4, 0, 0, 0), (.aload_n 1, 1, 0, 1, 0, 0, 0), (.getfield 55, 3, 0, 10, 1, 3, 506), (.iload 4, 2, 0, 4, 0, 0, 0)] (by decide +kernel) (show m_sgl X _ _ _ _ _ = some (88, [some (.ref 109), some (.ref 16), some (.ref 31), some (.int v3), some (.int ((m_up m.1 110 v3.toNatClampNeg (0 : Int32)) 34 v3.toNatClampNeg))], [.int ((m_up m.1 110 v3.toNatClampNeg (0 : Int32)) 34 v3.toNatClampNeg), .ref 19], (SH, (m_up m.1 110 v3.toNatClampNeg (0 : Int32)), m.2)) from rfl) ?_
        obtain ⟨q2, hc2, h⟩ := Option.bind_eq_some_iff.mp h
        refine m_R_cV (v := (some (.int q2.1))) (h1 := (SH, q2.2)) (rest := []) (lo' := [some (.ref 19), some (.int ((m_up m.1 110 v3.toNatClampNeg (0 : Int32)) 34 v3.toNatClampNeg))]) (ml := 2) (k0 := 19) (by decide) (Or.inl rfl) (m_opb_of (ins := .invokevirtual 59) (len := 3) (tag := 5) (a := 25) (b := 1) (c := 0) (q := 1021) (by decide +kernel)) (by decide +kernel) rfl (show m_isO 25 19 (SH, _) = true from m_isO_of (by decide +kernel)) (Nat.le_of_ble_eq_true rfl) rfl rfl (ok_Houses_isUp X (d + 0) F _ _ _ _ hc2) ?_
        rcases m_ite h with ⟨c836, h⟩ | ⟨c836, h⟩
        · refine m_R_1 (by decide) (m_opb_of (ins := .ifCond .eq 26) (len := 3) (tag := 0) (a := 117) (b := 0) (c := 0) (q := 0) (by decide +kernel)) (if_pos c836) ?_
          refine m_R_sg (by decide) [(.aload_n 2, 1, 0, 2, 0, 0, 0), (.getfield 49, 3, 0, 4, 0, 3, 318), (.iload_n 3, 1, 0, 3, 0, 0, 0)] (by decide +kernel) (show m_sgl X _ _ _ _ _ = some (122, [some (.ref 109), some (.ref 16), some (.ref 31), some (.int v3), some (.int ((m_up m.1 110 v3.toNatClampNeg (0 : Int32)) 34 v3.toNatClampNeg))], [.int v3, .ref 32], (SH, q2.2.1, q2.2.2)) from rfl) ?_
          refine m_R_1 (by decide) (m_opb_of (ins := .iaload) (len := 1) (tag := 0) (a := 0) (b := 0) (c := 0) (q := 0) (by decide +kernel)) (m_s_iald sh_32 (by decide) c834) ?_
          refine m_R_sg (by decide) [(.iconst 2, 1, 0, 2, 0, 0, 0)] (by decide +kernel) (show m_sgl X _ _ _ _ _ = some (124, [some (.ref 109), some (.ref 16), some (.ref 31), some (.int v3), some (.int ((m_up m.1 110 v3.toNatClampNeg (0 : Int32)) 34 v3.toNatClampNeg))], [.int (2 : Int32), .int (q2.2.1 32 v3.toNatClampNeg)], (SH, q2.2.1, q2.2.2)) from rfl) ?_
          rcases m_ite h with ⟨c837, h⟩ | ⟨c837, h⟩
          · refine m_R_1 (by decide) (m_opb_of (ins := .if_icmp .ne 22) (len := 3) (tag := 0) (a := 146) (b := 0) (c := 0) (q := 0) (by decide +kernel)) (if_pos c837) ?_
            refine m_R_sg (by decide) [(.aload_n 0, 1, 0, 0, 0, 0, 0), (.getfield 18, 3, 0, 0, 2, 3, 574), (.iload 4, 2, 0, 4, 0, 0, 0), (.dup2, 1, 0, 0, 0, 0, 0)] (by decide +kernel) (show m_sgl X _ _ _ _ _ = some (134, [some (.ref 109), some (.ref 16), some (.ref 31), some (.int v3), some (.int ((m_up m.1 110 v3.toNatClampNeg (0 : Int32)) 34 v3.toNatClampNeg))], [.int ((m_up m.1 110 v3.toNatClampNeg (0 : Int32)) 34 v3.toNatClampNeg), .ref 112, .int ((m_up m.1 110 v3.toNatClampNeg (0 : Int32)) 34 v3.toNatClampNeg), .ref 112], (SH, q2.2.1, q2.2.2)) from rfl) ?_
            obtain ⟨c838, h⟩ := m_ite_n h
            refine m_R_1 (by decide) (m_opb_of (ins := .iaload) (len := 1) (tag := 0) (a := 0) (b := 0) (c := 0) (q := 0) (by decide +kernel)) (m_s_iald sh_112 (by decide) c838) ?_
            refine m_R_sg (by decide) [(.aload_n 2, 1, 0, 2, 0, 0, 0), (.getfield 68, 3, 0, 4, 1, 3, 322), (.iload_n 3, 1, 0, 3, 0, 0, 0)] (by decide +kernel) (show m_sgl X _ _ _ _ _ = some (140, [some (.ref 109), some (.ref 16), some (.ref 31), some (.int v3), some (.int ((m_up m.1 110 v3.toNatClampNeg (0 : Int32)) 34 v3.toNatClampNeg))], [.int v3, .ref 33, .int (q2.2.1 112 ((m_up m.1 110 v3.toNatClampNeg (0 : Int32)) 34 v3.toNatClampNeg).toNatClampNeg), .int ((m_up m.1 110 v3.toNatClampNeg (0 : Int32)) 34 v3.toNatClampNeg), .ref 112], (SH, q2.2.1, q2.2.2)) from rfl) ?_
            refine m_R_1 (by decide) (m_opb_of (ins := .iaload) (len := 1) (tag := 0) (a := 0) (b := 0) (c := 0) (q := 0) (by decide +kernel)) (m_s_iald sh_33 (by decide) c834) ?_
            refine m_R_sg (by decide) [(.iadd, 1, 0, 0, 0, 0, 0)] (by decide +kernel) (show m_sgl X _ _ _ _ _ = some (142, [some (.ref 109), some (.ref 16), some (.ref 31), some (.int v3), some (.int ((m_up m.1 110 v3.toNatClampNeg (0 : Int32)) 34 v3.toNatClampNeg))], [.int ((q2.2.1 112 ((m_up m.1 110 v3.toNatClampNeg (0 : Int32)) 34 v3.toNatClampNeg).toNatClampNeg) + (q2.2.1 33 v3.toNatClampNeg)), .int ((m_up m.1 110 v3.toNatClampNeg (0 : Int32)) 34 v3.toNatClampNeg), .ref 112], (SH, q2.2.1, q2.2.2)) from rfl) ?_
            refine m_R_1 (by decide) (m_opb_of (ins := .iastore) (len := 1) (tag := 0) (a := 0) (b := 0) (c := 0) (q := 0) (by decide +kernel)) (m_s_iast sh_112 c838) ?_
            exact ok_Claims_begin_109_16_143 X d F _ (fun a0 a1 m r m' h => ih a0 a1 m r m' h) _ _ _ _ _ h
          · refine m_R_1 (by decide) (m_opb_of (ins := .if_icmp .ne 22) (len := 3) (tag := 0) (a := 146) (b := 0) (c := 0) (q := 0) (by decide +kernel)) (if_neg c837) ?_
            refine m_R_sg (by decide) [(.aload_n 0, 1, 0, 0, 0, 0, 0), (.getfield 21, 3, 0, 0, 3, 3, 575), (.iload 4, 2, 0, 4, 0, 0, 0), (.dup2, 1, 0, 0, 0, 0, 0)] (by decide +kernel) (show m_sgl X _ _ _ _ _ = some (153, [some (.ref 109), some (.ref 16), some (.ref 31), some (.int v3), some (.int ((m_up m.1 110 v3.toNatClampNeg (0 : Int32)) 34 v3.toNatClampNeg))], [.int ((m_up m.1 110 v3.toNatClampNeg (0 : Int32)) 34 v3.toNatClampNeg), .ref 113, .int ((m_up m.1 110 v3.toNatClampNeg (0 : Int32)) 34 v3.toNatClampNeg), .ref 113], (SH, q2.2.1, q2.2.2)) from rfl) ?_
            obtain ⟨c839, h⟩ := m_ite_n h
            refine m_R_1 (by decide) (m_opb_of (ins := .iaload) (len := 1) (tag := 0) (a := 0) (b := 0) (c := 0) (q := 0) (by decide +kernel)) (m_s_iald sh_113 (by decide) c839) ?_
            refine m_R_sg (by decide) [(.aload_n 2, 1, 0, 2, 0, 0, 0), (.getfield 68, 3, 0, 4, 1, 3, 322), (.iload_n 3, 1, 0, 3, 0, 0, 0)] (by decide +kernel) (show m_sgl X _ _ _ _ _ = some (159, [some (.ref 109), some (.ref 16), some (.ref 31), some (.int v3), some (.int ((m_up m.1 110 v3.toNatClampNeg (0 : Int32)) 34 v3.toNatClampNeg))], [.int v3, .ref 33, .int (q2.2.1 113 ((m_up m.1 110 v3.toNatClampNeg (0 : Int32)) 34 v3.toNatClampNeg).toNatClampNeg), .int ((m_up m.1 110 v3.toNatClampNeg (0 : Int32)) 34 v3.toNatClampNeg), .ref 113], (SH, q2.2.1, q2.2.2)) from rfl) ?_
            refine m_R_1 (by decide) (m_opb_of (ins := .iaload) (len := 1) (tag := 0) (a := 0) (b := 0) (c := 0) (q := 0) (by decide +kernel)) (m_s_iald sh_33 (by decide) c834) ?_
            refine m_R_sg (by decide) [(.iadd, 1, 0, 0, 0, 0, 0)] (by decide +kernel) (show m_sgl X _ _ _ _ _ = some (161, [some (.ref 109), some (.ref 16), some (.ref 31), some (.int v3), some (.int ((m_up m.1 110 v3.toNatClampNeg (0 : Int32)) 34 v3.toNatClampNeg))], [.int ((q2.2.1 113 ((m_up m.1 110 v3.toNatClampNeg (0 : Int32)) 34 v3.toNatClampNeg).toNatClampNeg) + (q2.2.1 33 v3.toNatClampNeg)), .int ((m_up m.1 110 v3.toNatClampNeg (0 : Int32)) 34 v3.toNatClampNeg), .ref 113], (SH, q2.2.1, q2.2.2)) from rfl) ?_
            refine m_R_1 (by decide) (m_opb_of (ins := .iastore) (len := 1) (tag := 0) (a := 0) (b := 0) (c := 0) (q := 0) (by decide +kernel)) (m_s_iast sh_113 c839) ?_
            exact ok_Claims_begin_109_16_162 X d F _ (fun a0 a1 m r m' h => ih a0 a1 m r m' h) _ _ _ _ _ h
        · refine m_R_1 (by decide) (m_opb_of (ins := .ifCond .eq 26) (len := 3) (tag := 0) (a := 117) (b := 0) (c := 0) (q := 0) (by decide +kernel)) (if_neg c836) ?_
          refine m_R_sg (by decide) [(.aload_n 0, 1, 0, 0, 0, 0, 0), (.getfield 15, 3, 0, 0, 1, 3, 572), (.aload_n 2, 1, 0, 2, 0, 0, 0), (.getfield 65, 3, 0, 4, 3, 3, 330), (.iload_n 3, 1, 0, 3, 0, 0, 0)] (by decide +kernel) (show m_sgl X _ _ _ _ _ = some (103, [some (.ref 109), some (.ref 16), some (.ref 31), some (.int v3), some (.int ((m_up m.1 110 v3.toNatClampNeg (0 : Int32)) 34 v3.toNatClampNeg))], [.int v3, .ref 35, .ref 111], (SH, q2.2.1, q2.2.2)) from rfl) ?_
          refine m_R_1 (by decide) (m_opb_of (ins := .iaload) (len := 1) (tag := 0) (a := 0) (b := 0) (c := 0) (q := 0) (by decide +kernel)) (m_s_iald sh_35 (by decide) c834) ?_
          refine m_R_sg (by decide) [(.dup2, 1, 0, 0, 0, 0, 0)] (by decide +kernel) (show m_sgl X _ _ _ _ _ = some (105, [some (.ref 109), some (.ref 16), some (.ref 31), some (.int v3), some (.int ((m_up m.1 110 v3.toNatClampNeg (0 : Int32)) 34 v3.toNatClampNeg))], [.int (q2.2.1 35 v3.toNatClampNeg), .ref 111, .int (q2.2.1 35 v3.toNatClampNeg), .ref 111], (SH, q2.2.1, q2.2.2)) from rfl) ?_
          obtain ⟨c840, h⟩ := m_ite_n h
          refine m_R_1 (by decide) (m_opb_of (ins := .iaload) (len := 1) (tag := 0) (a := 0) (b := 0) (c := 0) (q := 0) (by decide +kernel)) (m_s_iald sh_111 (by decide) c840) ?_
          refine m_R_sg (by decide) [(.aload_n 2, 1, 0, 2, 0, 0, 0), (.getfield 68, 3, 0, 4, 1, 3, 322), (.iload_n 3, 1, 0, 3, 0, 0, 0)] (by decide +kernel) (show m_sgl X _ _ _ _ _ = some (111, [some (.ref 109), some (.ref 16), some (.ref 31), some (.int v3), some (.int ((m_up m.1 110 v3.toNatClampNeg (0 : Int32)) 34 v3.toNatClampNeg))], [.int v3, .ref 33, .int (q2.2.1 111 (q2.2.1 35 v3.toNatClampNeg).toNatClampNeg), .int (q2.2.1 35 v3.toNatClampNeg), .ref 111], (SH, q2.2.1, q2.2.2)) from rfl) ?_
          refine m_R_1 (by decide) (m_opb_of (ins := .iaload) (len := 1) (tag := 0) (a := 0) (b := 0) (c := 0) (q := 0) (by decide +kernel)) (m_s_iald sh_33 (by decide) c834) ?_
          refine m_R_sg (by decide) [(.iadd, 1, 0, 0, 0, 0, 0)] (by decide +kernel) (show m_sgl X _ _ _ _ _ = some (113, [some (.ref 109), some (.ref 16), some (.ref 31), some (.int v3), some (.int ((m_up m.1 110 v3.toNatClampNeg (0 : Int32)) 34 v3.toNatClampNeg))], [.int ((q2.2.1 111 (q2.2.1 35 v3.toNatClampNeg).toNatClampNeg) + (q2.2.1 33 v3.toNatClampNeg)), .int (q2.2.1 35 v3.toNatClampNeg), .ref 111], (SH, q2.2.1, q2.2.2)) from rfl) ?_
          refine m_R_1 (by decide) (m_opb_of (ins := .iastore) (len := 1) (tag := 0) (a := 0) (b := 0) (c := 0) (q := 0) (by decide +kernel)) (m_s_iast sh_111 c840) ?_
          refine m_R_sg (by decide) [(.goto 48, 3, 0, 162, 0, 0, 0)] (by decide +kernel) (show m_sgl X _ _ _ _ _ = some (162, [some (.ref 109), some (.ref 16), some (.ref 31), some (.int v3), some (.int ((m_up m.1 110 v3.toNatClampNeg (0 : Int32)) 34 v3.toNatClampNeg))], [], (SH, (m_up q2.2.1 111 (q2.2.1 35 v3.toNatClampNeg).toNatClampNeg ((q2.2.1 111 (q2.2.1 35 v3.toNatClampNeg).toNatClampNeg) + (q2.2.1 33 v3.toNatClampNeg))), q2.2.2)) from rfl) ?_
          exact ok_Claims_begin_109_16_162 X d F _ (fun a0 a1 m r m' h => ih a0 a1 m r m' h) _ _ _ _ _ h
def f_Claims_begin_109_16_7 (F : Nat)   : Nat → Int32 → mM → Option (Unit × mM)
  | 0, _, _ => none
  | n + 1, v3, m => (if (16 : Int32) ≤ v3 then f_Claims_begin_109_16_46 F F (0 : Int32) m else ((f_World_coin F v3 m).bind fun q1 => (if v3 < 0 ∨ 16 ≤ v3.toNatClampNeg then none else f_Claims_begin_109_16_7 F n (v3 + (1 : Int32)) ((m_up (m_up (m_up q1.2.1 111 v3.toNatClampNeg q1.1) 112 v3.toNatClampNeg (0 : Int32)) 113 v3.toNatClampNeg (0 : Int32)), q1.2.2))))
theorem ok_Claims_begin_109_16_7 (X : mX) (d F : Nat) : ∀ (n : Nat) (v3 : Int32) (w4 : Option Value) (m : mM) (r : Unit) (m' : mM), f_Claims_begin_109_16_7 F n v3 m = some (r, m') → m_R X (d + 2) 98 7 [some (.ref 109), some (.ref 16), some (.ref 31), some (.int v3), w4] [] (SH, m) (none, (SH, m')) := by
  intro n
  induction n with
  | zero => intro v3 w4 m r m' h; cases h
  | succ n ih =>
    intro v3 w4 m r m' h
    simp only [f_Claims_begin_109_16_7] at h
    refine m_R_sg (by decide) [(.iload_n 3, 1, 0, 3, 0, 0, 0), (.bipush 16, 2, 0, 16, 0, 0, 0)] (by decide +kernel) (show m_sgl X _ _ _ _ _ = some (10, [some (.ref 109), some (.ref 16), some (.ref 31), some (.int v3), w4], [.int (16 : Int32), .int v3], (SH, m.1, m.2)) from rfl) ?_
    rcases m_ite h with ⟨c841, h⟩ | ⟨c841, h⟩
    · refine m_R_1 (by decide) (m_opb_of (ins := .if_icmp .ge 34) (len := 3) (tag := 0) (a := 44) (b := 0) (c := 0) (q := 0) (by decide +kernel)) (if_pos c841) ?_
      refine m_R_sg (by decide) [(.iconst 0, 1, 0, 0, 0, 0, 0), (.istore_n 3, 1, 0, 3, 0, 0, 0)] (by decide +kernel) (show m_sgl X _ _ _ _ _ = some (46, [some (.ref 109), some (.ref 16), some (.ref 31), some (.int (0 : Int32)), w4], [], (SH, m.1, m.2)) from rfl) ?_
      exact ok_Claims_begin_109_16_46 X d F F _ _ _ _ _ h
    · refine m_R_1 (by decide) (m_opb_of (ins := .if_icmp .ge 34) (len := 3) (tag := 0) (a := 44) (b := 0) (c := 0) (q := 0) (by decide +kernel)) (if_neg c841) ?_
      refine m_R_sg (by decide) [(.aload_n 0, 1, 0, 0, 0, 0, 0), (.getfield 15, 3, 0, 0, 1, 3, 572), (.iload_n 3, 1, 0, 3, 0, 0, 0), (.aload_n 1, 1, 0, 1, 0, 0, 0), (.iload_n 3, 1, 0, 3, 0, 0, 0)] (by decide +kernel) (show m_sgl X _ _ _ _ _ = some (20, [some (.ref 109), some (.ref 16), some (.ref 31), some (.int v3), w4], [.int v3, .ref 16, .int v3, .ref 111], (SH, m.1, m.2)) from rfl) ?_
      obtain ⟨q1, hc1, h⟩ := Option.bind_eq_some_iff.mp h
      refine m_R_cV (v := (some (.int q1.1))) (h1 := (SH, q1.2)) (rest := [.int v3, .ref 111]) (lo' := [some (.ref 16), some (.int v3)]) (ml := 2) (k0 := 16) (by decide) (Or.inl rfl) (m_opb_of (ins := .invokevirtual 39) (len := 3) (tag := 5) (a := 29) (b := 1) (c := 0) (q := 1020) (by decide +kernel)) (by decide +kernel) rfl (show m_isO 29 16 (SH, _) = true from m_isO_of (by decide +kernel)) (Nat.le_of_ble_eq_true rfl) rfl rfl (ok_World_coin X (d + 1) F _ _ _ _ hc1) ?_
      obtain ⟨c842, h⟩ := m_ite_n h
      refine m_R_1 (by decide) (m_opb_of (ins := .iastore) (len := 1) (tag := 0) (a := 0) (b := 0) (c := 0) (q := 0) (by decide +kernel)) (m_s_iast sh_111 c842) ?_
      refine m_R_sg (by decide) [(.aload_n 0, 1, 0, 0, 0, 0, 0), (.getfield 18, 3, 0, 0, 2, 3, 574), (.iload_n 3, 1, 0, 3, 0, 0, 0), (.iconst 0, 1, 0, 0, 0, 0, 0)] (by decide +kernel) (show m_sgl X _ _ _ _ _ = some (30, [some (.ref 109), some (.ref 16), some (.ref 31), some (.int v3), w4], [.int (0 : Int32), .int v3, .ref 112], (SH, (m_up q1.2.1 111 v3.toNatClampNeg q1.1), q1.2.2)) from rfl) ?_
      refine m_R_1 (by decide) (m_opb_of (ins := .iastore) (len := 1) (tag := 0) (a := 0) (b := 0) (c := 0) (q := 0) (by decide +kernel)) (m_s_iast sh_112 c842) ?_
      refine m_R_sg (by decide) [(.aload_n 0, 1, 0, 0, 0, 0, 0), (.getfield 21, 3, 0, 0, 3, 3, 575), (.iload_n 3, 1, 0, 3, 0, 0, 0), (.iconst 0, 1, 0, 0, 0, 0, 0)] (by decide +kernel) (show m_sgl X _ _ _ _ _ = some (37, [some (.ref 109), some (.ref 16), some (.ref 31), some (.int v3), w4], [.int (0 : Int32), .int v3, .ref 113], (SH, (m_up (m_up q1.2.1 111 v3.toNatClampNeg q1.1) 112 v3.toNatClampNeg (0 : Int32)), q1.2.2)) from rfl) ?_
      refine m_R_1 (by decide) (m_opb_of (ins := .iastore) (len := 1) (tag := 0) (a := 0) (b := 0) (c := 0) (q := 0) (by decide +kernel)) (m_s_iast sh_113 c842) ?_
      refine m_R_sg (by decide) [(.iinc 3 1, 3, 0, 3, 1, 0, 0), (.goto (-34), 3, 0, 7, 0, 0, 0)] (by decide +kernel) (show m_sgl X _ _ _ _ _ = some (7, [some (.ref 109), some (.ref 16), some (.ref 31), some (.int (v3 + (1 : Int32))), w4], [], (SH, (m_up (m_up (m_up q1.2.1 111 v3.toNatClampNeg q1.1) 112 v3.toNatClampNeg (0 : Int32)) 113 v3.toNatClampNeg (0 : Int32)), q1.2.2)) from rfl) ?_
      exact ih _ _ _ _ _ h
def f_Claims_begin_109_16 (F : Nat)    (m : mM) : Option (Unit × mM) := f_Claims_begin_109_16_7 F F (0 : Int32) m
theorem ok_Claims_begin_109_16 (X : mX) (d F : Nat) : ∀   (m : mM) (r : Unit) (m' : mM), f_Claims_begin_109_16 F  m = some (r, m') → m_R X (d + 2) 98 0 [some (.ref 109), some (.ref 16), none, none, none] [] (SH, m) (none, (SH, m')) := by
  intro m r m' h
  unfold f_Claims_begin_109_16 at h
  refine m_R_sg (by decide) [(.aload_n 1, 1, 0, 1, 0, 0, 0), (.getfield 33, 3, 0, 10, 2, 3, 509), (.astore_n 2, 1, 0, 2, 0, 0, 0), (.iconst 0, 1, 0, 0, 0, 0, 0), (.istore_n 3, 1, 0, 3, 0, 0, 0)] (by decide +kernel) (show m_sgl X _ _ _ _ _ = some (7, [some (.ref 109), some (.ref 16), some (.ref 31), some (.int (0 : Int32)), none], [], (SH, m.1, m.2)) from rfl) ?_
  exact ok_Claims_begin_109_16_7 X d F F _ _ _ _ _ h
def f_Claims_shareOf_109_31_96 (F : Nat)   (s0 : Int32) (m : mM) : Option (Int32 × mM) := some (s0, m)
theorem ok_Claims_shareOf_109_31_96 (X : mX) (d F : Nat) : ∀ (s0 : Int32) (w0 : Option Value) (w1 : Option Value) (w2 : Option Value) (w3 : Option Value) (w4 : Option Value) (w5 : Option Value) (m : mM) (r : Int32) (m' : mM), f_Claims_shareOf_109_31_96 F s0 m = some (r, m') → m_R X (d + 0) 100 96 [w0, w1, w2, w3, w4, w5] [.int s0] (SH, m) (some (.int r), (SH, m')) := by
  intro s0 w0 w1 w2 w3 w4 w5 m r m' h
  unfold f_Claims_shareOf_109_31_96 at h
  obtain ⟨rfl, rfl⟩ := m_some h
  exact m_R_iret (by decide) (m_opb_of (ins := .ireturn) (len := 1) (tag := 1) (a := 0) (b := 0) (c := 0) (q := 0) (by decide +kernel)) (Or.inl rfl)
def f_Claims_shareOf_109_31_57 (F : Nat)   (v2 : Int32) (v4 : Int32) (v5 : Int32) (m : mM) : Option (Int32 × mM) := (if v4 < v5 then (if v5 ≤ 0 then f_Claims_shareOf_109_31_96 F (0 : Int32) m else (if v2 < 0 ∨ 60 ≤ v2.toNatClampNeg then none else (if v5.toInt64 = 0 then none else f_Claims_shareOf_109_31_96 F (((m.1 33 v2.toNatClampNeg).toInt64 * v4.toInt64) / v5.toInt64).toInt32 m))) else (if v2 < 0 ∨ 60 ≤ v2.toNatClampNeg then none else some ((m.1 33 v2.toNatClampNeg), m)))
theorem ok_Claims_shareOf_109_31_57 (X : mX) (d F : Nat) : ∀ (v2 : Int32) (v4 : Int32) (v5 : Int32) (w0 : Option Value) (w3 : Option Value) (m : mM) (r : Int32) (m' : mM), f_Claims_shareOf_109_31_57 F v2 v4 v5 m = some (r, m') → m_R X (d + 0) 100 57 [w0, some (.ref 31), some (.int v2), w3, some (.int v4), some (.int v5)] [] (SH, m) (some (.int r), (SH, m')) := by
  intro v2 v4 v5 w0 w3 m r m' h
  unfold f_Claims_shareOf_109_31_57 at h
  refine m_R_sg (by decide) [(.iload 4, 2, 0, 4, 0, 0, 0), (.iload 5, 2, 0, 5, 0, 0, 0)] (by decide +kernel) (show m_sgl X _ _ _ _ _ = some (61, [w0, some (.ref 31), some (.int v2), w3, some (.int v4), some (.int v5)], [.int v5, .int v4], (SH, m.1, m.2)) from rfl) ?_
  rcases m_ite h with ⟨c843, h⟩ | ⟨c843, h⟩
  · refine m_R_1 (by decide) (m_opb_of (ins := .if_icmp .lt 10) (len := 3) (tag := 0) (a := 71) (b := 0) (c := 0) (q := 0) (by decide +kernel)) (if_pos c843) ?_
    refine m_R_sg (by decide) [(.iload 5, 2, 0, 5, 0, 0, 0)] (by decide +kernel) (show m_sgl X _ _ _ _ _ = some (73, [w0, some (.ref 31), some (.int v2), w3, some (.int v4), some (.int v5)], [.int v5], (SH, m.1, m.2)) from rfl) ?_
    rcases m_ite h with ⟨c844, h⟩ | ⟨c844, h⟩
    · refine m_R_1 (by decide) (m_opb_of (ins := .ifCond .le 22) (len := 3) (tag := 0) (a := 95) (b := 0) (c := 0) (q := 0) (by decide +kernel)) (if_pos c844) ?_
      refine m_R_sg (by decide) [(.iconst 0, 1, 0, 0, 0, 0, 0)] (by decide +kernel) (show m_sgl X _ _ _ _ _ = some (96, [w0, some (.ref 31), some (.int v2), w3, some (.int v4), some (.int v5)], [.int (0 : Int32)], (SH, m.1, m.2)) from rfl) ?_
      exact ok_Claims_shareOf_109_31_96 X d F _ _ _ _ _ _ _ _ _ _ h
    · refine m_R_1 (by decide) (m_opb_of (ins := .ifCond .le 22) (len := 3) (tag := 0) (a := 95) (b := 0) (c := 0) (q := 0) (by decide +kernel)) (if_neg c844) ?_
      refine m_R_sg (by decide) [(.aload_n 1, 1, 0, 1, 0, 0, 0), (.getfield 68, 3, 0, 4, 1, 3, 322), (.iload_n 2, 1, 0, 2, 0, 0, 0)] (by decide +kernel) (show m_sgl X _ _ _ _ _ = some (81, [w0, some (.ref 31), some (.int v2), w3, some (.int v4), some (.int v5)], [.int v2, .ref 33], (SH, m.1, m.2)) from rfl) ?_
      obtain ⟨c845, h⟩ := m_ite_n h
      refine m_R_1 (by decide) (m_opb_of (ins := .iaload) (len := 1) (tag := 0) (a := 0) (b := 0) (c := 0) (q := 0) (by decide +kernel)) (m_s_iald sh_33 (by decide) c845) ?_
      refine m_R_sg (by decide) [(.i2l, 1, 0, 0, 0, 0, 0), (.iload 4, 2, 0, 4, 0, 0, 0), (.i2l, 1, 0, 0, 0, 0, 0), (.lmul, 1, 0, 0, 0, 0, 0), (.iload 5, 2, 0, 5, 0, 0, 0), (.i2l, 1, 0, 0, 0, 0, 0)] (by decide +kernel) (show m_sgl X _ _ _ _ _ = some (90, [w0, some (.ref 31), some (.int v2), w3, some (.int v4), some (.int v5)], [.long v5.toInt64, .long ((m.1 33 v2.toNatClampNeg).toInt64 * v4.toInt64)], (SH, m.1, m.2)) from rfl) ?_
      obtain ⟨c846, h⟩ := m_ite_n h
      refine m_R_1 (by decide) (m_opb_of (ins := .ldiv) (len := 1) (tag := 0) (a := 0) (b := 0) (c := 0) (q := 0) (by decide +kernel)) (m_s_ldiv c846) ?_
      refine m_R_sg (by decide) [(.l2i, 1, 0, 0, 0, 0, 0), (.goto 4, 3, 0, 96, 0, 0, 0)] (by decide +kernel) (show m_sgl X _ _ _ _ _ = some (96, [w0, some (.ref 31), some (.int v2), w3, some (.int v4), some (.int v5)], [.int (((m.1 33 v2.toNatClampNeg).toInt64 * v4.toInt64) / v5.toInt64).toInt32], (SH, m.1, m.2)) from rfl) ?_
      exact ok_Claims_shareOf_109_31_96 X d F _ _ _ _ _ _ _ _ _ _ h
  · refine m_R_1 (by decide) (m_opb_of (ins := .if_icmp .lt 10) (len := 3) (tag := 0) (a := 71) (b := 0) (c := 0) (q := 0) (by decide +kernel)) (if_neg c843) ?_
    refine m_R_sg (by decide) [(.aload_n 1, 1, 0, 1, 0, 0, 0), (.getfield 68, 3, 0, 4, 1, 3, 322), (.iload_n 2, 1, 0, 2, 0, 0, 0)] (by decide +kernel) (show m_sgl X _ _ _ _ _ = some (69, [w0, some (.ref 31), some (.int v2), w3, some (.int v4), some (.int v5)], [.int v2, .ref 33], (SH, m.1, m.2)) from rfl) ?_
    obtain ⟨c847, h⟩ := m_ite_n h
    refine m_R_1 (by decide) (m_opb_of (ins := .iaload) (len := 1) (tag := 0) (a := 0) (b := 0) (c := 0) (q := 0) (by decide +kernel)) (m_s_iald sh_33 (by decide) c847) ?_
    obtain ⟨rfl, rfl⟩ := m_some h
    exact m_R_iret (by decide) (m_opb_of (ins := .ireturn) (len := 1) (tag := 1) (a := 0) (b := 0) (c := 0) (q := 0) (by decide +kernel)) (Or.inl rfl)
def f_Claims_shareOf_109_31 (F : Nat)   (v2 : Int32) (m : mM) : Option (Int32 × mM) := (if v2 < 0 ∨ 60 ≤ v2.toNatClampNeg then none else (if (m.1 34 v2.toNatClampNeg) < 0 ∨ 16 ≤ (m.1 34 v2.toNatClampNeg).toNatClampNeg then none else (if (m.1 32 v2.toNatClampNeg) = (2 : Int32) then f_Claims_shareOf_109_31_57 F v2 (m.1 111 (m.1 34 v2.toNatClampNeg).toNatClampNeg) (m.1 112 (m.1 34 v2.toNatClampNeg).toNatClampNeg) m else (if (m.1 112 (m.1 34 v2.toNatClampNeg).toNatClampNeg) ≤ (m.1 111 (m.1 34 v2.toNatClampNeg).toNatClampNeg) then f_Claims_shareOf_109_31_57 F v2 ((m.1 111 (m.1 34 v2.toNatClampNeg).toNatClampNeg) - (m.1 112 (m.1 34 v2.toNatClampNeg).toNatClampNeg)) (m.1 113 (m.1 34 v2.toNatClampNeg).toNatClampNeg) m else some ((0 : Int32), m)))))
theorem ok_Claims_shareOf_109_31 (X : mX) (d F : Nat) : ∀ (v2 : Int32)  (m : mM) (r : Int32) (m' : mM), f_Claims_shareOf_109_31 F v2 m = some (r, m') → m_R X (d + 0) 100 0 [some (.ref 109), some (.ref 31), some (.int v2), none, none, none] [] (SH, m) (some (.int r), (SH, m')) := by
  intro v2 m r m' h
  unfold f_Claims_shareOf_109_31 at h
  refine m_R_sg (by decide) [(.aload_n 1, 1, 0, 1, 0, 0, 0), (.getfield 52, 3, 0, 4, 2, 3, 326), (.iload_n 2, 1, 0, 2, 0, 0, 0)] (by decide +kernel) (show m_sgl X _ _ _ _ _ = some (5, [some (.ref 109), some (.ref 31), some (.int v2), none, none, none], [.int v2, .ref 34], (SH, m.1, m.2)) from rfl) ?_
  obtain ⟨c848, h⟩ := m_ite_n h
  refine m_R_1 (by decide) (m_opb_of (ins := .iaload) (len := 1) (tag := 0) (a := 0) (b := 0) (c := 0) (q := 0) (by decide +kernel)) (m_s_iald sh_34 (by decide) c848) ?_
  refine m_R_sg (by decide) [(.istore_n 3, 1, 0, 3, 0, 0, 0), (.aload_n 0, 1, 0, 0, 0, 0, 0), (.getfield 15, 3, 0, 0, 1, 3, 572), (.iload_n 3, 1, 0, 3, 0, 0, 0)] (by decide +kernel) (show m_sgl X _ _ _ _ _ = some (12, [some (.ref 109), some (.ref 31), some (.int v2), some (.int (m.1 34 v2.toNatClampNeg)), none, none], [.int (m.1 34 v2.toNatClampNeg), .ref 111], (SH, m.1, m.2)) from rfl) ?_
  obtain ⟨c849, h⟩ := m_ite_n h
  refine m_R_1 (by decide) (m_opb_of (ins := .iaload) (len := 1) (tag := 0) (a := 0) (b := 0) (c := 0) (q := 0) (by decide +kernel)) (m_s_iald sh_111 (by decide) c849) ?_
  refine m_R_sg (by decide) [(.istore 4, 2, 0, 4, 0, 0, 0), (.aload_n 0, 1, 0, 0, 0, 0, 0), (.getfield 18, 3, 0, 0, 2, 3, 574), (.iload_n 3, 1, 0, 3, 0, 0, 0)] (by decide +kernel) (show m_sgl X _ _ _ _ _ = some (20, [some (.ref 109), some (.ref 31), some (.int v2), some (.int (m.1 34 v2.toNatClampNeg)), some (.int (m.1 111 (m.1 34 v2.toNatClampNeg).toNatClampNeg)), none], [.int (m.1 34 v2.toNatClampNeg), .ref 112], (SH, m.1, m.2)) from rfl) ?_
  refine m_R_1 (by decide) (m_opb_of (ins := .iaload) (len := 1) (tag := 0) (a := 0) (b := 0) (c := 0) (q := 0) (by decide +kernel)) (m_s_iald sh_112 (by decide) c849) ?_
  refine m_R_sg (by decide) [(.istore 5, 2, 0, 5, 0, 0, 0), (.aload_n 1, 1, 0, 1, 0, 0, 0), (.getfield 49, 3, 0, 4, 0, 3, 318), (.iload_n 2, 1, 0, 2, 0, 0, 0)] (by decide +kernel) (show m_sgl X _ _ _ _ _ = some (28, [some (.ref 109), some (.ref 31), some (.int v2), some (.int (m.1 34 v2.toNatClampNeg)), some (.int (m.1 111 (m.1 34 v2.toNatClampNeg).toNatClampNeg)), some (.int (m.1 112 (m.1 34 v2.toNatClampNeg).toNatClampNeg))], [.int v2, .ref 32], (SH, m.1, m.2)) from rfl) ?_
  refine m_R_1 (by decide) (m_opb_of (ins := .iaload) (len := 1) (tag := 0) (a := 0) (b := 0) (c := 0) (q := 0) (by decide +kernel)) (m_s_iald sh_32 (by decide) c848) ?_
  refine m_R_sg (by decide) [(.iconst 2, 1, 0, 2, 0, 0, 0)] (by decide +kernel) (show m_sgl X _ _ _ _ _ = some (30, [some (.ref 109), some (.ref 31), some (.int v2), some (.int (m.1 34 v2.toNatClampNeg)), some (.int (m.1 111 (m.1 34 v2.toNatClampNeg).toNatClampNeg)), some (.int (m.1 112 (m.1 34 v2.toNatClampNeg).toNatClampNeg))], [.int (2 : Int32), .int (m.1 32 v2.toNatClampNeg)], (SH, m.1, m.2)) from rfl) ?_
  rcases m_ite h with ⟨c850, h⟩ | ⟨c850, h⟩
  · refine m_R_1 (by decide) (m_opb_of (ins := .if_icmp .eq 27) (len := 3) (tag := 0) (a := 57) (b := 0) (c := 0) (q := 0) (by decide +kernel)) (if_pos c850) ?_
    exact ok_Claims_shareOf_109_31_57 X d F _ _ _ _ _ _ _ _ h
  · refine m_R_1 (by decide) (m_opb_of (ins := .if_icmp .eq 27) (len := 3) (tag := 0) (a := 57) (b := 0) (c := 0) (q := 0) (by decide +kernel)) (if_neg c850) ?_
    refine m_R_sg (by decide) [(.iload 4, 2, 0, 4, 0, 0, 0), (.iload 5, 2, 0, 5, 0, 0, 0)] (by decide +kernel) (show m_sgl X _ _ _ _ _ = some (37, [some (.ref 109), some (.ref 31), some (.int v2), some (.int (m.1 34 v2.toNatClampNeg)), some (.int (m.1 111 (m.1 34 v2.toNatClampNeg).toNatClampNeg)), some (.int (m.1 112 (m.1 34 v2.toNatClampNeg).toNatClampNeg))], [.int (m.1 112 (m.1 34 v2.toNatClampNeg).toNatClampNeg), .int (m.1 111 (m.1 34 v2.toNatClampNeg).toNatClampNeg)], (SH, m.1, m.2)) from rfl) ?_
    rcases m_ite h with ⟨c851, h⟩ | ⟨c851, h⟩
    · refine m_R_1 (by decide) (m_opb_of (ins := .if_icmp .ge 5) (len := 3) (tag := 0) (a := 42) (b := 0) (c := 0) (q := 0) (by decide +kernel)) (if_pos c851) ?_
      refine m_R_sg (by decide) [(.iload 4, 2, 0, 4, 0, 0, 0), (.iload 5, 2, 0, 5, 0, 0, 0), (.isub, 1, 0, 0, 0, 0, 0), (.istore 4, 2, 0, 4, 0, 0, 0), (.aload_n 0, 1, 0, 0, 0, 0, 0), (.getfield 21, 3, 0, 0, 3, 3, 575), (.iload_n 3, 1, 0, 3, 0, 0, 0)] (by decide +kernel) (show m_sgl X _ _ _ _ _ = some (54, [some (.ref 109), some (.ref 31), some (.int v2), some (.int (m.1 34 v2.toNatClampNeg)), some (.int ((m.1 111 (m.1 34 v2.toNatClampNeg).toNatClampNeg) - (m.1 112 (m.1 34 v2.toNatClampNeg).toNatClampNeg))), some (.int (m.1 112 (m.1 34 v2.toNatClampNeg).toNatClampNeg))], [.int (m.1 34 v2.toNatClampNeg), .ref 113], (SH, m.1, m.2)) from rfl) ?_
      refine m_R_1 (by decide) (m_opb_of (ins := .iaload) (len := 1) (tag := 0) (a := 0) (b := 0) (c := 0) (q := 0) (by decide +kernel)) (m_s_iald sh_113 (by decide) c849) ?_
      refine m_R_sg (by decide) [(.istore 5, 2, 0, 5, 0, 0, 0)] (by decide +kernel) (show m_sgl X _ _ _ _ _ = some (57, [some (.ref 109), some (.ref 31), some (.int v2), some (.int (m.1 34 v2.toNatClampNeg)), some (.int ((m.1 111 (m.1 34 v2.toNatClampNeg).toNatClampNeg) - (m.1 112 (m.1 34 v2.toNatClampNeg).toNatClampNeg))), some (.int (m.1 113 (m.1 34 v2.toNatClampNeg).toNatClampNeg))], [], (SH, m.1, m.2)) from rfl) ?_
      exact ok_Claims_shareOf_109_31_57 X d F _ _ _ _ _ _ _ _ h
    · refine m_R_1 (by decide) (m_opb_of (ins := .if_icmp .ge 5) (len := 3) (tag := 0) (a := 42) (b := 0) (c := 0) (q := 0) (by decide +kernel)) (if_neg c851) ?_
      refine m_R_sg (by decide) [(.iconst 0, 1, 0, 0, 0, 0, 0)] (by decide +kernel) (show m_sgl X _ _ _ _ _ = some (41, [some (.ref 109), some (.ref 31), some (.int v2), some (.int (m.1 34 v2.toNatClampNeg)), some (.int (m.1 111 (m.1 34 v2.toNatClampNeg).toNatClampNeg)), some (.int (m.1 112 (m.1 34 v2.toNatClampNeg).toNatClampNeg))], [.int (0 : Int32)], (SH, m.1, m.2)) from rfl) ?_
      obtain ⟨rfl, rfl⟩ := m_some h
      exact m_R_iret (by decide) (m_opb_of (ins := .ireturn) (len := 1) (tag := 1) (a := 0) (b := 0) (c := 0) (q := 0) (by decide +kernel)) (Or.inl rfl)
def f_Claims_improve_109_16_104 (F : Nat)  (k10 : Int32 → Int32 → mM → Option (Int32 × mM)) (v3 : Int32) (v4 : Int32) (m : mM) : Option (Int32 × mM) := k10 v3 (v4 + (1 : Int32)) m
theorem ok_Claims_improve_109_16_104 (X : mX) (d F : Nat) (k10 : Int32 → Int32 → mM → Option (Int32 × mM)) (hk10 : ∀ (v3 : Int32) (v4 : Int32) (w5 : Option Value) (m : mM) (r : Int32) (m' : mM), k10 v3 v4 m = some (r, m') → m_R X (d + 2) 99 10 [some (.ref 109), some (.ref 16), some (.ref 31), some (.int v3), some (.int v4), w5] [] (SH, m) (some (.int r), (SH, m'))) : ∀ (v3 : Int32) (v4 : Int32) (w5 : Option Value) (m : mM) (r : Int32) (m' : mM), f_Claims_improve_109_16_104 F k10 v3 v4 m = some (r, m') → m_R X (d + 2) 99 104 [some (.ref 109), some (.ref 16), some (.ref 31), some (.int v3), some (.int v4), w5] [] (SH, m) (some (.int r), (SH, m')) := by
  intro v3 v4 w5 m r m' h
  unfold f_Claims_improve_109_16_104 at h
  refine m_R_sg (by decide) [(.iinc 4 1, 3, 0, 4, 1, 0, 0), (.goto (-97), 3, 0, 10, 0, 0, 0)] (by decide +kernel) (show m_sgl X _ _ _ _ _ = some (10, [some (.ref 109), some (.ref 16), some (.ref 31), some (.int v3), some (.int (v4 + (1 : Int32))), w5], [], (SH, m.1, m.2)) from rfl) ?_
  exact hk10 _ _ _ _ _ _ h
def f_Claims_improve_109_16_10 (F : Nat)   : Nat → Int32 → Int32 → mM → Option (Int32 × mM)
  | 0, _, _, _ => none
  | n + 1, v3, v4, m => (if (m.1 31 15) ≤ v4 then (if v3 = 0 ∨ v3 = 1 then some (v3, m) else none) else (if v4 < 0 ∨ 60 ≤ v4.toNatClampNeg then none else (if (m.1 32 v4.toNatClampNeg) = (-1 : Int32) then f_Claims_improve_109_16_104 F (f_Claims_improve_109_16_10 F n) v3 v4 m else ((f_Houses_isUp F (m.1 34 v4.toNatClampNeg) m).bind fun q1 => (if q1.1 = 0 then ((f_Claims_shareOf_109_31 F v4 q1.2).bind fun q2 => (if q2.1 = (q2.2.1 110 v4.toNatClampNeg) then f_Claims_improve_109_16_104 F (f_Claims_improve_109_16_10 F n) v3 v4 q2.2 else (if (q2.2.1 35 v4.toNatClampNeg) < 0 ∨ 16 ≤ (q2.2.1 35 v4.toNatClampNeg).toNatClampNeg then none else f_Claims_improve_109_16_104 F (f_Claims_improve_109_16_10 F n) (1 : Int32) v4 ((m_up (m_up q2.2.1 111 (q2.2.1 35 v4.toNatClampNeg).toNatClampNeg ((q2.2.1 111 (q2.2.1 35 v4.toNatClampNeg).toNatClampNeg) + (q2.1 - (q2.2.1 110 v4.toNatClampNeg)))) 110 v4.toNatClampNeg q2.1), q2.2.2)))) else f_Claims_improve_109_16_104 F (f_Claims_improve_109_16_10 F n) v3 v4 q1.2)))))
theorem ok_Claims_improve_109_16_10 (X : mX) (d F : Nat) : ∀ (n : Nat) (v3 : Int32) (v4 : Int32) (w5 : Option Value) (m : mM) (r : Int32) (m' : mM), f_Claims_improve_109_16_10 F n v3 v4 m = some (r, m') → m_R X (d + 2) 99 10 [some (.ref 109), some (.ref 16), some (.ref 31), some (.int v3), some (.int v4), w5] [] (SH, m) (some (.int r), (SH, m')) := by
  intro n
  induction n with
  | zero => intro v3 v4 w5 m r m' h; cases h
  | succ n ih =>
    intro v3 v4 w5 m r m' h
    simp only [f_Claims_improve_109_16_10] at h
    refine m_R_sg (by decide) [(.iload 4, 2, 0, 4, 0, 0, 0), (.aload_n 2, 1, 0, 2, 0, 0, 0), (.getfield 43, 3, 0, 4, 15, 0, 364)] (by decide +kernel) (show m_sgl X _ _ _ _ _ = some (16, [some (.ref 109), some (.ref 16), some (.ref 31), some (.int v3), some (.int v4), w5], [.int (m.1 31 15), .int v4], (SH, m.1, m.2)) from rfl) ?_
    rcases m_ite h with ⟨c852, h⟩ | ⟨c852, h⟩
    · refine m_R_1 (by decide) (m_opb_of (ins := .if_icmp .ge 94) (len := 3) (tag := 0) (a := 110) (b := 0) (c := 0) (q := 0) (by decide +kernel)) (if_pos c852) ?_
      refine m_R_sg (by decide) [(.iload_n 3, 1, 0, 3, 0, 0, 0)] (by decide +kernel) (show m_sgl X _ _ _ _ _ = some (111, [some (.ref 109), some (.ref 16), some (.ref 31), some (.int v3), some (.int v4), w5], [.int v3], (SH, m.1, m.2)) from rfl) ?_
      obtain ⟨c0, h⟩ := m_ite_p h
      obtain ⟨rfl, rfl⟩ := m_some h
      exact m_R_iret (by decide) (m_opb_of (ins := .ireturn) (len := 1) (tag := 1) (a := 1) (b := 0) (c := 0) (q := 0) (by decide +kernel)) (Or.inr c0)
    · refine m_R_1 (by decide) (m_opb_of (ins := .if_icmp .ge 94) (len := 3) (tag := 0) (a := 110) (b := 0) (c := 0) (q := 0) (by decide +kernel)) (if_neg c852) ?_
      refine m_R_sg (by decide) [(.aload_n 2, 1, 0, 2, 0, 0, 0), (.getfield 49, 3, 0, 4, 0, 3, 318), (.iload 4, 2, 0, 4, 0, 0, 0)] (by decide +kernel) (show m_sgl X _ _ _ _ _ = some (25, [some (.ref 109), some (.ref 16), some (.ref 31), some (.int v3), some (.int v4), w5], [.int v4, .ref 32], (SH, m.1, m.2)) from rfl) ?_
      obtain ⟨c853, h⟩ := m_ite_n h
      refine m_R_1 (by decide) (m_opb_of (ins := .iaload) (len := 1) (tag := 0) (a := 0) (b := 0) (c := 0) (q := 0) (by decide +kernel)) (m_s_iald sh_32 (by decide) c853) ?_
      refine m_R_sg (by decide) [(.iconst (-1), 1, 0, 1, 1, 0, 0)] (by decide +kernel) (show m_sgl X _ _ _ _ _ = some (27, [some (.ref 109), some (.ref 16), some (.ref 31), some (.int v3), some (.int v4), w5], [.int (-1 : Int32), .int (m.1 32 v4.toNatClampNeg)], (SH, m.1, m.2)) from rfl) ?_
      rcases m_ite h with ⟨c854, h⟩ | ⟨c854, h⟩
      · refine m_R_1 (by decide) (m_opb_of (ins := .if_icmp .eq 77) (len := 3) (tag := 0) (a := 104) (b := 0) (c := 0) (q := 0) (by decide +kernel)) (if_pos c854) ?_
        exact ok_Claims_improve_109_16_104 X d F _ (fun a0 a1 a2 m r m' h => ih a0 a1 a2 m r m' h) _ _ _ _ _ _ h
      · refine m_R_1 (by decide) (m_opb_of (ins := .if_icmp .eq 77) (len := 3) (tag := 0) (a := 104) (b := 0) (c := 0) (q := 0) (by decide +kernel)) (if_neg c854) ?_
        refine m_R_sg (by decide) [(.aload_n 1, 1, 0, 1, 0, 0, 0), (.getfield 55, 3, 0, 10, 1, 3, 506), (.aload_n 2, 1, 0, 2, 0, 0, 0), (.getfield 52, 3, 0, 4, 2, 3, 326), (.iload 4, 2, 0, 4, 0, 0, 0)] (by decide +kernel) (show m_sgl X _ _ _ _ _ = some (40, [some (.ref 109), some (.ref 16), some (.ref 31), some (.int v3), some (.int v4), w5], [.int v4, .ref 34, .ref 19], (SH, m.1, m.2)) from rfl) ?_
        refine m_R_1 (by decide) (m_opb_of (ins := .iaload) (len := 1) (tag := 0) (a := 0) (b := 0) (c := 0) (q := 0) (by decide +kernel)) (m_s_iald sh_34 (by decide) c853) ?_
        obtain ⟨q1, hc1, h⟩ := Option.bind_eq_some_iff.mp h
        refine m_R_cV (v := (some (.int q1.1))) (h1 := (SH, q1.2)) (rest := []) (lo' := [some (.ref 19), some (.int (m.1 34 v4.toNatClampNeg))]) (ml := 2) (k0 := 19) (by decide) (Or.inl rfl) (m_opb_of (ins := .invokevirtual 59) (len := 3) (tag := 5) (a := 25) (b := 1) (c := 0) (q := 1021) (by decide +kernel)) (by decide +kernel) rfl (show m_isO 25 19 (SH, _) = true from m_isO_of (by decide +kernel)) (Nat.le_of_ble_eq_true rfl) rfl rfl (ok_Houses_isUp X (d + 0) F _ _ _ _ hc1) ?_
        rcases m_ite h with ⟨c855, h⟩ | ⟨c855, h⟩
        · refine m_R_1 (by decide) (m_opb_of (ins := .ifCond .ne 60) (len := 3) (tag := 0) (a := 104) (b := 0) (c := 0) (q := 0) (by decide +kernel)) (if_pos c855) ?_
          refine m_R_sg (by decide) [(.aload_n 0, 1, 0, 0, 0, 0, 0), (.aload_n 2, 1, 0, 2, 0, 0, 0), (.iload 4, 2, 0, 4, 0, 0, 0)] (by decide +kernel) (show m_sgl X _ _ _ _ _ = some (51, [some (.ref 109), some (.ref 16), some (.ref 31), some (.int v3), some (.int v4), w5], [.int v4, .ref 31, .ref 109], (SH, q1.2.1, q1.2.2)) from rfl) ?_
          obtain ⟨q2, hc2, h⟩ := Option.bind_eq_some_iff.mp h
          refine m_R_cV (v := (some (.int q2.1))) (h1 := (SH, q2.2)) (rest := []) (lo' := [some (.ref 109), some (.ref 31), some (.int v4), none, none, none]) (ml := 6) (k0 := 109) (by decide) (Or.inl rfl) (m_opb_of (ins := .invokevirtual 71) (len := 3) (tag := 5) (a := 100) (b := 2) (c := 0) (q := 1027) (by decide +kernel)) (by decide +kernel) rfl (show m_isO 100 109 (SH, _) = true from m_isO_of (by decide +kernel)) (Nat.le_of_ble_eq_true rfl) rfl rfl (ok_Claims_shareOf_109_31 X (d + 1) F _ _ _ _ hc2) ?_
          refine m_R_sg (by decide) [(.istore 5, 2, 0, 5, 0, 0, 0), (.iload 5, 2, 0, 5, 0, 0, 0), (.aload_n 0, 1, 0, 0, 0, 0, 0), (.getfield 9, 3, 0, 0, 0, 3, 570), (.iload 4, 2, 0, 4, 0, 0, 0)] (by decide +kernel) (show m_sgl X _ _ _ _ _ = some (64, [some (.ref 109), some (.ref 16), some (.ref 31), some (.int v3), some (.int v4), some (.int q2.1)], [.int v4, .ref 110, .int q2.1], (SH, q2.2.1, q2.2.2)) from rfl) ?_
          refine m_R_1 (by decide) (m_opb_of (ins := .iaload) (len := 1) (tag := 0) (a := 0) (b := 0) (c := 0) (q := 0) (by decide +kernel)) (m_s_iald sh_110 (by decide) c853) ?_
          rcases m_ite h with ⟨c856, h⟩ | ⟨c856, h⟩
          · refine m_R_1 (by decide) (m_opb_of (ins := .if_icmp .eq 39) (len := 3) (tag := 0) (a := 104) (b := 0) (c := 0) (q := 0) (by decide +kernel)) (if_pos c856) ?_
            exact ok_Claims_improve_109_16_104 X d F _ (fun a0 a1 a2 m r m' h => ih a0 a1 a2 m r m' h) _ _ _ _ _ _ h
          · refine m_R_1 (by decide) (m_opb_of (ins := .if_icmp .eq 39) (len := 3) (tag := 0) (a := 104) (b := 0) (c := 0) (q := 0) (by decide +kernel)) (if_neg c856) ?_
            refine m_R_sg (by decide) [(.aload_n 0, 1, 0, 0, 0, 0, 0), (.getfield 15, 3, 0, 0, 1, 3, 572), (.aload_n 2, 1, 0, 2, 0, 0, 0), (.getfield 65, 3, 0, 4, 3, 3, 330), (.iload 4, 2, 0, 4, 0, 0, 0)] (by decide +kernel) (show m_sgl X _ _ _ _ _ = some (78, [some (.ref 109), some (.ref 16), some (.ref 31), some (.int v3), some (.int v4), some (.int q2.1)], [.int v4, .ref 35, .ref 111], (SH, q2.2.1, q2.2.2)) from rfl) ?_
            refine m_R_1 (by decide) (m_opb_of (ins := .iaload) (len := 1) (tag := 0) (a := 0) (b := 0) (c := 0) (q := 0) (by decide +kernel)) (m_s_iald sh_35 (by decide) c853) ?_
            refine m_R_sg (by decide) [(.dup2, 1, 0, 0, 0, 0, 0)] (by decide +kernel) (show m_sgl X _ _ _ _ _ = some (80, [some (.ref 109), some (.ref 16), some (.ref 31), some (.int v3), some (.int v4), some (.int q2.1)], [.int (q2.2.1 35 v4.toNatClampNeg), .ref 111, .int (q2.2.1 35 v4.toNatClampNeg), .ref 111], (SH, q2.2.1, q2.2.2)) from rfl) ?_
            obtain ⟨c857, h⟩ := m_ite_n h
            refine m_R_1 (by decide) (m_opb_of (ins := .iaload) (len := 1) (tag := 0) (a := 0) (b := 0) (c := 0) (q := 0) (by decide +kernel)) (m_s_iald sh_111 (by decide) c857) ?_
            refine m_R_sg (by decide) [(.iload 5, 2, 0, 5, 0, 0, 0), (.aload_n 0, 1, 0, 0, 0, 0, 0), (.getfield 9, 3, 0, 0, 0, 3, 570), (.iload 4, 2, 0, 4, 0, 0, 0)] (by decide +kernel) (show m_sgl X _ _ _ _ _ = some (89, [some (.ref 109), some (.ref 16), some (.ref 31), some (.int v3), some (.int v4), some (.int q2.1)], [.int v4, .ref 110, .int q2.1, .int (q2.2.1 111 (q2.2.1 35 v4.toNatClampNeg).toNatClampNeg), .int (q2.2.1 35 v4.toNatClampNeg), .ref 111], (SH, q2.2.1, q2.2.2)) from rfl) ?_
            refine m_R_1 (by decide) (m_opb_of (ins := .iaload) (len := 1) (tag := 0) (a := 0) (b := 0) (c := 0) (q := 0) (by decide +kernel)) (m_s_iald sh_110 (by decide) c853) ?_
            refine m_R_sg (by decide) [(.isub, 1, 0, 0, 0, 0, 0), (.iadd, 1, 0, 0, 0, 0, 0)] (by decide +kernel) (show m_sgl X _ _ _ _ _ = some (92, [some (.ref 109), some (.ref 16), some (.ref 31), some (.int v3), some (.int v4), some (.int q2.1)], [.int ((q2.2.1 111 (q2.2.1 35 v4.toNatClampNeg).toNatClampNeg) + (q2.1 - (q2.2.1 110 v4.toNatClampNeg))), .int (q2.2.1 35 v4.toNatClampNeg), .ref 111], (SH, q2.2.1, q2.2.2)) from rfl) ?_
            refine m_R_1 (by decide) (m_opb_of (ins := .iastore) (len := 1) (tag := 0) (a := 0) (b := 0) (c := 0) (q := 0) (by decide +kernel)) (m_s_iast sh_111 c857) ?_
            refine m_R_sg (by decide) [(.aload_n 0, 1, 0, 0, 0, 0, 0), (.getfield 9, 3, 0, 0, 0, 3, 570), (.iload 4, 2, 0, 4, 0, 0, 0), (.iload 5, 2, 0, 5, 0, 0, 0)] (by decide +kernel) (show m_sgl X _ _ _ _ _ = some (101, [some (.ref 109), some (.ref 16), some (.ref 31), some (.int v3), some (.int v4), some (.int q2.1)], [.int q2.1, .int v4, .ref 110], (SH, (m_up q2.2.1 111 (q2.2.1 35 v4.toNatClampNeg).toNatClampNeg ((q2.2.1 111 (q2.2.1 35 v4.toNatClampNeg).toNatClampNeg) + (q2.1 - (q2.2.1 110 v4.toNatClampNeg)))), q2.2.2)) from rfl) ?_
            refine m_R_1 (by decide) (m_opb_of (ins := .iastore) (len := 1) (tag := 0) (a := 0) (b := 0) (c := 0) (q := 0) (by decide +kernel)) (m_s_iast sh_110 c853) ?_
            refine m_R_sg (by decide) [(.iconst 1, 1, 0, 1, 0, 0, 0), (.istore_n 3, 1, 0, 3, 0, 0, 0)] (by decide +kernel) (show m_sgl X _ _ _ _ _ = some (104, [some (.ref 109), some (.ref 16), some (.ref 31), some (.int (1 : Int32)), some (.int v4), some (.int q2.1)], [], (SH, (m_up (m_up q2.2.1 111 (q2.2.1 35 v4.toNatClampNeg).toNatClampNeg ((q2.2.1 111 (q2.2.1 35 v4.toNatClampNeg).toNatClampNeg) + (q2.1 - (q2.2.1 110 v4.toNatClampNeg)))) 110 v4.toNatClampNeg q2.1), q2.2.2)) from rfl) ?_
            exact ok_Claims_improve_109_16_104 X d F _ (fun a0 a1 a2 m r m' h => ih a0 a1 a2 m r m' h) _ _ _ _ _ _ h
        · refine m_R_1 (by decide) (m_opb_of (ins := .ifCond .ne 60) (len := 3) (tag := 0) (a := 104) (b := 0) (c := 0) (q := 0) (by decide +kernel)) (if_neg c855) ?_
          exact ok_Claims_improve_109_16_104 X d F _ (fun a0 a1 a2 m r m' h => ih a0 a1 a2 m r m' h) _ _ _ _ _ _ h
def f_Claims_improve_109_16 (F : Nat)    (m : mM) : Option (Int32 × mM) := f_Claims_improve_109_16_10 F F (0 : Int32) (0 : Int32) m
theorem ok_Claims_improve_109_16 (X : mX) (d F : Nat) : ∀   (m : mM) (r : Int32) (m' : mM), f_Claims_improve_109_16 F  m = some (r, m') → m_R X (d + 2) 99 0 [some (.ref 109), some (.ref 16), none, none, none, none] [] (SH, m) (some (.int r), (SH, m')) := by
  intro m r m' h
  unfold f_Claims_improve_109_16 at h
  refine m_R_sg (by decide) [(.aload_n 1, 1, 0, 1, 0, 0, 0), (.getfield 33, 3, 0, 10, 2, 3, 509), (.astore_n 2, 1, 0, 2, 0, 0, 0), (.iconst 0, 1, 0, 0, 0, 0, 0), (.istore_n 3, 1, 0, 3, 0, 0, 0), (.iconst 0, 1, 0, 0, 0, 0, 0), (.istore 4, 2, 0, 4, 0, 0, 0)] (by decide +kernel) (show m_sgl X _ _ _ _ _ = some (10, [some (.ref 109), some (.ref 16), some (.ref 31), some (.int (0 : Int32)), some (.int (0 : Int32)), none], [], (SH, m.1, m.2)) from rfl) ?_
  exact ok_Claims_improve_109_16_10 X d F F _ _ _ _ _ _ h
def f_Claims_shareOut_109_16_31 (F : Nat)    (m : mM) : Option (Unit × mM) := some ((), m)
theorem ok_Claims_shareOut_109_16_31 (X : mX) (d F : Nat) : ∀  (w0 : Option Value) (w1 : Option Value) (w2 : Option Value) (w3 : Option Value) (m : mM) (r : Unit) (m' : mM), f_Claims_shareOut_109_16_31 F  m = some (r, m') → m_R X (d + 3) 97 31 [w0, w1, w2, w3] [] (SH, m) (none, (SH, m')) := by
  intro w0 w1 w2 w3 m r m' h
  unfold f_Claims_shareOut_109_16_31 at h
  obtain ⟨rfl, rfl⟩ := m_some h
  exact m_R_vret (by decide) (m_opb_of (ins := .return_) (len := 1) (tag := 3) (a := 0) (b := 0) (c := 0) (q := 0) (by decide +kernel))
def f_Claims_shareOut_109_16_9 (F : Nat)   : Nat → Int32 → Int32 → mM → Option (Unit × mM)
  | 0, _, _, _ => none
  | n + 1, v2, v3, m => (if (1000000 : Int32) ≤ v3 then f_Claims_shareOut_109_16_31 F m else (if v2 = 0 then f_Claims_shareOut_109_16_31 F m else ((f_Claims_improve_109_16 F m).bind fun q2 => f_Claims_shareOut_109_16_9 F n q2.1 (v3 + (1 : Int32)) q2.2)))
theorem ok_Claims_shareOut_109_16_9 (X : mX) (d F : Nat) : ∀ (n : Nat) (v2 : Int32) (v3 : Int32)  (m : mM) (r : Unit) (m' : mM), f_Claims_shareOut_109_16_9 F n v2 v3 m = some (r, m') → m_R X (d + 3) 97 9 [some (.ref 109), some (.ref 16), some (.int v2), some (.int v3)] [] (SH, m) (none, (SH, m')) := by
  intro n
  induction n with
  | zero => intro v2 v3 m r m' h; cases h
  | succ n ih =>
    intro v2 v3 m r m' h
    simp only [f_Claims_shareOut_109_16_9] at h
    refine m_R_sg (by decide) [(.iload_n 3, 1, 0, 3, 0, 0, 0), (.ldc 28, 2, 0, 1000000, 0, 0, 1022)] (by decide +kernel) (show m_sgl X _ _ _ _ _ = some (12, [some (.ref 109), some (.ref 16), some (.int v2), some (.int v3)], [.int (1000000 : Int32), .int v3], (SH, m.1, m.2)) from rfl) ?_
    rcases m_ite h with ⟨c858, h⟩ | ⟨c858, h⟩
    · refine m_R_1 (by decide) (m_opb_of (ins := .if_icmp .ge 19) (len := 3) (tag := 0) (a := 31) (b := 0) (c := 0) (q := 0) (by decide +kernel)) (if_pos c858) ?_
      exact ok_Claims_shareOut_109_16_31 X d F _ _ _ _ _ _ _ h
    · refine m_R_1 (by decide) (m_opb_of (ins := .if_icmp .ge 19) (len := 3) (tag := 0) (a := 31) (b := 0) (c := 0) (q := 0) (by decide +kernel)) (if_neg c858) ?_
      refine m_R_sg (by decide) [(.iload_n 2, 1, 0, 2, 0, 0, 0)] (by decide +kernel) (show m_sgl X _ _ _ _ _ = some (16, [some (.ref 109), some (.ref 16), some (.int v2), some (.int v3)], [.int v2], (SH, m.1, m.2)) from rfl) ?_
      rcases m_ite h with ⟨c859, h⟩ | ⟨c859, h⟩
      · refine m_R_1 (by decide) (m_opb_of (ins := .ifCond .eq 15) (len := 3) (tag := 0) (a := 31) (b := 0) (c := 0) (q := 0) (by decide +kernel)) (if_pos c859) ?_
        exact ok_Claims_shareOut_109_16_31 X d F _ _ _ _ _ _ _ h
      · refine m_R_1 (by decide) (m_opb_of (ins := .ifCond .eq 15) (len := 3) (tag := 0) (a := 31) (b := 0) (c := 0) (q := 0) (by decide +kernel)) (if_neg c859) ?_
        refine m_R_sg (by decide) [(.aload_n 0, 1, 0, 0, 0, 0, 0), (.aload_n 1, 1, 0, 1, 0, 0, 0)] (by decide +kernel) (show m_sgl X _ _ _ _ _ = some (21, [some (.ref 109), some (.ref 16), some (.int v2), some (.int v3)], [.ref 16, .ref 109], (SH, m.1, m.2)) from rfl) ?_
        obtain ⟨q2, hc2, h⟩ := Option.bind_eq_some_iff.mp h
        refine m_R_cV (v := (some (.int q2.1))) (h1 := (SH, q2.2)) (rest := []) (lo' := [some (.ref 109), some (.ref 16), none, none, none, none]) (ml := 6) (k0 := 109) (by decide) (Or.inl rfl) (m_opb_of (ins := .invokevirtual 29) (len := 3) (tag := 5) (a := 99) (b := 1) (c := 0) (q := 1023) (by decide +kernel)) (by decide +kernel) rfl (show m_isO 99 109 (SH, _) = true from m_isO_of (by decide +kernel)) (Nat.le_of_ble_eq_true rfl) rfl rfl (ok_Claims_improve_109_16 X (d + 0) F _ _ _ hc2) ?_
        refine m_R_sg (by decide) [(.istore_n 2, 1, 0, 2, 0, 0, 0), (.iinc 3 1, 3, 0, 3, 1, 0, 0), (.goto (-19), 3, 0, 9, 0, 0, 0)] (by decide +kernel) (show m_sgl X _ _ _ _ _ = some (9, [some (.ref 109), some (.ref 16), some (.int q2.1), some (.int (v3 + (1 : Int32)))], [], (SH, q2.2.1, q2.2.2)) from rfl) ?_
        exact ih _ _ _ _ _ h
def f_Claims_shareOut_109_16 (F : Nat)    (m : mM) : Option (Unit × mM) := ((f_Claims_begin_109_16 F m).bind fun q1 => f_Claims_shareOut_109_16_9 F F (1 : Int32) (0 : Int32) q1.2)
theorem ok_Claims_shareOut_109_16 (X : mX) (d F : Nat) : ∀   (m : mM) (r : Unit) (m' : mM), f_Claims_shareOut_109_16 F  m = some (r, m') → m_R X (d + 3) 97 0 [some (.ref 109), some (.ref 16), none, none] [] (SH, m) (none, (SH, m')) := by
  intro m r m' h
  unfold f_Claims_shareOut_109_16 at h
  refine m_R_sg (by decide) [(.aload_n 0, 1, 0, 0, 0, 0, 0), (.aload_n 1, 1, 0, 1, 0, 0, 0)] (by decide +kernel) (show m_sgl X _ _ _ _ _ = some (2, [some (.ref 109), some (.ref 16), none, none], [.ref 16, .ref 109], (SH, m.1, m.2)) from rfl) ?_
  obtain ⟨q1, hc1, h⟩ := Option.bind_eq_some_iff.mp h
  refine m_R_cV (v := none) (h1 := (SH, q1.2)) (rest := []) (lo' := [some (.ref 109), some (.ref 16), none, none, none]) (ml := 5) (k0 := 109) (by decide) (Or.inl rfl) (m_opb_of (ins := .invokevirtual 24) (len := 3) (tag := 5) (a := 98) (b := 1) (c := 0) (q := 1016) (by decide +kernel)) (by decide +kernel) rfl (show m_isO 98 109 (SH, _) = true from m_isO_of (by decide +kernel)) (Nat.le_of_ble_eq_true rfl) rfl rfl (ok_Claims_begin_109_16 X (d + 0) F _ _ _ hc1) ?_
  refine m_R_sg (by decide) [(.iconst 1, 1, 0, 1, 0, 0, 0), (.istore_n 2, 1, 0, 2, 0, 0, 0), (.iconst 0, 1, 0, 0, 0, 0, 0), (.istore_n 3, 1, 0, 3, 0, 0, 0)] (by decide +kernel) (show m_sgl X _ _ _ _ _ = some (9, [some (.ref 109), some (.ref 16), some (.int (1 : Int32)), some (.int (0 : Int32))], [], (SH, q1.2.1, q1.2.2)) from rfl) ?_
  exact ok_Claims_shareOut_109_16_9 X d F F _ _ _ _ _ h
def f_x_gets (F : Nat)   (v1 : Int32) (m : mM) : Option (Int32 × mM) := ((f_Papers_isPaper F v1 m).bind fun q1 => (if q1.1 = 0 then ((f_x_refuse F (-3 : Int32) q1.2).bind fun q2 => some (q2.1, q2.2)) else (if v1 < 0 ∨ 60 ≤ v1.toNatClampNeg then none else ((f_Houses_isUp F (q1.2.1 34 v1.toNatClampNeg) q1.2).bind fun q3 => (if q3.1 = 0 then ((f_Claims_shareOut_109_16 F q3.2).bind fun q4 => some ((q4.2.1 110 v1.toNatClampNeg), q4.2)) else ((f_x_refuse F (-2 : Int32) q3.2).bind fun q5 => some (q5.1, q5.2)))))))
theorem ok_x_gets (X : mX) (d F : Nat) : ∀ (v1 : Int32)  (m : mM) (r : Int32) (m' : mM), f_x_gets F v1 m = some (r, m') → m_R X (d + 4) 96 0 [some (.ref 0), some (.int v1), none] [] (SH, m) (some (.int r), (SH, m')) := by
  intro v1 m r m' h
  unfold f_x_gets at h
  refine m_R_sg (by decide) [(.aload_n 0, 1, 0, 0, 0, 0, 0), (.getfield 28, 3, 0, 11, 2, 3, 632), (.getfield 146, 3, 0, 10, 2, 3, 510), (.astore_n 2, 1, 0, 2, 0, 0, 0), (.aload_n 2, 1, 0, 2, 0, 0, 0), (.iload_n 1, 1, 0, 1, 0, 0, 0)] (by decide +kernel) (show m_sgl X _ _ _ _ _ = some (10, [some (.ref 0), some (.int v1), some (.ref 31)], [.int v1, .ref 31], (SH, m.1, m.2)) from rfl) ?_
  obtain ⟨q1, hc1, h⟩ := Option.bind_eq_some_iff.mp h
  refine m_R_cV (v := (some (.int q1.1))) (h1 := (SH, q1.2)) (rest := []) (lo' := [some (.ref 31), some (.int v1)]) (ml := 2) (k0 := 31) (by decide) (Or.inl rfl) (m_opb_of (ins := .invokevirtual 246) (len := 3) (tag := 5) (a := 41) (b := 1) (c := 0) (q := 927) (by decide +kernel)) (by decide +kernel) rfl (show m_isO 41 31 (SH, _) = true from m_isO_of (by decide +kernel)) (Nat.le_of_ble_eq_true rfl) rfl rfl (ok_Papers_isPaper X (d + 3) F _ _ _ _ hc1) ?_
  rcases m_ite h with ⟨c860, h⟩ | ⟨c860, h⟩
  · refine m_R_1 (by decide) (m_opb_of (ins := .ifCond .ne 10) (len := 3) (tag := 0) (a := 23) (b := 0) (c := 0) (q := 0) (by decide +kernel)) (if_pos c860) ?_
    refine m_R_sg (by decide) [(.aload_n 0, 1, 0, 0, 0, 0, 0), (.bipush (-3), 2, 0, 3, 1, 0, 0)] (by decide +kernel) (show m_sgl X _ _ _ _ _ = some (19, [some (.ref 0), some (.int v1), some (.ref 31)], [.int (-3 : Int32), .ref 0], (SH, q1.2.1, q1.2.2)) from rfl) ?_
    obtain ⟨q2, hc2, h⟩ := Option.bind_eq_some_iff.mp h
    refine m_R_cV (v := (some (.int q2.1))) (h1 := (SH, q2.2)) (rest := []) (lo' := [some (.ref 0), some (.int (-3 : Int32))]) (ml := 2) (k0 := 0) (by decide) (Or.inl rfl) (m_opb_of (ins := .invokevirtual 76) (len := 3) (tag := 5) (a := 14) (b := 1) (c := 0) (q := 671) (by decide +kernel)) (by decide +kernel) rfl (show m_isO 14 0 (SH, _) = true from m_isO_of (by decide +kernel)) (Nat.le_of_ble_eq_true rfl) rfl rfl (ok_x_refuse X (d + 3) F _ _ _ _ hc2) ?_
    obtain ⟨rfl, rfl⟩ := m_some h
    exact m_R_iret (by decide) (m_opb_of (ins := .ireturn) (len := 1) (tag := 1) (a := 0) (b := 0) (c := 0) (q := 0) (by decide +kernel)) (Or.inl rfl)
  · refine m_R_1 (by decide) (m_opb_of (ins := .ifCond .ne 10) (len := 3) (tag := 0) (a := 23) (b := 0) (c := 0) (q := 0) (by decide +kernel)) (if_neg c860) ?_
    refine m_R_sg (by decide) [(.aload_n 0, 1, 0, 0, 0, 0, 0), (.getfield 28, 3, 0, 11, 2, 3, 632), (.getfield 95, 3, 0, 10, 1, 3, 507), (.aload_n 2, 1, 0, 2, 0, 0, 0), (.getfield 281, 3, 0, 4, 2, 3, 328), (.iload_n 1, 1, 0, 1, 0, 0, 0)] (by decide +kernel) (show m_sgl X _ _ _ _ _ = some (35, [some (.ref 0), some (.int v1), some (.ref 31)], [.int v1, .ref 34, .ref 19], (SH, q1.2.1, q1.2.2)) from rfl) ?_
    obtain ⟨c861, h⟩ := m_ite_n h
    refine m_R_1 (by decide) (m_opb_of (ins := .iaload) (len := 1) (tag := 0) (a := 0) (b := 0) (c := 0) (q := 0) (by decide +kernel)) (m_s_iald sh_34 (by decide) c861) ?_
    obtain ⟨q3, hc3, h⟩ := Option.bind_eq_some_iff.mp h
    refine m_R_cV (v := (some (.int q3.1))) (h1 := (SH, q3.2)) (rest := []) (lo' := [some (.ref 19), some (.int (q1.2.1 34 v1.toNatClampNeg))]) (ml := 2) (k0 := 19) (by decide) (Or.inl rfl) (m_opb_of (ins := .invokevirtual 110) (len := 3) (tag := 5) (a := 25) (b := 1) (c := 0) (q := 716) (by decide +kernel)) (by decide +kernel) rfl (show m_isO 25 19 (SH, _) = true from m_isO_of (by decide +kernel)) (Nat.le_of_ble_eq_true rfl) rfl rfl (ok_Houses_isUp X (d + 2) F _ _ _ _ hc3) ?_
    rcases m_ite h with ⟨c862, h⟩ | ⟨c862, h⟩
    · refine m_R_1 (by decide) (m_opb_of (ins := .ifCond .eq 10) (len := 3) (tag := 0) (a := 49) (b := 0) (c := 0) (q := 0) (by decide +kernel)) (if_pos c862) ?_
      refine m_R_sg (by decide) [(.aload_n 0, 1, 0, 0, 0, 0, 0), (.getfield 42, 3, 0, 11, 5, 3, 635), (.aload_n 0, 1, 0, 0, 0, 0, 0), (.getfield 28, 3, 0, 11, 2, 3, 632)] (by decide +kernel) (show m_sgl X _ _ _ _ _ = some (57, [some (.ref 0), some (.int v1), some (.ref 31)], [.ref 16, .ref 109], (SH, q3.2.1, q3.2.2)) from rfl) ?_
      obtain ⟨q4, hc4, h⟩ := Option.bind_eq_some_iff.mp h
      refine m_R_cV (v := none) (h1 := (SH, q4.2)) (rest := []) (lo' := [some (.ref 109), some (.ref 16), none, none]) (ml := 4) (k0 := 109) (by decide) (Or.inl rfl) (m_opb_of (ins := .invokevirtual 305) (len := 3) (tag := 5) (a := 97) (b := 1) (c := 0) (q := 1012) (by decide +kernel)) (by decide +kernel) rfl (show m_isO 97 109 (SH, _) = true from m_isO_of (by decide +kernel)) (Nat.le_of_ble_eq_true rfl) rfl rfl (ok_Claims_shareOut_109_16 X (d + 0) F _ _ _ hc4) ?_
      refine m_R_sg (by decide) [(.aload_n 0, 1, 0, 0, 0, 0, 0), (.getfield 42, 3, 0, 11, 5, 3, 635), (.getfield 309, 3, 0, 0, 0, 3, 571), (.iload_n 1, 1, 0, 1, 0, 0, 0)] (by decide +kernel) (show m_sgl X _ _ _ _ _ = some (68, [some (.ref 0), some (.int v1), some (.ref 31)], [.int v1, .ref 110], (SH, q4.2.1, q4.2.2)) from rfl) ?_
      refine m_R_1 (by decide) (m_opb_of (ins := .iaload) (len := 1) (tag := 0) (a := 0) (b := 0) (c := 0) (q := 0) (by decide +kernel)) (m_s_iald sh_110 (by decide) c861) ?_
      obtain ⟨rfl, rfl⟩ := m_some h
      exact m_R_iret (by decide) (m_opb_of (ins := .ireturn) (len := 1) (tag := 1) (a := 0) (b := 0) (c := 0) (q := 0) (by decide +kernel)) (Or.inl rfl)
    · refine m_R_1 (by decide) (m_opb_of (ins := .ifCond .eq 10) (len := 3) (tag := 0) (a := 49) (b := 0) (c := 0) (q := 0) (by decide +kernel)) (if_neg c862) ?_
      refine m_R_sg (by decide) [(.aload_n 0, 1, 0, 0, 0, 0, 0), (.bipush (-2), 2, 0, 2, 1, 0, 0)] (by decide +kernel) (show m_sgl X _ _ _ _ _ = some (45, [some (.ref 0), some (.int v1), some (.ref 31)], [.int (-2 : Int32), .ref 0], (SH, q3.2.1, q3.2.2)) from rfl) ?_
      obtain ⟨q5, hc5, h⟩ := Option.bind_eq_some_iff.mp h
      refine m_R_cV (v := (some (.int q5.1))) (h1 := (SH, q5.2)) (rest := []) (lo' := [some (.ref 0), some (.int (-2 : Int32))]) (ml := 2) (k0 := 0) (by decide) (Or.inl rfl) (m_opb_of (ins := .invokevirtual 76) (len := 3) (tag := 5) (a := 14) (b := 1) (c := 0) (q := 671) (by decide +kernel)) (by decide +kernel) rfl (show m_isO 14 0 (SH, _) = true from m_isO_of (by decide +kernel)) (Nat.le_of_ble_eq_true rfl) rfl rfl (ok_x_refuse X (d + 3) F _ _ _ _ hc5) ?_
      obtain ⟨rfl, rfl⟩ := m_some h
      exact m_R_iret (by decide) (m_opb_of (ins := .ireturn) (len := 1) (tag := 1) (a := 0) (b := 0) (c := 0) (q := 0) (by decide +kernel)) (Or.inl rfl)
def f_m_isClaim_28 (F : Nat)   (s0 : Int32) (m : mM) : Option (Int32 × mM) := (if s0 = 0 ∨ s0 = 1 then some (s0, m) else none)
theorem ok_m_isClaim_28 (X : mX) (d F : Nat) : ∀ (s0 : Int32) (w0 : Option Value) (w1 : Option Value) (m : mM) (r : Int32) (m' : mM), f_m_isClaim_28 F s0 m = some (r, m') → m_R X (d + 2) 284 28 [w0, w1] [.int s0] (SH, m) (some (.int r), (SH, m')) := by
  intro s0 w0 w1 m r m' h
  unfold f_m_isClaim_28 at h
  obtain ⟨c0, h⟩ := m_ite_p h
  obtain ⟨rfl, rfl⟩ := m_some h
  exact m_R_iret (by decide) (m_opb_of (ins := .ireturn) (len := 1) (tag := 1) (a := 1) (b := 0) (c := 0) (q := 0) (by decide +kernel)) (Or.inr c0)
def f_m_isClaim_27 (F : Nat)    (m : mM) : Option (Int32 × mM) := f_m_isClaim_28 F (0 : Int32) m
theorem ok_m_isClaim_27 (X : mX) (d F : Nat) : ∀  (w0 : Option Value) (w1 : Option Value) (m : mM) (r : Int32) (m' : mM), f_m_isClaim_27 F  m = some (r, m') → m_R X (d + 2) 284 27 [w0, w1] [] (SH, m) (some (.int r), (SH, m')) := by
  intro w0 w1 m r m' h
  unfold f_m_isClaim_27 at h
  refine m_R_sg (by decide) [(.iconst 0, 1, 0, 0, 0, 0, 0)] (by decide +kernel) (show m_sgl X _ _ _ _ _ = some (28, [w0, w1], [.int (0 : Int32)], (SH, m.1, m.2)) from rfl) ?_
  exact ok_m_isClaim_28 X d F _ _ _ _ _ _ h
def f_m_isClaim (F : Nat)   (v1 : Int32) (m : mM) : Option (Int32 × mM) := ((f_m_paper F v1 (0 : Int32) m).bind fun q1 => (if q1.1 = (1 : Int32) then ((f_m_paper F v1 (3 : Int32) q1.2).bind fun q2 => ((f_m_isUp F q2.1 q2.2).bind fun q3 => (if q3.1 = 0 then f_m_isClaim_28 F (1 : Int32) q3.2 else f_m_isClaim_27 F q3.2))) else f_m_isClaim_27 F q1.2))
theorem ok_m_isClaim (X : mX) (d F : Nat) : ∀ (v1 : Int32)  (m : mM) (r : Int32) (m' : mM), f_m_isClaim F v1 m = some (r, m') → m_R X (d + 2) 284 0 [some (.ref 304), some (.int v1)] [] (SH, m) (some (.int r), (SH, m')) := by
  intro v1 m r m' h
  unfold f_m_isClaim at h
  refine m_R_sg (by decide) [(.aload_n 0, 1, 0, 0, 0, 0, 0), (.iload_n 1, 1, 0, 1, 0, 0, 0), (.iconst 0, 1, 0, 0, 0, 0, 0)] (by decide +kernel) (show m_sgl X _ _ _ _ _ = some (3, [some (.ref 304), some (.int v1)], [.int (0 : Int32), .int v1, .ref 304], (SH, m.1, m.2)) from rfl) ?_
  obtain ⟨q1, hc1, h⟩ := Option.bind_eq_some_iff.mp h
  refine m_R_cV (v := (some (.int q1.1))) (h1 := (SH, q1.2)) (rest := []) (lo' := [some (.ref 304), some (.int v1), some (.int (0 : Int32))]) (ml := 3) (k0 := 304) (by decide) (Or.inl rfl) (m_opb_of (ins := .invokevirtual 160) (len := 3) (tag := 5) (a := 246) (b := 2) (c := 0) (q := 1791) (by decide +kernel)) (by decide +kernel) rfl (show m_isO 246 304 (SH, _) = true from m_isO_of (by decide +kernel)) (Nat.le_of_ble_eq_true rfl) rfl rfl (ok_m_paper X (d + 1) F _ _ _ _ _ hc1) ?_
  refine m_R_sg (by decide) [(.iconst 1, 1, 0, 1, 0, 0, 0)] (by decide +kernel) (show m_sgl X _ _ _ _ _ = some (7, [some (.ref 304), some (.int v1)], [.int (1 : Int32), .int q1.1], (SH, q1.2.1, q1.2.2)) from rfl) ?_
  rcases m_ite h with ⟨c863, h⟩ | ⟨c863, h⟩
  · refine m_R_1 (by decide) (m_opb_of (ins := .if_icmp .ne 20) (len := 3) (tag := 0) (a := 27) (b := 0) (c := 0) (q := 0) (by decide +kernel)) (if_pos c863) ?_
    refine m_R_sg (by decide) [(.aload_n 0, 1, 0, 0, 0, 0, 0), (.aload_n 0, 1, 0, 0, 0, 0, 0), (.iload_n 1, 1, 0, 1, 0, 0, 0), (.iconst 3, 1, 0, 3, 0, 0, 0)] (by decide +kernel) (show m_sgl X _ _ _ _ _ = some (14, [some (.ref 304), some (.int v1)], [.int (3 : Int32), .int v1, .ref 304, .ref 304], (SH, q1.2.1, q1.2.2)) from rfl) ?_
    obtain ⟨q2, hc2, h⟩ := Option.bind_eq_some_iff.mp h
    refine m_R_cV (v := (some (.int q2.1))) (h1 := (SH, q2.2)) (rest := [.ref 304]) (lo' := [some (.ref 304), some (.int v1), some (.int (3 : Int32))]) (ml := 3) (k0 := 304) (by decide) (Or.inl rfl) (m_opb_of (ins := .invokevirtual 160) (len := 3) (tag := 5) (a := 246) (b := 2) (c := 0) (q := 1791) (by decide +kernel)) (by decide +kernel) rfl (show m_isO 246 304 (SH, _) = true from m_isO_of (by decide +kernel)) (Nat.le_of_ble_eq_true rfl) rfl rfl (ok_m_paper X (d + 1) F _ _ _ _ _ hc2) ?_
    obtain ⟨q3, hc3, h⟩ := Option.bind_eq_some_iff.mp h
    refine m_R_cV (v := (some (.int q3.1))) (h1 := (SH, q3.2)) (rest := []) (lo' := [some (.ref 304), some (.int q2.1)]) (ml := 2) (k0 := 304) (by decide) (Or.inl rfl) (m_opb_of (ins := .invokevirtual 80) (len := 3) (tag := 5) (a := 211) (b := 1) (c := 0) (q := 1629) (by decide +kernel)) (by decide +kernel) rfl (show m_isO 211 304 (SH, _) = true from m_isO_of (by decide +kernel)) (Nat.le_of_ble_eq_true rfl) rfl rfl (ok_m_isUp X (d + 0) F _ _ _ _ hc3) ?_
    rcases m_ite h with ⟨c864, h⟩ | ⟨c864, h⟩
    · refine m_R_1 (by decide) (m_opb_of (ins := .ifCond .ne 7) (len := 3) (tag := 0) (a := 27) (b := 0) (c := 0) (q := 0) (by decide +kernel)) (if_pos c864) ?_
      refine m_R_sg (by decide) [(.iconst 1, 1, 0, 1, 0, 0, 0), (.goto 4, 3, 0, 28, 0, 0, 0)] (by decide +kernel) (show m_sgl X _ _ _ _ _ = some (28, [some (.ref 304), some (.int v1)], [.int (1 : Int32)], (SH, q3.2.1, q3.2.2)) from rfl) ?_
      exact ok_m_isClaim_28 X d F _ _ _ _ _ _ h
    · refine m_R_1 (by decide) (m_opb_of (ins := .ifCond .ne 7) (len := 3) (tag := 0) (a := 27) (b := 0) (c := 0) (q := 0) (by decide +kernel)) (if_neg c864) ?_
      exact ok_m_isClaim_27 X d F _ _ _ _ _ h
  · refine m_R_1 (by decide) (m_opb_of (ins := .if_icmp .ne 20) (len := 3) (tag := 0) (a := 27) (b := 0) (c := 0) (q := 0) (by decide +kernel)) (if_neg c863) ?_
    exact ok_m_isClaim_27 X d F _ _ _ _ _ h
def f_m_assetsOf_60 (F : Nat)  (k8 : Int32 → Int32 → Int32 → mM → Option (Int32 × mM)) (v1 : Int32) (v2 : Int32) (v3 : Int32) (m : mM) : Option (Int32 × mM) := k8 v1 v2 (v3 + (1 : Int32)) m
theorem ok_m_assetsOf_60 (X : mX) (d F : Nat) (k8 : Int32 → Int32 → Int32 → mM → Option (Int32 × mM)) (hk8 : ∀ (v1 : Int32) (v2 : Int32) (v3 : Int32) (m : mM) (r : Int32) (m' : mM), k8 v1 v2 v3 m = some (r, m') → m_R X (d + 3) 286 8 [some (.ref 304), some (.int v1), some (.int v2), some (.int v3)] [] (SH, m) (some (.int r), (SH, m'))) : ∀ (v1 : Int32) (v2 : Int32) (v3 : Int32)  (m : mM) (r : Int32) (m' : mM), f_m_assetsOf_60 F k8 v1 v2 v3 m = some (r, m') → m_R X (d + 3) 286 60 [some (.ref 304), some (.int v1), some (.int v2), some (.int v3)] [] (SH, m) (some (.int r), (SH, m')) := by
  intro v1 v2 v3 m r m' h
  unfold f_m_assetsOf_60 at h
  refine m_R_sg (by decide) [(.iinc 3 1, 3, 0, 3, 1, 0, 0), (.goto (-55), 3, 0, 8, 0, 0, 0)] (by decide +kernel) (show m_sgl X _ _ _ _ _ = some (8, [some (.ref 304), some (.int v1), some (.int v2), some (.int (v3 + (1 : Int32)))], [], (SH, m.1, m.2)) from rfl) ?_
  exact hk8 _ _ _ _ _ _ h
def f_m_assetsOf_58 (F : Nat)  (k8 : Int32 → Int32 → Int32 → mM → Option (Int32 × mM)) (v1 : Int32) (v3 : Int32) (s0 : Int32) (s1 : Int32) (m : mM) : Option (Int32 × mM) := f_m_assetsOf_60 F k8 v1 (s0 + s1) v3 m
theorem ok_m_assetsOf_58 (X : mX) (d F : Nat) (k8 : Int32 → Int32 → Int32 → mM → Option (Int32 × mM)) (hk8 : ∀ (v1 : Int32) (v2 : Int32) (v3 : Int32) (m : mM) (r : Int32) (m' : mM), k8 v1 v2 v3 m = some (r, m') → m_R X (d + 3) 286 8 [some (.ref 304), some (.int v1), some (.int v2), some (.int v3)] [] (SH, m) (some (.int r), (SH, m'))) : ∀ (v1 : Int32) (v3 : Int32) (s0 : Int32) (s1 : Int32) (w2 : Option Value) (m : mM) (r : Int32) (m' : mM), f_m_assetsOf_58 F k8 v1 v3 s0 s1 m = some (r, m') → m_R X (d + 3) 286 58 [some (.ref 304), some (.int v1), w2, some (.int v3)] [.int s1, .int s0] (SH, m) (some (.int r), (SH, m')) := by
  intro v1 v3 s0 s1 w2 m r m' h
  unfold f_m_assetsOf_58 at h
  refine m_R_sg (by decide) [(.iadd, 1, 0, 0, 0, 0, 0), (.istore_n 2, 1, 0, 2, 0, 0, 0)] (by decide +kernel) (show m_sgl X _ _ _ _ _ = some (60, [some (.ref 304), some (.int v1), some (.int (s0 + s1)), some (.int v3)], [], (SH, m.1, m.2)) from rfl) ?_
  exact ok_m_assetsOf_60 X d F _ hk8 _ _ _ _ _ _ h
def f_m_assetsOf_8 (F : Nat)   : Nat → Int32 → Int32 → Int32 → mM → Option (Int32 × mM)
  | 0, _, _, _, _ => none
  | n + 1, v1, v2, v3, m => (if (60 : Int32) ≤ v3 then some (v2, m) else ((f_m_paper F v3 (0 : Int32) m).bind fun q2 => (if q2.1 = (1 : Int32) then ((f_m_paper F v3 (4 : Int32) q2.2).bind fun q3 => (if q3.1 = v1 then ((f_m_isClaim F v3 q3.2).bind fun q4 => (if q4.1 = 0 then ((f_m_paper F v3 (2 : Int32) q4.2).bind fun q5 => f_m_assetsOf_58 F (f_m_assetsOf_8 F n) v1 v3 v2 q5.1 q5.2) else (if v3 < 0 ∨ 60 ≤ v3.toNatClampNeg then none else f_m_assetsOf_58 F (f_m_assetsOf_8 F n) v1 v3 v2 (q4.2.1 309 v3.toNatClampNeg) q4.2))) else f_m_assetsOf_60 F (f_m_assetsOf_8 F n) v1 v2 v3 q3.2)) else f_m_assetsOf_60 F (f_m_assetsOf_8 F n) v1 v2 v3 q2.2)))
theorem ok_m_assetsOf_8 (X : mX) (d F : Nat) : ∀ (n : Nat) (v1 : Int32) (v2 : Int32) (v3 : Int32)  (m : mM) (r : Int32) (m' : mM), f_m_assetsOf_8 F n v1 v2 v3 m = some (r, m') → m_R X (d + 3) 286 8 [some (.ref 304), some (.int v1), some (.int v2), some (.int v3)] [] (SH, m) (some (.int r), (SH, m')) := by
  intro n
  induction n with
  | zero => intro v1 v2 v3 m r m' h; cases h
  | succ n ih =>
    intro v1 v2 v3 m r m' h
    simp only [f_m_assetsOf_8] at h
    refine m_R_sg (by decide) [(.iload_n 3, 1, 0, 3, 0, 0, 0), (.bipush 60, 2, 0, 60, 0, 0, 0)] (by decide +kernel) (show m_sgl X _ _ _ _ _ = some (11, [some (.ref 304), some (.int v1), some (.int v2), some (.int v3)], [.int (60 : Int32), .int v3], (SH, m.1, m.2)) from rfl) ?_
    rcases m_ite h with ⟨c865, h⟩ | ⟨c865, h⟩
    · refine m_R_1 (by decide) (m_opb_of (ins := .if_icmp .ge 55) (len := 3) (tag := 0) (a := 66) (b := 0) (c := 0) (q := 0) (by decide +kernel)) (if_pos c865) ?_
      refine m_R_sg (by decide) [(.iload_n 2, 1, 0, 2, 0, 0, 0)] (by decide +kernel) (show m_sgl X _ _ _ _ _ = some (67, [some (.ref 304), some (.int v1), some (.int v2), some (.int v3)], [.int v2], (SH, m.1, m.2)) from rfl) ?_
      obtain ⟨rfl, rfl⟩ := m_some h
      exact m_R_iret (by decide) (m_opb_of (ins := .ireturn) (len := 1) (tag := 1) (a := 0) (b := 0) (c := 0) (q := 0) (by decide +kernel)) (Or.inl rfl)
    · refine m_R_1 (by decide) (m_opb_of (ins := .if_icmp .ge 55) (len := 3) (tag := 0) (a := 66) (b := 0) (c := 0) (q := 0) (by decide +kernel)) (if_neg c865) ?_
      refine m_R_sg (by decide) [(.aload_n 0, 1, 0, 0, 0, 0, 0), (.iload_n 3, 1, 0, 3, 0, 0, 0), (.iconst 0, 1, 0, 0, 0, 0, 0)] (by decide +kernel) (show m_sgl X _ _ _ _ _ = some (17, [some (.ref 304), some (.int v1), some (.int v2), some (.int v3)], [.int (0 : Int32), .int v3, .ref 304], (SH, m.1, m.2)) from rfl) ?_
      obtain ⟨q2, hc2, h⟩ := Option.bind_eq_some_iff.mp h
      refine m_R_cV (v := (some (.int q2.1))) (h1 := (SH, q2.2)) (rest := []) (lo' := [some (.ref 304), some (.int v3), some (.int (0 : Int32))]) (ml := 3) (k0 := 304) (by decide) (Or.inl rfl) (m_opb_of (ins := .invokevirtual 160) (len := 3) (tag := 5) (a := 246) (b := 2) (c := 0) (q := 1791) (by decide +kernel)) (by decide +kernel) rfl (show m_isO 246 304 (SH, _) = true from m_isO_of (by decide +kernel)) (Nat.le_of_ble_eq_true rfl) rfl rfl (ok_m_paper X (d + 2) F _ _ _ _ _ hc2) ?_
      refine m_R_sg (by decide) [(.iconst 1, 1, 0, 1, 0, 0, 0)] (by decide +kernel) (show m_sgl X _ _ _ _ _ = some (21, [some (.ref 304), some (.int v1), some (.int v2), some (.int v3)], [.int (1 : Int32), .int q2.1], (SH, q2.2.1, q2.2.2)) from rfl) ?_
      rcases m_ite h with ⟨c866, h⟩ | ⟨c866, h⟩
      · refine m_R_1 (by decide) (m_opb_of (ins := .if_icmp .ne 39) (len := 3) (tag := 0) (a := 60) (b := 0) (c := 0) (q := 0) (by decide +kernel)) (if_pos c866) ?_
        refine m_R_sg (by decide) [(.aload_n 0, 1, 0, 0, 0, 0, 0), (.iload_n 3, 1, 0, 3, 0, 0, 0), (.iconst 4, 1, 0, 4, 0, 0, 0)] (by decide +kernel) (show m_sgl X _ _ _ _ _ = some (27, [some (.ref 304), some (.int v1), some (.int v2), some (.int v3)], [.int (4 : Int32), .int v3, .ref 304], (SH, q2.2.1, q2.2.2)) from rfl) ?_
        obtain ⟨q3, hc3, h⟩ := Option.bind_eq_some_iff.mp h
        refine m_R_cV (v := (some (.int q3.1))) (h1 := (SH, q3.2)) (rest := []) (lo' := [some (.ref 304), some (.int v3), some (.int (4 : Int32))]) (ml := 3) (k0 := 304) (by decide) (Or.inl rfl) (m_opb_of (ins := .invokevirtual 160) (len := 3) (tag := 5) (a := 246) (b := 2) (c := 0) (q := 1791) (by decide +kernel)) (by decide +kernel) rfl (show m_isO 246 304 (SH, _) = true from m_isO_of (by decide +kernel)) (Nat.le_of_ble_eq_true rfl) rfl rfl (ok_m_paper X (d + 2) F _ _ _ _ _ hc3) ?_
        refine m_R_sg (by decide) [(.iload_n 1, 1, 0, 1, 0, 0, 0)] (by decide +kernel) (show m_sgl X _ _ _ _ _ = some (31, [some (.ref 304), some (.int v1), some (.int v2), some (.int v3)], [.int v1, .int q3.1], (SH, q3.2.1, q3.2.2)) from rfl) ?_
        rcases m_ite h with ⟨c867, h⟩ | ⟨c867, h⟩
        · refine m_R_1 (by decide) (m_opb_of (ins := .if_icmp .ne 29) (len := 3) (tag := 0) (a := 60) (b := 0) (c := 0) (q := 0) (by decide +kernel)) (if_pos c867) ?_
          refine m_R_sg (by decide) [(.iload_n 2, 1, 0, 2, 0, 0, 0), (.aload_n 0, 1, 0, 0, 0, 0, 0), (.iload_n 3, 1, 0, 3, 0, 0, 0)] (by decide +kernel) (show m_sgl X _ _ _ _ _ = some (37, [some (.ref 304), some (.int v1), some (.int v2), some (.int v3)], [.int v3, .ref 304, .int v2], (SH, q3.2.1, q3.2.2)) from rfl) ?_
          obtain ⟨q4, hc4, h⟩ := Option.bind_eq_some_iff.mp h
          refine m_R_cV (v := (some (.int q4.1))) (h1 := (SH, q4.2)) (rest := [.int v2]) (lo' := [some (.ref 304), some (.int v3)]) (ml := 2) (k0 := 304) (by decide) (Or.inl rfl) (m_opb_of (ins := .invokevirtual 202) (len := 3) (tag := 5) (a := 284) (b := 1) (c := 0) (q := 1954) (by decide +kernel)) (by decide +kernel) rfl (show m_isO 284 304 (SH, _) = true from m_isO_of (by decide +kernel)) (Nat.le_of_ble_eq_true rfl) rfl rfl (ok_m_isClaim X (d + 0) F _ _ _ _ hc4) ?_
          rcases m_ite h with ⟨c868, h⟩ | ⟨c868, h⟩
          · refine m_R_1 (by decide) (m_opb_of (ins := .ifCond .eq 12) (len := 3) (tag := 0) (a := 52) (b := 0) (c := 0) (q := 0) (by decide +kernel)) (if_pos c868) ?_
            refine m_R_sg (by decide) [(.aload_n 0, 1, 0, 0, 0, 0, 0), (.iload_n 3, 1, 0, 3, 0, 0, 0), (.iconst 2, 1, 0, 2, 0, 0, 0)] (by decide +kernel) (show m_sgl X _ _ _ _ _ = some (55, [some (.ref 304), some (.int v1), some (.int v2), some (.int v3)], [.int (2 : Int32), .int v3, .ref 304, .int v2], (SH, q4.2.1, q4.2.2)) from rfl) ?_
            obtain ⟨q5, hc5, h⟩ := Option.bind_eq_some_iff.mp h
            refine m_R_cV (v := (some (.int q5.1))) (h1 := (SH, q5.2)) (rest := [.int v2]) (lo' := [some (.ref 304), some (.int v3), some (.int (2 : Int32))]) (ml := 3) (k0 := 304) (by decide) (Or.inl rfl) (m_opb_of (ins := .invokevirtual 160) (len := 3) (tag := 5) (a := 246) (b := 2) (c := 0) (q := 1791) (by decide +kernel)) (by decide +kernel) rfl (show m_isO 246 304 (SH, _) = true from m_isO_of (by decide +kernel)) (Nat.le_of_ble_eq_true rfl) rfl rfl (ok_m_paper X (d + 2) F _ _ _ _ _ hc5) ?_
            exact ok_m_assetsOf_58 X d F _ (fun a0 a1 a2 m r m' h => ih a0 a1 a2 m r m' h) _ _ _ _ _ _ _ _ h
          · refine m_R_1 (by decide) (m_opb_of (ins := .ifCond .eq 12) (len := 3) (tag := 0) (a := 52) (b := 0) (c := 0) (q := 0) (by decide +kernel)) (if_neg c868) ?_
            refine m_R_sg (by decide) [(.aload_n 0, 1, 0, 0, 0, 0, 0), (.getfield 27, 3, 0, 12, 6, 3, 1498), (.iload_n 3, 1, 0, 3, 0, 0, 0)] (by decide +kernel) (show m_sgl X _ _ _ _ _ = some (48, [some (.ref 304), some (.int v1), some (.int v2), some (.int v3)], [.int v3, .ref 309, .int v2], (SH, q4.2.1, q4.2.2)) from rfl) ?_
            obtain ⟨c869, h⟩ := m_ite_n h
            refine m_R_1 (by decide) (m_opb_of (ins := .iaload) (len := 1) (tag := 0) (a := 0) (b := 0) (c := 0) (q := 0) (by decide +kernel)) (m_s_iald sh_309 (by decide) c869) ?_
            refine m_R_sg (by decide) [(.goto 9, 3, 0, 58, 0, 0, 0)] (by decide +kernel) (show m_sgl X _ _ _ _ _ = some (58, [some (.ref 304), some (.int v1), some (.int v2), some (.int v3)], [.int (q4.2.1 309 v3.toNatClampNeg), .int v2], (SH, q4.2.1, q4.2.2)) from rfl) ?_
            exact ok_m_assetsOf_58 X d F _ (fun a0 a1 a2 m r m' h => ih a0 a1 a2 m r m' h) _ _ _ _ _ _ _ _ h
        · refine m_R_1 (by decide) (m_opb_of (ins := .if_icmp .ne 29) (len := 3) (tag := 0) (a := 60) (b := 0) (c := 0) (q := 0) (by decide +kernel)) (if_neg c867) ?_
          exact ok_m_assetsOf_60 X d F _ (fun a0 a1 a2 m r m' h => ih a0 a1 a2 m r m' h) _ _ _ _ _ _ h
      · refine m_R_1 (by decide) (m_opb_of (ins := .if_icmp .ne 39) (len := 3) (tag := 0) (a := 60) (b := 0) (c := 0) (q := 0) (by decide +kernel)) (if_neg c866) ?_
        exact ok_m_assetsOf_60 X d F _ (fun a0 a1 a2 m r m' h => ih a0 a1 a2 m r m' h) _ _ _ _ _ _ h
def f_m_assetsOf (F : Nat)   (v1 : Int32) (m : mM) : Option (Int32 × mM) := ((f_m_coinOf F v1 m).bind fun q1 => f_m_assetsOf_8 F F v1 q1.1 (0 : Int32) q1.2)
theorem ok_m_assetsOf (X : mX) (d F : Nat) : ∀ (v1 : Int32)  (m : mM) (r : Int32) (m' : mM), f_m_assetsOf F v1 m = some (r, m') → m_R X (d + 3) 286 0 [some (.ref 304), some (.int v1), none, none] [] (SH, m) (some (.int r), (SH, m')) := by
  intro v1 m r m' h
  unfold f_m_assetsOf at h
  refine m_R_sg (by decide) [(.aload_n 0, 1, 0, 0, 0, 0, 0), (.iload_n 1, 1, 0, 1, 0, 0, 0)] (by decide +kernel) (show m_sgl X _ _ _ _ _ = some (2, [some (.ref 304), some (.int v1), none, none], [.int v1, .ref 304], (SH, m.1, m.2)) from rfl) ?_
  obtain ⟨q1, hc1, h⟩ := Option.bind_eq_some_iff.mp h
  refine m_R_cV (v := (some (.int q1.1))) (h1 := (SH, q1.2)) (rest := []) (lo' := [some (.ref 304), some (.int v1)]) (ml := 2) (k0 := 304) (by decide) (Or.inl rfl) (m_opb_of (ins := .invokevirtual 86) (len := 3) (tag := 5) (a := 217) (b := 1) (c := 0) (q := 1653) (by decide +kernel)) (by decide +kernel) rfl (show m_isO 217 304 (SH, _) = true from m_isO_of (by decide +kernel)) (Nat.le_of_ble_eq_true rfl) rfl rfl (ok_m_coinOf X (d + 1) F _ _ _ _ hc1) ?_
  refine m_R_sg (by decide) [(.istore_n 2, 1, 0, 2, 0, 0, 0), (.iconst 0, 1, 0, 0, 0, 0, 0), (.istore_n 3, 1, 0, 3, 0, 0, 0)] (by decide +kernel) (show m_sgl X _ _ _ _ _ = some (8, [some (.ref 304), some (.int v1), some (.int q1.1), some (.int (0 : Int32))], [], (SH, q1.2.1, q1.2.2)) from rfl) ?_
  exact ok_m_assetsOf_8 X d F F _ _ _ _ _ _ h
def f_m_parts_67 (F : Nat)  (k6 : Int32 → Int32 → Int32 → Int64 → Int32 → mM → Option (Int32 × mM)) (v1 : Int32) (v2 : Int32) (v3 : Int32) (v6 : Int32) (s0 : Int64) (s1 : Int64) (m : mM) : Option (Int32 × mM) := k6 v1 v2 v3 (s0 + s1) (v6 + (1 : Int32)) m
theorem ok_m_parts_67 (X : mX) (d F : Nat) (k6 : Int32 → Int32 → Int32 → Int64 → Int32 → mM → Option (Int32 × mM)) (hk6 : ∀ (v1 : Int32) (v2 : Int32) (v3 : Int32) (v4 : Int64) (v6 : Int32) (w5 : Option Value) (m : mM) (r : Int32) (m' : mM), k6 v1 v2 v3 v4 v6 m = some (r, m') → m_R X (d + 3) 287 6 [some (.ref 304), some (.int v1), some (.int v2), some (.int v3), some (.long v4), w5, some (.int v6)] [] (SH, m) (some (.int r), (SH, m'))) : ∀ (v1 : Int32) (v2 : Int32) (v3 : Int32) (v6 : Int32) (s0 : Int64) (s1 : Int64) (w4 : Option Value) (w5 : Option Value) (m : mM) (r : Int32) (m' : mM), f_m_parts_67 F k6 v1 v2 v3 v6 s0 s1 m = some (r, m') → m_R X (d + 3) 287 67 [some (.ref 304), some (.int v1), some (.int v2), some (.int v3), w4, w5, some (.int v6)] [.long s1, .long s0] (SH, m) (some (.int r), (SH, m')) := by
  intro v1 v2 v3 v6 s0 s1 w4 w5 m r m' h
  unfold f_m_parts_67 at h
  refine m_R_sg (by decide) [(.ladd, 1, 0, 0, 0, 0, 0), (.lstore 4, 2, 0, 4, 0, 0, 0), (.iinc 6 1, 3, 0, 6, 1, 0, 0), (.goto (-67), 3, 0, 6, 0, 0, 0)] (by decide +kernel) (show m_sgl X _ _ _ _ _ = some (6, [some (.ref 304), some (.int v1), some (.int v2), some (.int v3), some (.long (s0 + s1)), none, some (.int (v6 + (1 : Int32)))], [], (SH, m.1, m.2)) from rfl) ?_
  exact hk6 _ _ _ _ _ _ _ _ _ h
def f_m_parts_66 (F : Nat)  (k6 : Int32 → Int32 → Int32 → Int64 → Int32 → mM → Option (Int32 × mM)) (v1 : Int32) (v2 : Int32) (v3 : Int32) (v6 : Int32) (s0 : Int64) (m : mM) : Option (Int32 × mM) := f_m_parts_67 F k6 v1 v2 v3 v6 s0 (0 : Int64) m
theorem ok_m_parts_66 (X : mX) (d F : Nat) (k6 : Int32 → Int32 → Int32 → Int64 → Int32 → mM → Option (Int32 × mM)) (hk6 : ∀ (v1 : Int32) (v2 : Int32) (v3 : Int32) (v4 : Int64) (v6 : Int32) (w5 : Option Value) (m : mM) (r : Int32) (m' : mM), k6 v1 v2 v3 v4 v6 m = some (r, m') → m_R X (d + 3) 287 6 [some (.ref 304), some (.int v1), some (.int v2), some (.int v3), some (.long v4), w5, some (.int v6)] [] (SH, m) (some (.int r), (SH, m'))) : ∀ (v1 : Int32) (v2 : Int32) (v3 : Int32) (v6 : Int32) (s0 : Int64) (w4 : Option Value) (w5 : Option Value) (m : mM) (r : Int32) (m' : mM), f_m_parts_66 F k6 v1 v2 v3 v6 s0 m = some (r, m') → m_R X (d + 3) 287 66 [some (.ref 304), some (.int v1), some (.int v2), some (.int v3), w4, w5, some (.int v6)] [.long s0] (SH, m) (some (.int r), (SH, m')) := by
  intro v1 v2 v3 v6 s0 w4 w5 m r m' h
  unfold f_m_parts_66 at h
  refine m_R_sg (by decide) [(.lconst 0, 1, 0, 0, 0, 0, 0)] (by decide +kernel) (show m_sgl X _ _ _ _ _ = some (67, [some (.ref 304), some (.int v1), some (.int v2), some (.int v3), w4, w5, some (.int v6)], [.long (0 : Int64), .long s0], (SH, m.1, m.2)) from rfl) ?_
  exact ok_m_parts_67 X d F _ hk6 _ _ _ _ _ _ _ _ _ _ _ h
def f_m_parts_51 (F : Nat)  (k6 : Int32 → Int32 → Int32 → Int64 → Int32 → mM → Option (Int32 × mM)) (v1 : Int32) (v2 : Int32) (v3 : Int32) (v6 : Int32) (s0 : Int64) (s1 : Int32) (m : mM) : Option (Int32 × mM) := (if s1 = v3 then ((f_m_paper F v6 (2 : Int32) m).bind fun q4 => f_m_parts_67 F k6 v1 v2 v3 v6 s0 q4.1.toInt64 q4.2) else f_m_parts_66 F k6 v1 v2 v3 v6 s0 m)
theorem ok_m_parts_51 (X : mX) (d F : Nat) (k6 : Int32 → Int32 → Int32 → Int64 → Int32 → mM → Option (Int32 × mM)) (hk6 : ∀ (v1 : Int32) (v2 : Int32) (v3 : Int32) (v4 : Int64) (v6 : Int32) (w5 : Option Value) (m : mM) (r : Int32) (m' : mM), k6 v1 v2 v3 v4 v6 m = some (r, m') → m_R X (d + 3) 287 6 [some (.ref 304), some (.int v1), some (.int v2), some (.int v3), some (.long v4), w5, some (.int v6)] [] (SH, m) (some (.int r), (SH, m'))) : ∀ (v1 : Int32) (v2 : Int32) (v3 : Int32) (v6 : Int32) (s0 : Int64) (s1 : Int32) (w4 : Option Value) (w5 : Option Value) (m : mM) (r : Int32) (m' : mM), f_m_parts_51 F k6 v1 v2 v3 v6 s0 s1 m = some (r, m') → m_R X (d + 3) 287 51 [some (.ref 304), some (.int v1), some (.int v2), some (.int v3), w4, w5, some (.int v6)] [.int s1, .long s0] (SH, m) (some (.int r), (SH, m')) := by
  intro v1 v2 v3 v6 s0 s1 w4 w5 m r m' h
  unfold f_m_parts_51 at h
  refine m_R_sg (by decide) [(.iload_n 3, 1, 0, 3, 0, 0, 0)] (by decide +kernel) (show m_sgl X _ _ _ _ _ = some (52, [some (.ref 304), some (.int v1), some (.int v2), some (.int v3), w4, w5, some (.int v6)], [.int v3, .int s1, .long s0], (SH, m.1, m.2)) from rfl) ?_
  rcases m_ite h with ⟨c870, h⟩ | ⟨c870, h⟩
  · refine m_R_1 (by decide) (m_opb_of (ins := .if_icmp .ne 14) (len := 3) (tag := 0) (a := 66) (b := 0) (c := 0) (q := 0) (by decide +kernel)) (if_pos c870) ?_
    refine m_R_sg (by decide) [(.aload_n 0, 1, 0, 0, 0, 0, 0), (.iload 6, 2, 0, 6, 0, 0, 0), (.iconst 2, 1, 0, 2, 0, 0, 0)] (by decide +kernel) (show m_sgl X _ _ _ _ _ = some (59, [some (.ref 304), some (.int v1), some (.int v2), some (.int v3), w4, w5, some (.int v6)], [.int (2 : Int32), .int v6, .ref 304, .long s0], (SH, m.1, m.2)) from rfl) ?_
    obtain ⟨q4, hc4, h⟩ := Option.bind_eq_some_iff.mp h
    refine m_R_cV (v := (some (.int q4.1))) (h1 := (SH, q4.2)) (rest := [.long s0]) (lo' := [some (.ref 304), some (.int v6), some (.int (2 : Int32))]) (ml := 3) (k0 := 304) (by decide) (Or.inl rfl) (m_opb_of (ins := .invokevirtual 160) (len := 3) (tag := 5) (a := 246) (b := 2) (c := 0) (q := 1791) (by decide +kernel)) (by decide +kernel) rfl (show m_isO 246 304 (SH, _) = true from m_isO_of (by decide +kernel)) (Nat.le_of_ble_eq_true rfl) rfl rfl (ok_m_paper X (d + 2) F _ _ _ _ _ hc4) ?_
    refine m_R_sg (by decide) [(.i2l, 1, 0, 0, 0, 0, 0), (.goto 4, 3, 0, 67, 0, 0, 0)] (by decide +kernel) (show m_sgl X _ _ _ _ _ = some (67, [some (.ref 304), some (.int v1), some (.int v2), some (.int v3), w4, w5, some (.int v6)], [.long q4.1.toInt64, .long s0], (SH, q4.2.1, q4.2.2)) from rfl) ?_
    exact ok_m_parts_67 X d F _ hk6 _ _ _ _ _ _ _ _ _ _ _ h
  · refine m_R_1 (by decide) (m_opb_of (ins := .if_icmp .ne 14) (len := 3) (tag := 0) (a := 66) (b := 0) (c := 0) (q := 0) (by decide +kernel)) (if_neg c870) ?_
    exact ok_m_parts_66 X d F _ hk6 _ _ _ _ _ _ _ _ _ _ h
def f_m_parts_169 (F : Nat)  (k79 : Int32 → Int32 → Int32 → Int64 → Int32 → mM → Option (Int32 × mM)) (v1 : Int32) (v2 : Int32) (v3 : Int32) (v4 : Int64) (v6 : Int32) (m : mM) : Option (Int32 × mM) := k79 v1 v2 v3 v4 (v6 + (1 : Int32)) m
theorem ok_m_parts_169 (X : mX) (d F : Nat) (k79 : Int32 → Int32 → Int32 → Int64 → Int32 → mM → Option (Int32 × mM)) (hk79 : ∀ (v1 : Int32) (v2 : Int32) (v3 : Int32) (v4 : Int64) (v6 : Int32) (w5 : Option Value) (m : mM) (r : Int32) (m' : mM), k79 v1 v2 v3 v4 v6 m = some (r, m') → m_R X (d + 3) 287 79 [some (.ref 304), some (.int v1), some (.int v2), some (.int v3), some (.long v4), w5, some (.int v6)] [] (SH, m) (some (.int r), (SH, m'))) : ∀ (v1 : Int32) (v2 : Int32) (v3 : Int32) (v4 : Int64) (v6 : Int32) (w5 : Option Value) (m : mM) (r : Int32) (m' : mM), f_m_parts_169 F k79 v1 v2 v3 v4 v6 m = some (r, m') → m_R X (d + 3) 287 169 [some (.ref 304), some (.int v1), some (.int v2), some (.int v3), some (.long v4), w5, some (.int v6)] [] (SH, m) (some (.int r), (SH, m')) := by
  intro v1 v2 v3 v4 v6 w5 m r m' h
  unfold f_m_parts_169 at h
  refine m_R_sg (by decide) [(.iinc 6 1, 3, 0, 6, 1, 0, 0), (.goto (-93), 3, 0, 79, 0, 0, 0)] (by decide +kernel) (show m_sgl X _ _ _ _ _ = some (79, [some (.ref 304), some (.int v1), some (.int v2), some (.int v3), some (.long v4), w5, some (.int (v6 + (1 : Int32)))], [], (SH, m.1, m.2)) from rfl) ?_
  exact hk79 _ _ _ _ _ _ _ _ _ h
def f_m_parts_168 (F : Nat)  (k79 : Int32 → Int32 → Int32 → Int64 → Int32 → mM → Option (Int32 × mM)) (v1 : Int32) (v2 : Int32) (v3 : Int32) (v4 : Int64) (v6 : Int32) (s1 : Int32) (s2 : Int32) (m : mM) : Option (Int32 × mM) := (if s1 < 0 ∨ 60 ≤ s1.toNatClampNeg then none else f_m_parts_169 F k79 v1 v2 v3 v4 v6 ((m_up m.1 310 s1.toNatClampNeg s2), m.2))
theorem ok_m_parts_168 (X : mX) (d F : Nat) (k79 : Int32 → Int32 → Int32 → Int64 → Int32 → mM → Option (Int32 × mM)) (hk79 : ∀ (v1 : Int32) (v2 : Int32) (v3 : Int32) (v4 : Int64) (v6 : Int32) (w5 : Option Value) (m : mM) (r : Int32) (m' : mM), k79 v1 v2 v3 v4 v6 m = some (r, m') → m_R X (d + 3) 287 79 [some (.ref 304), some (.int v1), some (.int v2), some (.int v3), some (.long v4), w5, some (.int v6)] [] (SH, m) (some (.int r), (SH, m'))) : ∀ (v1 : Int32) (v2 : Int32) (v3 : Int32) (v4 : Int64) (v6 : Int32) (s1 : Int32) (s2 : Int32) (w5 : Option Value) (m : mM) (r : Int32) (m' : mM), f_m_parts_168 F k79 v1 v2 v3 v4 v6 s1 s2 m = some (r, m') → m_R X (d + 3) 287 168 [some (.ref 304), some (.int v1), some (.int v2), some (.int v3), some (.long v4), w5, some (.int v6)] [.int s2, .int s1, .ref 310] (SH, m) (some (.int r), (SH, m')) := by
  intro v1 v2 v3 v4 v6 s1 s2 w5 m r m' h
  unfold f_m_parts_168 at h
  obtain ⟨c871, h⟩ := m_ite_n h
  refine m_R_1 (by decide) (m_opb_of (ins := .iastore) (len := 1) (tag := 0) (a := 0) (b := 0) (c := 0) (q := 0) (by decide +kernel)) (m_s_iast sh_310 c871) ?_
  exact ok_m_parts_169 X d F _ hk79 _ _ _ _ _ _ _ _ _ h
def f_m_parts_122 (F : Nat)  (k79 : Int32 → Int32 → Int32 → Int64 → Int32 → mM → Option (Int32 × mM)) (v1 : Int32) (v2 : Int32) (v3 : Int32) (v4 : Int64) (v6 : Int32) (s0 : Int32) (m : mM) : Option (Int32 × mM) := (if s0 = v3 then (if (lg_cmp v2.toInt64 v4) < 0 then ((f_m_paper F v6 (2 : Int32) m).bind fun q8 => (if v4 = 0 then none else f_m_parts_168 F k79 v1 v2 v3 v4 v6 v6 ((q8.1.toInt64 * v2.toInt64) / v4).toInt32 q8.2)) else ((f_m_paper F v6 (2 : Int32) m).bind fun q9 => f_m_parts_168 F k79 v1 v2 v3 v4 v6 v6 q9.1 q9.2)) else f_m_parts_169 F k79 v1 v2 v3 v4 v6 m)
theorem ok_m_parts_122 (X : mX) (d F : Nat) (k79 : Int32 → Int32 → Int32 → Int64 → Int32 → mM → Option (Int32 × mM)) (hk79 : ∀ (v1 : Int32) (v2 : Int32) (v3 : Int32) (v4 : Int64) (v6 : Int32) (w5 : Option Value) (m : mM) (r : Int32) (m' : mM), k79 v1 v2 v3 v4 v6 m = some (r, m') → m_R X (d + 3) 287 79 [some (.ref 304), some (.int v1), some (.int v2), some (.int v3), some (.long v4), w5, some (.int v6)] [] (SH, m) (some (.int r), (SH, m'))) : ∀ (v1 : Int32) (v2 : Int32) (v3 : Int32) (v4 : Int64) (v6 : Int32) (s0 : Int32) (w5 : Option Value) (m : mM) (r : Int32) (m' : mM), f_m_parts_122 F k79 v1 v2 v3 v4 v6 s0 m = some (r, m') → m_R X (d + 3) 287 122 [some (.ref 304), some (.int v1), some (.int v2), some (.int v3), some (.long v4), w5, some (.int v6)] [.int s0] (SH, m) (some (.int r), (SH, m')) := by
  intro v1 v2 v3 v4 v6 s0 w5 m r m' h
  unfold f_m_parts_122 at h
  refine m_R_sg (by decide) [(.iload_n 3, 1, 0, 3, 0, 0, 0)] (by decide +kernel) (show m_sgl X _ _ _ _ _ = some (123, [some (.ref 304), some (.int v1), some (.int v2), some (.int v3), some (.long v4), w5, some (.int v6)], [.int v3, .int s0], (SH, m.1, m.2)) from rfl) ?_
  rcases m_ite h with ⟨c872, h⟩ | ⟨c872, h⟩
  · refine m_R_1 (by decide) (m_opb_of (ins := .if_icmp .eq 6) (len := 3) (tag := 0) (a := 129) (b := 0) (c := 0) (q := 0) (by decide +kernel)) (if_pos c872) ?_
    refine m_R_sg (by decide) [(.aload_n 0, 1, 0, 0, 0, 0, 0), (.getfield 30, 3, 0, 12, 7, 3, 1499), (.iload 6, 2, 0, 6, 0, 0, 0), (.iload_n 2, 1, 0, 2, 0, 0, 0), (.i2l, 1, 0, 0, 0, 0, 0), (.lload 4, 2, 0, 4, 0, 0, 0), (.lcmp, 1, 0, 0, 0, 0, 0)] (by decide +kernel) (show m_sgl X _ _ _ _ _ = some (140, [some (.ref 304), some (.int v1), some (.int v2), some (.int v3), some (.long v4), w5, some (.int v6)], [.int (lg_cmp v2.toInt64 v4), .int v6, .ref 310], (SH, m.1, m.2)) from rfl) ?_
    rcases m_ite h with ⟨c873, h⟩ | ⟨c873, h⟩
    · refine m_R_1 (by decide) (m_opb_of (ins := .ifCond .lt 13) (len := 3) (tag := 0) (a := 153) (b := 0) (c := 0) (q := 0) (by decide +kernel)) (if_pos c873) ?_
      refine m_R_sg (by decide) [(.aload_n 0, 1, 0, 0, 0, 0, 0), (.iload 6, 2, 0, 6, 0, 0, 0), (.iconst 2, 1, 0, 2, 0, 0, 0)] (by decide +kernel) (show m_sgl X _ _ _ _ _ = some (157, [some (.ref 304), some (.int v1), some (.int v2), some (.int v3), some (.long v4), w5, some (.int v6)], [.int (2 : Int32), .int v6, .ref 304, .int v6, .ref 310], (SH, m.1, m.2)) from rfl) ?_
      obtain ⟨q8, hc8, h⟩ := Option.bind_eq_some_iff.mp h
      refine m_R_cV (v := (some (.int q8.1))) (h1 := (SH, q8.2)) (rest := [.int v6, .ref 310]) (lo' := [some (.ref 304), some (.int v6), some (.int (2 : Int32))]) (ml := 3) (k0 := 304) (by decide) (Or.inl rfl) (m_opb_of (ins := .invokevirtual 160) (len := 3) (tag := 5) (a := 246) (b := 2) (c := 0) (q := 1791) (by decide +kernel)) (by decide +kernel) rfl (show m_isO 246 304 (SH, _) = true from m_isO_of (by decide +kernel)) (Nat.le_of_ble_eq_true rfl) rfl rfl (ok_m_paper X (d + 2) F _ _ _ _ _ hc8) ?_
      refine m_R_sg (by decide) [(.i2l, 1, 0, 0, 0, 0, 0), (.iload_n 2, 1, 0, 2, 0, 0, 0), (.i2l, 1, 0, 0, 0, 0, 0), (.lmul, 1, 0, 0, 0, 0, 0), (.lload 4, 2, 0, 4, 0, 0, 0)] (by decide +kernel) (show m_sgl X _ _ _ _ _ = some (166, [some (.ref 304), some (.int v1), some (.int v2), some (.int v3), some (.long v4), w5, some (.int v6)], [.long v4, .long (q8.1.toInt64 * v2.toInt64), .int v6, .ref 310], (SH, q8.2.1, q8.2.2)) from rfl) ?_
      obtain ⟨c874, h⟩ := m_ite_n h
      refine m_R_1 (by decide) (m_opb_of (ins := .ldiv) (len := 1) (tag := 0) (a := 0) (b := 0) (c := 0) (q := 0) (by decide +kernel)) (m_s_ldiv c874) ?_
      refine m_R_sg (by decide) [(.l2i, 1, 0, 0, 0, 0, 0)] (by decide +kernel) (show m_sgl X _ _ _ _ _ = some (168, [some (.ref 304), some (.int v1), some (.int v2), some (.int v3), some (.long v4), w5, some (.int v6)], [.int ((q8.1.toInt64 * v2.toInt64) / v4).toInt32, .int v6, .ref 310], (SH, q8.2.1, q8.2.2)) from rfl) ?_
      exact ok_m_parts_168 X d F _ hk79 _ _ _ _ _ _ _ _ _ _ _ h
    · refine m_R_1 (by decide) (m_opb_of (ins := .ifCond .lt 13) (len := 3) (tag := 0) (a := 153) (b := 0) (c := 0) (q := 0) (by decide +kernel)) (if_neg c873) ?_
      refine m_R_sg (by decide) [(.aload_n 0, 1, 0, 0, 0, 0, 0), (.iload 6, 2, 0, 6, 0, 0, 0), (.iconst 2, 1, 0, 2, 0, 0, 0)] (by decide +kernel) (show m_sgl X _ _ _ _ _ = some (147, [some (.ref 304), some (.int v1), some (.int v2), some (.int v3), some (.long v4), w5, some (.int v6)], [.int (2 : Int32), .int v6, .ref 304, .int v6, .ref 310], (SH, m.1, m.2)) from rfl) ?_
      obtain ⟨q9, hc9, h⟩ := Option.bind_eq_some_iff.mp h
      refine m_R_cV (v := (some (.int q9.1))) (h1 := (SH, q9.2)) (rest := [.int v6, .ref 310]) (lo' := [some (.ref 304), some (.int v6), some (.int (2 : Int32))]) (ml := 3) (k0 := 304) (by decide) (Or.inl rfl) (m_opb_of (ins := .invokevirtual 160) (len := 3) (tag := 5) (a := 246) (b := 2) (c := 0) (q := 1791) (by decide +kernel)) (by decide +kernel) rfl (show m_isO 246 304 (SH, _) = true from m_isO_of (by decide +kernel)) (Nat.le_of_ble_eq_true rfl) rfl rfl (ok_m_paper X (d + 2) F _ _ _ _ _ hc9) ?_
      refine m_R_sg (by decide) [(.goto 18, 3, 0, 168, 0, 0, 0)] (by decide +kernel) (show m_sgl X _ _ _ _ _ = some (168, [some (.ref 304), some (.int v1), some (.int v2), some (.int v3), some (.long v4), w5, some (.int v6)], [.int q9.1, .int v6, .ref 310], (SH, q9.2.1, q9.2.2)) from rfl) ?_
      exact ok_m_parts_168 X d F _ hk79 _ _ _ _ _ _ _ _ _ _ _ h
  · refine m_R_1 (by decide) (m_opb_of (ins := .if_icmp .eq 6) (len := 3) (tag := 0) (a := 129) (b := 0) (c := 0) (q := 0) (by decide +kernel)) (if_neg c872) ?_
    refine m_R_sg (by decide) [(.goto 43, 3, 0, 169, 0, 0, 0)] (by decide +kernel) (show m_sgl X _ _ _ _ _ = some (169, [some (.ref 304), some (.int v1), some (.int v2), some (.int v3), some (.long v4), w5, some (.int v6)], [], (SH, m.1, m.2)) from rfl) ?_
    exact ok_m_parts_169 X d F _ hk79 _ _ _ _ _ _ _ _ _ h
def f_m_parts_193 (F : Nat)   (s0 : Int32) (m : mM) : Option (Int32 × mM) := some (s0, m)
theorem ok_m_parts_193 (X : mX) (d F : Nat) : ∀ (s0 : Int32) (w0 : Option Value) (w1 : Option Value) (w2 : Option Value) (w3 : Option Value) (w4 : Option Value) (w5 : Option Value) (w6 : Option Value) (m : mM) (r : Int32) (m' : mM), f_m_parts_193 F s0 m = some (r, m') → m_R X (d + 3) 287 193 [w0, w1, w2, w3, w4, w5, w6] [.int s0] (SH, m) (some (.int r), (SH, m')) := by
  intro s0 w0 w1 w2 w3 w4 w5 w6 m r m' h
  unfold f_m_parts_193 at h
  obtain ⟨rfl, rfl⟩ := m_some h
  exact m_R_iret (by decide) (m_opb_of (ins := .ireturn) (len := 1) (tag := 1) (a := 0) (b := 0) (c := 0) (q := 0) (by decide +kernel)) (Or.inl rfl)
def f_m_parts_79 (F : Nat)   : Nat → Int32 → Int32 → Int32 → Int64 → Int32 → mM → Option (Int32 × mM)
  | 0, _, _, _, _, _, _ => none
  | n + 1, v1, v2, v3, v4, v6, m => (if (60 : Int32) ≤ v6 then (if (lg_cmp v2.toInt64 v4) < 0 then f_m_parts_193 F (0 : Int32) m else f_m_parts_193 F (v2.toInt64 - v4).toInt32 m) else ((f_m_isClaim F v6 m).bind fun q5 => (if q5.1 = 0 then f_m_parts_169 F (f_m_parts_79 F n) v1 v2 v3 v4 v6 q5.2 else ((f_m_paper F v6 (3 : Int32) q5.2).bind fun q6 => (if q6.1 = v1 then ((f_m_paper F v6 (1 : Int32) q6.2).bind fun q7 => (if q7.1 = (2 : Int32) then f_m_parts_122 F (f_m_parts_79 F n) v1 v2 v3 v4 v6 (1 : Int32) q7.2 else f_m_parts_122 F (f_m_parts_79 F n) v1 v2 v3 v4 v6 (0 : Int32) q7.2)) else f_m_parts_169 F (f_m_parts_79 F n) v1 v2 v3 v4 v6 q6.2)))))
theorem ok_m_parts_79 (X : mX) (d F : Nat) : ∀ (n : Nat) (v1 : Int32) (v2 : Int32) (v3 : Int32) (v4 : Int64) (v6 : Int32) (w5 : Option Value) (m : mM) (r : Int32) (m' : mM), f_m_parts_79 F n v1 v2 v3 v4 v6 m = some (r, m') → m_R X (d + 3) 287 79 [some (.ref 304), some (.int v1), some (.int v2), some (.int v3), some (.long v4), w5, some (.int v6)] [] (SH, m) (some (.int r), (SH, m')) := by
  intro n
  induction n with
  | zero => intro v1 v2 v3 v4 v6 w5 m r m' h; cases h
  | succ n ih =>
    intro v1 v2 v3 v4 v6 w5 m r m' h
    simp only [f_m_parts_79] at h
    refine m_R_sg (by decide) [(.iload 6, 2, 0, 6, 0, 0, 0), (.bipush 60, 2, 0, 60, 0, 0, 0)] (by decide +kernel) (show m_sgl X _ _ _ _ _ = some (83, [some (.ref 304), some (.int v1), some (.int v2), some (.int v3), some (.long v4), w5, some (.int v6)], [.int (60 : Int32), .int v6], (SH, m.1, m.2)) from rfl) ?_
    rcases m_ite h with ⟨c875, h⟩ | ⟨c875, h⟩
    · refine m_R_1 (by decide) (m_opb_of (ins := .if_icmp .ge 92) (len := 3) (tag := 0) (a := 175) (b := 0) (c := 0) (q := 0) (by decide +kernel)) (if_pos c875) ?_
      refine m_R_sg (by decide) [(.iload_n 2, 1, 0, 2, 0, 0, 0), (.i2l, 1, 0, 0, 0, 0, 0), (.lload 4, 2, 0, 4, 0, 0, 0), (.lcmp, 1, 0, 0, 0, 0, 0)] (by decide +kernel) (show m_sgl X _ _ _ _ _ = some (180, [some (.ref 304), some (.int v1), some (.int v2), some (.int v3), some (.long v4), w5, some (.int v6)], [.int (lg_cmp v2.toInt64 v4)], (SH, m.1, m.2)) from rfl) ?_
      rcases m_ite h with ⟨c876, h⟩ | ⟨c876, h⟩
      · refine m_R_1 (by decide) (m_opb_of (ins := .ifCond .lt 12) (len := 3) (tag := 0) (a := 192) (b := 0) (c := 0) (q := 0) (by decide +kernel)) (if_pos c876) ?_
        refine m_R_sg (by decide) [(.iconst 0, 1, 0, 0, 0, 0, 0)] (by decide +kernel) (show m_sgl X _ _ _ _ _ = some (193, [some (.ref 304), some (.int v1), some (.int v2), some (.int v3), some (.long v4), w5, some (.int v6)], [.int (0 : Int32)], (SH, m.1, m.2)) from rfl) ?_
        exact ok_m_parts_193 X d F _ _ _ _ _ _ _ _ _ _ _ h
      · refine m_R_1 (by decide) (m_opb_of (ins := .ifCond .lt 12) (len := 3) (tag := 0) (a := 192) (b := 0) (c := 0) (q := 0) (by decide +kernel)) (if_neg c876) ?_
        refine m_R_sg (by decide) [(.iload_n 2, 1, 0, 2, 0, 0, 0), (.i2l, 1, 0, 0, 0, 0, 0), (.lload 4, 2, 0, 4, 0, 0, 0), (.lsub, 1, 0, 0, 0, 0, 0), (.l2i, 1, 0, 0, 0, 0, 0), (.goto 4, 3, 0, 193, 0, 0, 0)] (by decide +kernel) (show m_sgl X _ _ _ _ _ = some (193, [some (.ref 304), some (.int v1), some (.int v2), some (.int v3), some (.long v4), w5, some (.int v6)], [.int (v2.toInt64 - v4).toInt32], (SH, m.1, m.2)) from rfl) ?_
        exact ok_m_parts_193 X d F _ _ _ _ _ _ _ _ _ _ _ h
    · refine m_R_1 (by decide) (m_opb_of (ins := .if_icmp .ge 92) (len := 3) (tag := 0) (a := 175) (b := 0) (c := 0) (q := 0) (by decide +kernel)) (if_neg c875) ?_
      refine m_R_sg (by decide) [(.aload_n 0, 1, 0, 0, 0, 0, 0), (.iload 6, 2, 0, 6, 0, 0, 0)] (by decide +kernel) (show m_sgl X _ _ _ _ _ = some (89, [some (.ref 304), some (.int v1), some (.int v2), some (.int v3), some (.long v4), w5, some (.int v6)], [.int v6, .ref 304], (SH, m.1, m.2)) from rfl) ?_
      obtain ⟨q5, hc5, h⟩ := Option.bind_eq_some_iff.mp h
      refine m_R_cV (v := (some (.int q5.1))) (h1 := (SH, q5.2)) (rest := []) (lo' := [some (.ref 304), some (.int v6)]) (ml := 2) (k0 := 304) (by decide) (Or.inl rfl) (m_opb_of (ins := .invokevirtual 202) (len := 3) (tag := 5) (a := 284) (b := 1) (c := 0) (q := 1954) (by decide +kernel)) (by decide +kernel) rfl (show m_isO 284 304 (SH, _) = true from m_isO_of (by decide +kernel)) (Nat.le_of_ble_eq_true rfl) rfl rfl (ok_m_isClaim X (d + 0) F _ _ _ _ hc5) ?_
      rcases m_ite h with ⟨c877, h⟩ | ⟨c877, h⟩
      · refine m_R_1 (by decide) (m_opb_of (ins := .ifCond .eq 77) (len := 3) (tag := 0) (a := 169) (b := 0) (c := 0) (q := 0) (by decide +kernel)) (if_pos c877) ?_
        exact ok_m_parts_169 X d F _ (fun a0 a1 a2 a3 a4 a5 m r m' h => ih a0 a1 a2 a3 a4 a5 m r m' h) _ _ _ _ _ _ _ _ _ h
      · refine m_R_1 (by decide) (m_opb_of (ins := .ifCond .eq 77) (len := 3) (tag := 0) (a := 169) (b := 0) (c := 0) (q := 0) (by decide +kernel)) (if_neg c877) ?_
        refine m_R_sg (by decide) [(.aload_n 0, 1, 0, 0, 0, 0, 0), (.iload 6, 2, 0, 6, 0, 0, 0), (.iconst 3, 1, 0, 3, 0, 0, 0)] (by decide +kernel) (show m_sgl X _ _ _ _ _ = some (99, [some (.ref 304), some (.int v1), some (.int v2), some (.int v3), some (.long v4), w5, some (.int v6)], [.int (3 : Int32), .int v6, .ref 304], (SH, q5.2.1, q5.2.2)) from rfl) ?_
        obtain ⟨q6, hc6, h⟩ := Option.bind_eq_some_iff.mp h
        refine m_R_cV (v := (some (.int q6.1))) (h1 := (SH, q6.2)) (rest := []) (lo' := [some (.ref 304), some (.int v6), some (.int (3 : Int32))]) (ml := 3) (k0 := 304) (by decide) (Or.inl rfl) (m_opb_of (ins := .invokevirtual 160) (len := 3) (tag := 5) (a := 246) (b := 2) (c := 0) (q := 1791) (by decide +kernel)) (by decide +kernel) rfl (show m_isO 246 304 (SH, _) = true from m_isO_of (by decide +kernel)) (Nat.le_of_ble_eq_true rfl) rfl rfl (ok_m_paper X (d + 2) F _ _ _ _ _ hc6) ?_
        refine m_R_sg (by decide) [(.iload_n 1, 1, 0, 1, 0, 0, 0)] (by decide +kernel) (show m_sgl X _ _ _ _ _ = some (103, [some (.ref 304), some (.int v1), some (.int v2), some (.int v3), some (.long v4), w5, some (.int v6)], [.int v1, .int q6.1], (SH, q6.2.1, q6.2.2)) from rfl) ?_
        rcases m_ite h with ⟨c878, h⟩ | ⟨c878, h⟩
        · refine m_R_1 (by decide) (m_opb_of (ins := .if_icmp .ne 66) (len := 3) (tag := 0) (a := 169) (b := 0) (c := 0) (q := 0) (by decide +kernel)) (if_pos c878) ?_
          refine m_R_sg (by decide) [(.aload_n 0, 1, 0, 0, 0, 0, 0), (.iload 6, 2, 0, 6, 0, 0, 0), (.iconst 1, 1, 0, 1, 0, 0, 0)] (by decide +kernel) (show m_sgl X _ _ _ _ _ = some (110, [some (.ref 304), some (.int v1), some (.int v2), some (.int v3), some (.long v4), w5, some (.int v6)], [.int (1 : Int32), .int v6, .ref 304], (SH, q6.2.1, q6.2.2)) from rfl) ?_
          obtain ⟨q7, hc7, h⟩ := Option.bind_eq_some_iff.mp h
          refine m_R_cV (v := (some (.int q7.1))) (h1 := (SH, q7.2)) (rest := []) (lo' := [some (.ref 304), some (.int v6), some (.int (1 : Int32))]) (ml := 3) (k0 := 304) (by decide) (Or.inl rfl) (m_opb_of (ins := .invokevirtual 160) (len := 3) (tag := 5) (a := 246) (b := 2) (c := 0) (q := 1791) (by decide +kernel)) (by decide +kernel) rfl (show m_isO 246 304 (SH, _) = true from m_isO_of (by decide +kernel)) (Nat.le_of_ble_eq_true rfl) rfl rfl (ok_m_paper X (d + 2) F _ _ _ _ _ hc7) ?_
          refine m_R_sg (by decide) [(.iconst 2, 1, 0, 2, 0, 0, 0)] (by decide +kernel) (show m_sgl X _ _ _ _ _ = some (114, [some (.ref 304), some (.int v1), some (.int v2), some (.int v3), some (.long v4), w5, some (.int v6)], [.int (2 : Int32), .int q7.1], (SH, q7.2.1, q7.2.2)) from rfl) ?_
          rcases m_ite h with ⟨c879, h⟩ | ⟨c879, h⟩
          · refine m_R_1 (by decide) (m_opb_of (ins := .if_icmp .ne 7) (len := 3) (tag := 0) (a := 121) (b := 0) (c := 0) (q := 0) (by decide +kernel)) (if_pos c879) ?_
            refine m_R_sg (by decide) [(.iconst 1, 1, 0, 1, 0, 0, 0), (.goto 4, 3, 0, 122, 0, 0, 0)] (by decide +kernel) (show m_sgl X _ _ _ _ _ = some (122, [some (.ref 304), some (.int v1), some (.int v2), some (.int v3), some (.long v4), w5, some (.int v6)], [.int (1 : Int32)], (SH, q7.2.1, q7.2.2)) from rfl) ?_
            exact ok_m_parts_122 X d F _ (fun a0 a1 a2 a3 a4 a5 m r m' h => ih a0 a1 a2 a3 a4 a5 m r m' h) _ _ _ _ _ _ _ _ _ _ h
          · refine m_R_1 (by decide) (m_opb_of (ins := .if_icmp .ne 7) (len := 3) (tag := 0) (a := 121) (b := 0) (c := 0) (q := 0) (by decide +kernel)) (if_neg c879) ?_
            refine m_R_sg (by decide) [(.iconst 0, 1, 0, 0, 0, 0, 0)] (by decide +kernel) (show m_sgl X _ _ _ _ _ = some (122, [some (.ref 304), some (.int v1), some (.int v2), some (.int v3), some (.long v4), w5, some (.int v6)], [.int (0 : Int32)], (SH, q7.2.1, q7.2.2)) from rfl) ?_
            exact ok_m_parts_122 X d F _ (fun a0 a1 a2 a3 a4 a5 m r m' h => ih a0 a1 a2 a3 a4 a5 m r m' h) _ _ _ _ _ _ _ _ _ _ h
        · refine m_R_1 (by decide) (m_opb_of (ins := .if_icmp .ne 66) (len := 3) (tag := 0) (a := 169) (b := 0) (c := 0) (q := 0) (by decide +kernel)) (if_neg c878) ?_
          exact ok_m_parts_169 X d F _ (fun a0 a1 a2 a3 a4 a5 m r m' h => ih a0 a1 a2 a3 a4 a5 m r m' h) _ _ _ _ _ _ _ _ _ h
def f_m_parts_6 (F : Nat)   : Nat → Int32 → Int32 → Int32 → Int64 → Int32 → mM → Option (Int32 × mM)
  | 0, _, _, _, _, _, _ => none
  | n + 1, v1, v2, v3, v4, v6, m => (if (60 : Int32) ≤ v6 then f_m_parts_79 F F v1 v2 v3 v4 (0 : Int32) m else ((f_m_isClaim F v6 m).bind fun q1 => (if q1.1 = 0 then f_m_parts_66 F (f_m_parts_6 F n) v1 v2 v3 v6 v4 q1.2 else ((f_m_paper F v6 (3 : Int32) q1.2).bind fun q2 => (if q2.1 = v1 then ((f_m_paper F v6 (1 : Int32) q2.2).bind fun q3 => (if q3.1 = (2 : Int32) then f_m_parts_51 F (f_m_parts_6 F n) v1 v2 v3 v6 v4 (1 : Int32) q3.2 else f_m_parts_51 F (f_m_parts_6 F n) v1 v2 v3 v6 v4 (0 : Int32) q3.2)) else f_m_parts_66 F (f_m_parts_6 F n) v1 v2 v3 v6 v4 q2.2)))))
theorem ok_m_parts_6 (X : mX) (d F : Nat) : ∀ (n : Nat) (v1 : Int32) (v2 : Int32) (v3 : Int32) (v4 : Int64) (v6 : Int32) (w5 : Option Value) (m : mM) (r : Int32) (m' : mM), f_m_parts_6 F n v1 v2 v3 v4 v6 m = some (r, m') → m_R X (d + 3) 287 6 [some (.ref 304), some (.int v1), some (.int v2), some (.int v3), some (.long v4), w5, some (.int v6)] [] (SH, m) (some (.int r), (SH, m')) := by
  intro n
  induction n with
  | zero => intro v1 v2 v3 v4 v6 w5 m r m' h; cases h
  | succ n ih =>
    intro v1 v2 v3 v4 v6 w5 m r m' h
    simp only [f_m_parts_6] at h
    refine m_R_sg (by decide) [(.iload 6, 2, 0, 6, 0, 0, 0), (.bipush 60, 2, 0, 60, 0, 0, 0)] (by decide +kernel) (show m_sgl X _ _ _ _ _ = some (10, [some (.ref 304), some (.int v1), some (.int v2), some (.int v3), some (.long v4), w5, some (.int v6)], [.int (60 : Int32), .int v6], (SH, m.1, m.2)) from rfl) ?_
    rcases m_ite h with ⟨c880, h⟩ | ⟨c880, h⟩
    · refine m_R_1 (by decide) (m_opb_of (ins := .if_icmp .ge 66) (len := 3) (tag := 0) (a := 76) (b := 0) (c := 0) (q := 0) (by decide +kernel)) (if_pos c880) ?_
      refine m_R_sg (by decide) [(.iconst 0, 1, 0, 0, 0, 0, 0), (.istore 6, 2, 0, 6, 0, 0, 0)] (by decide +kernel) (show m_sgl X _ _ _ _ _ = some (79, [some (.ref 304), some (.int v1), some (.int v2), some (.int v3), some (.long v4), (m_cl w5), some (.int (0 : Int32))], [], (SH, m.1, m.2)) from rfl) ?_
      exact ok_m_parts_79 X d F F _ _ _ _ _ _ _ _ _ h
    · refine m_R_1 (by decide) (m_opb_of (ins := .if_icmp .ge 66) (len := 3) (tag := 0) (a := 76) (b := 0) (c := 0) (q := 0) (by decide +kernel)) (if_neg c880) ?_
      refine m_R_sg (by decide) [(.lload 4, 2, 0, 4, 0, 0, 0), (.aload_n 0, 1, 0, 0, 0, 0, 0), (.iload 6, 2, 0, 6, 0, 0, 0)] (by decide +kernel) (show m_sgl X _ _ _ _ _ = some (18, [some (.ref 304), some (.int v1), some (.int v2), some (.int v3), some (.long v4), w5, some (.int v6)], [.int v6, .ref 304, .long v4], (SH, m.1, m.2)) from rfl) ?_
      obtain ⟨q1, hc1, h⟩ := Option.bind_eq_some_iff.mp h
      refine m_R_cV (v := (some (.int q1.1))) (h1 := (SH, q1.2)) (rest := [.long v4]) (lo' := [some (.ref 304), some (.int v6)]) (ml := 2) (k0 := 304) (by decide) (Or.inl rfl) (m_opb_of (ins := .invokevirtual 202) (len := 3) (tag := 5) (a := 284) (b := 1) (c := 0) (q := 1954) (by decide +kernel)) (by decide +kernel) rfl (show m_isO 284 304 (SH, _) = true from m_isO_of (by decide +kernel)) (Nat.le_of_ble_eq_true rfl) rfl rfl (ok_m_isClaim X (d + 0) F _ _ _ _ hc1) ?_
      rcases m_ite h with ⟨c881, h⟩ | ⟨c881, h⟩
      · refine m_R_1 (by decide) (m_opb_of (ins := .ifCond .eq 45) (len := 3) (tag := 0) (a := 66) (b := 0) (c := 0) (q := 0) (by decide +kernel)) (if_pos c881) ?_
        exact ok_m_parts_66 X d F _ (fun a0 a1 a2 a3 a4 a5 m r m' h => ih a0 a1 a2 a3 a4 a5 m r m' h) _ _ _ _ _ _ _ _ _ _ h
      · refine m_R_1 (by decide) (m_opb_of (ins := .ifCond .eq 45) (len := 3) (tag := 0) (a := 66) (b := 0) (c := 0) (q := 0) (by decide +kernel)) (if_neg c881) ?_
        refine m_R_sg (by decide) [(.aload_n 0, 1, 0, 0, 0, 0, 0), (.iload 6, 2, 0, 6, 0, 0, 0), (.iconst 3, 1, 0, 3, 0, 0, 0)] (by decide +kernel) (show m_sgl X _ _ _ _ _ = some (28, [some (.ref 304), some (.int v1), some (.int v2), some (.int v3), some (.long v4), w5, some (.int v6)], [.int (3 : Int32), .int v6, .ref 304, .long v4], (SH, q1.2.1, q1.2.2)) from rfl) ?_
        obtain ⟨q2, hc2, h⟩ := Option.bind_eq_some_iff.mp h
        refine m_R_cV (v := (some (.int q2.1))) (h1 := (SH, q2.2)) (rest := [.long v4]) (lo' := [some (.ref 304), some (.int v6), some (.int (3 : Int32))]) (ml := 3) (k0 := 304) (by decide) (Or.inl rfl) (m_opb_of (ins := .invokevirtual 160) (len := 3) (tag := 5) (a := 246) (b := 2) (c := 0) (q := 1791) (by decide +kernel)) (by decide +kernel) rfl (show m_isO 246 304 (SH, _) = true from m_isO_of (by decide +kernel)) (Nat.le_of_ble_eq_true rfl) rfl rfl (ok_m_paper X (d + 2) F _ _ _ _ _ hc2) ?_
        refine m_R_sg (by decide) [(.iload_n 1, 1, 0, 1, 0, 0, 0)] (by decide +kernel) (show m_sgl X _ _ _ _ _ = some (32, [some (.ref 304), some (.int v1), some (.int v2), some (.int v3), some (.long v4), w5, some (.int v6)], [.int v1, .int q2.1, .long v4], (SH, q2.2.1, q2.2.2)) from rfl) ?_
        rcases m_ite h with ⟨c882, h⟩ | ⟨c882, h⟩
        · refine m_R_1 (by decide) (m_opb_of (ins := .if_icmp .ne 34) (len := 3) (tag := 0) (a := 66) (b := 0) (c := 0) (q := 0) (by decide +kernel)) (if_pos c882) ?_
          refine m_R_sg (by decide) [(.aload_n 0, 1, 0, 0, 0, 0, 0), (.iload 6, 2, 0, 6, 0, 0, 0), (.iconst 1, 1, 0, 1, 0, 0, 0)] (by decide +kernel) (show m_sgl X _ _ _ _ _ = some (39, [some (.ref 304), some (.int v1), some (.int v2), some (.int v3), some (.long v4), w5, some (.int v6)], [.int (1 : Int32), .int v6, .ref 304, .long v4], (SH, q2.2.1, q2.2.2)) from rfl) ?_
          obtain ⟨q3, hc3, h⟩ := Option.bind_eq_some_iff.mp h
          refine m_R_cV (v := (some (.int q3.1))) (h1 := (SH, q3.2)) (rest := [.long v4]) (lo' := [some (.ref 304), some (.int v6), some (.int (1 : Int32))]) (ml := 3) (k0 := 304) (by decide) (Or.inl rfl) (m_opb_of (ins := .invokevirtual 160) (len := 3) (tag := 5) (a := 246) (b := 2) (c := 0) (q := 1791) (by decide +kernel)) (by decide +kernel) rfl (show m_isO 246 304 (SH, _) = true from m_isO_of (by decide +kernel)) (Nat.le_of_ble_eq_true rfl) rfl rfl (ok_m_paper X (d + 2) F _ _ _ _ _ hc3) ?_
          refine m_R_sg (by decide) [(.iconst 2, 1, 0, 2, 0, 0, 0)] (by decide +kernel) (show m_sgl X _ _ _ _ _ = some (43, [some (.ref 304), some (.int v1), some (.int v2), some (.int v3), some (.long v4), w5, some (.int v6)], [.int (2 : Int32), .int q3.1, .long v4], (SH, q3.2.1, q3.2.2)) from rfl) ?_
          rcases m_ite h with ⟨c883, h⟩ | ⟨c883, h⟩
          · refine m_R_1 (by decide) (m_opb_of (ins := .if_icmp .ne 7) (len := 3) (tag := 0) (a := 50) (b := 0) (c := 0) (q := 0) (by decide +kernel)) (if_pos c883) ?_
            refine m_R_sg (by decide) [(.iconst 1, 1, 0, 1, 0, 0, 0), (.goto 4, 3, 0, 51, 0, 0, 0)] (by decide +kernel) (show m_sgl X _ _ _ _ _ = some (51, [some (.ref 304), some (.int v1), some (.int v2), some (.int v3), some (.long v4), w5, some (.int v6)], [.int (1 : Int32), .long v4], (SH, q3.2.1, q3.2.2)) from rfl) ?_
            exact ok_m_parts_51 X d F _ (fun a0 a1 a2 a3 a4 a5 m r m' h => ih a0 a1 a2 a3 a4 a5 m r m' h) _ _ _ _ _ _ _ _ _ _ _ h
          · refine m_R_1 (by decide) (m_opb_of (ins := .if_icmp .ne 7) (len := 3) (tag := 0) (a := 50) (b := 0) (c := 0) (q := 0) (by decide +kernel)) (if_neg c883) ?_
            refine m_R_sg (by decide) [(.iconst 0, 1, 0, 0, 0, 0, 0)] (by decide +kernel) (show m_sgl X _ _ _ _ _ = some (51, [some (.ref 304), some (.int v1), some (.int v2), some (.int v3), some (.long v4), w5, some (.int v6)], [.int (0 : Int32), .long v4], (SH, q3.2.1, q3.2.2)) from rfl) ?_
            exact ok_m_parts_51 X d F _ (fun a0 a1 a2 a3 a4 a5 m r m' h => ih a0 a1 a2 a3 a4 a5 m r m' h) _ _ _ _ _ _ _ _ _ _ _ h
        · refine m_R_1 (by decide) (m_opb_of (ins := .if_icmp .ne 34) (len := 3) (tag := 0) (a := 66) (b := 0) (c := 0) (q := 0) (by decide +kernel)) (if_neg c882) ?_
          exact ok_m_parts_66 X d F _ (fun a0 a1 a2 a3 a4 a5 m r m' h => ih a0 a1 a2 a3 a4 a5 m r m' h) _ _ _ _ _ _ _ _ _ _ h
def f_m_parts (F : Nat)   (v1 : Int32) (v2 : Int32) (v3 : Int32) (m : mM) : Option (Int32 × mM) := f_m_parts_6 F F v1 v2 v3 (0 : Int64) (0 : Int32) m
theorem ok_m_parts (X : mX) (d F : Nat) : ∀ (v1 : Int32) (v2 : Int32) (v3 : Int32)  (m : mM) (r : Int32) (m' : mM), f_m_parts F v1 v2 v3 m = some (r, m') → m_R X (d + 3) 287 0 [some (.ref 304), some (.int v1), some (.int v2), some (.int v3), none, none, none] [] (SH, m) (some (.int r), (SH, m')) := by
  intro v1 v2 v3 m r m' h
  unfold f_m_parts at h
  refine m_R_sg (by decide) [(.lconst 0, 1, 0, 0, 0, 0, 0), (.lstore 4, 2, 0, 4, 0, 0, 0), (.iconst 0, 1, 0, 0, 0, 0, 0), (.istore 6, 2, 0, 6, 0, 0, 0)] (by decide +kernel) (show m_sgl X _ _ _ _ _ = some (6, [some (.ref 304), some (.int v1), some (.int v2), some (.int v3), some (.long (0 : Int64)), none, some (.int (0 : Int32))], [], (SH, m.1, m.2)) from rfl) ?_
  exact ok_m_parts_6 X d F F _ _ _ _ _ _ _ _ _ h
def f_m_settle_92 (F : Nat)  (k23 : Int32 → mM → Option (Unit × mM)) (k50 : Int32 → mM → Option (Unit × mM)) (v2 : Int32) (m : mM) : Option (Unit × mM) := k50 (v2 + (1 : Int32)) m
theorem ok_m_settle_92 (X : mX) (d F : Nat) (k23 : Int32 → mM → Option (Unit × mM)) (hk23 : ∀ (v1 : Int32) (w2 : Option Value) (w3 : Option Value) (w4 : Option Value) (m : mM) (r : Unit) (m' : mM), k23 v1 m = some (r, m') → m_R X (d + 4) 285 23 [some (.ref 304), some (.int v1), w2, w3, w4] [] (SH, m) (none, (SH, m'))) (k50 : Int32 → mM → Option (Unit × mM)) (hk50 : ∀ (v2 : Int32) (w1 : Option Value) (w3 : Option Value) (w4 : Option Value) (m : mM) (r : Unit) (m' : mM), k50 v2 m = some (r, m') → m_R X (d + 4) 285 50 [some (.ref 304), w1, some (.int v2), w3, w4] [] (SH, m) (none, (SH, m'))) : ∀ (v2 : Int32) (w1 : Option Value) (w3 : Option Value) (w4 : Option Value) (m : mM) (r : Unit) (m' : mM), f_m_settle_92 F k23 k50 v2 m = some (r, m') → m_R X (d + 4) 285 92 [some (.ref 304), w1, some (.int v2), w3, w4] [] (SH, m) (none, (SH, m')) := by
  intro v2 w1 w3 w4 m r m' h
  unfold f_m_settle_92 at h
  refine m_R_sg (by decide) [(.iinc 2 1, 3, 0, 2, 1, 0, 0), (.goto (-45), 3, 0, 50, 0, 0, 0)] (by decide +kernel) (show m_sgl X _ _ _ _ _ = some (50, [some (.ref 304), w1, some (.int (v2 + (1 : Int32))), w3, w4], [], (SH, m.1, m.2)) from rfl) ?_
  exact hk50 _ _ _ _ _ _ _ h
def f_m_settle_132 (F : Nat)  (k23 : Int32 → mM → Option (Unit × mM)) (k102 : Int32 → Int32 → mM → Option (Unit × mM)) (v2 : Int32) (s0 : Int32) (m : mM) : Option (Unit × mM) := (if v2 < 0 ∨ 60 ≤ v2.toNatClampNeg then none else k102 s0 (v2 + (1 : Int32)) ((m_up m.1 309 v2.toNatClampNeg (m.1 310 v2.toNatClampNeg)), m.2))
theorem ok_m_settle_132 (X : mX) (d F : Nat) (k23 : Int32 → mM → Option (Unit × mM)) (hk23 : ∀ (v1 : Int32) (w2 : Option Value) (w3 : Option Value) (w4 : Option Value) (m : mM) (r : Unit) (m' : mM), k23 v1 m = some (r, m') → m_R X (d + 4) 285 23 [some (.ref 304), some (.int v1), w2, w3, w4] [] (SH, m) (none, (SH, m'))) (k102 : Int32 → Int32 → mM → Option (Unit × mM)) (hk102 : ∀ (v1 : Int32) (v2 : Int32) (w3 : Option Value) (w4 : Option Value) (m : mM) (r : Unit) (m' : mM), k102 v1 v2 m = some (r, m') → m_R X (d + 4) 285 102 [some (.ref 304), some (.int v1), some (.int v2), w3, w4] [] (SH, m) (none, (SH, m'))) : ∀ (v2 : Int32) (s0 : Int32) (w1 : Option Value) (w3 : Option Value) (w4 : Option Value) (m : mM) (r : Unit) (m' : mM), f_m_settle_132 F k23 k102 v2 s0 m = some (r, m') → m_R X (d + 4) 285 132 [some (.ref 304), w1, some (.int v2), w3, w4] [.int s0] (SH, m) (none, (SH, m')) := by
  intro v2 s0 w1 w3 w4 m r m' h
  unfold f_m_settle_132 at h
  refine m_R_sg (by decide) [(.istore_n 1, 1, 0, 1, 0, 0, 0), (.aload_n 0, 1, 0, 0, 0, 0, 0), (.getfield 27, 3, 0, 12, 6, 3, 1498), (.iload_n 2, 1, 0, 2, 0, 0, 0), (.aload_n 0, 1, 0, 0, 0, 0, 0), (.getfield 30, 3, 0, 12, 7, 3, 1499), (.iload_n 2, 1, 0, 2, 0, 0, 0)] (by decide +kernel) (show m_sgl X _ _ _ _ _ = some (143, [some (.ref 304), some (.int s0), some (.int v2), w3, w4], [.int v2, .ref 310, .int v2, .ref 309], (SH, m.1, m.2)) from rfl) ?_
  obtain ⟨c884, h⟩ := m_ite_n h
  refine m_R_1 (by decide) (m_opb_of (ins := .iaload) (len := 1) (tag := 0) (a := 0) (b := 0) (c := 0) (q := 0) (by decide +kernel)) (m_s_iald sh_310 (by decide) c884) ?_
  refine m_R_1 (by decide) (m_opb_of (ins := .iastore) (len := 1) (tag := 0) (a := 0) (b := 0) (c := 0) (q := 0) (by decide +kernel)) (m_s_iast sh_309 c884) ?_
  refine m_R_sg (by decide) [(.iinc 2 1, 3, 0, 2, 1, 0, 0), (.goto (-46), 3, 0, 102, 0, 0, 0)] (by decide +kernel) (show m_sgl X _ _ _ _ _ = some (102, [some (.ref 304), some (.int s0), some (.int (v2 + (1 : Int32))), w3, w4], [], (SH, (m_up m.1 309 v2.toNatClampNeg (m.1 310 v2.toNatClampNeg)), m.2)) from rfl) ?_
  exact hk102 _ _ _ _ _ _ _ h
def f_m_settle_127 (F : Nat)  (k23 : Int32 → mM → Option (Unit × mM)) (k102 : Int32 → Int32 → mM → Option (Unit × mM)) (v2 : Int32) (m : mM) : Option (Unit × mM) := f_m_settle_132 F k23 k102 v2 (1 : Int32) m
theorem ok_m_settle_127 (X : mX) (d F : Nat) (k23 : Int32 → mM → Option (Unit × mM)) (hk23 : ∀ (v1 : Int32) (w2 : Option Value) (w3 : Option Value) (w4 : Option Value) (m : mM) (r : Unit) (m' : mM), k23 v1 m = some (r, m') → m_R X (d + 4) 285 23 [some (.ref 304), some (.int v1), w2, w3, w4] [] (SH, m) (none, (SH, m'))) (k102 : Int32 → Int32 → mM → Option (Unit × mM)) (hk102 : ∀ (v1 : Int32) (v2 : Int32) (w3 : Option Value) (w4 : Option Value) (m : mM) (r : Unit) (m' : mM), k102 v1 v2 m = some (r, m') → m_R X (d + 4) 285 102 [some (.ref 304), some (.int v1), some (.int v2), w3, w4] [] (SH, m) (none, (SH, m'))) : ∀ (v2 : Int32) (w1 : Option Value) (w3 : Option Value) (w4 : Option Value) (m : mM) (r : Unit) (m' : mM), f_m_settle_127 F k23 k102 v2 m = some (r, m') → m_R X (d + 4) 285 127 [some (.ref 304), w1, some (.int v2), w3, w4] [] (SH, m) (none, (SH, m')) := by
  intro v2 w1 w3 w4 m r m' h
  unfold f_m_settle_127 at h
  refine m_R_sg (by decide) [(.iconst 1, 1, 0, 1, 0, 0, 0), (.goto 4, 3, 0, 132, 0, 0, 0)] (by decide +kernel) (show m_sgl X _ _ _ _ _ = some (132, [some (.ref 304), w1, some (.int v2), w3, w4], [.int (1 : Int32)], (SH, m.1, m.2)) from rfl) ?_
  exact ok_m_settle_132 X d F _ hk23 _ hk102 _ _ _ _ _ _ _ _ h
def f_m_settle_102 (F : Nat)  (k23 : Int32 → mM → Option (Unit × mM)) : Nat → Int32 → Int32 → mM → Option (Unit × mM)
  | 0, _, _, _ => none
  | n + 1, v1, v2, m => (if (60 : Int32) ≤ v2 then k23 v1 m else (if v1 = 0 then (if v2 < 0 ∨ 60 ≤ v2.toNatClampNeg then none else (if (m.1 310 v2.toNatClampNeg) = (m.1 309 v2.toNatClampNeg) then f_m_settle_132 F k23 (f_m_settle_102 F k23 n) v2 (0 : Int32) m else f_m_settle_127 F k23 (f_m_settle_102 F k23 n) v2 m)) else f_m_settle_127 F k23 (f_m_settle_102 F k23 n) v2 m))
theorem ok_m_settle_102 (X : mX) (d F : Nat) (k23 : Int32 → mM → Option (Unit × mM)) (hk23 : ∀ (v1 : Int32) (w2 : Option Value) (w3 : Option Value) (w4 : Option Value) (m : mM) (r : Unit) (m' : mM), k23 v1 m = some (r, m') → m_R X (d + 4) 285 23 [some (.ref 304), some (.int v1), w2, w3, w4] [] (SH, m) (none, (SH, m'))) : ∀ (n : Nat) (v1 : Int32) (v2 : Int32) (w3 : Option Value) (w4 : Option Value) (m : mM) (r : Unit) (m' : mM), f_m_settle_102 F k23 n v1 v2 m = some (r, m') → m_R X (d + 4) 285 102 [some (.ref 304), some (.int v1), some (.int v2), w3, w4] [] (SH, m) (none, (SH, m')) := by
  intro n
  induction n with
  | zero => intro v1 v2 w3 w4 m r m' h; cases h
  | succ n ih =>
    intro v1 v2 w3 w4 m r m' h
    simp only [f_m_settle_102] at h
    refine m_R_sg (by decide) [(.iload_n 2, 1, 0, 2, 0, 0, 0), (.bipush 60, 2, 0, 60, 0, 0, 0)] (by decide +kernel) (show m_sgl X _ _ _ _ _ = some (105, [some (.ref 304), some (.int v1), some (.int v2), w3, w4], [.int (60 : Int32), .int v2], (SH, m.1, m.2)) from rfl) ?_
    rcases m_ite h with ⟨c885, h⟩ | ⟨c885, h⟩
    · refine m_R_1 (by decide) (m_opb_of (ins := .if_icmp .ge 46) (len := 3) (tag := 0) (a := 151) (b := 0) (c := 0) (q := 0) (by decide +kernel)) (if_pos c885) ?_
      refine m_R_sg (by decide) [(.goto (-128), 3, 0, 23, 0, 0, 0)] (by decide +kernel) (show m_sgl X _ _ _ _ _ = some (23, [some (.ref 304), some (.int v1), some (.int v2), w3, w4], [], (SH, m.1, m.2)) from rfl) ?_
      exact hk23 _ _ _ _ _ _ _ h
    · refine m_R_1 (by decide) (m_opb_of (ins := .if_icmp .ge 46) (len := 3) (tag := 0) (a := 151) (b := 0) (c := 0) (q := 0) (by decide +kernel)) (if_neg c885) ?_
      refine m_R_sg (by decide) [(.iload_n 1, 1, 0, 1, 0, 0, 0)] (by decide +kernel) (show m_sgl X _ _ _ _ _ = some (109, [some (.ref 304), some (.int v1), some (.int v2), w3, w4], [.int v1], (SH, m.1, m.2)) from rfl) ?_
      rcases m_ite h with ⟨c886, h⟩ | ⟨c886, h⟩
      · refine m_R_1 (by decide) (m_opb_of (ins := .ifCond .ne 18) (len := 3) (tag := 0) (a := 127) (b := 0) (c := 0) (q := 0) (by decide +kernel)) (if_pos c886) ?_
        refine m_R_sg (by decide) [(.aload_n 0, 1, 0, 0, 0, 0, 0), (.getfield 30, 3, 0, 12, 7, 3, 1499), (.iload_n 2, 1, 0, 2, 0, 0, 0)] (by decide +kernel) (show m_sgl X _ _ _ _ _ = some (117, [some (.ref 304), some (.int v1), some (.int v2), w3, w4], [.int v2, .ref 310], (SH, m.1, m.2)) from rfl) ?_
        obtain ⟨c887, h⟩ := m_ite_n h
        refine m_R_1 (by decide) (m_opb_of (ins := .iaload) (len := 1) (tag := 0) (a := 0) (b := 0) (c := 0) (q := 0) (by decide +kernel)) (m_s_iald sh_310 (by decide) c887) ?_
        refine m_R_sg (by decide) [(.aload_n 0, 1, 0, 0, 0, 0, 0), (.getfield 27, 3, 0, 12, 6, 3, 1498), (.iload_n 2, 1, 0, 2, 0, 0, 0)] (by decide +kernel) (show m_sgl X _ _ _ _ _ = some (123, [some (.ref 304), some (.int v1), some (.int v2), w3, w4], [.int v2, .ref 309, .int (m.1 310 v2.toNatClampNeg)], (SH, m.1, m.2)) from rfl) ?_
        refine m_R_1 (by decide) (m_opb_of (ins := .iaload) (len := 1) (tag := 0) (a := 0) (b := 0) (c := 0) (q := 0) (by decide +kernel)) (m_s_iald sh_309 (by decide) c887) ?_
        rcases m_ite h with ⟨c888, h⟩ | ⟨c888, h⟩
        · refine m_R_1 (by decide) (m_opb_of (ins := .if_icmp .eq 7) (len := 3) (tag := 0) (a := 131) (b := 0) (c := 0) (q := 0) (by decide +kernel)) (if_pos c888) ?_
          refine m_R_sg (by decide) [(.iconst 0, 1, 0, 0, 0, 0, 0)] (by decide +kernel) (show m_sgl X _ _ _ _ _ = some (132, [some (.ref 304), some (.int v1), some (.int v2), w3, w4], [.int (0 : Int32)], (SH, m.1, m.2)) from rfl) ?_
          exact ok_m_settle_132 X d F _ hk23 _ (fun a0 a1 a2 a3 m r m' h => ih a0 a1 a2 a3 m r m' h) _ _ _ _ _ _ _ _ h
        · refine m_R_1 (by decide) (m_opb_of (ins := .if_icmp .eq 7) (len := 3) (tag := 0) (a := 131) (b := 0) (c := 0) (q := 0) (by decide +kernel)) (if_neg c888) ?_
          exact ok_m_settle_127 X d F _ hk23 _ (fun a0 a1 a2 a3 m r m' h => ih a0 a1 a2 a3 m r m' h) _ _ _ _ _ _ _ h
      · refine m_R_1 (by decide) (m_opb_of (ins := .ifCond .ne 18) (len := 3) (tag := 0) (a := 127) (b := 0) (c := 0) (q := 0) (by decide +kernel)) (if_neg c886) ?_
        exact ok_m_settle_127 X d F _ hk23 _ (fun a0 a1 a2 a3 m r m' h => ih a0 a1 a2 a3 m r m' h) _ _ _ _ _ _ _ h
def f_m_settle_50 (F : Nat)  (k23 : Int32 → mM → Option (Unit × mM)) : Nat → Int32 → mM → Option (Unit × mM)
  | 0, _, _ => none
  | n + 1, v2, m => (if (m.1 305 (2 : Int32).toNatClampNeg) ≤ v2 then f_m_settle_102 F k23 F (0 : Int32) (0 : Int32) m else ((f_m_isUp F v2 m).bind fun q1 => (if q1.1 = 0 then ((f_m_assetsOf F v2 q1.2).bind fun q2 => ((f_m_parts F v2 q2.1 (1 : Int32) q2.2).bind fun q3 => ((f_m_parts F v2 q3.1 (0 : Int32) q3.2).bind fun q4 => f_m_settle_92 F k23 (f_m_settle_50 F k23 n) v2 q4.2))) else f_m_settle_92 F k23 (f_m_settle_50 F k23 n) v2 q1.2)))
theorem ok_m_settle_50 (X : mX) (d F : Nat) (k23 : Int32 → mM → Option (Unit × mM)) (hk23 : ∀ (v1 : Int32) (w2 : Option Value) (w3 : Option Value) (w4 : Option Value) (m : mM) (r : Unit) (m' : mM), k23 v1 m = some (r, m') → m_R X (d + 4) 285 23 [some (.ref 304), some (.int v1), w2, w3, w4] [] (SH, m) (none, (SH, m'))) : ∀ (n : Nat) (v2 : Int32) (w1 : Option Value) (w3 : Option Value) (w4 : Option Value) (m : mM) (r : Unit) (m' : mM), f_m_settle_50 F k23 n v2 m = some (r, m') → m_R X (d + 4) 285 50 [some (.ref 304), w1, some (.int v2), w3, w4] [] (SH, m) (none, (SH, m')) := by
  intro n
  induction n with
  | zero => intro v2 w1 w3 w4 m r m' h; cases h
  | succ n ih =>
    intro v2 w1 w3 w4 m r m' h
    simp only [f_m_settle_50] at h
    refine m_R_sg (by decide) [(.iload_n 2, 1, 0, 2, 0, 0, 0), (.aload_n 0, 1, 0, 0, 0, 0, 0), (.getfield 13, 3, 0, 12, 1, 3, 1493), (.iconst 2, 1, 0, 2, 0, 0, 0)] (by decide +kernel) (show m_sgl X _ _ _ _ _ = some (56, [some (.ref 304), w1, some (.int v2), w3, w4], [.int (2 : Int32), .ref 305, .int v2], (SH, m.1, m.2)) from rfl) ?_
    refine m_R_1 (by decide) (m_opb_of (ins := .iaload) (len := 1) (tag := 0) (a := 0) (b := 0) (c := 0) (q := 0) (by decide +kernel)) (m_s_iald sh_305 (by decide) (show ¬ ((2 : Int32) < 0 ∨ 9732 ≤ (2 : Int32).toNatClampNeg) by decide)) ?_
    rcases m_ite h with ⟨c889, h⟩ | ⟨c889, h⟩
    · refine m_R_1 (by decide) (m_opb_of (ins := .if_icmp .ge 41) (len := 3) (tag := 0) (a := 98) (b := 0) (c := 0) (q := 0) (by decide +kernel)) (if_pos c889) ?_
      refine m_R_sg (by decide) [(.iconst 0, 1, 0, 0, 0, 0, 0), (.istore_n 1, 1, 0, 1, 0, 0, 0), (.iconst 0, 1, 0, 0, 0, 0, 0), (.istore_n 2, 1, 0, 2, 0, 0, 0)] (by decide +kernel) (show m_sgl X _ _ _ _ _ = some (102, [some (.ref 304), some (.int (0 : Int32)), some (.int (0 : Int32)), w3, w4], [], (SH, m.1, m.2)) from rfl) ?_
      exact ok_m_settle_102 X d F _ hk23 F _ _ _ _ _ _ _ h
    · refine m_R_1 (by decide) (m_opb_of (ins := .if_icmp .ge 41) (len := 3) (tag := 0) (a := 98) (b := 0) (c := 0) (q := 0) (by decide +kernel)) (if_neg c889) ?_
      refine m_R_sg (by decide) [(.aload_n 0, 1, 0, 0, 0, 0, 0), (.iload_n 2, 1, 0, 2, 0, 0, 0)] (by decide +kernel) (show m_sgl X _ _ _ _ _ = some (62, [some (.ref 304), w1, some (.int v2), w3, w4], [.int v2, .ref 304], (SH, m.1, m.2)) from rfl) ?_
      obtain ⟨q1, hc1, h⟩ := Option.bind_eq_some_iff.mp h
      refine m_R_cV (v := (some (.int q1.1))) (h1 := (SH, q1.2)) (rest := []) (lo' := [some (.ref 304), some (.int v2)]) (ml := 2) (k0 := 304) (by decide) (Or.inl rfl) (m_opb_of (ins := .invokevirtual 80) (len := 3) (tag := 5) (a := 211) (b := 1) (c := 0) (q := 1629) (by decide +kernel)) (by decide +kernel) rfl (show m_isO 211 304 (SH, _) = true from m_isO_of (by decide +kernel)) (Nat.le_of_ble_eq_true rfl) rfl rfl (ok_m_isUp X (d + 2) F _ _ _ _ hc1) ?_
      rcases m_ite h with ⟨c890, h⟩ | ⟨c890, h⟩
      · refine m_R_1 (by decide) (m_opb_of (ins := .ifCond .eq 6) (len := 3) (tag := 0) (a := 71) (b := 0) (c := 0) (q := 0) (by decide +kernel)) (if_pos c890) ?_
        refine m_R_sg (by decide) [(.aload_n 0, 1, 0, 0, 0, 0, 0), (.iload_n 2, 1, 0, 2, 0, 0, 0), (.aload_n 0, 1, 0, 0, 0, 0, 0), (.iload_n 2, 1, 0, 2, 0, 0, 0)] (by decide +kernel) (show m_sgl X _ _ _ _ _ = some (75, [some (.ref 304), w1, some (.int v2), w3, w4], [.int v2, .ref 304, .int v2, .ref 304], (SH, q1.2.1, q1.2.2)) from rfl) ?_
        obtain ⟨q2, hc2, h⟩ := Option.bind_eq_some_iff.mp h
        refine m_R_cV (v := (some (.int q2.1))) (h1 := (SH, q2.2)) (rest := [.int v2, .ref 304]) (lo' := [some (.ref 304), some (.int v2), none, none]) (ml := 4) (k0 := 304) (by decide) (Or.inl rfl) (m_opb_of (ins := .invokevirtual 205) (len := 3) (tag := 5) (a := 286) (b := 1) (c := 0) (q := 1962) (by decide +kernel)) (by decide +kernel) rfl (show m_isO 286 304 (SH, _) = true from m_isO_of (by decide +kernel)) (Nat.le_of_ble_eq_true rfl) rfl rfl (ok_m_assetsOf X (d + 0) F _ _ _ _ hc2) ?_
        refine m_R_sg (by decide) [(.iconst 1, 1, 0, 1, 0, 0, 0)] (by decide +kernel) (show m_sgl X _ _ _ _ _ = some (79, [some (.ref 304), w1, some (.int v2), w3, w4], [.int (1 : Int32), .int q2.1, .int v2, .ref 304], (SH, q2.2.1, q2.2.2)) from rfl) ?_
        obtain ⟨q3, hc3, h⟩ := Option.bind_eq_some_iff.mp h
        refine m_R_cV (v := (some (.int q3.1))) (h1 := (SH, q3.2)) (rest := []) (lo' := [some (.ref 304), some (.int v2), some (.int q2.1), some (.int (1 : Int32)), none, none, none]) (ml := 7) (k0 := 304) (by decide) (Or.inl rfl) (m_opb_of (ins := .invokevirtual 208) (len := 3) (tag := 5) (a := 287) (b := 3) (c := 0) (q := 1966) (by decide +kernel)) (by decide +kernel) rfl (show m_isO 287 304 (SH, _) = true from m_isO_of (by decide +kernel)) (Nat.le_of_ble_eq_true rfl) rfl rfl (ok_m_parts X (d + 0) F _ _ _ _ _ _ hc3) ?_
        refine m_R_sg (by decide) [(.istore_n 3, 1, 0, 3, 0, 0, 0), (.aload_n 0, 1, 0, 0, 0, 0, 0), (.iload_n 2, 1, 0, 2, 0, 0, 0), (.iload_n 3, 1, 0, 3, 0, 0, 0), (.iconst 0, 1, 0, 0, 0, 0, 0)] (by decide +kernel) (show m_sgl X _ _ _ _ _ = some (87, [some (.ref 304), w1, some (.int v2), some (.int q3.1), w4], [.int (0 : Int32), .int q3.1, .int v2, .ref 304], (SH, q3.2.1, q3.2.2)) from rfl) ?_
        obtain ⟨q4, hc4, h⟩ := Option.bind_eq_some_iff.mp h
        refine m_R_cV (v := (some (.int q4.1))) (h1 := (SH, q4.2)) (rest := []) (lo' := [some (.ref 304), some (.int v2), some (.int q3.1), some (.int (0 : Int32)), none, none, none]) (ml := 7) (k0 := 304) (by decide) (Or.inl rfl) (m_opb_of (ins := .invokevirtual 208) (len := 3) (tag := 5) (a := 287) (b := 3) (c := 0) (q := 1966) (by decide +kernel)) (by decide +kernel) rfl (show m_isO 287 304 (SH, _) = true from m_isO_of (by decide +kernel)) (Nat.le_of_ble_eq_true rfl) rfl rfl (ok_m_parts X (d + 0) F _ _ _ _ _ _ hc4) ?_
        refine m_R_sg (by decide) [(.istore 4, 2, 0, 4, 0, 0, 0)] (by decide +kernel) (show m_sgl X _ _ _ _ _ = some (92, [some (.ref 304), w1, some (.int v2), some (.int q3.1), some (.int q4.1)], [], (SH, q4.2.1, q4.2.2)) from rfl) ?_
        exact ok_m_settle_92 X d F _ hk23 _ (fun a0 a1 a2 a3 m r m' h => ih a0 a1 a2 a3 m r m' h) _ _ _ _ _ _ _ h
      · refine m_R_1 (by decide) (m_opb_of (ins := .ifCond .eq 6) (len := 3) (tag := 0) (a := 71) (b := 0) (c := 0) (q := 0) (by decide +kernel)) (if_neg c890) ?_
        refine m_R_sg (by decide) [(.goto 24, 3, 0, 92, 0, 0, 0)] (by decide +kernel) (show m_sgl X _ _ _ _ _ = some (92, [some (.ref 304), w1, some (.int v2), w3, w4], [], (SH, q1.2.1, q1.2.2)) from rfl) ?_
        exact ok_m_settle_92 X d F _ hk23 _ (fun a0 a1 a2 a3 m r m' h => ih a0 a1 a2 a3 m r m' h) _ _ _ _ _ _ _ h
def f_m_settle_29 (F : Nat)  (k23 : Int32 → mM → Option (Unit × mM)) : Nat → Int32 → mM → Option (Unit × mM)
  | 0, _, _ => none
  | n + 1, v2, m => (if (60 : Int32) ≤ v2 then f_m_settle_50 F k23 F (1 : Int32) m else (if v2 < 0 ∨ 60 ≤ v2.toNatClampNeg then none else f_m_settle_29 F k23 n (v2 + (1 : Int32)) ((m_up m.1 310 v2.toNatClampNeg (0 : Int32)), m.2)))
theorem ok_m_settle_29 (X : mX) (d F : Nat) (k23 : Int32 → mM → Option (Unit × mM)) (hk23 : ∀ (v1 : Int32) (w2 : Option Value) (w3 : Option Value) (w4 : Option Value) (m : mM) (r : Unit) (m' : mM), k23 v1 m = some (r, m') → m_R X (d + 4) 285 23 [some (.ref 304), some (.int v1), w2, w3, w4] [] (SH, m) (none, (SH, m'))) : ∀ (n : Nat) (v2 : Int32) (w1 : Option Value) (w3 : Option Value) (w4 : Option Value) (m : mM) (r : Unit) (m' : mM), f_m_settle_29 F k23 n v2 m = some (r, m') → m_R X (d + 4) 285 29 [some (.ref 304), w1, some (.int v2), w3, w4] [] (SH, m) (none, (SH, m')) := by
  intro n
  induction n with
  | zero => intro v2 w1 w3 w4 m r m' h; cases h
  | succ n ih =>
    intro v2 w1 w3 w4 m r m' h
    simp only [f_m_settle_29] at h
    refine m_R_sg (by decide) [(.iload_n 2, 1, 0, 2, 0, 0, 0), (.bipush 60, 2, 0, 60, 0, 0, 0)] (by decide +kernel) (show m_sgl X _ _ _ _ _ = some (32, [some (.ref 304), w1, some (.int v2), w3, w4], [.int (60 : Int32), .int v2], (SH, m.1, m.2)) from rfl) ?_
    rcases m_ite h with ⟨c891, h⟩ | ⟨c891, h⟩
    · refine m_R_1 (by decide) (m_opb_of (ins := .if_icmp .ge 16) (len := 3) (tag := 0) (a := 48) (b := 0) (c := 0) (q := 0) (by decide +kernel)) (if_pos c891) ?_
      refine m_R_sg (by decide) [(.iconst 1, 1, 0, 1, 0, 0, 0), (.istore_n 2, 1, 0, 2, 0, 0, 0)] (by decide +kernel) (show m_sgl X _ _ _ _ _ = some (50, [some (.ref 304), (m_cl w1), some (.int (1 : Int32)), w3, w4], [], (SH, m.1, m.2)) from rfl) ?_
      exact ok_m_settle_50 X d F _ hk23 F _ _ _ _ _ _ _ h
    · refine m_R_1 (by decide) (m_opb_of (ins := .if_icmp .ge 16) (len := 3) (tag := 0) (a := 48) (b := 0) (c := 0) (q := 0) (by decide +kernel)) (if_neg c891) ?_
      refine m_R_sg (by decide) [(.aload_n 0, 1, 0, 0, 0, 0, 0), (.getfield 30, 3, 0, 12, 7, 3, 1499), (.iload_n 2, 1, 0, 2, 0, 0, 0), (.iconst 0, 1, 0, 0, 0, 0, 0)] (by decide +kernel) (show m_sgl X _ _ _ _ _ = some (41, [some (.ref 304), w1, some (.int v2), w3, w4], [.int (0 : Int32), .int v2, .ref 310], (SH, m.1, m.2)) from rfl) ?_
      obtain ⟨c892, h⟩ := m_ite_n h
      refine m_R_1 (by decide) (m_opb_of (ins := .iastore) (len := 1) (tag := 0) (a := 0) (b := 0) (c := 0) (q := 0) (by decide +kernel)) (m_s_iast sh_310 c892) ?_
      refine m_R_sg (by decide) [(.iinc 2 1, 3, 0, 2, 1, 0, 0), (.goto (-16), 3, 0, 29, 0, 0, 0)] (by decide +kernel) (show m_sgl X _ _ _ _ _ = some (29, [some (.ref 304), w1, some (.int (v2 + (1 : Int32))), w3, w4], [], (SH, (m_up m.1 310 v2.toNatClampNeg (0 : Int32)), m.2)) from rfl) ?_
      exact ih _ _ _ _ _ _ _ h
def f_m_settle_23 (F : Nat)   : Nat → Int32 → mM → Option (Unit × mM)
  | 0, _, _ => none
  | n + 1, v1, m => (if v1 = 0 then some ((), m) else f_m_settle_29 F (f_m_settle_23 F n) F (0 : Int32) m)
theorem ok_m_settle_23 (X : mX) (d F : Nat) : ∀ (n : Nat) (v1 : Int32) (w2 : Option Value) (w3 : Option Value) (w4 : Option Value) (m : mM) (r : Unit) (m' : mM), f_m_settle_23 F n v1 m = some (r, m') → m_R X (d + 4) 285 23 [some (.ref 304), some (.int v1), w2, w3, w4] [] (SH, m) (none, (SH, m')) := by
  intro n
  induction n with
  | zero => intro v1 w2 w3 w4 m r m' h; cases h
  | succ n ih =>
    intro v1 w2 w3 w4 m r m' h
    simp only [f_m_settle_23] at h
    refine m_R_sg (by decide) [(.iload_n 1, 1, 0, 1, 0, 0, 0)] (by decide +kernel) (show m_sgl X _ _ _ _ _ = some (24, [some (.ref 304), some (.int v1), w2, w3, w4], [.int v1], (SH, m.1, m.2)) from rfl) ?_
    rcases m_ite h with ⟨c893, h⟩ | ⟨c893, h⟩
    · refine m_R_1 (by decide) (m_opb_of (ins := .ifCond .eq 130) (len := 3) (tag := 0) (a := 154) (b := 0) (c := 0) (q := 0) (by decide +kernel)) (if_pos c893) ?_
      obtain ⟨rfl, rfl⟩ := m_some h
      exact m_R_vret (by decide) (m_opb_of (ins := .return_) (len := 1) (tag := 3) (a := 0) (b := 0) (c := 0) (q := 0) (by decide +kernel))
    · refine m_R_1 (by decide) (m_opb_of (ins := .ifCond .eq 130) (len := 3) (tag := 0) (a := 154) (b := 0) (c := 0) (q := 0) (by decide +kernel)) (if_neg c893) ?_
      refine m_R_sg (by decide) [(.iconst 0, 1, 0, 0, 0, 0, 0), (.istore_n 2, 1, 0, 2, 0, 0, 0)] (by decide +kernel) (show m_sgl X _ _ _ _ _ = some (29, [some (.ref 304), some (.int v1), some (.int (0 : Int32)), w3, w4], [], (SH, m.1, m.2)) from rfl) ?_
      exact ok_m_settle_29 X d F _ (fun a0 a1 a2 a3 m r m' h => ih a0 a1 a2 a3 m r m' h) F _ _ _ _ _ _ _ h
def f_m_settle_2 (F : Nat)   : Nat → Int32 → mM → Option (Unit × mM)
  | 0, _, _ => none
  | n + 1, v1, m => (if (60 : Int32) ≤ v1 then f_m_settle_23 F F (1 : Int32) m else (if v1 < 0 ∨ 60 ≤ v1.toNatClampNeg then none else f_m_settle_2 F n (v1 + (1 : Int32)) ((m_up m.1 309 v1.toNatClampNeg (0 : Int32)), m.2)))
theorem ok_m_settle_2 (X : mX) (d F : Nat) : ∀ (n : Nat) (v1 : Int32) (w2 : Option Value) (w3 : Option Value) (w4 : Option Value) (m : mM) (r : Unit) (m' : mM), f_m_settle_2 F n v1 m = some (r, m') → m_R X (d + 4) 285 2 [some (.ref 304), some (.int v1), w2, w3, w4] [] (SH, m) (none, (SH, m')) := by
  intro n
  induction n with
  | zero => intro v1 w2 w3 w4 m r m' h; cases h
  | succ n ih =>
    intro v1 w2 w3 w4 m r m' h
    simp only [f_m_settle_2] at h
    refine m_R_sg (by decide) [(.iload_n 1, 1, 0, 1, 0, 0, 0), (.bipush 60, 2, 0, 60, 0, 0, 0)] (by decide +kernel) (show m_sgl X _ _ _ _ _ = some (5, [some (.ref 304), some (.int v1), w2, w3, w4], [.int (60 : Int32), .int v1], (SH, m.1, m.2)) from rfl) ?_
    rcases m_ite h with ⟨c894, h⟩ | ⟨c894, h⟩
    · refine m_R_1 (by decide) (m_opb_of (ins := .if_icmp .ge 16) (len := 3) (tag := 0) (a := 21) (b := 0) (c := 0) (q := 0) (by decide +kernel)) (if_pos c894) ?_
      refine m_R_sg (by decide) [(.iconst 1, 1, 0, 1, 0, 0, 0), (.istore_n 1, 1, 0, 1, 0, 0, 0)] (by decide +kernel) (show m_sgl X _ _ _ _ _ = some (23, [some (.ref 304), some (.int (1 : Int32)), w2, w3, w4], [], (SH, m.1, m.2)) from rfl) ?_
      exact ok_m_settle_23 X d F F _ _ _ _ _ _ _ h
    · refine m_R_1 (by decide) (m_opb_of (ins := .if_icmp .ge 16) (len := 3) (tag := 0) (a := 21) (b := 0) (c := 0) (q := 0) (by decide +kernel)) (if_neg c894) ?_
      refine m_R_sg (by decide) [(.aload_n 0, 1, 0, 0, 0, 0, 0), (.getfield 27, 3, 0, 12, 6, 3, 1498), (.iload_n 1, 1, 0, 1, 0, 0, 0), (.iconst 0, 1, 0, 0, 0, 0, 0)] (by decide +kernel) (show m_sgl X _ _ _ _ _ = some (14, [some (.ref 304), some (.int v1), w2, w3, w4], [.int (0 : Int32), .int v1, .ref 309], (SH, m.1, m.2)) from rfl) ?_
      obtain ⟨c895, h⟩ := m_ite_n h
      refine m_R_1 (by decide) (m_opb_of (ins := .iastore) (len := 1) (tag := 0) (a := 0) (b := 0) (c := 0) (q := 0) (by decide +kernel)) (m_s_iast sh_309 c895) ?_
      refine m_R_sg (by decide) [(.iinc 1 1, 3, 0, 1, 1, 0, 0), (.goto (-16), 3, 0, 2, 0, 0, 0)] (by decide +kernel) (show m_sgl X _ _ _ _ _ = some (2, [some (.ref 304), some (.int (v1 + (1 : Int32))), w2, w3, w4], [], (SH, (m_up m.1 309 v1.toNatClampNeg (0 : Int32)), m.2)) from rfl) ?_
      exact ih _ _ _ _ _ _ _ h
def f_m_settle (F : Nat)    (m : mM) : Option (Unit × mM) := f_m_settle_2 F F (0 : Int32) m
theorem ok_m_settle (X : mX) (d F : Nat) : ∀   (m : mM) (r : Unit) (m' : mM), f_m_settle F  m = some (r, m') → m_R X (d + 4) 285 0 [some (.ref 304), none, none, none, none] [] (SH, m) (none, (SH, m')) := by
  intro m r m' h
  unfold f_m_settle at h
  refine m_R_sg (by decide) [(.iconst 0, 1, 0, 0, 0, 0, 0), (.istore_n 1, 1, 0, 1, 0, 0, 0)] (by decide +kernel) (show m_sgl X _ _ _ _ _ = some (2, [some (.ref 304), some (.int (0 : Int32)), none, none, none], [], (SH, m.1, m.2)) from rfl) ?_
  exact ok_m_settle_2 X d F F _ _ _ _ _ _ _ h
def f_m_gets (F : Nat)   (v1 : Int32) (m : mM) : Option (Int32 × mM) := ((f_m_isPaper F v1 m).bind fun q1 => (if q1.1 = 0 then ((f_m_refuse F (-3 : Int32) q1.2).bind fun q2 => some (q2.1, q2.2)) else ((f_m_isClaim F v1 q1.2).bind fun q3 => (if q3.1 = 0 then ((f_m_refuse F (-2 : Int32) q3.2).bind fun q4 => some (q4.1, q4.2)) else ((f_m_settle F q3.2).bind fun q5 => (if v1 < 0 ∨ 60 ≤ v1.toNatClampNeg then none else some ((q5.2.1 309 v1.toNatClampNeg), q5.2)))))))
theorem ok_m_gets (X : mX) (d F : Nat) : ∀ (v1 : Int32)  (m : mM) (r : Int32) (m' : mM), f_m_gets F v1 m = some (r, m') → m_R X (d + 5) 283 0 [some (.ref 304), some (.int v1)] [] (SH, m) (some (.int r), (SH, m')) := by
  intro v1 m r m' h
  unfold f_m_gets at h
  refine m_R_sg (by decide) [(.aload_n 0, 1, 0, 0, 0, 0, 0), (.iload_n 1, 1, 0, 1, 0, 0, 0)] (by decide +kernel) (show m_sgl X _ _ _ _ _ = some (2, [some (.ref 304), some (.int v1)], [.int v1, .ref 304], (SH, m.1, m.2)) from rfl) ?_
  obtain ⟨q1, hc1, h⟩ := Option.bind_eq_some_iff.mp h
  refine m_R_cV (v := (some (.int q1.1))) (h1 := (SH, q1.2)) (rest := []) (lo' := [some (.ref 304), some (.int v1)]) (ml := 2) (k0 := 304) (by decide) (Or.inl rfl) (m_opb_of (ins := .invokevirtual 173) (len := 3) (tag := 5) (a := 272) (b := 1) (c := 0) (q := 1905) (by decide +kernel)) (by decide +kernel) rfl (show m_isO 272 304 (SH, _) = true from m_isO_of (by decide +kernel)) (Nat.le_of_ble_eq_true rfl) rfl rfl (ok_m_isPaper X (d + 3) F _ _ _ _ hc1) ?_
  rcases m_ite h with ⟨c896, h⟩ | ⟨c896, h⟩
  · refine m_R_1 (by decide) (m_opb_of (ins := .ifCond .ne 10) (len := 3) (tag := 0) (a := 15) (b := 0) (c := 0) (q := 0) (by decide +kernel)) (if_pos c896) ?_
    refine m_R_sg (by decide) [(.aload_n 0, 1, 0, 0, 0, 0, 0), (.bipush (-3), 2, 0, 3, 1, 0, 0)] (by decide +kernel) (show m_sgl X _ _ _ _ _ = some (11, [some (.ref 304), some (.int v1)], [.int (-3 : Int32), .ref 304], (SH, q1.2.1, q1.2.2)) from rfl) ?_
    obtain ⟨q2, hc2, h⟩ := Option.bind_eq_some_iff.mp h
    refine m_R_cV (v := (some (.int q2.1))) (h1 := (SH, q2.2)) (rest := []) (lo' := [some (.ref 304), some (.int (-3 : Int32))]) (ml := 2) (k0 := 304) (by decide) (Or.inl rfl) (m_opb_of (ins := .invokevirtual 61) (len := 3) (tag := 5) (a := 202) (b := 1) (c := 0) (q := 1593) (by decide +kernel)) (by decide +kernel) rfl (show m_isO 202 304 (SH, _) = true from m_isO_of (by decide +kernel)) (Nat.le_of_ble_eq_true rfl) rfl rfl (ok_m_refuse X (d + 4) F _ _ _ _ hc2) ?_
    obtain ⟨rfl, rfl⟩ := m_some h
    exact m_R_iret (by decide) (m_opb_of (ins := .ireturn) (len := 1) (tag := 1) (a := 0) (b := 0) (c := 0) (q := 0) (by decide +kernel)) (Or.inl rfl)
  · refine m_R_1 (by decide) (m_opb_of (ins := .ifCond .ne 10) (len := 3) (tag := 0) (a := 15) (b := 0) (c := 0) (q := 0) (by decide +kernel)) (if_neg c896) ?_
    refine m_R_sg (by decide) [(.aload_n 0, 1, 0, 0, 0, 0, 0), (.iload_n 1, 1, 0, 1, 0, 0, 0)] (by decide +kernel) (show m_sgl X _ _ _ _ _ = some (17, [some (.ref 304), some (.int v1)], [.int v1, .ref 304], (SH, q1.2.1, q1.2.2)) from rfl) ?_
    obtain ⟨q3, hc3, h⟩ := Option.bind_eq_some_iff.mp h
    refine m_R_cV (v := (some (.int q3.1))) (h1 := (SH, q3.2)) (rest := []) (lo' := [some (.ref 304), some (.int v1)]) (ml := 2) (k0 := 304) (by decide) (Or.inl rfl) (m_opb_of (ins := .invokevirtual 202) (len := 3) (tag := 5) (a := 284) (b := 1) (c := 0) (q := 1954) (by decide +kernel)) (by decide +kernel) rfl (show m_isO 284 304 (SH, _) = true from m_isO_of (by decide +kernel)) (Nat.le_of_ble_eq_true rfl) rfl rfl (ok_m_isClaim X (d + 2) F _ _ _ _ hc3) ?_
    rcases m_ite h with ⟨c897, h⟩ | ⟨c897, h⟩
    · refine m_R_1 (by decide) (m_opb_of (ins := .ifCond .ne 10) (len := 3) (tag := 0) (a := 30) (b := 0) (c := 0) (q := 0) (by decide +kernel)) (if_pos c897) ?_
      refine m_R_sg (by decide) [(.aload_n 0, 1, 0, 0, 0, 0, 0), (.bipush (-2), 2, 0, 2, 1, 0, 0)] (by decide +kernel) (show m_sgl X _ _ _ _ _ = some (26, [some (.ref 304), some (.int v1)], [.int (-2 : Int32), .ref 304], (SH, q3.2.1, q3.2.2)) from rfl) ?_
      obtain ⟨q4, hc4, h⟩ := Option.bind_eq_some_iff.mp h
      refine m_R_cV (v := (some (.int q4.1))) (h1 := (SH, q4.2)) (rest := []) (lo' := [some (.ref 304), some (.int (-2 : Int32))]) (ml := 2) (k0 := 304) (by decide) (Or.inl rfl) (m_opb_of (ins := .invokevirtual 61) (len := 3) (tag := 5) (a := 202) (b := 1) (c := 0) (q := 1593) (by decide +kernel)) (by decide +kernel) rfl (show m_isO 202 304 (SH, _) = true from m_isO_of (by decide +kernel)) (Nat.le_of_ble_eq_true rfl) rfl rfl (ok_m_refuse X (d + 4) F _ _ _ _ hc4) ?_
      obtain ⟨rfl, rfl⟩ := m_some h
      exact m_R_iret (by decide) (m_opb_of (ins := .ireturn) (len := 1) (tag := 1) (a := 0) (b := 0) (c := 0) (q := 0) (by decide +kernel)) (Or.inl rfl)
    · refine m_R_1 (by decide) (m_opb_of (ins := .ifCond .ne 10) (len := 3) (tag := 0) (a := 30) (b := 0) (c := 0) (q := 0) (by decide +kernel)) (if_neg c897) ?_
      refine m_R_sg (by decide) [(.aload_n 0, 1, 0, 0, 0, 0, 0)] (by decide +kernel) (show m_sgl X _ _ _ _ _ = some (31, [some (.ref 304), some (.int v1)], [.ref 304], (SH, q3.2.1, q3.2.2)) from rfl) ?_
      obtain ⟨q5, hc5, h⟩ := Option.bind_eq_some_iff.mp h
      refine m_R_cV (v := none) (h1 := (SH, q5.2)) (rest := []) (lo' := [some (.ref 304), none, none, none, none]) (ml := 5) (k0 := 304) (by decide) (Or.inl rfl) (m_opb_of (ins := .invokevirtual 212) (len := 3) (tag := 5) (a := 285) (b := 0) (c := 0) (q := 1958) (by decide +kernel)) (by decide +kernel) rfl (show m_isO 285 304 (SH, _) = true from m_isO_of (by decide +kernel)) (Nat.le_of_ble_eq_true rfl) rfl rfl (ok_m_settle X (d + 0) F _ _ _ hc5) ?_
      refine m_R_sg (by decide) [(.aload_n 0, 1, 0, 0, 0, 0, 0), (.getfield 27, 3, 0, 12, 6, 3, 1498), (.iload_n 1, 1, 0, 1, 0, 0, 0)] (by decide +kernel) (show m_sgl X _ _ _ _ _ = some (39, [some (.ref 304), some (.int v1)], [.int v1, .ref 309], (SH, q5.2.1, q5.2.2)) from rfl) ?_
      obtain ⟨c898, h⟩ := m_ite_n h
      refine m_R_1 (by decide) (m_opb_of (ins := .iaload) (len := 1) (tag := 0) (a := 0) (b := 0) (c := 0) (q := 0) (by decide +kernel)) (m_s_iald sh_309 (by decide) c898) ?_
      obtain ⟨rfl, rfl⟩ := m_some h
      exact m_R_iret (by decide) (m_opb_of (ins := .ireturn) (len := 1) (tag := 1) (a := 0) (b := 0) (c := 0) (q := 0) (by decide +kernel)) (Or.inl rfl)
def f_x_assets (F : Nat)   (v1 : Int32) (m : mM) : Option (Int32 × mM) := ((f_Houses_isHouse F v1 m).bind fun q1 => (if q1.1 = 0 then ((f_x_refuse F (-3 : Int32) q1.2).bind fun q2 => some (q2.1, q2.2)) else ((f_Houses_isUp F v1 q1.2).bind fun q3 => (if q3.1 = 0 then ((f_Claims_shareOut_109_16 F q3.2).bind fun q4 => (if v1 < 0 ∨ 16 ≤ v1.toNatClampNeg then none else some ((q4.2.1 111 v1.toNatClampNeg), q4.2))) else ((f_x_refuse F (-2 : Int32) q3.2).bind fun q5 => some (q5.1, q5.2))))))
theorem ok_x_assets (X : mX) (d F : Nat) : ∀ (v1 : Int32)  (m : mM) (r : Int32) (m' : mM), f_x_assets F v1 m = some (r, m') → m_R X (d + 4) 101 0 [some (.ref 0), some (.int v1)] [] (SH, m) (some (.int r), (SH, m')) := by
  intro v1 m r m' h
  unfold f_x_assets at h
  refine m_R_sg (by decide) [(.aload_n 0, 1, 0, 0, 0, 0, 0), (.getfield 28, 3, 0, 11, 2, 3, 632), (.getfield 95, 3, 0, 10, 1, 3, 507), (.iload_n 1, 1, 0, 1, 0, 0, 0)] (by decide +kernel) (show m_sgl X _ _ _ _ _ = some (8, [some (.ref 0), some (.int v1)], [.int v1, .ref 19], (SH, m.1, m.2)) from rfl) ?_
  obtain ⟨q1, hc1, h⟩ := Option.bind_eq_some_iff.mp h
  refine m_R_cV (v := (some (.int q1.1))) (h1 := (SH, q1.2)) (rest := []) (lo' := [some (.ref 19), some (.int v1)]) (ml := 2) (k0 := 19) (by decide) (Or.inl rfl) (m_opb_of (ins := .invokevirtual 107) (len := 3) (tag := 5) (a := 24) (b := 1) (c := 0) (q := 712) (by decide +kernel)) (by decide +kernel) rfl (show m_isO 24 19 (SH, _) = true from m_isO_of (by decide +kernel)) (Nat.le_of_ble_eq_true rfl) rfl rfl (ok_Houses_isHouse X (d + 3) F _ _ _ _ hc1) ?_
  rcases m_ite h with ⟨c899, h⟩ | ⟨c899, h⟩
  · refine m_R_1 (by decide) (m_opb_of (ins := .ifCond .ne 10) (len := 3) (tag := 0) (a := 21) (b := 0) (c := 0) (q := 0) (by decide +kernel)) (if_pos c899) ?_
    refine m_R_sg (by decide) [(.aload_n 0, 1, 0, 0, 0, 0, 0), (.bipush (-3), 2, 0, 3, 1, 0, 0)] (by decide +kernel) (show m_sgl X _ _ _ _ _ = some (17, [some (.ref 0), some (.int v1)], [.int (-3 : Int32), .ref 0], (SH, q1.2.1, q1.2.2)) from rfl) ?_
    obtain ⟨q2, hc2, h⟩ := Option.bind_eq_some_iff.mp h
    refine m_R_cV (v := (some (.int q2.1))) (h1 := (SH, q2.2)) (rest := []) (lo' := [some (.ref 0), some (.int (-3 : Int32))]) (ml := 2) (k0 := 0) (by decide) (Or.inl rfl) (m_opb_of (ins := .invokevirtual 76) (len := 3) (tag := 5) (a := 14) (b := 1) (c := 0) (q := 671) (by decide +kernel)) (by decide +kernel) rfl (show m_isO 14 0 (SH, _) = true from m_isO_of (by decide +kernel)) (Nat.le_of_ble_eq_true rfl) rfl rfl (ok_x_refuse X (d + 3) F _ _ _ _ hc2) ?_
    obtain ⟨rfl, rfl⟩ := m_some h
    exact m_R_iret (by decide) (m_opb_of (ins := .ireturn) (len := 1) (tag := 1) (a := 0) (b := 0) (c := 0) (q := 0) (by decide +kernel)) (Or.inl rfl)
  · refine m_R_1 (by decide) (m_opb_of (ins := .ifCond .ne 10) (len := 3) (tag := 0) (a := 21) (b := 0) (c := 0) (q := 0) (by decide +kernel)) (if_neg c899) ?_
    refine m_R_sg (by decide) [(.aload_n 0, 1, 0, 0, 0, 0, 0), (.getfield 28, 3, 0, 11, 2, 3, 632), (.getfield 95, 3, 0, 10, 1, 3, 507), (.iload_n 1, 1, 0, 1, 0, 0, 0)] (by decide +kernel) (show m_sgl X _ _ _ _ _ = some (29, [some (.ref 0), some (.int v1)], [.int v1, .ref 19], (SH, q1.2.1, q1.2.2)) from rfl) ?_
    obtain ⟨q3, hc3, h⟩ := Option.bind_eq_some_iff.mp h
    refine m_R_cV (v := (some (.int q3.1))) (h1 := (SH, q3.2)) (rest := []) (lo' := [some (.ref 19), some (.int v1)]) (ml := 2) (k0 := 19) (by decide) (Or.inl rfl) (m_opb_of (ins := .invokevirtual 110) (len := 3) (tag := 5) (a := 25) (b := 1) (c := 0) (q := 716) (by decide +kernel)) (by decide +kernel) rfl (show m_isO 25 19 (SH, _) = true from m_isO_of (by decide +kernel)) (Nat.le_of_ble_eq_true rfl) rfl rfl (ok_Houses_isUp X (d + 2) F _ _ _ _ hc3) ?_
    rcases m_ite h with ⟨c900, h⟩ | ⟨c900, h⟩
    · refine m_R_1 (by decide) (m_opb_of (ins := .ifCond .eq 10) (len := 3) (tag := 0) (a := 42) (b := 0) (c := 0) (q := 0) (by decide +kernel)) (if_pos c900) ?_
      refine m_R_sg (by decide) [(.aload_n 0, 1, 0, 0, 0, 0, 0), (.getfield 42, 3, 0, 11, 5, 3, 635), (.aload_n 0, 1, 0, 0, 0, 0, 0), (.getfield 28, 3, 0, 11, 2, 3, 632)] (by decide +kernel) (show m_sgl X _ _ _ _ _ = some (50, [some (.ref 0), some (.int v1)], [.ref 16, .ref 109], (SH, q3.2.1, q3.2.2)) from rfl) ?_
      obtain ⟨q4, hc4, h⟩ := Option.bind_eq_some_iff.mp h
      refine m_R_cV (v := none) (h1 := (SH, q4.2)) (rest := []) (lo' := [some (.ref 109), some (.ref 16), none, none]) (ml := 4) (k0 := 109) (by decide) (Or.inl rfl) (m_opb_of (ins := .invokevirtual 305) (len := 3) (tag := 5) (a := 97) (b := 1) (c := 0) (q := 1012) (by decide +kernel)) (by decide +kernel) rfl (show m_isO 97 109 (SH, _) = true from m_isO_of (by decide +kernel)) (Nat.le_of_ble_eq_true rfl) rfl rfl (ok_Claims_shareOut_109_16 X (d + 0) F _ _ _ hc4) ?_
      refine m_R_sg (by decide) [(.aload_n 0, 1, 0, 0, 0, 0, 0), (.getfield 42, 3, 0, 11, 5, 3, 635), (.getfield 312, 3, 0, 0, 1, 3, 573), (.iload_n 1, 1, 0, 1, 0, 0, 0)] (by decide +kernel) (show m_sgl X _ _ _ _ _ = some (61, [some (.ref 0), some (.int v1)], [.int v1, .ref 111], (SH, q4.2.1, q4.2.2)) from rfl) ?_
      obtain ⟨c901, h⟩ := m_ite_n h
      refine m_R_1 (by decide) (m_opb_of (ins := .iaload) (len := 1) (tag := 0) (a := 0) (b := 0) (c := 0) (q := 0) (by decide +kernel)) (m_s_iald sh_111 (by decide) c901) ?_
      obtain ⟨rfl, rfl⟩ := m_some h
      exact m_R_iret (by decide) (m_opb_of (ins := .ireturn) (len := 1) (tag := 1) (a := 0) (b := 0) (c := 0) (q := 0) (by decide +kernel)) (Or.inl rfl)
    · refine m_R_1 (by decide) (m_opb_of (ins := .ifCond .eq 10) (len := 3) (tag := 0) (a := 42) (b := 0) (c := 0) (q := 0) (by decide +kernel)) (if_neg c900) ?_
      refine m_R_sg (by decide) [(.aload_n 0, 1, 0, 0, 0, 0, 0), (.bipush (-2), 2, 0, 2, 1, 0, 0)] (by decide +kernel) (show m_sgl X _ _ _ _ _ = some (38, [some (.ref 0), some (.int v1)], [.int (-2 : Int32), .ref 0], (SH, q3.2.1, q3.2.2)) from rfl) ?_
      obtain ⟨q5, hc5, h⟩ := Option.bind_eq_some_iff.mp h
      refine m_R_cV (v := (some (.int q5.1))) (h1 := (SH, q5.2)) (rest := []) (lo' := [some (.ref 0), some (.int (-2 : Int32))]) (ml := 2) (k0 := 0) (by decide) (Or.inl rfl) (m_opb_of (ins := .invokevirtual 76) (len := 3) (tag := 5) (a := 14) (b := 1) (c := 0) (q := 671) (by decide +kernel)) (by decide +kernel) rfl (show m_isO 14 0 (SH, _) = true from m_isO_of (by decide +kernel)) (Nat.le_of_ble_eq_true rfl) rfl rfl (ok_x_refuse X (d + 3) F _ _ _ _ hc5) ?_
      obtain ⟨rfl, rfl⟩ := m_some h
      exact m_R_iret (by decide) (m_opb_of (ins := .ireturn) (len := 1) (tag := 1) (a := 0) (b := 0) (c := 0) (q := 0) (by decide +kernel)) (Or.inl rfl)
def f_m_assets (F : Nat)   (v1 : Int32) (m : mM) : Option (Int32 × mM) := ((f_m_isHouse F v1 m).bind fun q1 => (if q1.1 = 0 then ((f_m_refuse F (-3 : Int32) q1.2).bind fun q2 => some (q2.1, q2.2)) else ((f_m_isUp F v1 q1.2).bind fun q3 => (if q3.1 = 0 then ((f_m_settle F q3.2).bind fun q4 => ((f_m_assetsOf F v1 q4.2).bind fun q5 => some (q5.1, q5.2))) else ((f_m_refuse F (-2 : Int32) q3.2).bind fun q6 => some (q6.1, q6.2))))))
theorem ok_m_assets (X : mX) (d F : Nat) : ∀ (v1 : Int32)  (m : mM) (r : Int32) (m' : mM), f_m_assets F v1 m = some (r, m') → m_R X (d + 5) 288 0 [some (.ref 304), some (.int v1)] [] (SH, m) (some (.int r), (SH, m')) := by
  intro v1 m r m' h
  unfold f_m_assets at h
  refine m_R_sg (by decide) [(.aload_n 0, 1, 0, 0, 0, 0, 0), (.iload_n 1, 1, 0, 1, 0, 0, 0)] (by decide +kernel) (show m_sgl X _ _ _ _ _ = some (2, [some (.ref 304), some (.int v1)], [.int v1, .ref 304], (SH, m.1, m.2)) from rfl) ?_
  obtain ⟨q1, hc1, h⟩ := Option.bind_eq_some_iff.mp h
  refine m_R_cV (v := (some (.int q1.1))) (h1 := (SH, q1.2)) (rest := []) (lo' := [some (.ref 304), some (.int v1)]) (ml := 2) (k0 := 304) (by decide) (Or.inl rfl) (m_opb_of (ins := .invokevirtual 77) (len := 3) (tag := 5) (a := 210) (b := 1) (c := 0) (q := 1625) (by decide +kernel)) (by decide +kernel) rfl (show m_isO 210 304 (SH, _) = true from m_isO_of (by decide +kernel)) (Nat.le_of_ble_eq_true rfl) rfl rfl (ok_m_isHouse X (d + 3) F _ _ _ _ hc1) ?_
  rcases m_ite h with ⟨c902, h⟩ | ⟨c902, h⟩
  · refine m_R_1 (by decide) (m_opb_of (ins := .ifCond .ne 10) (len := 3) (tag := 0) (a := 15) (b := 0) (c := 0) (q := 0) (by decide +kernel)) (if_pos c902) ?_
    refine m_R_sg (by decide) [(.aload_n 0, 1, 0, 0, 0, 0, 0), (.bipush (-3), 2, 0, 3, 1, 0, 0)] (by decide +kernel) (show m_sgl X _ _ _ _ _ = some (11, [some (.ref 304), some (.int v1)], [.int (-3 : Int32), .ref 304], (SH, q1.2.1, q1.2.2)) from rfl) ?_
    obtain ⟨q2, hc2, h⟩ := Option.bind_eq_some_iff.mp h
    refine m_R_cV (v := (some (.int q2.1))) (h1 := (SH, q2.2)) (rest := []) (lo' := [some (.ref 304), some (.int (-3 : Int32))]) (ml := 2) (k0 := 304) (by decide) (Or.inl rfl) (m_opb_of (ins := .invokevirtual 61) (len := 3) (tag := 5) (a := 202) (b := 1) (c := 0) (q := 1593) (by decide +kernel)) (by decide +kernel) rfl (show m_isO 202 304 (SH, _) = true from m_isO_of (by decide +kernel)) (Nat.le_of_ble_eq_true rfl) rfl rfl (ok_m_refuse X (d + 4) F _ _ _ _ hc2) ?_
    obtain ⟨rfl, rfl⟩ := m_some h
    exact m_R_iret (by decide) (m_opb_of (ins := .ireturn) (len := 1) (tag := 1) (a := 0) (b := 0) (c := 0) (q := 0) (by decide +kernel)) (Or.inl rfl)
  · refine m_R_1 (by decide) (m_opb_of (ins := .ifCond .ne 10) (len := 3) (tag := 0) (a := 15) (b := 0) (c := 0) (q := 0) (by decide +kernel)) (if_neg c902) ?_
    refine m_R_sg (by decide) [(.aload_n 0, 1, 0, 0, 0, 0, 0), (.iload_n 1, 1, 0, 1, 0, 0, 0)] (by decide +kernel) (show m_sgl X _ _ _ _ _ = some (17, [some (.ref 304), some (.int v1)], [.int v1, .ref 304], (SH, q1.2.1, q1.2.2)) from rfl) ?_
    obtain ⟨q3, hc3, h⟩ := Option.bind_eq_some_iff.mp h
    refine m_R_cV (v := (some (.int q3.1))) (h1 := (SH, q3.2)) (rest := []) (lo' := [some (.ref 304), some (.int v1)]) (ml := 2) (k0 := 304) (by decide) (Or.inl rfl) (m_opb_of (ins := .invokevirtual 80) (len := 3) (tag := 5) (a := 211) (b := 1) (c := 0) (q := 1629) (by decide +kernel)) (by decide +kernel) rfl (show m_isO 211 304 (SH, _) = true from m_isO_of (by decide +kernel)) (Nat.le_of_ble_eq_true rfl) rfl rfl (ok_m_isUp X (d + 3) F _ _ _ _ hc3) ?_
    rcases m_ite h with ⟨c903, h⟩ | ⟨c903, h⟩
    · refine m_R_1 (by decide) (m_opb_of (ins := .ifCond .eq 10) (len := 3) (tag := 0) (a := 30) (b := 0) (c := 0) (q := 0) (by decide +kernel)) (if_pos c903) ?_
      refine m_R_sg (by decide) [(.aload_n 0, 1, 0, 0, 0, 0, 0)] (by decide +kernel) (show m_sgl X _ _ _ _ _ = some (31, [some (.ref 304), some (.int v1)], [.ref 304], (SH, q3.2.1, q3.2.2)) from rfl) ?_
      obtain ⟨q4, hc4, h⟩ := Option.bind_eq_some_iff.mp h
      refine m_R_cV (v := none) (h1 := (SH, q4.2)) (rest := []) (lo' := [some (.ref 304), none, none, none, none]) (ml := 5) (k0 := 304) (by decide) (Or.inl rfl) (m_opb_of (ins := .invokevirtual 212) (len := 3) (tag := 5) (a := 285) (b := 0) (c := 0) (q := 1958) (by decide +kernel)) (by decide +kernel) rfl (show m_isO 285 304 (SH, _) = true from m_isO_of (by decide +kernel)) (Nat.le_of_ble_eq_true rfl) rfl rfl (ok_m_settle X (d + 0) F _ _ _ hc4) ?_
      refine m_R_sg (by decide) [(.aload_n 0, 1, 0, 0, 0, 0, 0), (.iload_n 1, 1, 0, 1, 0, 0, 0)] (by decide +kernel) (show m_sgl X _ _ _ _ _ = some (36, [some (.ref 304), some (.int v1)], [.int v1, .ref 304], (SH, q4.2.1, q4.2.2)) from rfl) ?_
      obtain ⟨q5, hc5, h⟩ := Option.bind_eq_some_iff.mp h
      refine m_R_cV (v := (some (.int q5.1))) (h1 := (SH, q5.2)) (rest := []) (lo' := [some (.ref 304), some (.int v1), none, none]) (ml := 4) (k0 := 304) (by decide) (Or.inl rfl) (m_opb_of (ins := .invokevirtual 205) (len := 3) (tag := 5) (a := 286) (b := 1) (c := 0) (q := 1962) (by decide +kernel)) (by decide +kernel) rfl (show m_isO 286 304 (SH, _) = true from m_isO_of (by decide +kernel)) (Nat.le_of_ble_eq_true rfl) rfl rfl (ok_m_assetsOf X (d + 1) F _ _ _ _ hc5) ?_
      obtain ⟨rfl, rfl⟩ := m_some h
      exact m_R_iret (by decide) (m_opb_of (ins := .ireturn) (len := 1) (tag := 1) (a := 0) (b := 0) (c := 0) (q := 0) (by decide +kernel)) (Or.inl rfl)
    · refine m_R_1 (by decide) (m_opb_of (ins := .ifCond .eq 10) (len := 3) (tag := 0) (a := 30) (b := 0) (c := 0) (q := 0) (by decide +kernel)) (if_neg c903) ?_
      refine m_R_sg (by decide) [(.aload_n 0, 1, 0, 0, 0, 0, 0), (.bipush (-2), 2, 0, 2, 1, 0, 0)] (by decide +kernel) (show m_sgl X _ _ _ _ _ = some (26, [some (.ref 304), some (.int v1)], [.int (-2 : Int32), .ref 304], (SH, q3.2.1, q3.2.2)) from rfl) ?_
      obtain ⟨q6, hc6, h⟩ := Option.bind_eq_some_iff.mp h
      refine m_R_cV (v := (some (.int q6.1))) (h1 := (SH, q6.2)) (rest := []) (lo' := [some (.ref 304), some (.int (-2 : Int32))]) (ml := 2) (k0 := 304) (by decide) (Or.inl rfl) (m_opb_of (ins := .invokevirtual 61) (len := 3) (tag := 5) (a := 202) (b := 1) (c := 0) (q := 1593) (by decide +kernel)) (by decide +kernel) rfl (show m_isO 202 304 (SH, _) = true from m_isO_of (by decide +kernel)) (Nat.le_of_ble_eq_true rfl) rfl rfl (ok_m_refuse X (d + 4) F _ _ _ _ hc6) ?_
      obtain ⟨rfl, rfl⟩ := m_some h
      exact m_R_iret (by decide) (m_opb_of (ins := .ireturn) (len := 1) (tag := 1) (a := 0) (b := 0) (c := 0) (q := 0) (by decide +kernel)) (Or.inl rfl)
def f_Trades_addTrade_61 (F : Nat)    (m : mM) : Option (Int32 × mM) := some (((m.1 46 5) - (1 : Int32)), m)
theorem ok_Trades_addTrade_61 (X : mX) (d F : Nat) : ∀  (w1 : Option Value) (w2 : Option Value) (w3 : Option Value) (w4 : Option Value) (m : mM) (r : Int32) (m' : mM), f_Trades_addTrade_61 F  m = some (r, m') → m_R X (d + 0) 103 61 [some (.ref 46), w1, w2, w3, w4] [] (SH, m) (some (.int r), (SH, m')) := by
  intro w1 w2 w3 w4 m r m' h
  unfold f_Trades_addTrade_61 at h
  refine m_R_sg (by decide) [(.aload_n 0, 1, 0, 0, 0, 0, 0), (.getfield 31, 3, 0, 9, 5, 0, 417), (.iconst 1, 1, 0, 1, 0, 0, 0), (.isub, 1, 0, 0, 0, 0, 0)] (by decide +kernel) (show m_sgl X _ _ _ _ _ = some (67, [some (.ref 46), w1, w2, w3, w4], [.int ((m.1 46 5) - (1 : Int32))], (SH, m.1, m.2)) from rfl) ?_
  obtain ⟨rfl, rfl⟩ := m_some h
  exact m_R_iret (by decide) (m_opb_of (ins := .ireturn) (len := 1) (tag := 1) (a := 0) (b := 0) (c := 0) (q := 0) (by decide +kernel)) (Or.inl rfl)
def f_Trades_addTrade_30 (F : Nat)   (v4 : Int32) (m : mM) : Option (Int32 × mM) := (if (m.1 46 5) < 0 ∨ 8 ≤ (m.1 46 5).toNatClampNeg then none else (if ((m_up m.1 50 (m.1 46 5).toNatClampNeg v4) 46 5) < 0 ∨ 8 ≤ ((m_up m.1 50 (m.1 46 5).toNatClampNeg v4) 46 5).toNatClampNeg then none else f_Trades_addTrade_61 F ((m_up (m_up (m_up m.1 50 (m.1 46 5).toNatClampNeg v4) 51 ((m_up m.1 50 (m.1 46 5).toNatClampNeg v4) 46 5).toNatClampNeg (1 : Int32)) 46 5 (((m_up (m_up m.1 50 (m.1 46 5).toNatClampNeg v4) 51 ((m_up m.1 50 (m.1 46 5).toNatClampNeg v4) 46 5).toNatClampNeg (1 : Int32)) 46 5) + (1 : Int32))), m.2)))
theorem ok_Trades_addTrade_30 (X : mX) (d F : Nat) : ∀ (v4 : Int32) (w1 : Option Value) (w2 : Option Value) (w3 : Option Value) (m : mM) (r : Int32) (m' : mM), f_Trades_addTrade_30 F v4 m = some (r, m') → m_R X (d + 0) 103 30 [some (.ref 46), w1, w2, w3, some (.int v4)] [] (SH, m) (some (.int r), (SH, m')) := by
  intro v4 w1 w2 w3 m r m' h
  unfold f_Trades_addTrade_30 at h
  refine m_R_sg (by decide) [(.aload_n 0, 1, 0, 0, 0, 0, 0), (.getfield 21, 3, 0, 9, 3, 3, 412), (.aload_n 0, 1, 0, 0, 0, 0, 0), (.getfield 31, 3, 0, 9, 5, 0, 417), (.iload 4, 2, 0, 4, 0, 0, 0)] (by decide +kernel) (show m_sgl X _ _ _ _ _ = some (40, [some (.ref 46), w1, w2, w3, some (.int v4)], [.int v4, .int (m.1 46 5), .ref 50], (SH, m.1, m.2)) from rfl) ?_
  obtain ⟨c904, h⟩ := m_ite_n h
  refine m_R_1 (by decide) (m_opb_of (ins := .iastore) (len := 1) (tag := 0) (a := 0) (b := 0) (c := 0) (q := 0) (by decide +kernel)) (m_s_iast sh_50 c904) ?_
  refine m_R_sg (by decide) [(.aload_n 0, 1, 0, 0, 0, 0, 0), (.getfield 24, 3, 0, 9, 4, 3, 414), (.aload_n 0, 1, 0, 0, 0, 0, 0), (.getfield 31, 3, 0, 9, 5, 0, 417), (.iconst 1, 1, 0, 1, 0, 0, 0)] (by decide +kernel) (show m_sgl X _ _ _ _ _ = some (50, [some (.ref 46), w1, w2, w3, some (.int v4)], [.int (1 : Int32), .int ((m_up m.1 50 (m.1 46 5).toNatClampNeg v4) 46 5), .ref 51], (SH, (m_up m.1 50 (m.1 46 5).toNatClampNeg v4), m.2)) from rfl) ?_
  obtain ⟨c905, h⟩ := m_ite_n h
  refine m_R_1 (by decide) (m_opb_of (ins := .iastore) (len := 1) (tag := 0) (a := 0) (b := 0) (c := 0) (q := 0) (by decide +kernel)) (m_s_iast sh_51 c905) ?_
  refine m_R_sg (by decide) [(.aload_n 0, 1, 0, 0, 0, 0, 0), (.dup, 1, 0, 0, 0, 0, 0), (.getfield 31, 3, 0, 9, 5, 0, 417), (.iconst 1, 1, 0, 1, 0, 0, 0), (.iadd, 1, 0, 0, 0, 0, 0), (.putfield 31, 3, 0, 9, 5, 0, 417)] (by decide +kernel) (show m_sgl X _ _ _ _ _ = some (61, [some (.ref 46), w1, w2, w3, some (.int v4)], [], (SH, (m_up (m_up (m_up m.1 50 (m.1 46 5).toNatClampNeg v4) 51 ((m_up m.1 50 (m.1 46 5).toNatClampNeg v4) 46 5).toNatClampNeg (1 : Int32)) 46 5 (((m_up (m_up m.1 50 (m.1 46 5).toNatClampNeg v4) 51 ((m_up m.1 50 (m.1 46 5).toNatClampNeg v4) 46 5).toNatClampNeg (1 : Int32)) 46 5) + (1 : Int32))), m.2)) from rfl) ?_
  exact ok_Trades_addTrade_61 X d F _ _ _ _ _ _ _ h
def f_Trades_addTrade (F : Nat)   (v1 : Int32) (v2 : Int32) (v3 : Int32) (v4 : Int32) (m : mM) : Option (Int32 × mM) := (if (m.1 46 5) < 0 ∨ 8 ≤ (m.1 46 5).toNatClampNeg then none else (if ((m_up m.1 47 (m.1 46 5).toNatClampNeg v1) 46 5) < 0 ∨ 8 ≤ ((m_up m.1 47 (m.1 46 5).toNatClampNeg v1) 46 5).toNatClampNeg then none else (if ((m_up (m_up m.1 47 (m.1 46 5).toNatClampNeg v1) 48 ((m_up m.1 47 (m.1 46 5).toNatClampNeg v1) 46 5).toNatClampNeg v2) 46 5) < 0 ∨ 8 ≤ ((m_up (m_up m.1 47 (m.1 46 5).toNatClampNeg v1) 48 ((m_up m.1 47 (m.1 46 5).toNatClampNeg v1) 46 5).toNatClampNeg v2) 46 5).toNatClampNeg then none else f_Trades_addTrade_30 F v4 ((m_up (m_up (m_up m.1 47 (m.1 46 5).toNatClampNeg v1) 48 ((m_up m.1 47 (m.1 46 5).toNatClampNeg v1) 46 5).toNatClampNeg v2) 49 ((m_up (m_up m.1 47 (m.1 46 5).toNatClampNeg v1) 48 ((m_up m.1 47 (m.1 46 5).toNatClampNeg v1) 46 5).toNatClampNeg v2) 46 5).toNatClampNeg v3), m.2))))
theorem ok_Trades_addTrade (X : mX) (d F : Nat) : ∀ (v1 : Int32) (v2 : Int32) (v3 : Int32) (v4 : Int32)  (m : mM) (r : Int32) (m' : mM), f_Trades_addTrade F v1 v2 v3 v4 m = some (r, m') → m_R X (d + 0) 103 0 [some (.ref 46), some (.int v1), some (.int v2), some (.int v3), some (.int v4)] [] (SH, m) (some (.int r), (SH, m')) := by
  intro v1 v2 v3 v4 m r m' h
  unfold f_Trades_addTrade at h
  refine m_R_sg (by decide) [(.aload_n 0, 1, 0, 0, 0, 0, 0), (.getfield 9, 3, 0, 9, 0, 3, 406), (.aload_n 0, 1, 0, 0, 0, 0, 0), (.getfield 31, 3, 0, 9, 5, 0, 417), (.iload_n 1, 1, 0, 1, 0, 0, 0)] (by decide +kernel) (show m_sgl X _ _ _ _ _ = some (9, [some (.ref 46), some (.int v1), some (.int v2), some (.int v3), some (.int v4)], [.int v1, .int (m.1 46 5), .ref 47], (SH, m.1, m.2)) from rfl) ?_
  obtain ⟨c906, h⟩ := m_ite_n h
  refine m_R_1 (by decide) (m_opb_of (ins := .iastore) (len := 1) (tag := 0) (a := 0) (b := 0) (c := 0) (q := 0) (by decide +kernel)) (m_s_iast sh_47 c906) ?_
  refine m_R_sg (by decide) [(.aload_n 0, 1, 0, 0, 0, 0, 0), (.getfield 15, 3, 0, 9, 1, 3, 408), (.aload_n 0, 1, 0, 0, 0, 0, 0), (.getfield 31, 3, 0, 9, 5, 0, 417), (.iload_n 2, 1, 0, 2, 0, 0, 0)] (by decide +kernel) (show m_sgl X _ _ _ _ _ = some (19, [some (.ref 46), some (.int v1), some (.int v2), some (.int v3), some (.int v4)], [.int v2, .int ((m_up m.1 47 (m.1 46 5).toNatClampNeg v1) 46 5), .ref 48], (SH, (m_up m.1 47 (m.1 46 5).toNatClampNeg v1), m.2)) from rfl) ?_
  obtain ⟨c907, h⟩ := m_ite_n h
  refine m_R_1 (by decide) (m_opb_of (ins := .iastore) (len := 1) (tag := 0) (a := 0) (b := 0) (c := 0) (q := 0) (by decide +kernel)) (m_s_iast sh_48 c907) ?_
  refine m_R_sg (by decide) [(.aload_n 0, 1, 0, 0, 0, 0, 0), (.getfield 18, 3, 0, 9, 2, 3, 410), (.aload_n 0, 1, 0, 0, 0, 0, 0), (.getfield 31, 3, 0, 9, 5, 0, 417), (.iload_n 3, 1, 0, 3, 0, 0, 0)] (by decide +kernel) (show m_sgl X _ _ _ _ _ = some (29, [some (.ref 46), some (.int v1), some (.int v2), some (.int v3), some (.int v4)], [.int v3, .int ((m_up (m_up m.1 47 (m.1 46 5).toNatClampNeg v1) 48 ((m_up m.1 47 (m.1 46 5).toNatClampNeg v1) 46 5).toNatClampNeg v2) 46 5), .ref 49], (SH, (m_up (m_up m.1 47 (m.1 46 5).toNatClampNeg v1) 48 ((m_up m.1 47 (m.1 46 5).toNatClampNeg v1) 46 5).toNatClampNeg v2), m.2)) from rfl) ?_
  obtain ⟨c908, h⟩ := m_ite_n h
  refine m_R_1 (by decide) (m_opb_of (ins := .iastore) (len := 1) (tag := 0) (a := 0) (b := 0) (c := 0) (q := 0) (by decide +kernel)) (m_s_iast sh_49 c908) ?_
  exact ok_Trades_addTrade_30 X d F _ _ _ _ _ _ _ h
def f_x_trade_27 (F : Nat)    (m : mM) : Option (Int32 × mM) := ((f_x_refuse F (-3 : Int32) m).bind fun q7 => some (q7.1, q7.2))
theorem ok_x_trade_27 (X : mX) (d F : Nat) : ∀  (w1 : Option Value) (w2 : Option Value) (w3 : Option Value) (w4 : Option Value) (w5 : Option Value) (m : mM) (r : Int32) (m' : mM), f_x_trade_27 F  m = some (r, m') → m_R X (d + 1) 102 27 [some (.ref 0), w1, w2, w3, w4, w5] [] (SH, m) (some (.int r), (SH, m')) := by
  intro w1 w2 w3 w4 w5 m r m' h
  unfold f_x_trade_27 at h
  refine m_R_sg (by decide) [(.aload_n 0, 1, 0, 0, 0, 0, 0), (.bipush (-3), 2, 0, 3, 1, 0, 0)] (by decide +kernel) (show m_sgl X _ _ _ _ _ = some (30, [some (.ref 0), w1, w2, w3, w4, w5], [.int (-3 : Int32), .ref 0], (SH, m.1, m.2)) from rfl) ?_
  obtain ⟨q7, hc7, h⟩ := Option.bind_eq_some_iff.mp h
  refine m_R_cV (v := (some (.int q7.1))) (h1 := (SH, q7.2)) (rest := []) (lo' := [some (.ref 0), some (.int (-3 : Int32))]) (ml := 2) (k0 := 0) (by decide) (Or.inl rfl) (m_opb_of (ins := .invokevirtual 76) (len := 3) (tag := 5) (a := 14) (b := 1) (c := 0) (q := 671) (by decide +kernel)) (by decide +kernel) rfl (show m_isO 14 0 (SH, _) = true from m_isO_of (by decide +kernel)) (Nat.le_of_ble_eq_true rfl) rfl rfl (ok_x_refuse X (d + 0) F _ _ _ _ hc7) ?_
  obtain ⟨rfl, rfl⟩ := m_some h
  exact m_R_iret (by decide) (m_opb_of (ins := .ireturn) (len := 1) (tag := 1) (a := 0) (b := 0) (c := 0) (q := 0) (by decide +kernel)) (Or.inl rfl)
def f_x_trade_54 (F : Nat)    (m : mM) : Option (Int32 × mM) := ((f_x_refuse F (-5 : Int32) m).bind fun q8 => some (q8.1, q8.2))
theorem ok_x_trade_54 (X : mX) (d F : Nat) : ∀  (w1 : Option Value) (w2 : Option Value) (w3 : Option Value) (w4 : Option Value) (w5 : Option Value) (m : mM) (r : Int32) (m' : mM), f_x_trade_54 F  m = some (r, m') → m_R X (d + 1) 102 54 [some (.ref 0), w1, w2, w3, w4, w5] [] (SH, m) (some (.int r), (SH, m')) := by
  intro w1 w2 w3 w4 w5 m r m' h
  unfold f_x_trade_54 at h
  refine m_R_sg (by decide) [(.aload_n 0, 1, 0, 0, 0, 0, 0), (.bipush (-5), 2, 0, 5, 1, 0, 0)] (by decide +kernel) (show m_sgl X _ _ _ _ _ = some (57, [some (.ref 0), w1, w2, w3, w4, w5], [.int (-5 : Int32), .ref 0], (SH, m.1, m.2)) from rfl) ?_
  obtain ⟨q8, hc8, h⟩ := Option.bind_eq_some_iff.mp h
  refine m_R_cV (v := (some (.int q8.1))) (h1 := (SH, q8.2)) (rest := []) (lo' := [some (.ref 0), some (.int (-5 : Int32))]) (ml := 2) (k0 := 0) (by decide) (Or.inl rfl) (m_opb_of (ins := .invokevirtual 76) (len := 3) (tag := 5) (a := 14) (b := 1) (c := 0) (q := 671) (by decide +kernel)) (by decide +kernel) rfl (show m_isO 14 0 (SH, _) = true from m_isO_of (by decide +kernel)) (Nat.le_of_ble_eq_true rfl) rfl rfl (ok_x_refuse X (d + 0) F _ _ _ _ hc8) ?_
  obtain ⟨rfl, rfl⟩ := m_some h
  exact m_R_iret (by decide) (m_opb_of (ins := .ireturn) (len := 1) (tag := 1) (a := 0) (b := 0) (c := 0) (q := 0) (by decide +kernel)) (Or.inl rfl)
def f_x_trade_81 (F : Nat)    (m : mM) : Option (Int32 × mM) := ((f_x_refuse F (-7 : Int32) m).bind fun q9 => some (q9.1, q9.2))
theorem ok_x_trade_81 (X : mX) (d F : Nat) : ∀  (w1 : Option Value) (w2 : Option Value) (w3 : Option Value) (w4 : Option Value) (w5 : Option Value) (m : mM) (r : Int32) (m' : mM), f_x_trade_81 F  m = some (r, m') → m_R X (d + 1) 102 81 [some (.ref 0), w1, w2, w3, w4, w5] [] (SH, m) (some (.int r), (SH, m')) := by
  intro w1 w2 w3 w4 w5 m r m' h
  unfold f_x_trade_81 at h
  refine m_R_sg (by decide) [(.aload_n 0, 1, 0, 0, 0, 0, 0), (.bipush (-7), 2, 0, 7, 1, 0, 0)] (by decide +kernel) (show m_sgl X _ _ _ _ _ = some (84, [some (.ref 0), w1, w2, w3, w4, w5], [.int (-7 : Int32), .ref 0], (SH, m.1, m.2)) from rfl) ?_
  obtain ⟨q9, hc9, h⟩ := Option.bind_eq_some_iff.mp h
  refine m_R_cV (v := (some (.int q9.1))) (h1 := (SH, q9.2)) (rest := []) (lo' := [some (.ref 0), some (.int (-7 : Int32))]) (ml := 2) (k0 := 0) (by decide) (Or.inl rfl) (m_opb_of (ins := .invokevirtual 76) (len := 3) (tag := 5) (a := 14) (b := 1) (c := 0) (q := 671) (by decide +kernel)) (by decide +kernel) rfl (show m_isO 14 0 (SH, _) = true from m_isO_of (by decide +kernel)) (Nat.le_of_ble_eq_true rfl) rfl rfl (ok_x_refuse X (d + 0) F _ _ _ _ hc9) ?_
  obtain ⟨rfl, rfl⟩ := m_some h
  exact m_R_iret (by decide) (m_opb_of (ins := .ireturn) (len := 1) (tag := 1) (a := 0) (b := 0) (c := 0) (q := 0) (by decide +kernel)) (Or.inl rfl)
def f_x_trade (F : Nat)   (v1 : Int32) (v2 : Int32) (v3 : Int32) (v4 : Int32) (m : mM) : Option (Int32 × mM) := ((f_Houses_isHouse F v1 m).bind fun q1 => (if q1.1 = 0 then f_x_trade_27 F q1.2 else ((f_Houses_isHouse F v2 q1.2).bind fun q2 => (if q2.1 = 0 then f_x_trade_27 F q2.2 else (if v1 < 0 ∨ 16 ≤ v1.toNatClampNeg then none else (if (q2.2.1 20 v1.toNatClampNeg) = 0 then (if v2 < 0 ∨ 16 ≤ v2.toNatClampNeg then none else (if (q2.2.1 20 v2.toNatClampNeg) = 0 then ((f_x_isSum F v3 q2.2).bind fun q3 => (if q3.1 = 0 then f_x_trade_81 F q3.2 else ((f_x_isTerm F v4 q3.2).bind fun q4 => (if q4.1 = 0 then f_x_trade_81 F q4.2 else (if v1 = v2 then f_x_trade_81 F q4.2 else (if (q4.2.1 46 5) < (8 : Int32) then ((f_Trades_addTrade F v1 v2 v3 v4 q4.2).bind fun q5 => some (q5.1, q5.2)) else ((f_x_refuse F (-8 : Int32) q4.2).bind fun q6 => some (q6.1, q6.2)))))))) else f_x_trade_54 F q2.2)) else f_x_trade_54 F q2.2))))))
theorem ok_x_trade (X : mX) (d F : Nat) : ∀ (v1 : Int32) (v2 : Int32) (v3 : Int32) (v4 : Int32)  (m : mM) (r : Int32) (m' : mM), f_x_trade F v1 v2 v3 v4 m = some (r, m') → m_R X (d + 1) 102 0 [some (.ref 0), some (.int v1), some (.int v2), some (.int v3), some (.int v4), none] [] (SH, m) (some (.int r), (SH, m')) := by
  intro v1 v2 v3 v4 m r m' h
  unfold f_x_trade at h
  refine m_R_sg (by decide) [(.aload_n 0, 1, 0, 0, 0, 0, 0), (.getfield 28, 3, 0, 11, 2, 3, 632), (.getfield 95, 3, 0, 10, 1, 3, 507), (.astore 5, 2, 0, 5, 0, 0, 0), (.aload 5, 2, 0, 5, 0, 0, 0), (.iload_n 1, 1, 0, 1, 0, 0, 0)] (by decide +kernel) (show m_sgl X _ _ _ _ _ = some (12, [some (.ref 0), some (.int v1), some (.int v2), some (.int v3), some (.int v4), some (.ref 19)], [.int v1, .ref 19], (SH, m.1, m.2)) from rfl) ?_
  obtain ⟨q1, hc1, h⟩ := Option.bind_eq_some_iff.mp h
  refine m_R_cV (v := (some (.int q1.1))) (h1 := (SH, q1.2)) (rest := []) (lo' := [some (.ref 19), some (.int v1)]) (ml := 2) (k0 := 19) (by decide) (Or.inl rfl) (m_opb_of (ins := .invokevirtual 107) (len := 3) (tag := 5) (a := 24) (b := 1) (c := 0) (q := 712) (by decide +kernel)) (by decide +kernel) rfl (show m_isO 24 19 (SH, _) = true from m_isO_of (by decide +kernel)) (Nat.le_of_ble_eq_true rfl) rfl rfl (ok_Houses_isHouse X (d + 0) F _ _ _ _ hc1) ?_
  rcases m_ite h with ⟨c909, h⟩ | ⟨c909, h⟩
  · refine m_R_1 (by decide) (m_opb_of (ins := .ifCond .eq 12) (len := 3) (tag := 0) (a := 27) (b := 0) (c := 0) (q := 0) (by decide +kernel)) (if_pos c909) ?_
    exact ok_x_trade_27 X d F _ _ _ _ _ _ _ _ h
  · refine m_R_1 (by decide) (m_opb_of (ins := .ifCond .eq 12) (len := 3) (tag := 0) (a := 27) (b := 0) (c := 0) (q := 0) (by decide +kernel)) (if_neg c909) ?_
    refine m_R_sg (by decide) [(.aload 5, 2, 0, 5, 0, 0, 0), (.iload_n 2, 1, 0, 2, 0, 0, 0)] (by decide +kernel) (show m_sgl X _ _ _ _ _ = some (21, [some (.ref 0), some (.int v1), some (.int v2), some (.int v3), some (.int v4), some (.ref 19)], [.int v2, .ref 19], (SH, q1.2.1, q1.2.2)) from rfl) ?_
    obtain ⟨q2, hc2, h⟩ := Option.bind_eq_some_iff.mp h
    refine m_R_cV (v := (some (.int q2.1))) (h1 := (SH, q2.2)) (rest := []) (lo' := [some (.ref 19), some (.int v2)]) (ml := 2) (k0 := 19) (by decide) (Or.inl rfl) (m_opb_of (ins := .invokevirtual 107) (len := 3) (tag := 5) (a := 24) (b := 1) (c := 0) (q := 712) (by decide +kernel)) (by decide +kernel) rfl (show m_isO 24 19 (SH, _) = true from m_isO_of (by decide +kernel)) (Nat.le_of_ble_eq_true rfl) rfl rfl (ok_Houses_isHouse X (d + 0) F _ _ _ _ hc2) ?_
    rcases m_ite h with ⟨c910, h⟩ | ⟨c910, h⟩
    · refine m_R_1 (by decide) (m_opb_of (ins := .ifCond .ne 10) (len := 3) (tag := 0) (a := 34) (b := 0) (c := 0) (q := 0) (by decide +kernel)) (if_pos c910) ?_
      exact ok_x_trade_27 X d F _ _ _ _ _ _ _ _ h
    · refine m_R_1 (by decide) (m_opb_of (ins := .ifCond .ne 10) (len := 3) (tag := 0) (a := 34) (b := 0) (c := 0) (q := 0) (by decide +kernel)) (if_neg c910) ?_
      refine m_R_sg (by decide) [(.aload 5, 2, 0, 5, 0, 0, 0), (.getfield 116, 3, 0, 1, 0, 3, 250), (.iload_n 1, 1, 0, 1, 0, 0, 0)] (by decide +kernel) (show m_sgl X _ _ _ _ _ = some (40, [some (.ref 0), some (.int v1), some (.int v2), some (.int v3), some (.int v4), some (.ref 19)], [.int v1, .ref 20], (SH, q2.2.1, q2.2.2)) from rfl) ?_
      obtain ⟨c911, h⟩ := m_ite_n h
      refine m_R_1 (by decide) (m_opb_of (ins := .iaload) (len := 1) (tag := 0) (a := 0) (b := 0) (c := 0) (q := 0) (by decide +kernel)) (m_s_iald sh_20 (by decide) c911) ?_
      rcases m_ite h with ⟨c912, h⟩ | ⟨c912, h⟩
      · refine m_R_1 (by decide) (m_opb_of (ins := .ifCond .ne 13) (len := 3) (tag := 0) (a := 54) (b := 0) (c := 0) (q := 0) (by decide +kernel)) (if_pos c912) ?_
        refine m_R_sg (by decide) [(.aload 5, 2, 0, 5, 0, 0, 0), (.getfield 116, 3, 0, 1, 0, 3, 250), (.iload_n 2, 1, 0, 2, 0, 0, 0)] (by decide +kernel) (show m_sgl X _ _ _ _ _ = some (50, [some (.ref 0), some (.int v1), some (.int v2), some (.int v3), some (.int v4), some (.ref 19)], [.int v2, .ref 20], (SH, q2.2.1, q2.2.2)) from rfl) ?_
        obtain ⟨c913, h⟩ := m_ite_n h
        refine m_R_1 (by decide) (m_opb_of (ins := .iaload) (len := 1) (tag := 0) (a := 0) (b := 0) (c := 0) (q := 0) (by decide +kernel)) (m_s_iald sh_20 (by decide) c913) ?_
        rcases m_ite h with ⟨c914, h⟩ | ⟨c914, h⟩
        · refine m_R_1 (by decide) (m_opb_of (ins := .ifCond .eq 10) (len := 3) (tag := 0) (a := 61) (b := 0) (c := 0) (q := 0) (by decide +kernel)) (if_pos c914) ?_
          refine m_R_sg (by decide) [(.iload_n 3, 1, 0, 3, 0, 0, 0)] (by decide +kernel) (show m_sgl X _ _ _ _ _ = some (62, [some (.ref 0), some (.int v1), some (.int v2), some (.int v3), some (.int v4), some (.ref 19)], [.int v3], (SH, q2.2.1, q2.2.2)) from rfl) ?_
          obtain ⟨q3, hc3, h⟩ := Option.bind_eq_some_iff.mp h
          refine m_R_cS (v := (some (.int q3.1))) (h1 := (SH, q3.2)) (rest := []) (lo' := [some (.int v3)]) (ml := 1) (by decide) (m_opb_of (ins := .invokestatic 170) (len := 3) (tag := 4) (a := 34) (b := 1) (c := 0) (q := 753) (by decide +kernel)) (by decide +kernel) (Nat.le_of_ble_eq_true rfl) rfl (Nat.le_of_ble_eq_true rfl) rfl rfl (ok_x_isSum X (d + 0) F _ _ _ _ hc3) ?_
          rcases m_ite h with ⟨c915, h⟩ | ⟨c915, h⟩
          · refine m_R_1 (by decide) (m_opb_of (ins := .ifCond .eq 16) (len := 3) (tag := 0) (a := 81) (b := 0) (c := 0) (q := 0) (by decide +kernel)) (if_pos c915) ?_
            exact ok_x_trade_81 X d F _ _ _ _ _ _ _ _ h
          · refine m_R_1 (by decide) (m_opb_of (ins := .ifCond .eq 16) (len := 3) (tag := 0) (a := 81) (b := 0) (c := 0) (q := 0) (by decide +kernel)) (if_neg c915) ?_
            refine m_R_sg (by decide) [(.iload 4, 2, 0, 4, 0, 0, 0)] (by decide +kernel) (show m_sgl X _ _ _ _ _ = some (70, [some (.ref 0), some (.int v1), some (.int v2), some (.int v3), some (.int v4), some (.ref 19)], [.int v4], (SH, q3.2.1, q3.2.2)) from rfl) ?_
            obtain ⟨q4, hc4, h⟩ := Option.bind_eq_some_iff.mp h
            refine m_R_cS (v := (some (.int q4.1))) (h1 := (SH, q4.2)) (rest := []) (lo' := [some (.int v4)]) (ml := 1) (by decide) (m_opb_of (ins := .invokestatic 315) (len := 3) (tag := 4) (a := 72) (b := 1) (c := 0) (q := 902) (by decide +kernel)) (by decide +kernel) (Nat.le_of_ble_eq_true rfl) rfl (Nat.le_of_ble_eq_true rfl) rfl rfl (ok_x_isTerm X (d + 0) F _ _ _ _ hc4) ?_
            rcases m_ite h with ⟨c916, h⟩ | ⟨c916, h⟩
            · refine m_R_1 (by decide) (m_opb_of (ins := .ifCond .eq 8) (len := 3) (tag := 0) (a := 81) (b := 0) (c := 0) (q := 0) (by decide +kernel)) (if_pos c916) ?_
              exact ok_x_trade_81 X d F _ _ _ _ _ _ _ _ h
            · refine m_R_1 (by decide) (m_opb_of (ins := .ifCond .eq 8) (len := 3) (tag := 0) (a := 81) (b := 0) (c := 0) (q := 0) (by decide +kernel)) (if_neg c916) ?_
              refine m_R_sg (by decide) [(.iload_n 1, 1, 0, 1, 0, 0, 0), (.iload_n 2, 1, 0, 2, 0, 0, 0)] (by decide +kernel) (show m_sgl X _ _ _ _ _ = some (78, [some (.ref 0), some (.int v1), some (.int v2), some (.int v3), some (.int v4), some (.ref 19)], [.int v2, .int v1], (SH, q4.2.1, q4.2.2)) from rfl) ?_
              rcases m_ite h with ⟨c917, h⟩ | ⟨c917, h⟩
              · refine m_R_1 (by decide) (m_opb_of (ins := .if_icmp .ne 10) (len := 3) (tag := 0) (a := 88) (b := 0) (c := 0) (q := 0) (by decide +kernel)) (if_pos c917) ?_
                exact ok_x_trade_81 X d F _ _ _ _ _ _ _ _ h
              · refine m_R_1 (by decide) (m_opb_of (ins := .if_icmp .ne 10) (len := 3) (tag := 0) (a := 88) (b := 0) (c := 0) (q := 0) (by decide +kernel)) (if_neg c917) ?_
                refine m_R_sg (by decide) [(.aload_n 0, 1, 0, 0, 0, 0, 0), (.getfield 28, 3, 0, 11, 2, 3, 632), (.getfield 318, 3, 0, 10, 3, 3, 512), (.getfield 322, 3, 0, 9, 5, 0, 419), (.bipush 8, 2, 0, 8, 0, 0, 0)] (by decide +kernel) (show m_sgl X _ _ _ _ _ = some (100, [some (.ref 0), some (.int v1), some (.int v2), some (.int v3), some (.int v4), some (.ref 19)], [.int (8 : Int32), .int (q4.2.1 46 5)], (SH, q4.2.1, q4.2.2)) from rfl) ?_
                rcases m_ite h with ⟨c918, h⟩ | ⟨c918, h⟩
                · refine m_R_1 (by decide) (m_opb_of (ins := .if_icmp .lt 10) (len := 3) (tag := 0) (a := 110) (b := 0) (c := 0) (q := 0) (by decide +kernel)) (if_pos c918) ?_
                  refine m_R_sg (by decide) [(.aload_n 0, 1, 0, 0, 0, 0, 0), (.getfield 28, 3, 0, 11, 2, 3, 632), (.getfield 318, 3, 0, 10, 3, 3, 512), (.iload_n 1, 1, 0, 1, 0, 0, 0), (.iload_n 2, 1, 0, 2, 0, 0, 0), (.iload_n 3, 1, 0, 3, 0, 0, 0), (.iload 4, 2, 0, 4, 0, 0, 0)] (by decide +kernel) (show m_sgl X _ _ _ _ _ = some (122, [some (.ref 0), some (.int v1), some (.int v2), some (.int v3), some (.int v4), some (.ref 19)], [.int v4, .int v3, .int v2, .int v1, .ref 46], (SH, q4.2.1, q4.2.2)) from rfl) ?_
                  obtain ⟨q5, hc5, h⟩ := Option.bind_eq_some_iff.mp h
                  refine m_R_cV (v := (some (.int q5.1))) (h1 := (SH, q5.2)) (rest := []) (lo' := [some (.ref 46), some (.int v1), some (.int v2), some (.int v3), some (.int v4)]) (ml := 5) (k0 := 46) (by decide) (Or.inl rfl) (m_opb_of (ins := .invokevirtual 325) (len := 3) (tag := 5) (a := 103) (b := 4) (c := 0) (q := 1039) (by decide +kernel)) (by decide +kernel) rfl (show m_isO 103 46 (SH, _) = true from m_isO_of (by decide +kernel)) (Nat.le_of_ble_eq_true rfl) rfl rfl (ok_Trades_addTrade X (d + 0) F _ _ _ _ _ _ _ hc5) ?_
                  obtain ⟨rfl, rfl⟩ := m_some h
                  exact m_R_iret (by decide) (m_opb_of (ins := .ireturn) (len := 1) (tag := 1) (a := 0) (b := 0) (c := 0) (q := 0) (by decide +kernel)) (Or.inl rfl)
                · refine m_R_1 (by decide) (m_opb_of (ins := .if_icmp .lt 10) (len := 3) (tag := 0) (a := 110) (b := 0) (c := 0) (q := 0) (by decide +kernel)) (if_neg c918) ?_
                  refine m_R_sg (by decide) [(.aload_n 0, 1, 0, 0, 0, 0, 0), (.bipush (-8), 2, 0, 8, 1, 0, 0)] (by decide +kernel) (show m_sgl X _ _ _ _ _ = some (106, [some (.ref 0), some (.int v1), some (.int v2), some (.int v3), some (.int v4), some (.ref 19)], [.int (-8 : Int32), .ref 0], (SH, q4.2.1, q4.2.2)) from rfl) ?_
                  obtain ⟨q6, hc6, h⟩ := Option.bind_eq_some_iff.mp h
                  refine m_R_cV (v := (some (.int q6.1))) (h1 := (SH, q6.2)) (rest := []) (lo' := [some (.ref 0), some (.int (-8 : Int32))]) (ml := 2) (k0 := 0) (by decide) (Or.inl rfl) (m_opb_of (ins := .invokevirtual 76) (len := 3) (tag := 5) (a := 14) (b := 1) (c := 0) (q := 671) (by decide +kernel)) (by decide +kernel) rfl (show m_isO 14 0 (SH, _) = true from m_isO_of (by decide +kernel)) (Nat.le_of_ble_eq_true rfl) rfl rfl (ok_x_refuse X (d + 0) F _ _ _ _ hc6) ?_
                  obtain ⟨rfl, rfl⟩ := m_some h
                  exact m_R_iret (by decide) (m_opb_of (ins := .ireturn) (len := 1) (tag := 1) (a := 0) (b := 0) (c := 0) (q := 0) (by decide +kernel)) (Or.inl rfl)
        · refine m_R_1 (by decide) (m_opb_of (ins := .ifCond .eq 10) (len := 3) (tag := 0) (a := 61) (b := 0) (c := 0) (q := 0) (by decide +kernel)) (if_neg c914) ?_
          exact ok_x_trade_54 X d F _ _ _ _ _ _ _ _ h
      · refine m_R_1 (by decide) (m_opb_of (ins := .ifCond .ne 13) (len := 3) (tag := 0) (a := 54) (b := 0) (c := 0) (q := 0) (by decide +kernel)) (if_neg c912) ?_
        exact ok_x_trade_54 X d F _ _ _ _ _ _ _ _ h
def f_m_trade_16 (F : Nat)    (m : mM) : Option (Int32 × mM) := ((f_m_refuse F (-3 : Int32) m).bind fun q8 => some (q8.1, q8.2))
theorem ok_m_trade_16 (X : mX) (d F : Nat) : ∀  (w1 : Option Value) (w2 : Option Value) (w3 : Option Value) (w4 : Option Value) (w5 : Option Value) (m : mM) (r : Int32) (m' : mM), f_m_trade_16 F  m = some (r, m') → m_R X (d + 2) 289 16 [some (.ref 304), w1, w2, w3, w4, w5] [] (SH, m) (some (.int r), (SH, m')) := by
  intro w1 w2 w3 w4 w5 m r m' h
  unfold f_m_trade_16 at h
  refine m_R_sg (by decide) [(.aload_n 0, 1, 0, 0, 0, 0, 0), (.bipush (-3), 2, 0, 3, 1, 0, 0)] (by decide +kernel) (show m_sgl X _ _ _ _ _ = some (19, [some (.ref 304), w1, w2, w3, w4, w5], [.int (-3 : Int32), .ref 304], (SH, m.1, m.2)) from rfl) ?_
  obtain ⟨q8, hc8, h⟩ := Option.bind_eq_some_iff.mp h
  refine m_R_cV (v := (some (.int q8.1))) (h1 := (SH, q8.2)) (rest := []) (lo' := [some (.ref 304), some (.int (-3 : Int32))]) (ml := 2) (k0 := 304) (by decide) (Or.inl rfl) (m_opb_of (ins := .invokevirtual 61) (len := 3) (tag := 5) (a := 202) (b := 1) (c := 0) (q := 1593) (by decide +kernel)) (by decide +kernel) rfl (show m_isO 202 304 (SH, _) = true from m_isO_of (by decide +kernel)) (Nat.le_of_ble_eq_true rfl) rfl rfl (ok_m_refuse X (d + 1) F _ _ _ _ hc8) ?_
  obtain ⟨rfl, rfl⟩ := m_some h
  exact m_R_iret (by decide) (m_opb_of (ins := .ireturn) (len := 1) (tag := 1) (a := 0) (b := 0) (c := 0) (q := 0) (by decide +kernel)) (Or.inl rfl)
def f_m_trade_41 (F : Nat)    (m : mM) : Option (Int32 × mM) := ((f_m_refuse F (-5 : Int32) m).bind fun q9 => some (q9.1, q9.2))
theorem ok_m_trade_41 (X : mX) (d F : Nat) : ∀  (w1 : Option Value) (w2 : Option Value) (w3 : Option Value) (w4 : Option Value) (w5 : Option Value) (m : mM) (r : Int32) (m' : mM), f_m_trade_41 F  m = some (r, m') → m_R X (d + 2) 289 41 [some (.ref 304), w1, w2, w3, w4, w5] [] (SH, m) (some (.int r), (SH, m')) := by
  intro w1 w2 w3 w4 w5 m r m' h
  unfold f_m_trade_41 at h
  refine m_R_sg (by decide) [(.aload_n 0, 1, 0, 0, 0, 0, 0), (.bipush (-5), 2, 0, 5, 1, 0, 0)] (by decide +kernel) (show m_sgl X _ _ _ _ _ = some (44, [some (.ref 304), w1, w2, w3, w4, w5], [.int (-5 : Int32), .ref 304], (SH, m.1, m.2)) from rfl) ?_
  obtain ⟨q9, hc9, h⟩ := Option.bind_eq_some_iff.mp h
  refine m_R_cV (v := (some (.int q9.1))) (h1 := (SH, q9.2)) (rest := []) (lo' := [some (.ref 304), some (.int (-5 : Int32))]) (ml := 2) (k0 := 304) (by decide) (Or.inl rfl) (m_opb_of (ins := .invokevirtual 61) (len := 3) (tag := 5) (a := 202) (b := 1) (c := 0) (q := 1593) (by decide +kernel)) (by decide +kernel) rfl (show m_isO 202 304 (SH, _) = true from m_isO_of (by decide +kernel)) (Nat.le_of_ble_eq_true rfl) rfl rfl (ok_m_refuse X (d + 1) F _ _ _ _ hc9) ?_
  obtain ⟨rfl, rfl⟩ := m_some h
  exact m_R_iret (by decide) (m_opb_of (ins := .ireturn) (len := 1) (tag := 1) (a := 0) (b := 0) (c := 0) (q := 0) (by decide +kernel)) (Or.inl rfl)
def f_m_trade_75 (F : Nat)    (m : mM) : Option (Int32 × mM) := ((f_m_refuse F (-7 : Int32) m).bind fun q10 => some (q10.1, q10.2))
theorem ok_m_trade_75 (X : mX) (d F : Nat) : ∀  (w1 : Option Value) (w2 : Option Value) (w3 : Option Value) (w4 : Option Value) (w5 : Option Value) (m : mM) (r : Int32) (m' : mM), f_m_trade_75 F  m = some (r, m') → m_R X (d + 2) 289 75 [some (.ref 304), w1, w2, w3, w4, w5] [] (SH, m) (some (.int r), (SH, m')) := by
  intro w1 w2 w3 w4 w5 m r m' h
  unfold f_m_trade_75 at h
  refine m_R_sg (by decide) [(.aload_n 0, 1, 0, 0, 0, 0, 0), (.bipush (-7), 2, 0, 7, 1, 0, 0)] (by decide +kernel) (show m_sgl X _ _ _ _ _ = some (78, [some (.ref 304), w1, w2, w3, w4, w5], [.int (-7 : Int32), .ref 304], (SH, m.1, m.2)) from rfl) ?_
  obtain ⟨q10, hc10, h⟩ := Option.bind_eq_some_iff.mp h
  refine m_R_cV (v := (some (.int q10.1))) (h1 := (SH, q10.2)) (rest := []) (lo' := [some (.ref 304), some (.int (-7 : Int32))]) (ml := 2) (k0 := 304) (by decide) (Or.inl rfl) (m_opb_of (ins := .invokevirtual 61) (len := 3) (tag := 5) (a := 202) (b := 1) (c := 0) (q := 1593) (by decide +kernel)) (by decide +kernel) rfl (show m_isO 202 304 (SH, _) = true from m_isO_of (by decide +kernel)) (Nat.le_of_ble_eq_true rfl) rfl rfl (ok_m_refuse X (d + 1) F _ _ _ _ hc10) ?_
  obtain ⟨rfl, rfl⟩ := m_some h
  exact m_R_iret (by decide) (m_opb_of (ins := .ireturn) (len := 1) (tag := 1) (a := 0) (b := 0) (c := 0) (q := 0) (by decide +kernel)) (Or.inl rfl)
def f_m_trade_173 (F : Nat)    (m : mM) : Option (Int32 × mM) := some (((m.1 305 (4 : Int32).toNatClampNeg) - (1 : Int32)), m)
theorem ok_m_trade_173 (X : mX) (d F : Nat) : ∀  (w1 : Option Value) (w2 : Option Value) (w3 : Option Value) (w4 : Option Value) (w5 : Option Value) (m : mM) (r : Int32) (m' : mM), f_m_trade_173 F  m = some (r, m') → m_R X (d + 2) 289 173 [some (.ref 304), w1, w2, w3, w4, w5] [] (SH, m) (some (.int r), (SH, m')) := by
  intro w1 w2 w3 w4 w5 m r m' h
  unfold f_m_trade_173 at h
  refine m_R_sg (by decide) [(.aload_n 0, 1, 0, 0, 0, 0, 0), (.getfield 13, 3, 0, 12, 1, 3, 1493), (.iconst 4, 1, 0, 4, 0, 0, 0)] (by decide +kernel) (show m_sgl X _ _ _ _ _ = some (178, [some (.ref 304), w1, w2, w3, w4, w5], [.int (4 : Int32), .ref 305], (SH, m.1, m.2)) from rfl) ?_
  refine m_R_1 (by decide) (m_opb_of (ins := .iaload) (len := 1) (tag := 0) (a := 0) (b := 0) (c := 0) (q := 0) (by decide +kernel)) (m_s_iald sh_305 (by decide) (show ¬ ((4 : Int32) < 0 ∨ 9732 ≤ (4 : Int32).toNatClampNeg) by decide)) ?_
  refine m_R_sg (by decide) [(.iconst 1, 1, 0, 1, 0, 0, 0), (.isub, 1, 0, 0, 0, 0, 0)] (by decide +kernel) (show m_sgl X _ _ _ _ _ = some (181, [some (.ref 304), w1, w2, w3, w4, w5], [.int ((m.1 305 (4 : Int32).toNatClampNeg) - (1 : Int32))], (SH, m.1, m.2)) from rfl) ?_
  obtain ⟨rfl, rfl⟩ := m_some h
  exact m_R_iret (by decide) (m_opb_of (ins := .ireturn) (len := 1) (tag := 1) (a := 0) (b := 0) (c := 0) (q := 0) (by decide +kernel)) (Or.inl rfl)
def f_m_trade_132 (F : Nat)   (v3 : Int32) (v4 : Int32) (v5 : Int32) (m : mM) : Option (Int32 × mM) := (if (v5 + (2 : Int32)) < 0 ∨ 9732 ≤ (v5 + (2 : Int32)).toNatClampNeg then none else (if (v5 + (3 : Int32)) < 0 ∨ 9732 ≤ (v5 + (3 : Int32)).toNatClampNeg then none else (if (v5 + (4 : Int32)) < 0 ∨ 9732 ≤ (v5 + (4 : Int32)).toNatClampNeg then none else f_m_trade_173 F ((m_up (m_up (m_up (m_up m.1 305 (v5 + (2 : Int32)).toNatClampNeg v3) 305 (v5 + (3 : Int32)).toNatClampNeg v4) 305 (v5 + (4 : Int32)).toNatClampNeg (1 : Int32)) 305 (4 : Int32).toNatClampNeg (((m_up (m_up (m_up m.1 305 (v5 + (2 : Int32)).toNatClampNeg v3) 305 (v5 + (3 : Int32)).toNatClampNeg v4) 305 (v5 + (4 : Int32)).toNatClampNeg (1 : Int32)) 305 (4 : Int32).toNatClampNeg) + (1 : Int32))), m.2))))
theorem ok_m_trade_132 (X : mX) (d F : Nat) : ∀ (v3 : Int32) (v4 : Int32) (v5 : Int32) (w1 : Option Value) (w2 : Option Value) (m : mM) (r : Int32) (m' : mM), f_m_trade_132 F v3 v4 v5 m = some (r, m') → m_R X (d + 2) 289 132 [some (.ref 304), w1, w2, some (.int v3), some (.int v4), some (.int v5)] [] (SH, m) (some (.int r), (SH, m')) := by
  intro v3 v4 v5 w1 w2 m r m' h
  unfold f_m_trade_132 at h
  refine m_R_sg (by decide) [(.aload_n 0, 1, 0, 0, 0, 0, 0), (.getfield 13, 3, 0, 12, 1, 3, 1493), (.iload 5, 2, 0, 5, 0, 0, 0), (.iconst 2, 1, 0, 2, 0, 0, 0), (.iadd, 1, 0, 0, 0, 0, 0), (.iload_n 3, 1, 0, 3, 0, 0, 0)] (by decide +kernel) (show m_sgl X _ _ _ _ _ = some (141, [some (.ref 304), w1, w2, some (.int v3), some (.int v4), some (.int v5)], [.int v3, .int (v5 + (2 : Int32)), .ref 305], (SH, m.1, m.2)) from rfl) ?_
  obtain ⟨c919, h⟩ := m_ite_n h
  refine m_R_1 (by decide) (m_opb_of (ins := .iastore) (len := 1) (tag := 0) (a := 0) (b := 0) (c := 0) (q := 0) (by decide +kernel)) (m_s_iast sh_305 c919) ?_
  refine m_R_sg (by decide) [(.aload_n 0, 1, 0, 0, 0, 0, 0), (.getfield 13, 3, 0, 12, 1, 3, 1493), (.iload 5, 2, 0, 5, 0, 0, 0), (.iconst 3, 1, 0, 3, 0, 0, 0), (.iadd, 1, 0, 0, 0, 0, 0), (.iload 4, 2, 0, 4, 0, 0, 0)] (by decide +kernel) (show m_sgl X _ _ _ _ _ = some (152, [some (.ref 304), w1, w2, some (.int v3), some (.int v4), some (.int v5)], [.int v4, .int (v5 + (3 : Int32)), .ref 305], (SH, (m_up m.1 305 (v5 + (2 : Int32)).toNatClampNeg v3), m.2)) from rfl) ?_
  obtain ⟨c920, h⟩ := m_ite_n h
  refine m_R_1 (by decide) (m_opb_of (ins := .iastore) (len := 1) (tag := 0) (a := 0) (b := 0) (c := 0) (q := 0) (by decide +kernel)) (m_s_iast sh_305 c920) ?_
  refine m_R_sg (by decide) [(.aload_n 0, 1, 0, 0, 0, 0, 0), (.getfield 13, 3, 0, 12, 1, 3, 1493), (.iload 5, 2, 0, 5, 0, 0, 0), (.iconst 4, 1, 0, 4, 0, 0, 0), (.iadd, 1, 0, 0, 0, 0, 0), (.iconst 1, 1, 0, 1, 0, 0, 0)] (by decide +kernel) (show m_sgl X _ _ _ _ _ = some (162, [some (.ref 304), w1, w2, some (.int v3), some (.int v4), some (.int v5)], [.int (1 : Int32), .int (v5 + (4 : Int32)), .ref 305], (SH, (m_up (m_up m.1 305 (v5 + (2 : Int32)).toNatClampNeg v3) 305 (v5 + (3 : Int32)).toNatClampNeg v4), m.2)) from rfl) ?_
  obtain ⟨c921, h⟩ := m_ite_n h
  refine m_R_1 (by decide) (m_opb_of (ins := .iastore) (len := 1) (tag := 0) (a := 0) (b := 0) (c := 0) (q := 0) (by decide +kernel)) (m_s_iast sh_305 c921) ?_
  refine m_R_sg (by decide) [(.aload_n 0, 1, 0, 0, 0, 0, 0), (.getfield 13, 3, 0, 12, 1, 3, 1493), (.iconst 4, 1, 0, 4, 0, 0, 0), (.dup2, 1, 0, 0, 0, 0, 0)] (by decide +kernel) (show m_sgl X _ _ _ _ _ = some (169, [some (.ref 304), w1, w2, some (.int v3), some (.int v4), some (.int v5)], [.int (4 : Int32), .ref 305, .int (4 : Int32), .ref 305], (SH, (m_up (m_up (m_up m.1 305 (v5 + (2 : Int32)).toNatClampNeg v3) 305 (v5 + (3 : Int32)).toNatClampNeg v4) 305 (v5 + (4 : Int32)).toNatClampNeg (1 : Int32)), m.2)) from rfl) ?_
  refine m_R_1 (by decide) (m_opb_of (ins := .iaload) (len := 1) (tag := 0) (a := 0) (b := 0) (c := 0) (q := 0) (by decide +kernel)) (m_s_iald sh_305 (by decide) (show ¬ ((4 : Int32) < 0 ∨ 9732 ≤ (4 : Int32).toNatClampNeg) by decide)) ?_
  refine m_R_sg (by decide) [(.iconst 1, 1, 0, 1, 0, 0, 0), (.iadd, 1, 0, 0, 0, 0, 0)] (by decide +kernel) (show m_sgl X _ _ _ _ _ = some (172, [some (.ref 304), w1, w2, some (.int v3), some (.int v4), some (.int v5)], [.int (((m_up (m_up (m_up m.1 305 (v5 + (2 : Int32)).toNatClampNeg v3) 305 (v5 + (3 : Int32)).toNatClampNeg v4) 305 (v5 + (4 : Int32)).toNatClampNeg (1 : Int32)) 305 (4 : Int32).toNatClampNeg) + (1 : Int32)), .int (4 : Int32), .ref 305], (SH, (m_up (m_up (m_up m.1 305 (v5 + (2 : Int32)).toNatClampNeg v3) 305 (v5 + (3 : Int32)).toNatClampNeg v4) 305 (v5 + (4 : Int32)).toNatClampNeg (1 : Int32)), m.2)) from rfl) ?_
  refine m_R_1 (by decide) (m_opb_of (ins := .iastore) (len := 1) (tag := 0) (a := 0) (b := 0) (c := 0) (q := 0) (by decide +kernel)) (m_s_iast sh_305 (show ¬ ((4 : Int32) < 0 ∨ 9732 ≤ (4 : Int32).toNatClampNeg) by decide)) ?_
  exact ok_m_trade_173 X d F _ _ _ _ _ _ _ _ h
def f_m_trade (F : Nat)   (v1 : Int32) (v2 : Int32) (v3 : Int32) (v4 : Int32) (m : mM) : Option (Int32 × mM) := ((f_m_isHouse F v1 m).bind fun q1 => (if q1.1 = 0 then f_m_trade_16 F q1.2 else ((f_m_isHouse F v2 q1.2).bind fun q2 => (if q2.1 = 0 then f_m_trade_16 F q2.2 else ((f_m_hs F v1 (0 : Int32) q2.2).bind fun q3 => (if q3.1 = 0 then ((f_m_hs F v2 (0 : Int32) q3.2).bind fun q4 => (if q4.1 = 0 then ((f_m_in F v3 (1 : Int32) (9999 : Int32) q4.2).bind fun q5 => (if q5.1 = 0 then f_m_trade_75 F q5.2 else ((f_m_in F v4 (1 : Int32) (60 : Int32) q5.2).bind fun q6 => (if q6.1 = 0 then f_m_trade_75 F q6.2 else (if v1 = v2 then f_m_trade_75 F q6.2 else (if (q6.2.1 305 (4 : Int32).toNatClampNeg) = (8 : Int32) then ((f_m_refuse F (-8 : Int32) q6.2).bind fun q7 => some (q7.1, q7.2)) else (if ((7400 : Int32) + ((5 : Int32) * (q6.2.1 305 (4 : Int32).toNatClampNeg))) < 0 ∨ 9732 ≤ ((7400 : Int32) + ((5 : Int32) * (q6.2.1 305 (4 : Int32).toNatClampNeg))).toNatClampNeg then none else (if (((7400 : Int32) + ((5 : Int32) * (q6.2.1 305 (4 : Int32).toNatClampNeg))) + (1 : Int32)) < 0 ∨ 9732 ≤ (((7400 : Int32) + ((5 : Int32) * (q6.2.1 305 (4 : Int32).toNatClampNeg))) + (1 : Int32)).toNatClampNeg then none else f_m_trade_132 F v3 v4 ((7400 : Int32) + ((5 : Int32) * (q6.2.1 305 (4 : Int32).toNatClampNeg))) ((m_up (m_up q6.2.1 305 ((7400 : Int32) + ((5 : Int32) * (q6.2.1 305 (4 : Int32).toNatClampNeg))).toNatClampNeg v1) 305 (((7400 : Int32) + ((5 : Int32) * (q6.2.1 305 (4 : Int32).toNatClampNeg))) + (1 : Int32)).toNatClampNeg v2), q6.2.2))))))))) else f_m_trade_41 F q4.2)) else f_m_trade_41 F q3.2))))))
theorem ok_m_trade (X : mX) (d F : Nat) : ∀ (v1 : Int32) (v2 : Int32) (v3 : Int32) (v4 : Int32)  (m : mM) (r : Int32) (m' : mM), f_m_trade F v1 v2 v3 v4 m = some (r, m') → m_R X (d + 2) 289 0 [some (.ref 304), some (.int v1), some (.int v2), some (.int v3), some (.int v4), none] [] (SH, m) (some (.int r), (SH, m')) := by
  intro v1 v2 v3 v4 m r m' h
  unfold f_m_trade at h
  refine m_R_sg (by decide) [(.aload_n 0, 1, 0, 0, 0, 0, 0), (.iload_n 1, 1, 0, 1, 0, 0, 0)] (by decide +kernel) (show m_sgl X _ _ _ _ _ = some (2, [some (.ref 304), some (.int v1), some (.int v2), some (.int v3), some (.int v4), none], [.int v1, .ref 304], (SH, m.1, m.2)) from rfl) ?_
  obtain ⟨q1, hc1, h⟩ := Option.bind_eq_some_iff.mp h
  refine m_R_cV (v := (some (.int q1.1))) (h1 := (SH, q1.2)) (rest := []) (lo' := [some (.ref 304), some (.int v1)]) (ml := 2) (k0 := 304) (by decide) (Or.inl rfl) (m_opb_of (ins := .invokevirtual 77) (len := 3) (tag := 5) (a := 210) (b := 1) (c := 0) (q := 1625) (by decide +kernel)) (by decide +kernel) rfl (show m_isO 210 304 (SH, _) = true from m_isO_of (by decide +kernel)) (Nat.le_of_ble_eq_true rfl) rfl rfl (ok_m_isHouse X (d + 0) F _ _ _ _ hc1) ?_
  rcases m_ite h with ⟨c922, h⟩ | ⟨c922, h⟩
  · refine m_R_1 (by decide) (m_opb_of (ins := .ifCond .eq 11) (len := 3) (tag := 0) (a := 16) (b := 0) (c := 0) (q := 0) (by decide +kernel)) (if_pos c922) ?_
    exact ok_m_trade_16 X d F _ _ _ _ _ _ _ _ h
  · refine m_R_1 (by decide) (m_opb_of (ins := .ifCond .eq 11) (len := 3) (tag := 0) (a := 16) (b := 0) (c := 0) (q := 0) (by decide +kernel)) (if_neg c922) ?_
    refine m_R_sg (by decide) [(.aload_n 0, 1, 0, 0, 0, 0, 0), (.iload_n 2, 1, 0, 2, 0, 0, 0)] (by decide +kernel) (show m_sgl X _ _ _ _ _ = some (10, [some (.ref 304), some (.int v1), some (.int v2), some (.int v3), some (.int v4), none], [.int v2, .ref 304], (SH, q1.2.1, q1.2.2)) from rfl) ?_
    obtain ⟨q2, hc2, h⟩ := Option.bind_eq_some_iff.mp h
    refine m_R_cV (v := (some (.int q2.1))) (h1 := (SH, q2.2)) (rest := []) (lo' := [some (.ref 304), some (.int v2)]) (ml := 2) (k0 := 304) (by decide) (Or.inl rfl) (m_opb_of (ins := .invokevirtual 77) (len := 3) (tag := 5) (a := 210) (b := 1) (c := 0) (q := 1625) (by decide +kernel)) (by decide +kernel) rfl (show m_isO 210 304 (SH, _) = true from m_isO_of (by decide +kernel)) (Nat.le_of_ble_eq_true rfl) rfl rfl (ok_m_isHouse X (d + 0) F _ _ _ _ hc2) ?_
    rcases m_ite h with ⟨c923, h⟩ | ⟨c923, h⟩
    · refine m_R_1 (by decide) (m_opb_of (ins := .ifCond .ne 10) (len := 3) (tag := 0) (a := 23) (b := 0) (c := 0) (q := 0) (by decide +kernel)) (if_pos c923) ?_
      exact ok_m_trade_16 X d F _ _ _ _ _ _ _ _ h
    · refine m_R_1 (by decide) (m_opb_of (ins := .ifCond .ne 10) (len := 3) (tag := 0) (a := 23) (b := 0) (c := 0) (q := 0) (by decide +kernel)) (if_neg c923) ?_
      refine m_R_sg (by decide) [(.aload_n 0, 1, 0, 0, 0, 0, 0), (.iload_n 1, 1, 0, 1, 0, 0, 0), (.iconst 0, 1, 0, 0, 0, 0, 0)] (by decide +kernel) (show m_sgl X _ _ _ _ _ = some (26, [some (.ref 304), some (.int v1), some (.int v2), some (.int v3), some (.int v4), none], [.int (0 : Int32), .int v1, .ref 304], (SH, q2.2.1, q2.2.2)) from rfl) ?_
      obtain ⟨q3, hc3, h⟩ := Option.bind_eq_some_iff.mp h
      refine m_R_cV (v := (some (.int q3.1))) (h1 := (SH, q3.2)) (rest := []) (lo' := [some (.ref 304), some (.int v1), some (.int (0 : Int32))]) (ml := 3) (k0 := 304) (by decide) (Or.inl rfl) (m_opb_of (ins := .invokevirtual 65) (len := 3) (tag := 5) (a := 212) (b := 2) (c := 0) (q := 1633) (by decide +kernel)) (by decide +kernel) rfl (show m_isO 212 304 (SH, _) = true from m_isO_of (by decide +kernel)) (Nat.le_of_ble_eq_true rfl) rfl rfl (ok_m_hs X (d + 1) F _ _ _ _ _ hc3) ?_
      rcases m_ite h with ⟨c924, h⟩ | ⟨c924, h⟩
      · refine m_R_1 (by decide) (m_opb_of (ins := .ifCond .ne 12) (len := 3) (tag := 0) (a := 41) (b := 0) (c := 0) (q := 0) (by decide +kernel)) (if_pos c924) ?_
        refine m_R_sg (by decide) [(.aload_n 0, 1, 0, 0, 0, 0, 0), (.iload_n 2, 1, 0, 2, 0, 0, 0), (.iconst 0, 1, 0, 0, 0, 0, 0)] (by decide +kernel) (show m_sgl X _ _ _ _ _ = some (35, [some (.ref 304), some (.int v1), some (.int v2), some (.int v3), some (.int v4), none], [.int (0 : Int32), .int v2, .ref 304], (SH, q3.2.1, q3.2.2)) from rfl) ?_
        obtain ⟨q4, hc4, h⟩ := Option.bind_eq_some_iff.mp h
        refine m_R_cV (v := (some (.int q4.1))) (h1 := (SH, q4.2)) (rest := []) (lo' := [some (.ref 304), some (.int v2), some (.int (0 : Int32))]) (ml := 3) (k0 := 304) (by decide) (Or.inl rfl) (m_opb_of (ins := .invokevirtual 65) (len := 3) (tag := 5) (a := 212) (b := 2) (c := 0) (q := 1633) (by decide +kernel)) (by decide +kernel) rfl (show m_isO 212 304 (SH, _) = true from m_isO_of (by decide +kernel)) (Nat.le_of_ble_eq_true rfl) rfl rfl (ok_m_hs X (d + 1) F _ _ _ _ _ hc4) ?_
        rcases m_ite h with ⟨c925, h⟩ | ⟨c925, h⟩
        · refine m_R_1 (by decide) (m_opb_of (ins := .ifCond .eq 10) (len := 3) (tag := 0) (a := 48) (b := 0) (c := 0) (q := 0) (by decide +kernel)) (if_pos c925) ?_
          refine m_R_sg (by decide) [(.iload_n 3, 1, 0, 3, 0, 0, 0), (.iconst 1, 1, 0, 1, 0, 0, 0), (.sipush 9999, 3, 0, 9999, 0, 0, 0)] (by decide +kernel) (show m_sgl X _ _ _ _ _ = some (53, [some (.ref 304), some (.int v1), some (.int v2), some (.int v3), some (.int v4), none], [.int (9999 : Int32), .int (1 : Int32), .int v3], (SH, q4.2.1, q4.2.2)) from rfl) ?_
          obtain ⟨q5, hc5, h⟩ := Option.bind_eq_some_iff.mp h
          refine m_R_cS (v := (some (.int q5.1))) (h1 := (SH, q5.2)) (rest := []) (lo' := [some (.int v3), some (.int (1 : Int32)), some (.int (9999 : Int32))]) (ml := 3) (by decide) (m_opb_of (ins := .invokestatic 57) (len := 3) (tag := 4) (a := 201) (b := 3) (c := 0) (q := 1590) (by decide +kernel)) (by decide +kernel) (Nat.le_of_ble_eq_true rfl) rfl (Nat.le_of_ble_eq_true rfl) rfl rfl (ok_m_in X (d + 1) F _ _ _ _ _ _ hc5) ?_
          rcases m_ite h with ⟨c926, h⟩ | ⟨c926, h⟩
          · refine m_R_1 (by decide) (m_opb_of (ins := .ifCond .eq 19) (len := 3) (tag := 0) (a := 75) (b := 0) (c := 0) (q := 0) (by decide +kernel)) (if_pos c926) ?_
            exact ok_m_trade_75 X d F _ _ _ _ _ _ _ _ h
          · refine m_R_1 (by decide) (m_opb_of (ins := .ifCond .eq 19) (len := 3) (tag := 0) (a := 75) (b := 0) (c := 0) (q := 0) (by decide +kernel)) (if_neg c926) ?_
            refine m_R_sg (by decide) [(.iload 4, 2, 0, 4, 0, 0, 0), (.iconst 1, 1, 0, 1, 0, 0, 0), (.bipush 60, 2, 0, 60, 0, 0, 0)] (by decide +kernel) (show m_sgl X _ _ _ _ _ = some (64, [some (.ref 304), some (.int v1), some (.int v2), some (.int v3), some (.int v4), none], [.int (60 : Int32), .int (1 : Int32), .int v4], (SH, q5.2.1, q5.2.2)) from rfl) ?_
            obtain ⟨q6, hc6, h⟩ := Option.bind_eq_some_iff.mp h
            refine m_R_cS (v := (some (.int q6.1))) (h1 := (SH, q6.2)) (rest := []) (lo' := [some (.int v4), some (.int (1 : Int32)), some (.int (60 : Int32))]) (ml := 3) (by decide) (m_opb_of (ins := .invokestatic 57) (len := 3) (tag := 4) (a := 201) (b := 3) (c := 0) (q := 1590) (by decide +kernel)) (by decide +kernel) (Nat.le_of_ble_eq_true rfl) rfl (Nat.le_of_ble_eq_true rfl) rfl rfl (ok_m_in X (d + 1) F _ _ _ _ _ _ hc6) ?_
            rcases m_ite h with ⟨c927, h⟩ | ⟨c927, h⟩
            · refine m_R_1 (by decide) (m_opb_of (ins := .ifCond .eq 8) (len := 3) (tag := 0) (a := 75) (b := 0) (c := 0) (q := 0) (by decide +kernel)) (if_pos c927) ?_
              exact ok_m_trade_75 X d F _ _ _ _ _ _ _ _ h
            · refine m_R_1 (by decide) (m_opb_of (ins := .ifCond .eq 8) (len := 3) (tag := 0) (a := 75) (b := 0) (c := 0) (q := 0) (by decide +kernel)) (if_neg c927) ?_
              refine m_R_sg (by decide) [(.iload_n 1, 1, 0, 1, 0, 0, 0), (.iload_n 2, 1, 0, 2, 0, 0, 0)] (by decide +kernel) (show m_sgl X _ _ _ _ _ = some (72, [some (.ref 304), some (.int v1), some (.int v2), some (.int v3), some (.int v4), none], [.int v2, .int v1], (SH, q6.2.1, q6.2.2)) from rfl) ?_
              rcases m_ite h with ⟨c928, h⟩ | ⟨c928, h⟩
              · refine m_R_1 (by decide) (m_opb_of (ins := .if_icmp .ne 10) (len := 3) (tag := 0) (a := 82) (b := 0) (c := 0) (q := 0) (by decide +kernel)) (if_pos c928) ?_
                exact ok_m_trade_75 X d F _ _ _ _ _ _ _ _ h
              · refine m_R_1 (by decide) (m_opb_of (ins := .if_icmp .ne 10) (len := 3) (tag := 0) (a := 82) (b := 0) (c := 0) (q := 0) (by decide +kernel)) (if_neg c928) ?_
                refine m_R_sg (by decide) [(.aload_n 0, 1, 0, 0, 0, 0, 0), (.getfield 13, 3, 0, 12, 1, 3, 1493), (.iconst 4, 1, 0, 4, 0, 0, 0)] (by decide +kernel) (show m_sgl X _ _ _ _ _ = some (87, [some (.ref 304), some (.int v1), some (.int v2), some (.int v3), some (.int v4), none], [.int (4 : Int32), .ref 305], (SH, q6.2.1, q6.2.2)) from rfl) ?_
                refine m_R_1 (by decide) (m_opb_of (ins := .iaload) (len := 1) (tag := 0) (a := 0) (b := 0) (c := 0) (q := 0) (by decide +kernel)) (m_s_iald sh_305 (by decide) (show ¬ ((4 : Int32) < 0 ∨ 9732 ≤ (4 : Int32).toNatClampNeg) by decide)) ?_
                refine m_R_sg (by decide) [(.bipush 8, 2, 0, 8, 0, 0, 0)] (by decide +kernel) (show m_sgl X _ _ _ _ _ = some (90, [some (.ref 304), some (.int v1), some (.int v2), some (.int v3), some (.int v4), none], [.int (8 : Int32), .int (q6.2.1 305 (4 : Int32).toNatClampNeg)], (SH, q6.2.1, q6.2.2)) from rfl) ?_
                rcases m_ite h with ⟨c929, h⟩ | ⟨c929, h⟩
                · refine m_R_1 (by decide) (m_opb_of (ins := .if_icmp .ne 10) (len := 3) (tag := 0) (a := 100) (b := 0) (c := 0) (q := 0) (by decide +kernel)) (if_pos c929) ?_
                  refine m_R_sg (by decide) [(.aload_n 0, 1, 0, 0, 0, 0, 0), (.bipush (-8), 2, 0, 8, 1, 0, 0)] (by decide +kernel) (show m_sgl X _ _ _ _ _ = some (96, [some (.ref 304), some (.int v1), some (.int v2), some (.int v3), some (.int v4), none], [.int (-8 : Int32), .ref 304], (SH, q6.2.1, q6.2.2)) from rfl) ?_
                  obtain ⟨q7, hc7, h⟩ := Option.bind_eq_some_iff.mp h
                  refine m_R_cV (v := (some (.int q7.1))) (h1 := (SH, q7.2)) (rest := []) (lo' := [some (.ref 304), some (.int (-8 : Int32))]) (ml := 2) (k0 := 304) (by decide) (Or.inl rfl) (m_opb_of (ins := .invokevirtual 61) (len := 3) (tag := 5) (a := 202) (b := 1) (c := 0) (q := 1593) (by decide +kernel)) (by decide +kernel) rfl (show m_isO 202 304 (SH, _) = true from m_isO_of (by decide +kernel)) (Nat.le_of_ble_eq_true rfl) rfl rfl (ok_m_refuse X (d + 1) F _ _ _ _ hc7) ?_
                  obtain ⟨rfl, rfl⟩ := m_some h
                  exact m_R_iret (by decide) (m_opb_of (ins := .ireturn) (len := 1) (tag := 1) (a := 0) (b := 0) (c := 0) (q := 0) (by decide +kernel)) (Or.inl rfl)
                · refine m_R_1 (by decide) (m_opb_of (ins := .if_icmp .ne 10) (len := 3) (tag := 0) (a := 100) (b := 0) (c := 0) (q := 0) (by decide +kernel)) (if_neg c929) ?_
                  refine m_R_sg (by decide) [(.sipush 7400, 3, 0, 7400, 0, 0, 0), (.iconst 5, 1, 0, 5, 0, 0, 0), (.aload_n 0, 1, 0, 0, 0, 0, 0), (.getfield 13, 3, 0, 12, 1, 3, 1493), (.iconst 4, 1, 0, 4, 0, 0, 0)] (by decide +kernel) (show m_sgl X _ _ _ _ _ = some (109, [some (.ref 304), some (.int v1), some (.int v2), some (.int v3), some (.int v4), none], [.int (4 : Int32), .ref 305, .int (5 : Int32), .int (7400 : Int32)], (SH, q6.2.1, q6.2.2)) from rfl) ?_
                  refine m_R_1 (by decide) (m_opb_of (ins := .iaload) (len := 1) (tag := 0) (a := 0) (b := 0) (c := 0) (q := 0) (by decide +kernel)) (m_s_iald sh_305 (by decide) (show ¬ ((4 : Int32) < 0 ∨ 9732 ≤ (4 : Int32).toNatClampNeg) by decide)) ?_
                  refine m_R_sg (by decide) [(.imul, 1, 0, 0, 0, 0, 0), (.iadd, 1, 0, 0, 0, 0, 0), (.istore 5, 2, 0, 5, 0, 0, 0), (.aload_n 0, 1, 0, 0, 0, 0, 0), (.getfield 13, 3, 0, 12, 1, 3, 1493), (.iload 5, 2, 0, 5, 0, 0, 0), (.iload_n 1, 1, 0, 1, 0, 0, 0)] (by decide +kernel) (show m_sgl X _ _ _ _ _ = some (121, [some (.ref 304), some (.int v1), some (.int v2), some (.int v3), some (.int v4), some (.int ((7400 : Int32) + ((5 : Int32) * (q6.2.1 305 (4 : Int32).toNatClampNeg))))], [.int v1, .int ((7400 : Int32) + ((5 : Int32) * (q6.2.1 305 (4 : Int32).toNatClampNeg))), .ref 305], (SH, q6.2.1, q6.2.2)) from rfl) ?_
                  obtain ⟨c930, h⟩ := m_ite_n h
                  refine m_R_1 (by decide) (m_opb_of (ins := .iastore) (len := 1) (tag := 0) (a := 0) (b := 0) (c := 0) (q := 0) (by decide +kernel)) (m_s_iast sh_305 c930) ?_
                  refine m_R_sg (by decide) [(.aload_n 0, 1, 0, 0, 0, 0, 0), (.getfield 13, 3, 0, 12, 1, 3, 1493), (.iload 5, 2, 0, 5, 0, 0, 0), (.iconst 1, 1, 0, 1, 0, 0, 0), (.iadd, 1, 0, 0, 0, 0, 0), (.iload_n 2, 1, 0, 2, 0, 0, 0)] (by decide +kernel) (show m_sgl X _ _ _ _ _ = some (131, [some (.ref 304), some (.int v1), some (.int v2), some (.int v3), some (.int v4), some (.int ((7400 : Int32) + ((5 : Int32) * (q6.2.1 305 (4 : Int32).toNatClampNeg))))], [.int v2, .int (((7400 : Int32) + ((5 : Int32) * (q6.2.1 305 (4 : Int32).toNatClampNeg))) + (1 : Int32)), .ref 305], (SH, (m_up q6.2.1 305 ((7400 : Int32) + ((5 : Int32) * (q6.2.1 305 (4 : Int32).toNatClampNeg))).toNatClampNeg v1), q6.2.2)) from rfl) ?_
                  obtain ⟨c931, h⟩ := m_ite_n h
                  refine m_R_1 (by decide) (m_opb_of (ins := .iastore) (len := 1) (tag := 0) (a := 0) (b := 0) (c := 0) (q := 0) (by decide +kernel)) (m_s_iast sh_305 c931) ?_
                  exact ok_m_trade_132 X d F _ _ _ _ _ _ _ _ h
        · refine m_R_1 (by decide) (m_opb_of (ins := .ifCond .eq 10) (len := 3) (tag := 0) (a := 48) (b := 0) (c := 0) (q := 0) (by decide +kernel)) (if_neg c925) ?_
          exact ok_m_trade_41 X d F _ _ _ _ _ _ _ _ h
      · refine m_R_1 (by decide) (m_opb_of (ins := .ifCond .ne 12) (len := 3) (tag := 0) (a := 41) (b := 0) (c := 0) (q := 0) (by decide +kernel)) (if_neg c924) ?_
        exact ok_m_trade_41 X d F _ _ _ _ _ _ _ _ h
def f_x_goesOn_18 (F : Nat)    (m : mM) : Option (Int32 × mM) := ((f_x_refuse F (-3 : Int32) m).bind fun q2 => some (q2.1, q2.2))
theorem ok_x_goesOn_18 (X : mX) (d F : Nat) : ∀  (w1 : Option Value) (w2 : Option Value) (w3 : Option Value) (m : mM) (r : Int32) (m' : mM), f_x_goesOn_18 F  m = some (r, m') → m_R X (d + 1) 104 18 [some (.ref 0), w1, w2, w3] [] (SH, m) (some (.int r), (SH, m')) := by
  intro w1 w2 w3 m r m' h
  unfold f_x_goesOn_18 at h
  refine m_R_sg (by decide) [(.aload_n 0, 1, 0, 0, 0, 0, 0), (.bipush (-3), 2, 0, 3, 1, 0, 0)] (by decide +kernel) (show m_sgl X _ _ _ _ _ = some (21, [some (.ref 0), w1, w2, w3], [.int (-3 : Int32), .ref 0], (SH, m.1, m.2)) from rfl) ?_
  obtain ⟨q2, hc2, h⟩ := Option.bind_eq_some_iff.mp h
  refine m_R_cV (v := (some (.int q2.1))) (h1 := (SH, q2.2)) (rest := []) (lo' := [some (.ref 0), some (.int (-3 : Int32))]) (ml := 2) (k0 := 0) (by decide) (Or.inl rfl) (m_opb_of (ins := .invokevirtual 76) (len := 3) (tag := 5) (a := 14) (b := 1) (c := 0) (q := 671) (by decide +kernel)) (by decide +kernel) rfl (show m_isO 14 0 (SH, _) = true from m_isO_of (by decide +kernel)) (Nat.le_of_ble_eq_true rfl) rfl rfl (ok_x_refuse X (d + 0) F _ _ _ _ hc2) ?_
  obtain ⟨rfl, rfl⟩ := m_some h
  exact m_R_iret (by decide) (m_opb_of (ins := .ireturn) (len := 1) (tag := 1) (a := 0) (b := 0) (c := 0) (q := 0) (by decide +kernel)) (Or.inl rfl)
def f_x_goesOn_41 (F : Nat)   (v1 : Int32) (v2 : Int32) (m : mM) : Option (Int32 × mM) := (if v1 < 0 ∨ 8 ≤ v1.toNatClampNeg then none else some ((m.1 51 v1.toNatClampNeg), ((m_up m.1 51 v1.toNatClampNeg v2), m.2)))
theorem ok_x_goesOn_41 (X : mX) (d F : Nat) : ∀ (v1 : Int32) (v2 : Int32) (w3 : Option Value) (m : mM) (r : Int32) (m' : mM), f_x_goesOn_41 F v1 v2 m = some (r, m') → m_R X (d + 1) 104 41 [some (.ref 0), some (.int v1), some (.int v2), w3] [] (SH, m) (some (.int r), (SH, m')) := by
  intro v1 v2 w3 m r m' h
  unfold f_x_goesOn_41 at h
  refine m_R_sg (by decide) [(.aload_n 0, 1, 0, 0, 0, 0, 0), (.getfield 28, 3, 0, 11, 2, 3, 632), (.getfield 318, 3, 0, 10, 3, 3, 512), (.getfield 329, 3, 0, 9, 4, 3, 416), (.iload_n 1, 1, 0, 1, 0, 0, 0)] (by decide +kernel) (show m_sgl X _ _ _ _ _ = some (52, [some (.ref 0), some (.int v1), some (.int v2), w3], [.int v1, .ref 51], (SH, m.1, m.2)) from rfl) ?_
  obtain ⟨c932, h⟩ := m_ite_n h
  refine m_R_1 (by decide) (m_opb_of (ins := .iaload) (len := 1) (tag := 0) (a := 0) (b := 0) (c := 0) (q := 0) (by decide +kernel)) (m_s_iald sh_51 (by decide) c932) ?_
  refine m_R_sg (by decide) [(.istore_n 3, 1, 0, 3, 0, 0, 0), (.aload_n 0, 1, 0, 0, 0, 0, 0), (.getfield 28, 3, 0, 11, 2, 3, 632), (.getfield 318, 3, 0, 10, 3, 3, 512), (.getfield 329, 3, 0, 9, 4, 3, 416), (.iload_n 1, 1, 0, 1, 0, 0, 0), (.iload_n 2, 1, 0, 2, 0, 0, 0)] (by decide +kernel) (show m_sgl X _ _ _ _ _ = some (66, [some (.ref 0), some (.int v1), some (.int v2), some (.int (m.1 51 v1.toNatClampNeg))], [.int v2, .int v1, .ref 51], (SH, m.1, m.2)) from rfl) ?_
  refine m_R_1 (by decide) (m_opb_of (ins := .iastore) (len := 1) (tag := 0) (a := 0) (b := 0) (c := 0) (q := 0) (by decide +kernel)) (m_s_iast sh_51 c932) ?_
  refine m_R_sg (by decide) [(.iload_n 3, 1, 0, 3, 0, 0, 0)] (by decide +kernel) (show m_sgl X _ _ _ _ _ = some (68, [some (.ref 0), some (.int v1), some (.int v2), some (.int (m.1 51 v1.toNatClampNeg))], [.int (m.1 51 v1.toNatClampNeg)], (SH, (m_up m.1 51 v1.toNatClampNeg v2), m.2)) from rfl) ?_
  obtain ⟨rfl, rfl⟩ := m_some h
  exact m_R_iret (by decide) (m_opb_of (ins := .ireturn) (len := 1) (tag := 1) (a := 0) (b := 0) (c := 0) (q := 0) (by decide +kernel)) (Or.inl rfl)
def f_x_goesOn (F : Nat)   (v1 : Int32) (v2 : Int32) (m : mM) : Option (Int32 × mM) := (if v1 < 0 then f_x_goesOn_18 F m else (if v1 < (m.1 46 5) then (if v2 = 0 then f_x_goesOn_41 F v1 v2 m else (if v2 = (1 : Int32) then f_x_goesOn_41 F v1 v2 m else ((f_x_refuse F (-7 : Int32) m).bind fun q1 => some (q1.1, q1.2)))) else f_x_goesOn_18 F m))
theorem ok_x_goesOn (X : mX) (d F : Nat) : ∀ (v1 : Int32) (v2 : Int32)  (m : mM) (r : Int32) (m' : mM), f_x_goesOn F v1 v2 m = some (r, m') → m_R X (d + 1) 104 0 [some (.ref 0), some (.int v1), some (.int v2), none] [] (SH, m) (some (.int r), (SH, m')) := by
  intro v1 v2 m r m' h
  unfold f_x_goesOn at h
  refine m_R_sg (by decide) [(.iload_n 1, 1, 0, 1, 0, 0, 0)] (by decide +kernel) (show m_sgl X _ _ _ _ _ = some (1, [some (.ref 0), some (.int v1), some (.int v2), none], [.int v1], (SH, m.1, m.2)) from rfl) ?_
  rcases m_ite h with ⟨c933, h⟩ | ⟨c933, h⟩
  · refine m_R_1 (by decide) (m_opb_of (ins := .ifCond .lt 17) (len := 3) (tag := 0) (a := 18) (b := 0) (c := 0) (q := 0) (by decide +kernel)) (if_pos c933) ?_
    exact ok_x_goesOn_18 X d F _ _ _ _ _ _ h
  · refine m_R_1 (by decide) (m_opb_of (ins := .ifCond .lt 17) (len := 3) (tag := 0) (a := 18) (b := 0) (c := 0) (q := 0) (by decide +kernel)) (if_neg c933) ?_
    refine m_R_sg (by decide) [(.iload_n 1, 1, 0, 1, 0, 0, 0), (.aload_n 0, 1, 0, 0, 0, 0, 0), (.getfield 28, 3, 0, 11, 2, 3, 632), (.getfield 318, 3, 0, 10, 3, 3, 512), (.getfield 322, 3, 0, 9, 5, 0, 419)] (by decide +kernel) (show m_sgl X _ _ _ _ _ = some (15, [some (.ref 0), some (.int v1), some (.int v2), none], [.int (m.1 46 5), .int v1], (SH, m.1, m.2)) from rfl) ?_
    rcases m_ite h with ⟨c934, h⟩ | ⟨c934, h⟩
    · refine m_R_1 (by decide) (m_opb_of (ins := .if_icmp .lt 10) (len := 3) (tag := 0) (a := 25) (b := 0) (c := 0) (q := 0) (by decide +kernel)) (if_pos c934) ?_
      refine m_R_sg (by decide) [(.iload_n 2, 1, 0, 2, 0, 0, 0)] (by decide +kernel) (show m_sgl X _ _ _ _ _ = some (26, [some (.ref 0), some (.int v1), some (.int v2), none], [.int v2], (SH, m.1, m.2)) from rfl) ?_
      rcases m_ite h with ⟨c935, h⟩ | ⟨c935, h⟩
      · refine m_R_1 (by decide) (m_opb_of (ins := .ifCond .eq 15) (len := 3) (tag := 0) (a := 41) (b := 0) (c := 0) (q := 0) (by decide +kernel)) (if_pos c935) ?_
        exact ok_x_goesOn_41 X d F _ _ _ _ _ _ h
      · refine m_R_1 (by decide) (m_opb_of (ins := .ifCond .eq 15) (len := 3) (tag := 0) (a := 41) (b := 0) (c := 0) (q := 0) (by decide +kernel)) (if_neg c935) ?_
        refine m_R_sg (by decide) [(.iload_n 2, 1, 0, 2, 0, 0, 0), (.iconst 1, 1, 0, 1, 0, 0, 0)] (by decide +kernel) (show m_sgl X _ _ _ _ _ = some (31, [some (.ref 0), some (.int v1), some (.int v2), none], [.int (1 : Int32), .int v2], (SH, m.1, m.2)) from rfl) ?_
        rcases m_ite h with ⟨c936, h⟩ | ⟨c936, h⟩
        · refine m_R_1 (by decide) (m_opb_of (ins := .if_icmp .eq 10) (len := 3) (tag := 0) (a := 41) (b := 0) (c := 0) (q := 0) (by decide +kernel)) (if_pos c936) ?_
          exact ok_x_goesOn_41 X d F _ _ _ _ _ _ h
        · refine m_R_1 (by decide) (m_opb_of (ins := .if_icmp .eq 10) (len := 3) (tag := 0) (a := 41) (b := 0) (c := 0) (q := 0) (by decide +kernel)) (if_neg c936) ?_
          refine m_R_sg (by decide) [(.aload_n 0, 1, 0, 0, 0, 0, 0), (.bipush (-7), 2, 0, 7, 1, 0, 0)] (by decide +kernel) (show m_sgl X _ _ _ _ _ = some (37, [some (.ref 0), some (.int v1), some (.int v2), none], [.int (-7 : Int32), .ref 0], (SH, m.1, m.2)) from rfl) ?_
          obtain ⟨q1, hc1, h⟩ := Option.bind_eq_some_iff.mp h
          refine m_R_cV (v := (some (.int q1.1))) (h1 := (SH, q1.2)) (rest := []) (lo' := [some (.ref 0), some (.int (-7 : Int32))]) (ml := 2) (k0 := 0) (by decide) (Or.inl rfl) (m_opb_of (ins := .invokevirtual 76) (len := 3) (tag := 5) (a := 14) (b := 1) (c := 0) (q := 671) (by decide +kernel)) (by decide +kernel) rfl (show m_isO 14 0 (SH, _) = true from m_isO_of (by decide +kernel)) (Nat.le_of_ble_eq_true rfl) rfl rfl (ok_x_refuse X (d + 0) F _ _ _ _ hc1) ?_
          obtain ⟨rfl, rfl⟩ := m_some h
          exact m_R_iret (by decide) (m_opb_of (ins := .ireturn) (len := 1) (tag := 1) (a := 0) (b := 0) (c := 0) (q := 0) (by decide +kernel)) (Or.inl rfl)
    · refine m_R_1 (by decide) (m_opb_of (ins := .if_icmp .lt 10) (len := 3) (tag := 0) (a := 25) (b := 0) (c := 0) (q := 0) (by decide +kernel)) (if_neg c934) ?_
      exact ok_x_goesOn_18 X d F _ _ _ _ _ _ h
def f_m_goesOn (F : Nat)   (v1 : Int32) (v2 : Int32) (m : mM) : Option (Int32 × mM) := ((f_m_in F v1 (0 : Int32) ((m.1 305 (4 : Int32).toNatClampNeg) - (1 : Int32)) m).bind fun q1 => (if q1.1 = 0 then ((f_m_refuse F (-3 : Int32) q1.2).bind fun q2 => some (q2.1, q2.2)) else ((f_m_in F v2 (0 : Int32) (1 : Int32) q1.2).bind fun q3 => (if q3.1 = 0 then ((f_m_refuse F (-7 : Int32) q3.2).bind fun q4 => some (q4.1, q4.2)) else (if (((7400 : Int32) + ((5 : Int32) * v1)) + (4 : Int32)) < 0 ∨ 9732 ≤ (((7400 : Int32) + ((5 : Int32) * v1)) + (4 : Int32)).toNatClampNeg then none else some ((q3.2.1 305 (((7400 : Int32) + ((5 : Int32) * v1)) + (4 : Int32)).toNatClampNeg), ((m_up q3.2.1 305 (((7400 : Int32) + ((5 : Int32) * v1)) + (4 : Int32)).toNatClampNeg v2), q3.2.2)))))))
theorem ok_m_goesOn (X : mX) (d F : Nat) : ∀ (v1 : Int32) (v2 : Int32)  (m : mM) (r : Int32) (m' : mM), f_m_goesOn F v1 v2 m = some (r, m') → m_R X (d + 1) 290 0 [some (.ref 304), some (.int v1), some (.int v2), none] [] (SH, m) (some (.int r), (SH, m')) := by
  intro v1 v2 m r m' h
  unfold f_m_goesOn at h
  refine m_R_sg (by decide) [(.iload_n 1, 1, 0, 1, 0, 0, 0), (.iconst 0, 1, 0, 0, 0, 0, 0), (.aload_n 0, 1, 0, 0, 0, 0, 0), (.getfield 13, 3, 0, 12, 1, 3, 1493), (.iconst 4, 1, 0, 4, 0, 0, 0)] (by decide +kernel) (show m_sgl X _ _ _ _ _ = some (7, [some (.ref 304), some (.int v1), some (.int v2), none], [.int (4 : Int32), .ref 305, .int (0 : Int32), .int v1], (SH, m.1, m.2)) from rfl) ?_
  refine m_R_1 (by decide) (m_opb_of (ins := .iaload) (len := 1) (tag := 0) (a := 0) (b := 0) (c := 0) (q := 0) (by decide +kernel)) (m_s_iald sh_305 (by decide) (show ¬ ((4 : Int32) < 0 ∨ 9732 ≤ (4 : Int32).toNatClampNeg) by decide)) ?_
  refine m_R_sg (by decide) [(.iconst 1, 1, 0, 1, 0, 0, 0), (.isub, 1, 0, 0, 0, 0, 0)] (by decide +kernel) (show m_sgl X _ _ _ _ _ = some (10, [some (.ref 304), some (.int v1), some (.int v2), none], [.int ((m.1 305 (4 : Int32).toNatClampNeg) - (1 : Int32)), .int (0 : Int32), .int v1], (SH, m.1, m.2)) from rfl) ?_
  obtain ⟨q1, hc1, h⟩ := Option.bind_eq_some_iff.mp h
  refine m_R_cS (v := (some (.int q1.1))) (h1 := (SH, q1.2)) (rest := []) (lo' := [some (.int v1), some (.int (0 : Int32)), some (.int ((m.1 305 (4 : Int32).toNatClampNeg) - (1 : Int32)))]) (ml := 3) (by decide) (m_opb_of (ins := .invokestatic 57) (len := 3) (tag := 4) (a := 201) (b := 3) (c := 0) (q := 1590) (by decide +kernel)) (by decide +kernel) (Nat.le_of_ble_eq_true rfl) rfl (Nat.le_of_ble_eq_true rfl) rfl rfl (ok_m_in X (d + 0) F _ _ _ _ _ _ hc1) ?_
  rcases m_ite h with ⟨c937, h⟩ | ⟨c937, h⟩
  · refine m_R_1 (by decide) (m_opb_of (ins := .ifCond .ne 10) (len := 3) (tag := 0) (a := 23) (b := 0) (c := 0) (q := 0) (by decide +kernel)) (if_pos c937) ?_
    refine m_R_sg (by decide) [(.aload_n 0, 1, 0, 0, 0, 0, 0), (.bipush (-3), 2, 0, 3, 1, 0, 0)] (by decide +kernel) (show m_sgl X _ _ _ _ _ = some (19, [some (.ref 304), some (.int v1), some (.int v2), none], [.int (-3 : Int32), .ref 304], (SH, q1.2.1, q1.2.2)) from rfl) ?_
    obtain ⟨q2, hc2, h⟩ := Option.bind_eq_some_iff.mp h
    refine m_R_cV (v := (some (.int q2.1))) (h1 := (SH, q2.2)) (rest := []) (lo' := [some (.ref 304), some (.int (-3 : Int32))]) (ml := 2) (k0 := 304) (by decide) (Or.inl rfl) (m_opb_of (ins := .invokevirtual 61) (len := 3) (tag := 5) (a := 202) (b := 1) (c := 0) (q := 1593) (by decide +kernel)) (by decide +kernel) rfl (show m_isO 202 304 (SH, _) = true from m_isO_of (by decide +kernel)) (Nat.le_of_ble_eq_true rfl) rfl rfl (ok_m_refuse X (d + 0) F _ _ _ _ hc2) ?_
    obtain ⟨rfl, rfl⟩ := m_some h
    exact m_R_iret (by decide) (m_opb_of (ins := .ireturn) (len := 1) (tag := 1) (a := 0) (b := 0) (c := 0) (q := 0) (by decide +kernel)) (Or.inl rfl)
  · refine m_R_1 (by decide) (m_opb_of (ins := .ifCond .ne 10) (len := 3) (tag := 0) (a := 23) (b := 0) (c := 0) (q := 0) (by decide +kernel)) (if_neg c937) ?_
    refine m_R_sg (by decide) [(.iload_n 2, 1, 0, 2, 0, 0, 0), (.iconst 0, 1, 0, 0, 0, 0, 0), (.iconst 1, 1, 0, 1, 0, 0, 0)] (by decide +kernel) (show m_sgl X _ _ _ _ _ = some (26, [some (.ref 304), some (.int v1), some (.int v2), none], [.int (1 : Int32), .int (0 : Int32), .int v2], (SH, q1.2.1, q1.2.2)) from rfl) ?_
    obtain ⟨q3, hc3, h⟩ := Option.bind_eq_some_iff.mp h
    refine m_R_cS (v := (some (.int q3.1))) (h1 := (SH, q3.2)) (rest := []) (lo' := [some (.int v2), some (.int (0 : Int32)), some (.int (1 : Int32))]) (ml := 3) (by decide) (m_opb_of (ins := .invokestatic 57) (len := 3) (tag := 4) (a := 201) (b := 3) (c := 0) (q := 1590) (by decide +kernel)) (by decide +kernel) (Nat.le_of_ble_eq_true rfl) rfl (Nat.le_of_ble_eq_true rfl) rfl rfl (ok_m_in X (d + 0) F _ _ _ _ _ _ hc3) ?_
    rcases m_ite h with ⟨c938, h⟩ | ⟨c938, h⟩
    · refine m_R_1 (by decide) (m_opb_of (ins := .ifCond .ne 10) (len := 3) (tag := 0) (a := 39) (b := 0) (c := 0) (q := 0) (by decide +kernel)) (if_pos c938) ?_
      refine m_R_sg (by decide) [(.aload_n 0, 1, 0, 0, 0, 0, 0), (.bipush (-7), 2, 0, 7, 1, 0, 0)] (by decide +kernel) (show m_sgl X _ _ _ _ _ = some (35, [some (.ref 304), some (.int v1), some (.int v2), none], [.int (-7 : Int32), .ref 304], (SH, q3.2.1, q3.2.2)) from rfl) ?_
      obtain ⟨q4, hc4, h⟩ := Option.bind_eq_some_iff.mp h
      refine m_R_cV (v := (some (.int q4.1))) (h1 := (SH, q4.2)) (rest := []) (lo' := [some (.ref 304), some (.int (-7 : Int32))]) (ml := 2) (k0 := 304) (by decide) (Or.inl rfl) (m_opb_of (ins := .invokevirtual 61) (len := 3) (tag := 5) (a := 202) (b := 1) (c := 0) (q := 1593) (by decide +kernel)) (by decide +kernel) rfl (show m_isO 202 304 (SH, _) = true from m_isO_of (by decide +kernel)) (Nat.le_of_ble_eq_true rfl) rfl rfl (ok_m_refuse X (d + 0) F _ _ _ _ hc4) ?_
      obtain ⟨rfl, rfl⟩ := m_some h
      exact m_R_iret (by decide) (m_opb_of (ins := .ireturn) (len := 1) (tag := 1) (a := 0) (b := 0) (c := 0) (q := 0) (by decide +kernel)) (Or.inl rfl)
    · refine m_R_1 (by decide) (m_opb_of (ins := .ifCond .ne 10) (len := 3) (tag := 0) (a := 39) (b := 0) (c := 0) (q := 0) (by decide +kernel)) (if_neg c938) ?_
      refine m_R_sg (by decide) [(.aload_n 0, 1, 0, 0, 0, 0, 0), (.getfield 13, 3, 0, 12, 1, 3, 1493), (.sipush 7400, 3, 0, 7400, 0, 0, 0), (.iconst 5, 1, 0, 5, 0, 0, 0), (.iload_n 1, 1, 0, 1, 0, 0, 0), (.imul, 1, 0, 0, 0, 0, 0), (.iadd, 1, 0, 0, 0, 0, 0), (.iconst 4, 1, 0, 4, 0, 0, 0), (.iadd, 1, 0, 0, 0, 0, 0)] (by decide +kernel) (show m_sgl X _ _ _ _ _ = some (52, [some (.ref 304), some (.int v1), some (.int v2), none], [.int (((7400 : Int32) + ((5 : Int32) * v1)) + (4 : Int32)), .ref 305], (SH, q3.2.1, q3.2.2)) from rfl) ?_
      obtain ⟨c939, h⟩ := m_ite_n h
      refine m_R_1 (by decide) (m_opb_of (ins := .iaload) (len := 1) (tag := 0) (a := 0) (b := 0) (c := 0) (q := 0) (by decide +kernel)) (m_s_iald sh_305 (by decide) c939) ?_
      refine m_R_sg (by decide) [(.istore_n 3, 1, 0, 3, 0, 0, 0), (.aload_n 0, 1, 0, 0, 0, 0, 0), (.getfield 13, 3, 0, 12, 1, 3, 1493), (.sipush 7400, 3, 0, 7400, 0, 0, 0), (.iconst 5, 1, 0, 5, 0, 0, 0), (.iload_n 1, 1, 0, 1, 0, 0, 0), (.imul, 1, 0, 0, 0, 0, 0), (.iadd, 1, 0, 0, 0, 0, 0), (.iconst 4, 1, 0, 4, 0, 0, 0), (.iadd, 1, 0, 0, 0, 0, 0), (.iload_n 2, 1, 0, 2, 0, 0, 0)] (by decide +kernel) (show m_sgl X _ _ _ _ _ = some (68, [some (.ref 304), some (.int v1), some (.int v2), some (.int (q3.2.1 305 (((7400 : Int32) + ((5 : Int32) * v1)) + (4 : Int32)).toNatClampNeg))], [.int v2, .int (((7400 : Int32) + ((5 : Int32) * v1)) + (4 : Int32)), .ref 305], (SH, q3.2.1, q3.2.2)) from rfl) ?_
      refine m_R_1 (by decide) (m_opb_of (ins := .iastore) (len := 1) (tag := 0) (a := 0) (b := 0) (c := 0) (q := 0) (by decide +kernel)) (m_s_iast sh_305 c939) ?_
      refine m_R_sg (by decide) [(.iload_n 3, 1, 0, 3, 0, 0, 0)] (by decide +kernel) (show m_sgl X _ _ _ _ _ = some (70, [some (.ref 304), some (.int v1), some (.int v2), some (.int (q3.2.1 305 (((7400 : Int32) + ((5 : Int32) * v1)) + (4 : Int32)).toNatClampNeg))], [.int (q3.2.1 305 (((7400 : Int32) + ((5 : Int32) * v1)) + (4 : Int32)).toNatClampNeg)], (SH, (m_up q3.2.1 305 (((7400 : Int32) + ((5 : Int32) * v1)) + (4 : Int32)).toNatClampNeg v2), q3.2.2)) from rfl) ?_
      obtain ⟨rfl, rfl⟩ := m_some h
      exact m_R_iret (by decide) (m_opb_of (ins := .ireturn) (len := 1) (tag := 1) (a := 0) (b := 0) (c := 0) (q := 0) (by decide +kernel)) (Or.inl rfl)
def f_x_isSeason_14 (F : Nat)   (s0 : Int32) (m : mM) : Option (Int32 × mM) := (if s0 = 0 ∨ s0 = 1 then some (s0, m) else none)
theorem ok_x_isSeason_14 (X : mX) (d F : Nat) : ∀ (s0 : Int32) (w0 : Option Value) (m : mM) (r : Int32) (m' : mM), f_x_isSeason_14 F s0 m = some (r, m') → m_R X (d + 0) 106 14 [w0] [.int s0] (SH, m) (some (.int r), (SH, m')) := by
  intro s0 w0 m r m' h
  unfold f_x_isSeason_14 at h
  obtain ⟨c0, h⟩ := m_ite_p h
  obtain ⟨rfl, rfl⟩ := m_some h
  exact m_R_iret (by decide) (m_opb_of (ins := .ireturn) (len := 1) (tag := 1) (a := 1) (b := 0) (c := 0) (q := 0) (by decide +kernel)) (Or.inr c0)
def f_x_isSeason_9 (F : Nat)    (m : mM) : Option (Int32 × mM) := f_x_isSeason_14 F (1 : Int32) m
theorem ok_x_isSeason_9 (X : mX) (d F : Nat) : ∀  (w0 : Option Value) (m : mM) (r : Int32) (m' : mM), f_x_isSeason_9 F  m = some (r, m') → m_R X (d + 0) 106 9 [w0] [] (SH, m) (some (.int r), (SH, m')) := by
  intro w0 m r m' h
  unfold f_x_isSeason_9 at h
  refine m_R_sg (by decide) [(.iconst 1, 1, 0, 1, 0, 0, 0), (.goto 4, 3, 0, 14, 0, 0, 0)] (by decide +kernel) (show m_sgl X _ _ _ _ _ = some (14, [w0], [.int (1 : Int32)], (SH, m.1, m.2)) from rfl) ?_
  exact ok_x_isSeason_14 X d F _ _ _ _ _ h
def f_x_isSeason (F : Nat)   (v0 : Int32) (m : mM) : Option (Int32 × mM) := (if v0 = 0 then f_x_isSeason_9 F m else (if v0 = (1 : Int32) then f_x_isSeason_9 F m else f_x_isSeason_14 F (0 : Int32) m))
theorem ok_x_isSeason (X : mX) (d F : Nat) : ∀ (v0 : Int32)  (m : mM) (r : Int32) (m' : mM), f_x_isSeason F v0 m = some (r, m') → m_R X (d + 0) 106 0 [some (.int v0)] [] (SH, m) (some (.int r), (SH, m')) := by
  intro v0 m r m' h
  unfold f_x_isSeason at h
  refine m_R_sg (by decide) [(.iload_n 0, 1, 0, 0, 0, 0, 0)] (by decide +kernel) (show m_sgl X _ _ _ _ _ = some (1, [some (.int v0)], [.int v0], (SH, m.1, m.2)) from rfl) ?_
  rcases m_ite h with ⟨c940, h⟩ | ⟨c940, h⟩
  · refine m_R_1 (by decide) (m_opb_of (ins := .ifCond .eq 8) (len := 3) (tag := 0) (a := 9) (b := 0) (c := 0) (q := 0) (by decide +kernel)) (if_pos c940) ?_
    exact ok_x_isSeason_9 X d F _ _ _ _ h
  · refine m_R_1 (by decide) (m_opb_of (ins := .ifCond .eq 8) (len := 3) (tag := 0) (a := 9) (b := 0) (c := 0) (q := 0) (by decide +kernel)) (if_neg c940) ?_
    refine m_R_sg (by decide) [(.iload_n 0, 1, 0, 0, 0, 0, 0), (.iconst 1, 1, 0, 1, 0, 0, 0)] (by decide +kernel) (show m_sgl X _ _ _ _ _ = some (6, [some (.int v0)], [.int (1 : Int32), .int v0], (SH, m.1, m.2)) from rfl) ?_
    rcases m_ite h with ⟨c941, h⟩ | ⟨c941, h⟩
    · refine m_R_1 (by decide) (m_opb_of (ins := .if_icmp .ne 7) (len := 3) (tag := 0) (a := 13) (b := 0) (c := 0) (q := 0) (by decide +kernel)) (if_pos c941) ?_
      exact ok_x_isSeason_9 X d F _ _ _ _ h
    · refine m_R_1 (by decide) (m_opb_of (ins := .if_icmp .ne 7) (len := 3) (tag := 0) (a := 13) (b := 0) (c := 0) (q := 0) (by decide +kernel)) (if_neg c941) ?_
      refine m_R_sg (by decide) [(.iconst 0, 1, 0, 0, 0, 0, 0)] (by decide +kernel) (show m_sgl X _ _ _ _ _ = some (14, [some (.int v0)], [.int (0 : Int32)], (SH, m.1, m.2)) from rfl) ?_
      exact ok_x_isSeason_14 X d F _ _ _ _ _ h
def f_Seasons_mayStand_25 (F : Nat)   (s0 : Int32) (m : mM) : Option (Int32 × mM) := (if s0 = 0 ∨ s0 = 1 then some (s0, m) else none)
theorem ok_Seasons_mayStand_25 (X : mX) (d F : Nat) : ∀ (s0 : Int32) (w0 : Option Value) (w1 : Option Value) (w2 : Option Value) (m : mM) (r : Int32) (m' : mM), f_Seasons_mayStand_25 F s0 m = some (r, m') → m_R X (d + 0) 108 25 [w0, w1, w2] [.int s0] (SH, m) (some (.int r), (SH, m')) := by
  intro s0 w0 w1 w2 m r m' h
  unfold f_Seasons_mayStand_25 at h
  obtain ⟨c0, h⟩ := m_ite_p h
  obtain ⟨rfl, rfl⟩ := m_some h
  exact m_R_iret (by decide) (m_opb_of (ins := .ireturn) (len := 1) (tag := 1) (a := 1) (b := 0) (c := 0) (q := 0) (by decide +kernel)) (Or.inr c0)
def f_Seasons_mayStand_24 (F : Nat)    (m : mM) : Option (Int32 × mM) := f_Seasons_mayStand_25 F (0 : Int32) m
theorem ok_Seasons_mayStand_24 (X : mX) (d F : Nat) : ∀  (w0 : Option Value) (w1 : Option Value) (w2 : Option Value) (m : mM) (r : Int32) (m' : mM), f_Seasons_mayStand_24 F  m = some (r, m') → m_R X (d + 0) 108 24 [w0, w1, w2] [] (SH, m) (some (.int r), (SH, m')) := by
  intro w0 w1 w2 m r m' h
  unfold f_Seasons_mayStand_24 at h
  refine m_R_sg (by decide) [(.iconst 0, 1, 0, 0, 0, 0, 0)] (by decide +kernel) (show m_sgl X _ _ _ _ _ = some (25, [w0, w1, w2], [.int (0 : Int32)], (SH, m.1, m.2)) from rfl) ?_
  exact ok_Seasons_mayStand_25 X d F _ _ _ _ _ _ _ h
def f_Seasons_mayStand_17 (F : Nat)   (s0 : Int32) (s1 : Int32) (m : mM) : Option (Int32 × mM) := (if s1 < s0 then f_Seasons_mayStand_24 F m else f_Seasons_mayStand_25 F (1 : Int32) m)
theorem ok_Seasons_mayStand_17 (X : mX) (d F : Nat) : ∀ (s0 : Int32) (s1 : Int32) (w0 : Option Value) (w1 : Option Value) (w2 : Option Value) (m : mM) (r : Int32) (m' : mM), f_Seasons_mayStand_17 F s0 s1 m = some (r, m') → m_R X (d + 0) 108 17 [w0, w1, w2] [.int s1, .int s0] (SH, m) (some (.int r), (SH, m')) := by
  intro s0 s1 w0 w1 w2 m r m' h
  unfold f_Seasons_mayStand_17 at h
  rcases m_ite h with ⟨c942, h⟩ | ⟨c942, h⟩
  · refine m_R_1 (by decide) (m_opb_of (ins := .if_icmp .gt 7) (len := 3) (tag := 0) (a := 24) (b := 0) (c := 0) (q := 0) (by decide +kernel)) (if_pos c942) ?_
    exact ok_Seasons_mayStand_24 X d F _ _ _ _ _ _ h
  · refine m_R_1 (by decide) (m_opb_of (ins := .if_icmp .gt 7) (len := 3) (tag := 0) (a := 24) (b := 0) (c := 0) (q := 0) (by decide +kernel)) (if_neg c942) ?_
    refine m_R_sg (by decide) [(.iconst 1, 1, 0, 1, 0, 0, 0), (.goto 4, 3, 0, 25, 0, 0, 0)] (by decide +kernel) (show m_sgl X _ _ _ _ _ = some (25, [w0, w1, w2], [.int (1 : Int32)], (SH, m.1, m.2)) from rfl) ?_
    exact ok_Seasons_mayStand_25 X d F _ _ _ _ _ _ _ h
def f_Seasons_mayStand (F : Nat)   (v1 : Int32) (v2 : Int32) (m : mM) : Option (Int32 × mM) := (if v2 < 0 then f_Seasons_mayStand_24 F m else (if v1 = 0 then f_Seasons_mayStand_17 F v2 (200 : Int32) m else f_Seasons_mayStand_17 F v2 (20 : Int32) m))
theorem ok_Seasons_mayStand (X : mX) (d F : Nat) : ∀ (v1 : Int32) (v2 : Int32)  (m : mM) (r : Int32) (m' : mM), f_Seasons_mayStand F v1 v2 m = some (r, m') → m_R X (d + 0) 108 0 [some (.ref 52), some (.int v1), some (.int v2)] [] (SH, m) (some (.int r), (SH, m')) := by
  intro v1 v2 m r m' h
  unfold f_Seasons_mayStand at h
  refine m_R_sg (by decide) [(.iload_n 2, 1, 0, 2, 0, 0, 0)] (by decide +kernel) (show m_sgl X _ _ _ _ _ = some (1, [some (.ref 52), some (.int v1), some (.int v2)], [.int v2], (SH, m.1, m.2)) from rfl) ?_
  rcases m_ite h with ⟨c943, h⟩ | ⟨c943, h⟩
  · refine m_R_1 (by decide) (m_opb_of (ins := .ifCond .lt 23) (len := 3) (tag := 0) (a := 24) (b := 0) (c := 0) (q := 0) (by decide +kernel)) (if_pos c943) ?_
    exact ok_Seasons_mayStand_24 X d F _ _ _ _ _ _ h
  · refine m_R_1 (by decide) (m_opb_of (ins := .ifCond .lt 23) (len := 3) (tag := 0) (a := 24) (b := 0) (c := 0) (q := 0) (by decide +kernel)) (if_neg c943) ?_
    refine m_R_sg (by decide) [(.iload_n 2, 1, 0, 2, 0, 0, 0), (.iload_n 1, 1, 0, 1, 0, 0, 0)] (by decide +kernel) (show m_sgl X _ _ _ _ _ = some (6, [some (.ref 52), some (.int v1), some (.int v2)], [.int v1, .int v2], (SH, m.1, m.2)) from rfl) ?_
    rcases m_ite h with ⟨c944, h⟩ | ⟨c944, h⟩
    · refine m_R_1 (by decide) (m_opb_of (ins := .ifCond .ne 9) (len := 3) (tag := 0) (a := 15) (b := 0) (c := 0) (q := 0) (by decide +kernel)) (if_pos c944) ?_
      refine m_R_sg (by decide) [(.sipush 200, 3, 0, 200, 0, 0, 0), (.goto 5, 3, 0, 17, 0, 0, 0)] (by decide +kernel) (show m_sgl X _ _ _ _ _ = some (17, [some (.ref 52), some (.int v1), some (.int v2)], [.int (200 : Int32), .int v2], (SH, m.1, m.2)) from rfl) ?_
      exact ok_Seasons_mayStand_17 X d F _ _ _ _ _ _ _ _ h
    · refine m_R_1 (by decide) (m_opb_of (ins := .ifCond .ne 9) (len := 3) (tag := 0) (a := 15) (b := 0) (c := 0) (q := 0) (by decide +kernel)) (if_neg c944) ?_
      refine m_R_sg (by decide) [(.bipush 20, 2, 0, 20, 0, 0, 0)] (by decide +kernel) (show m_sgl X _ _ _ _ _ = some (17, [some (.ref 52), some (.int v1), some (.int v2)], [.int (20 : Int32), .int v2], (SH, m.1, m.2)) from rfl) ?_
      exact ok_Seasons_mayStand_17 X d F _ _ _ _ _ _ _ _ h
def f_x_refuseByZero (F : Nat)   (v1 : Int32) (m : mM) : Option (Int32 × mM) := ((f_x_refuse F v1 m).bind fun q1 => some ((0 : Int32), q1.2))
theorem ok_x_refuseByZero (X : mX) (d F : Nat) : ∀ (v1 : Int32)  (m : mM) (r : Int32) (m' : mM), f_x_refuseByZero F v1 m = some (r, m') → m_R X (d + 1) 107 0 [some (.ref 0), some (.int v1)] [] (SH, m) (some (.int r), (SH, m')) := by
  intro v1 m r m' h
  unfold f_x_refuseByZero at h
  refine m_R_sg (by decide) [(.aload_n 0, 1, 0, 0, 0, 0, 0), (.iload_n 1, 1, 0, 1, 0, 0, 0)] (by decide +kernel) (show m_sgl X _ _ _ _ _ = some (2, [some (.ref 0), some (.int v1)], [.int v1, .ref 0], (SH, m.1, m.2)) from rfl) ?_
  obtain ⟨q1, hc1, h⟩ := Option.bind_eq_some_iff.mp h
  refine m_R_cV (v := (some (.int q1.1))) (h1 := (SH, q1.2)) (rest := []) (lo' := [some (.ref 0), some (.int v1)]) (ml := 2) (k0 := 0) (by decide) (Or.inl rfl) (m_opb_of (ins := .invokevirtual 76) (len := 3) (tag := 5) (a := 14) (b := 1) (c := 0) (q := 671) (by decide +kernel)) (by decide +kernel) rfl (show m_isO 14 0 (SH, _) = true from m_isO_of (by decide +kernel)) (Nat.le_of_ble_eq_true rfl) rfl rfl (ok_x_refuse X (d + 0) F _ _ _ _ hc1) ?_
  refine m_R_sg (by decide) [(.pop, 1, 0, 0, 0, 0, 0), (.iconst 0, 1, 0, 0, 0, 0, 0)] (by decide +kernel) (show m_sgl X _ _ _ _ _ = some (7, [some (.ref 0), some (.int v1)], [.int (0 : Int32)], (SH, q1.2.1, q1.2.2)) from rfl) ?_
  obtain ⟨rfl, rfl⟩ := m_some h
  exact m_R_iret (by decide) (m_opb_of (ins := .ireturn) (len := 1) (tag := 1) (a := 0) (b := 0) (c := 0) (q := 0) (by decide +kernel)) (Or.inl rfl)
def f_Seasons_put (F : Nat)   (v1 : Int32) (v2 : Int32) (v3 : Int32) (m : mM) : Option (Int32 × mM) := (if ((v1 * (52 : Int32)) + v2) < 0 ∨ 104 ≤ ((v1 * (52 : Int32)) + v2).toNatClampNeg then none else some ((m.1 53 ((v1 * (52 : Int32)) + v2).toNatClampNeg), ((m_up m.1 53 ((v1 * (52 : Int32)) + v2).toNatClampNeg v3), m.2)))
theorem ok_Seasons_put (X : mX) (d F : Nat) : ∀ (v1 : Int32) (v2 : Int32) (v3 : Int32)  (m : mM) (r : Int32) (m' : mM), f_Seasons_put F v1 v2 v3 m = some (r, m') → m_R X (d + 0) 109 0 [some (.ref 52), some (.int v1), some (.int v2), some (.int v3), none, none] [] (SH, m) (some (.int r), (SH, m')) := by
  intro v1 v2 v3 m r m' h
  unfold f_Seasons_put at h
  refine m_R_sg (by decide) [(.iload_n 1, 1, 0, 1, 0, 0, 0), (.bipush 52, 2, 0, 52, 0, 0, 0), (.imul, 1, 0, 0, 0, 0, 0), (.iload_n 2, 1, 0, 2, 0, 0, 0), (.iadd, 1, 0, 0, 0, 0, 0), (.istore 4, 2, 0, 4, 0, 0, 0), (.aload_n 0, 1, 0, 0, 0, 0, 0), (.getfield 9, 3, 0, 7, 0, 3, 439), (.iload 4, 2, 0, 4, 0, 0, 0)] (by decide +kernel) (show m_sgl X _ _ _ _ _ = some (14, [some (.ref 52), some (.int v1), some (.int v2), some (.int v3), some (.int ((v1 * (52 : Int32)) + v2)), none], [.int ((v1 * (52 : Int32)) + v2), .ref 53], (SH, m.1, m.2)) from rfl) ?_
  obtain ⟨c945, h⟩ := m_ite_n h
  refine m_R_1 (by decide) (m_opb_of (ins := .iaload) (len := 1) (tag := 0) (a := 0) (b := 0) (c := 0) (q := 0) (by decide +kernel)) (m_s_iald sh_53 (by decide) c945) ?_
  refine m_R_sg (by decide) [(.istore 5, 2, 0, 5, 0, 0, 0), (.aload_n 0, 1, 0, 0, 0, 0, 0), (.getfield 9, 3, 0, 7, 0, 3, 439), (.iload 4, 2, 0, 4, 0, 0, 0), (.iload_n 3, 1, 0, 3, 0, 0, 0)] (by decide +kernel) (show m_sgl X _ _ _ _ _ = some (24, [some (.ref 52), some (.int v1), some (.int v2), some (.int v3), some (.int ((v1 * (52 : Int32)) + v2)), some (.int (m.1 53 ((v1 * (52 : Int32)) + v2).toNatClampNeg))], [.int v3, .int ((v1 * (52 : Int32)) + v2), .ref 53], (SH, m.1, m.2)) from rfl) ?_
  refine m_R_1 (by decide) (m_opb_of (ins := .iastore) (len := 1) (tag := 0) (a := 0) (b := 0) (c := 0) (q := 0) (by decide +kernel)) (m_s_iast sh_53 c945) ?_
  refine m_R_sg (by decide) [(.iload 5, 2, 0, 5, 0, 0, 0)] (by decide +kernel) (show m_sgl X _ _ _ _ _ = some (27, [some (.ref 52), some (.int v1), some (.int v2), some (.int v3), some (.int ((v1 * (52 : Int32)) + v2)), some (.int (m.1 53 ((v1 * (52 : Int32)) + v2).toNatClampNeg))], [.int (m.1 53 ((v1 * (52 : Int32)) + v2).toNatClampNeg)], (SH, (m_up m.1 53 ((v1 * (52 : Int32)) + v2).toNatClampNeg v3), m.2)) from rfl) ?_
  obtain ⟨rfl, rfl⟩ := m_some h
  exact m_R_iret (by decide) (m_opb_of (ins := .ireturn) (len := 1) (tag := 1) (a := 0) (b := 0) (c := 0) (q := 0) (by decide +kernel)) (Or.inl rfl)
def f_x_tell_17 (F : Nat)    (m : mM) : Option (Int32 × mM) := ((f_x_refuseByZero F (-3 : Int32) m).bind fun q4 => some (q4.1, q4.2))
theorem ok_x_tell_17 (X : mX) (d F : Nat) : ∀  (w1 : Option Value) (w2 : Option Value) (w3 : Option Value) (m : mM) (r : Int32) (m' : mM), f_x_tell_17 F  m = some (r, m') → m_R X (d + 2) 105 17 [some (.ref 0), w1, w2, w3] [] (SH, m) (some (.int r), (SH, m')) := by
  intro w1 w2 w3 m r m' h
  unfold f_x_tell_17 at h
  refine m_R_sg (by decide) [(.aload_n 0, 1, 0, 0, 0, 0, 0), (.bipush (-3), 2, 0, 3, 1, 0, 0)] (by decide +kernel) (show m_sgl X _ _ _ _ _ = some (20, [some (.ref 0), w1, w2, w3], [.int (-3 : Int32), .ref 0], (SH, m.1, m.2)) from rfl) ?_
  obtain ⟨q4, hc4, h⟩ := Option.bind_eq_some_iff.mp h
  refine m_R_cV (v := (some (.int q4.1))) (h1 := (SH, q4.2)) (rest := []) (lo' := [some (.ref 0), some (.int (-3 : Int32))]) (ml := 2) (k0 := 0) (by decide) (Or.inl rfl) (m_opb_of (ins := .invokevirtual 335) (len := 3) (tag := 5) (a := 107) (b := 1) (c := 0) (q := 1054) (by decide +kernel)) (by decide +kernel) rfl (show m_isO 107 0 (SH, _) = true from m_isO_of (by decide +kernel)) (Nat.le_of_ble_eq_true rfl) rfl rfl (ok_x_refuseByZero X (d + 0) F _ _ _ _ hc4) ?_
  obtain ⟨rfl, rfl⟩ := m_some h
  exact m_R_iret (by decide) (m_opb_of (ins := .ireturn) (len := 1) (tag := 1) (a := 0) (b := 0) (c := 0) (q := 0) (by decide +kernel)) (Or.inl rfl)
def f_x_tell_51 (F : Nat)   (v1 : Int32) (v2 : Int32) (v3 : Int32) (m : mM) : Option (Int32 × mM) := ((f_Seasons_put F v1 v2 v3 m).bind fun q5 => some (q5.1, q5.2))
theorem ok_x_tell_51 (X : mX) (d F : Nat) : ∀ (v1 : Int32) (v2 : Int32) (v3 : Int32)  (m : mM) (r : Int32) (m' : mM), f_x_tell_51 F v1 v2 v3 m = some (r, m') → m_R X (d + 2) 105 51 [some (.ref 0), some (.int v1), some (.int v2), some (.int v3)] [] (SH, m) (some (.int r), (SH, m')) := by
  intro v1 v2 v3 m r m' h
  unfold f_x_tell_51 at h
  refine m_R_sg (by decide) [(.aload_n 0, 1, 0, 0, 0, 0, 0), (.getfield 28, 3, 0, 11, 2, 3, 632), (.getfield 338, 3, 0, 10, 4, 3, 514), (.iload_n 1, 1, 0, 1, 0, 0, 0), (.iload_n 2, 1, 0, 2, 0, 0, 0), (.iload_n 3, 1, 0, 3, 0, 0, 0)] (by decide +kernel) (show m_sgl X _ _ _ _ _ = some (61, [some (.ref 0), some (.int v1), some (.int v2), some (.int v3)], [.int v3, .int v2, .int v1, .ref 52], (SH, m.1, m.2)) from rfl) ?_
  obtain ⟨q5, hc5, h⟩ := Option.bind_eq_some_iff.mp h
  refine m_R_cV (v := (some (.int q5.1))) (h1 := (SH, q5.2)) (rest := []) (lo' := [some (.ref 52), some (.int v1), some (.int v2), some (.int v3), none, none]) (ml := 6) (k0 := 52) (by decide) (Or.inl rfl) (m_opb_of (ins := .invokevirtual 347) (len := 3) (tag := 5) (a := 109) (b := 3) (c := 0) (q := 1062) (by decide +kernel)) (by decide +kernel) rfl (show m_isO 109 52 (SH, _) = true from m_isO_of (by decide +kernel)) (Nat.le_of_ble_eq_true rfl) rfl rfl (ok_Seasons_put X (d + 1) F _ _ _ _ _ _ hc5) ?_
  obtain ⟨rfl, rfl⟩ := m_some h
  exact m_R_iret (by decide) (m_opb_of (ins := .ireturn) (len := 1) (tag := 1) (a := 0) (b := 0) (c := 0) (q := 0) (by decide +kernel)) (Or.inl rfl)
def f_x_tell (F : Nat)   (v1 : Int32) (v2 : Int32) (v3 : Int32) (m : mM) : Option (Int32 × mM) := ((f_x_isSeason F v1 m).bind fun q1 => (if q1.1 = 0 then f_x_tell_17 F q1.2 else (if v2 < 0 then f_x_tell_17 F q1.2 else (if v2 < (52 : Int32) then (if v3 = (-1 : Int32) then f_x_tell_51 F v1 v2 v3 q1.2 else ((f_Seasons_mayStand F v1 v3 q1.2).bind fun q2 => (if q2.1 = 0 then ((f_x_refuseByZero F (-7 : Int32) q2.2).bind fun q3 => some (q3.1, q3.2)) else f_x_tell_51 F v1 v2 v3 q2.2))) else f_x_tell_17 F q1.2))))
theorem ok_x_tell (X : mX) (d F : Nat) : ∀ (v1 : Int32) (v2 : Int32) (v3 : Int32)  (m : mM) (r : Int32) (m' : mM), f_x_tell F v1 v2 v3 m = some (r, m') → m_R X (d + 2) 105 0 [some (.ref 0), some (.int v1), some (.int v2), some (.int v3)] [] (SH, m) (some (.int r), (SH, m')) := by
  intro v1 v2 v3 m r m' h
  unfold f_x_tell at h
  refine m_R_sg (by decide) [(.iload_n 1, 1, 0, 1, 0, 0, 0)] (by decide +kernel) (show m_sgl X _ _ _ _ _ = some (1, [some (.ref 0), some (.int v1), some (.int v2), some (.int v3)], [.int v1], (SH, m.1, m.2)) from rfl) ?_
  obtain ⟨q1, hc1, h⟩ := Option.bind_eq_some_iff.mp h
  refine m_R_cS (v := (some (.int q1.1))) (h1 := (SH, q1.2)) (rest := []) (lo' := [some (.int v1)]) (ml := 1) (by decide) (m_opb_of (ins := .invokestatic 332) (len := 3) (tag := 4) (a := 106) (b := 1) (c := 0) (q := 1051) (by decide +kernel)) (by decide +kernel) (Nat.le_of_ble_eq_true rfl) rfl (Nat.le_of_ble_eq_true rfl) rfl rfl (ok_x_isSeason X (d + 1) F _ _ _ _ hc1) ?_
  rcases m_ite h with ⟨c946, h⟩ | ⟨c946, h⟩
  · refine m_R_1 (by decide) (m_opb_of (ins := .ifCond .eq 13) (len := 3) (tag := 0) (a := 17) (b := 0) (c := 0) (q := 0) (by decide +kernel)) (if_pos c946) ?_
    exact ok_x_tell_17 X d F _ _ _ _ _ _ h
  · refine m_R_1 (by decide) (m_opb_of (ins := .ifCond .eq 13) (len := 3) (tag := 0) (a := 17) (b := 0) (c := 0) (q := 0) (by decide +kernel)) (if_neg c946) ?_
    refine m_R_sg (by decide) [(.iload_n 2, 1, 0, 2, 0, 0, 0)] (by decide +kernel) (show m_sgl X _ _ _ _ _ = some (8, [some (.ref 0), some (.int v1), some (.int v2), some (.int v3)], [.int v2], (SH, q1.2.1, q1.2.2)) from rfl) ?_
    rcases m_ite h with ⟨c947, h⟩ | ⟨c947, h⟩
    · refine m_R_1 (by decide) (m_opb_of (ins := .ifCond .lt 9) (len := 3) (tag := 0) (a := 17) (b := 0) (c := 0) (q := 0) (by decide +kernel)) (if_pos c947) ?_
      exact ok_x_tell_17 X d F _ _ _ _ _ _ h
    · refine m_R_1 (by decide) (m_opb_of (ins := .ifCond .lt 9) (len := 3) (tag := 0) (a := 17) (b := 0) (c := 0) (q := 0) (by decide +kernel)) (if_neg c947) ?_
      refine m_R_sg (by decide) [(.iload_n 2, 1, 0, 2, 0, 0, 0), (.bipush 52, 2, 0, 52, 0, 0, 0)] (by decide +kernel) (show m_sgl X _ _ _ _ _ = some (14, [some (.ref 0), some (.int v1), some (.int v2), some (.int v3)], [.int (52 : Int32), .int v2], (SH, q1.2.1, q1.2.2)) from rfl) ?_
      rcases m_ite h with ⟨c948, h⟩ | ⟨c948, h⟩
      · refine m_R_1 (by decide) (m_opb_of (ins := .if_icmp .lt 10) (len := 3) (tag := 0) (a := 24) (b := 0) (c := 0) (q := 0) (by decide +kernel)) (if_pos c948) ?_
        refine m_R_sg (by decide) [(.iload_n 3, 1, 0, 3, 0, 0, 0), (.iconst (-1), 1, 0, 1, 1, 0, 0)] (by decide +kernel) (show m_sgl X _ _ _ _ _ = some (26, [some (.ref 0), some (.int v1), some (.int v2), some (.int v3)], [.int (-1 : Int32), .int v3], (SH, q1.2.1, q1.2.2)) from rfl) ?_
        rcases m_ite h with ⟨c949, h⟩ | ⟨c949, h⟩
        · refine m_R_1 (by decide) (m_opb_of (ins := .if_icmp .eq 25) (len := 3) (tag := 0) (a := 51) (b := 0) (c := 0) (q := 0) (by decide +kernel)) (if_pos c949) ?_
          exact ok_x_tell_51 X d F _ _ _ _ _ _ h
        · refine m_R_1 (by decide) (m_opb_of (ins := .if_icmp .eq 25) (len := 3) (tag := 0) (a := 51) (b := 0) (c := 0) (q := 0) (by decide +kernel)) (if_neg c949) ?_
          refine m_R_sg (by decide) [(.aload_n 0, 1, 0, 0, 0, 0, 0), (.getfield 28, 3, 0, 11, 2, 3, 632), (.getfield 338, 3, 0, 10, 4, 3, 514), (.iload_n 1, 1, 0, 1, 0, 0, 0), (.iload_n 3, 1, 0, 3, 0, 0, 0)] (by decide +kernel) (show m_sgl X _ _ _ _ _ = some (38, [some (.ref 0), some (.int v1), some (.int v2), some (.int v3)], [.int v3, .int v1, .ref 52], (SH, q1.2.1, q1.2.2)) from rfl) ?_
          obtain ⟨q2, hc2, h⟩ := Option.bind_eq_some_iff.mp h
          refine m_R_cV (v := (some (.int q2.1))) (h1 := (SH, q2.2)) (rest := []) (lo' := [some (.ref 52), some (.int v1), some (.int v3)]) (ml := 3) (k0 := 52) (by decide) (Or.inl rfl) (m_opb_of (ins := .invokevirtual 342) (len := 3) (tag := 5) (a := 108) (b := 2) (c := 0) (q := 1058) (by decide +kernel)) (by decide +kernel) rfl (show m_isO 108 52 (SH, _) = true from m_isO_of (by decide +kernel)) (Nat.le_of_ble_eq_true rfl) rfl rfl (ok_Seasons_mayStand X (d + 1) F _ _ _ _ _ hc2) ?_
          rcases m_ite h with ⟨c950, h⟩ | ⟨c950, h⟩
          · refine m_R_1 (by decide) (m_opb_of (ins := .ifCond .ne 10) (len := 3) (tag := 0) (a := 51) (b := 0) (c := 0) (q := 0) (by decide +kernel)) (if_pos c950) ?_
            refine m_R_sg (by decide) [(.aload_n 0, 1, 0, 0, 0, 0, 0), (.bipush (-7), 2, 0, 7, 1, 0, 0)] (by decide +kernel) (show m_sgl X _ _ _ _ _ = some (47, [some (.ref 0), some (.int v1), some (.int v2), some (.int v3)], [.int (-7 : Int32), .ref 0], (SH, q2.2.1, q2.2.2)) from rfl) ?_
            obtain ⟨q3, hc3, h⟩ := Option.bind_eq_some_iff.mp h
            refine m_R_cV (v := (some (.int q3.1))) (h1 := (SH, q3.2)) (rest := []) (lo' := [some (.ref 0), some (.int (-7 : Int32))]) (ml := 2) (k0 := 0) (by decide) (Or.inl rfl) (m_opb_of (ins := .invokevirtual 335) (len := 3) (tag := 5) (a := 107) (b := 1) (c := 0) (q := 1054) (by decide +kernel)) (by decide +kernel) rfl (show m_isO 107 0 (SH, _) = true from m_isO_of (by decide +kernel)) (Nat.le_of_ble_eq_true rfl) rfl rfl (ok_x_refuseByZero X (d + 0) F _ _ _ _ hc3) ?_
            obtain ⟨rfl, rfl⟩ := m_some h
            exact m_R_iret (by decide) (m_opb_of (ins := .ireturn) (len := 1) (tag := 1) (a := 0) (b := 0) (c := 0) (q := 0) (by decide +kernel)) (Or.inl rfl)
          · refine m_R_1 (by decide) (m_opb_of (ins := .ifCond .ne 10) (len := 3) (tag := 0) (a := 51) (b := 0) (c := 0) (q := 0) (by decide +kernel)) (if_neg c950) ?_
            exact ok_x_tell_51 X d F _ _ _ _ _ _ h
      · refine m_R_1 (by decide) (m_opb_of (ins := .if_icmp .lt 10) (len := 3) (tag := 0) (a := 24) (b := 0) (c := 0) (q := 0) (by decide +kernel)) (if_neg c948) ?_
        exact ok_x_tell_17 X d F _ _ _ _ _ _ h
def f_m_isThere_14 (F : Nat)   (s0 : Int32) (s1 : Int32) (s2 : Int32) (m : mM) : Option (Int32 × mM) := ((f_m_in F s0 s1 s2 m).bind fun q1 => (if q1.1 = 0 ∨ q1.1 = 1 then some (q1.1, q1.2) else none))
theorem ok_m_isThere_14 (X : mX) (d F : Nat) : ∀ (s0 : Int32) (s1 : Int32) (s2 : Int32) (w0 : Option Value) (w1 : Option Value) (m : mM) (r : Int32) (m' : mM), f_m_isThere_14 F s0 s1 s2 m = some (r, m') → m_R X (d + 1) 293 14 [w0, w1] [.int s2, .int s1, .int s0] (SH, m) (some (.int r), (SH, m')) := by
  intro s0 s1 s2 w0 w1 m r m' h
  unfold f_m_isThere_14 at h
  obtain ⟨q1, hc1, h⟩ := Option.bind_eq_some_iff.mp h
  refine m_R_cS (v := (some (.int q1.1))) (h1 := (SH, q1.2)) (rest := []) (lo' := [some (.int s0), some (.int s1), some (.int s2)]) (ml := 3) (by decide) (m_opb_of (ins := .invokestatic 57) (len := 3) (tag := 4) (a := 201) (b := 3) (c := 0) (q := 1590) (by decide +kernel)) (by decide +kernel) (Nat.le_of_ble_eq_true rfl) rfl (Nat.le_of_ble_eq_true rfl) rfl rfl (ok_m_in X (d + 0) F _ _ _ _ _ _ hc1) ?_
  obtain ⟨c0, h⟩ := m_ite_p h
  obtain ⟨rfl, rfl⟩ := m_some h
  exact m_R_iret (by decide) (m_opb_of (ins := .ireturn) (len := 1) (tag := 1) (a := 1) (b := 0) (c := 0) (q := 0) (by decide +kernel)) (Or.inr c0)
def f_m_isThere (F : Nat)   (v0 : Int32) (v1 : Int32) (m : mM) : Option (Int32 × mM) := (if v0 = 0 then f_m_isThere_14 F v1 (0 : Int32) (200 : Int32) m else f_m_isThere_14 F v1 (0 : Int32) (20 : Int32) m)
theorem ok_m_isThere (X : mX) (d F : Nat) : ∀ (v0 : Int32) (v1 : Int32)  (m : mM) (r : Int32) (m' : mM), f_m_isThere F v0 v1 m = some (r, m') → m_R X (d + 1) 293 0 [some (.int v0), some (.int v1)] [] (SH, m) (some (.int r), (SH, m')) := by
  intro v0 v1 m r m' h
  unfold f_m_isThere at h
  refine m_R_sg (by decide) [(.iload_n 1, 1, 0, 1, 0, 0, 0), (.iconst 0, 1, 0, 0, 0, 0, 0), (.iload_n 0, 1, 0, 0, 0, 0, 0)] (by decide +kernel) (show m_sgl X _ _ _ _ _ = some (3, [some (.int v0), some (.int v1)], [.int v0, .int (0 : Int32), .int v1], (SH, m.1, m.2)) from rfl) ?_
  rcases m_ite h with ⟨c951, h⟩ | ⟨c951, h⟩
  · refine m_R_1 (by decide) (m_opb_of (ins := .ifCond .ne 9) (len := 3) (tag := 0) (a := 12) (b := 0) (c := 0) (q := 0) (by decide +kernel)) (if_pos c951) ?_
    refine m_R_sg (by decide) [(.sipush 200, 3, 0, 200, 0, 0, 0), (.goto 5, 3, 0, 14, 0, 0, 0)] (by decide +kernel) (show m_sgl X _ _ _ _ _ = some (14, [some (.int v0), some (.int v1)], [.int (200 : Int32), .int (0 : Int32), .int v1], (SH, m.1, m.2)) from rfl) ?_
    exact ok_m_isThere_14 X d F _ _ _ _ _ _ _ _ h
  · refine m_R_1 (by decide) (m_opb_of (ins := .ifCond .ne 9) (len := 3) (tag := 0) (a := 12) (b := 0) (c := 0) (q := 0) (by decide +kernel)) (if_neg c951) ?_
    refine m_R_sg (by decide) [(.bipush 20, 2, 0, 20, 0, 0, 0)] (by decide +kernel) (show m_sgl X _ _ _ _ _ = some (14, [some (.int v0), some (.int v1)], [.int (20 : Int32), .int (0 : Int32), .int v1], (SH, m.1, m.2)) from rfl) ?_
    exact ok_m_isThere_14 X d F _ _ _ _ _ _ _ _ h
def f_m_hush (F : Nat)   (v1 : Int32) (m : mM) : Option (Int32 × mM) := (if (-v1) < 0 ∨ 9 ≤ (-v1).toNatClampNeg then none else some ((0 : Int32), ((m_up m.1 306 (-v1).toNatClampNeg ((m.1 306 (-v1).toNatClampNeg) + (1 : Int32))), m.2)))
theorem ok_m_hush (X : mX) (d F : Nat) : ∀ (v1 : Int32)  (m : mM) (r : Int32) (m' : mM), f_m_hush F v1 m = some (r, m') → m_R X (d + 0) 292 0 [some (.ref 304), some (.int v1)] [] (SH, m) (some (.int r), (SH, m')) := by
  intro v1 m r m' h
  unfold f_m_hush at h
  refine m_R_sg (by decide) [(.aload_n 0, 1, 0, 0, 0, 0, 0), (.getfield 17, 3, 0, 12, 2, 3, 1494), (.iload_n 1, 1, 0, 1, 0, 0, 0), (.ineg, 1, 0, 0, 0, 0, 0), (.dup2, 1, 0, 0, 0, 0, 0)] (by decide +kernel) (show m_sgl X _ _ _ _ _ = some (7, [some (.ref 304), some (.int v1)], [.int (-v1), .ref 306, .int (-v1), .ref 306], (SH, m.1, m.2)) from rfl) ?_
  obtain ⟨c952, h⟩ := m_ite_n h
  refine m_R_1 (by decide) (m_opb_of (ins := .iaload) (len := 1) (tag := 0) (a := 0) (b := 0) (c := 0) (q := 0) (by decide +kernel)) (m_s_iald sh_306 (by decide) c952) ?_
  refine m_R_sg (by decide) [(.iconst 1, 1, 0, 1, 0, 0, 0), (.iadd, 1, 0, 0, 0, 0, 0)] (by decide +kernel) (show m_sgl X _ _ _ _ _ = some (10, [some (.ref 304), some (.int v1)], [.int ((m.1 306 (-v1).toNatClampNeg) + (1 : Int32)), .int (-v1), .ref 306], (SH, m.1, m.2)) from rfl) ?_
  refine m_R_1 (by decide) (m_opb_of (ins := .iastore) (len := 1) (tag := 0) (a := 0) (b := 0) (c := 0) (q := 0) (by decide +kernel)) (m_s_iast sh_306 c952) ?_
  refine m_R_sg (by decide) [(.iconst 0, 1, 0, 0, 0, 0, 0)] (by decide +kernel) (show m_sgl X _ _ _ _ _ = some (12, [some (.ref 304), some (.int v1)], [.int (0 : Int32)], (SH, (m_up m.1 306 (-v1).toNatClampNeg ((m.1 306 (-v1).toNatClampNeg) + (1 : Int32))), m.2)) from rfl) ?_
  obtain ⟨rfl, rfl⟩ := m_some h
  exact m_R_iret (by decide) (m_opb_of (ins := .ireturn) (len := 1) (tag := 1) (a := 0) (b := 0) (c := 0) (q := 0) (by decide +kernel)) (Or.inl rfl)
def f_m_tell_19 (F : Nat)    (m : mM) : Option (Int32 × mM) := ((f_m_hush F (-3 : Int32) m).bind fun q5 => some (q5.1, q5.2))
theorem ok_m_tell_19 (X : mX) (d F : Nat) : ∀  (w1 : Option Value) (w2 : Option Value) (w3 : Option Value) (w4 : Option Value) (m : mM) (r : Int32) (m' : mM), f_m_tell_19 F  m = some (r, m') → m_R X (d + 2) 291 19 [some (.ref 304), w1, w2, w3, w4] [] (SH, m) (some (.int r), (SH, m')) := by
  intro w1 w2 w3 w4 m r m' h
  unfold f_m_tell_19 at h
  refine m_R_sg (by decide) [(.aload_n 0, 1, 0, 0, 0, 0, 0), (.bipush (-3), 2, 0, 3, 1, 0, 0)] (by decide +kernel) (show m_sgl X _ _ _ _ _ = some (22, [some (.ref 304), w1, w2, w3, w4], [.int (-3 : Int32), .ref 304], (SH, m.1, m.2)) from rfl) ?_
  obtain ⟨q5, hc5, h⟩ := Option.bind_eq_some_iff.mp h
  refine m_R_cV (v := (some (.int q5.1))) (h1 := (SH, q5.2)) (rest := []) (lo' := [some (.ref 304), some (.int (-3 : Int32))]) (ml := 2) (k0 := 304) (by decide) (Or.inl rfl) (m_opb_of (ins := .invokevirtual 215) (len := 3) (tag := 5) (a := 292) (b := 1) (c := 0) (q := 1986) (by decide +kernel)) (by decide +kernel) rfl (show m_isO 292 304 (SH, _) = true from m_isO_of (by decide +kernel)) (Nat.le_of_ble_eq_true rfl) rfl rfl (ok_m_hush X (d + 1) F _ _ _ _ hc5) ?_
  obtain ⟨rfl, rfl⟩ := m_some h
  exact m_R_iret (by decide) (m_opb_of (ins := .ireturn) (len := 1) (tag := 1) (a := 0) (b := 0) (c := 0) (q := 0) (by decide +kernel)) (Or.inl rfl)
def f_m_tell_46 (F : Nat)   (v1 : Int32) (v2 : Int32) (v3 : Int32) (m : mM) : Option (Int32 × mM) := (if (((7440 : Int32) + ((52 : Int32) * v1)) + v2) < 0 ∨ 9732 ≤ (((7440 : Int32) + ((52 : Int32) * v1)) + v2).toNatClampNeg then none else some ((m.1 305 (((7440 : Int32) + ((52 : Int32) * v1)) + v2).toNatClampNeg), ((m_up m.1 305 (((7440 : Int32) + ((52 : Int32) * v1)) + v2).toNatClampNeg v3), m.2)))
theorem ok_m_tell_46 (X : mX) (d F : Nat) : ∀ (v1 : Int32) (v2 : Int32) (v3 : Int32) (w4 : Option Value) (m : mM) (r : Int32) (m' : mM), f_m_tell_46 F v1 v2 v3 m = some (r, m') → m_R X (d + 2) 291 46 [some (.ref 304), some (.int v1), some (.int v2), some (.int v3), w4] [] (SH, m) (some (.int r), (SH, m')) := by
  intro v1 v2 v3 w4 m r m' h
  unfold f_m_tell_46 at h
  refine m_R_sg (by decide) [(.aload_n 0, 1, 0, 0, 0, 0, 0), (.getfield 13, 3, 0, 12, 1, 3, 1493), (.sipush 7440, 3, 0, 7440, 0, 0, 0), (.bipush 52, 2, 0, 52, 0, 0, 0), (.iload_n 1, 1, 0, 1, 0, 0, 0), (.imul, 1, 0, 0, 0, 0, 0), (.iadd, 1, 0, 0, 0, 0, 0), (.iload_n 2, 1, 0, 2, 0, 0, 0), (.iadd, 1, 0, 0, 0, 0, 0)] (by decide +kernel) (show m_sgl X _ _ _ _ _ = some (60, [some (.ref 304), some (.int v1), some (.int v2), some (.int v3), w4], [.int (((7440 : Int32) + ((52 : Int32) * v1)) + v2), .ref 305], (SH, m.1, m.2)) from rfl) ?_
  obtain ⟨c953, h⟩ := m_ite_n h
  refine m_R_1 (by decide) (m_opb_of (ins := .iaload) (len := 1) (tag := 0) (a := 0) (b := 0) (c := 0) (q := 0) (by decide +kernel)) (m_s_iald sh_305 (by decide) c953) ?_
  refine m_R_sg (by decide) [(.istore 4, 2, 0, 4, 0, 0, 0), (.aload_n 0, 1, 0, 0, 0, 0, 0), (.getfield 13, 3, 0, 12, 1, 3, 1493), (.sipush 7440, 3, 0, 7440, 0, 0, 0), (.bipush 52, 2, 0, 52, 0, 0, 0), (.iload_n 1, 1, 0, 1, 0, 0, 0), (.imul, 1, 0, 0, 0, 0, 0), (.iadd, 1, 0, 0, 0, 0, 0), (.iload_n 2, 1, 0, 2, 0, 0, 0), (.iadd, 1, 0, 0, 0, 0, 0), (.iload_n 3, 1, 0, 3, 0, 0, 0)] (by decide +kernel) (show m_sgl X _ _ _ _ _ = some (78, [some (.ref 304), some (.int v1), some (.int v2), some (.int v3), some (.int (m.1 305 (((7440 : Int32) + ((52 : Int32) * v1)) + v2).toNatClampNeg))], [.int v3, .int (((7440 : Int32) + ((52 : Int32) * v1)) + v2), .ref 305], (SH, m.1, m.2)) from rfl) ?_
  refine m_R_1 (by decide) (m_opb_of (ins := .iastore) (len := 1) (tag := 0) (a := 0) (b := 0) (c := 0) (q := 0) (by decide +kernel)) (m_s_iast sh_305 c953) ?_
  refine m_R_sg (by decide) [(.iload 4, 2, 0, 4, 0, 0, 0)] (by decide +kernel) (show m_sgl X _ _ _ _ _ = some (81, [some (.ref 304), some (.int v1), some (.int v2), some (.int v3), some (.int (m.1 305 (((7440 : Int32) + ((52 : Int32) * v1)) + v2).toNatClampNeg))], [.int (m.1 305 (((7440 : Int32) + ((52 : Int32) * v1)) + v2).toNatClampNeg)], (SH, (m_up m.1 305 (((7440 : Int32) + ((52 : Int32) * v1)) + v2).toNatClampNeg v3), m.2)) from rfl) ?_
  obtain ⟨rfl, rfl⟩ := m_some h
  exact m_R_iret (by decide) (m_opb_of (ins := .ireturn) (len := 1) (tag := 1) (a := 0) (b := 0) (c := 0) (q := 0) (by decide +kernel)) (Or.inl rfl)
def f_m_tell (F : Nat)   (v1 : Int32) (v2 : Int32) (v3 : Int32) (m : mM) : Option (Int32 × mM) := ((f_m_in F v1 (0 : Int32) (1 : Int32) m).bind fun q1 => (if q1.1 = 0 then f_m_tell_19 F q1.2 else ((f_m_in F v2 (0 : Int32) (51 : Int32) q1.2).bind fun q2 => (if q2.1 = 0 then f_m_tell_19 F q2.2 else (if v3 = (-1 : Int32) then f_m_tell_46 F v1 v2 v3 q2.2 else ((f_m_isThere F v1 v3 q2.2).bind fun q3 => (if q3.1 = 0 then ((f_m_hush F (-7 : Int32) q3.2).bind fun q4 => some (q4.1, q4.2)) else f_m_tell_46 F v1 v2 v3 q3.2)))))))
theorem ok_m_tell (X : mX) (d F : Nat) : ∀ (v1 : Int32) (v2 : Int32) (v3 : Int32)  (m : mM) (r : Int32) (m' : mM), f_m_tell F v1 v2 v3 m = some (r, m') → m_R X (d + 2) 291 0 [some (.ref 304), some (.int v1), some (.int v2), some (.int v3), none] [] (SH, m) (some (.int r), (SH, m')) := by
  intro v1 v2 v3 m r m' h
  unfold f_m_tell at h
  refine m_R_sg (by decide) [(.iload_n 1, 1, 0, 1, 0, 0, 0), (.iconst 0, 1, 0, 0, 0, 0, 0), (.iconst 1, 1, 0, 1, 0, 0, 0)] (by decide +kernel) (show m_sgl X _ _ _ _ _ = some (3, [some (.ref 304), some (.int v1), some (.int v2), some (.int v3), none], [.int (1 : Int32), .int (0 : Int32), .int v1], (SH, m.1, m.2)) from rfl) ?_
  obtain ⟨q1, hc1, h⟩ := Option.bind_eq_some_iff.mp h
  refine m_R_cS (v := (some (.int q1.1))) (h1 := (SH, q1.2)) (rest := []) (lo' := [some (.int v1), some (.int (0 : Int32)), some (.int (1 : Int32))]) (ml := 3) (by decide) (m_opb_of (ins := .invokestatic 57) (len := 3) (tag := 4) (a := 201) (b := 3) (c := 0) (q := 1590) (by decide +kernel)) (by decide +kernel) (Nat.le_of_ble_eq_true rfl) rfl (Nat.le_of_ble_eq_true rfl) rfl rfl (ok_m_in X (d + 1) F _ _ _ _ _ _ hc1) ?_
  rcases m_ite h with ⟨c954, h⟩ | ⟨c954, h⟩
  · refine m_R_1 (by decide) (m_opb_of (ins := .ifCond .eq 13) (len := 3) (tag := 0) (a := 19) (b := 0) (c := 0) (q := 0) (by decide +kernel)) (if_pos c954) ?_
    exact ok_m_tell_19 X d F _ _ _ _ _ _ _ h
  · refine m_R_1 (by decide) (m_opb_of (ins := .ifCond .eq 13) (len := 3) (tag := 0) (a := 19) (b := 0) (c := 0) (q := 0) (by decide +kernel)) (if_neg c954) ?_
    refine m_R_sg (by decide) [(.iload_n 2, 1, 0, 2, 0, 0, 0), (.iconst 0, 1, 0, 0, 0, 0, 0), (.bipush 51, 2, 0, 51, 0, 0, 0)] (by decide +kernel) (show m_sgl X _ _ _ _ _ = some (13, [some (.ref 304), some (.int v1), some (.int v2), some (.int v3), none], [.int (51 : Int32), .int (0 : Int32), .int v2], (SH, q1.2.1, q1.2.2)) from rfl) ?_
    obtain ⟨q2, hc2, h⟩ := Option.bind_eq_some_iff.mp h
    refine m_R_cS (v := (some (.int q2.1))) (h1 := (SH, q2.2)) (rest := []) (lo' := [some (.int v2), some (.int (0 : Int32)), some (.int (51 : Int32))]) (ml := 3) (by decide) (m_opb_of (ins := .invokestatic 57) (len := 3) (tag := 4) (a := 201) (b := 3) (c := 0) (q := 1590) (by decide +kernel)) (by decide +kernel) (Nat.le_of_ble_eq_true rfl) rfl (Nat.le_of_ble_eq_true rfl) rfl rfl (ok_m_in X (d + 1) F _ _ _ _ _ _ hc2) ?_
    rcases m_ite h with ⟨c955, h⟩ | ⟨c955, h⟩
    · refine m_R_1 (by decide) (m_opb_of (ins := .ifCond .ne 10) (len := 3) (tag := 0) (a := 26) (b := 0) (c := 0) (q := 0) (by decide +kernel)) (if_pos c955) ?_
      exact ok_m_tell_19 X d F _ _ _ _ _ _ _ h
    · refine m_R_1 (by decide) (m_opb_of (ins := .ifCond .ne 10) (len := 3) (tag := 0) (a := 26) (b := 0) (c := 0) (q := 0) (by decide +kernel)) (if_neg c955) ?_
      refine m_R_sg (by decide) [(.iload_n 3, 1, 0, 3, 0, 0, 0), (.iconst (-1), 1, 0, 1, 1, 0, 0)] (by decide +kernel) (show m_sgl X _ _ _ _ _ = some (28, [some (.ref 304), some (.int v1), some (.int v2), some (.int v3), none], [.int (-1 : Int32), .int v3], (SH, q2.2.1, q2.2.2)) from rfl) ?_
      rcases m_ite h with ⟨c956, h⟩ | ⟨c956, h⟩
      · refine m_R_1 (by decide) (m_opb_of (ins := .if_icmp .eq 18) (len := 3) (tag := 0) (a := 46) (b := 0) (c := 0) (q := 0) (by decide +kernel)) (if_pos c956) ?_
        exact ok_m_tell_46 X d F _ _ _ _ _ _ _ h
      · refine m_R_1 (by decide) (m_opb_of (ins := .if_icmp .eq 18) (len := 3) (tag := 0) (a := 46) (b := 0) (c := 0) (q := 0) (by decide +kernel)) (if_neg c956) ?_
        refine m_R_sg (by decide) [(.iload_n 1, 1, 0, 1, 0, 0, 0), (.iload_n 3, 1, 0, 3, 0, 0, 0)] (by decide +kernel) (show m_sgl X _ _ _ _ _ = some (33, [some (.ref 304), some (.int v1), some (.int v2), some (.int v3), none], [.int v3, .int v1], (SH, q2.2.1, q2.2.2)) from rfl) ?_
        obtain ⟨q3, hc3, h⟩ := Option.bind_eq_some_iff.mp h
        refine m_R_cS (v := (some (.int q3.1))) (h1 := (SH, q3.2)) (rest := []) (lo' := [some (.int v1), some (.int v3)]) (ml := 2) (by decide) (m_opb_of (ins := .invokestatic 218) (len := 3) (tag := 4) (a := 293) (b := 2) (c := 0) (q := 1990) (by decide +kernel)) (by decide +kernel) (Nat.le_of_ble_eq_true rfl) rfl (Nat.le_of_ble_eq_true rfl) rfl rfl (ok_m_isThere X (d + 0) F _ _ _ _ _ hc3) ?_
        rcases m_ite h with ⟨c957, h⟩ | ⟨c957, h⟩
        · refine m_R_1 (by decide) (m_opb_of (ins := .ifCond .ne 10) (len := 3) (tag := 0) (a := 46) (b := 0) (c := 0) (q := 0) (by decide +kernel)) (if_pos c957) ?_
          refine m_R_sg (by decide) [(.aload_n 0, 1, 0, 0, 0, 0, 0), (.bipush (-7), 2, 0, 7, 1, 0, 0)] (by decide +kernel) (show m_sgl X _ _ _ _ _ = some (42, [some (.ref 304), some (.int v1), some (.int v2), some (.int v3), none], [.int (-7 : Int32), .ref 304], (SH, q3.2.1, q3.2.2)) from rfl) ?_
          obtain ⟨q4, hc4, h⟩ := Option.bind_eq_some_iff.mp h
          refine m_R_cV (v := (some (.int q4.1))) (h1 := (SH, q4.2)) (rest := []) (lo' := [some (.ref 304), some (.int (-7 : Int32))]) (ml := 2) (k0 := 304) (by decide) (Or.inl rfl) (m_opb_of (ins := .invokevirtual 215) (len := 3) (tag := 5) (a := 292) (b := 1) (c := 0) (q := 1986) (by decide +kernel)) (by decide +kernel) rfl (show m_isO 292 304 (SH, _) = true from m_isO_of (by decide +kernel)) (Nat.le_of_ble_eq_true rfl) rfl rfl (ok_m_hush X (d + 1) F _ _ _ _ hc4) ?_
          obtain ⟨rfl, rfl⟩ := m_some h
          exact m_R_iret (by decide) (m_opb_of (ins := .ireturn) (len := 1) (tag := 1) (a := 0) (b := 0) (c := 0) (q := 0) (by decide +kernel)) (Or.inl rfl)
        · refine m_R_1 (by decide) (m_opb_of (ins := .ifCond .ne 10) (len := 3) (tag := 0) (a := 46) (b := 0) (c := 0) (q := 0) (by decide +kernel)) (if_neg c957) ?_
          exact ok_m_tell_46 X d F _ _ _ _ _ _ _ h
def f_x_read_105 (F : Nat)  (k33 : Int32 → Int32 → Int32 → mM → Option (Int32 × mM)) (v1 : Int32) (v3 : Int32) (s0 : Int32) (s1 : Int32) (m : mM) : Option (Int32 × mM) := k33 v1 (s0 + s1) (v3 + (1 : Int32)) m
theorem ok_x_read_105 (X : mX) (d F : Nat) (k33 : Int32 → Int32 → Int32 → mM → Option (Int32 × mM)) (hk33 : ∀ (v1 : Int32) (v2 : Int32) (v3 : Int32) (w4 : Option Value) (m : mM) (r : Int32) (m' : mM), k33 v1 v2 v3 m = some (r, m') → m_R X (d + 1) 110 33 [some (.ref 0), some (.int v1), some (.int v2), some (.int v3), w4] [] (SH, m) (some (.int r), (SH, m'))) : ∀ (v1 : Int32) (v3 : Int32) (s0 : Int32) (s1 : Int32) (w2 : Option Value) (w4 : Option Value) (m : mM) (r : Int32) (m' : mM), f_x_read_105 F k33 v1 v3 s0 s1 m = some (r, m') → m_R X (d + 1) 110 105 [some (.ref 0), some (.int v1), w2, some (.int v3), w4] [.int s1, .int s0] (SH, m) (some (.int r), (SH, m')) := by
  intro v1 v3 s0 s1 w2 w4 m r m' h
  unfold f_x_read_105 at h
  refine m_R_sg (by decide) [(.iadd, 1, 0, 0, 0, 0, 0), (.istore_n 2, 1, 0, 2, 0, 0, 0), (.iinc 3 1, 3, 0, 3, 1, 0, 0), (.goto (-77), 3, 0, 33, 0, 0, 0)] (by decide +kernel) (show m_sgl X _ _ _ _ _ = some (33, [some (.ref 0), some (.int v1), some (.int (s0 + s1)), some (.int (v3 + (1 : Int32))), w4], [], (SH, m.1, m.2)) from rfl) ?_
  exact hk33 _ _ _ _ _ _ _ h
def f_x_read_90 (F : Nat)  (k33 : Int32 → Int32 → Int32 → mM → Option (Int32 × mM)) (v1 : Int32) (v2 : Int32) (v3 : Int32) (v4 : Int32) (s1 : Int32) (s2 : Int32) (s3 : Int32) (m : mM) : Option (Int32 × mM) := ((f_Seasons_put F s1 s2 s3 m).bind fun q5 => (if v4 = 0 then f_x_read_105 F k33 v1 v3 v2 (0 : Int32) q5.2 else f_x_read_105 F k33 v1 v3 v2 (1 : Int32) q5.2))
theorem ok_x_read_90 (X : mX) (d F : Nat) (k33 : Int32 → Int32 → Int32 → mM → Option (Int32 × mM)) (hk33 : ∀ (v1 : Int32) (v2 : Int32) (v3 : Int32) (w4 : Option Value) (m : mM) (r : Int32) (m' : mM), k33 v1 v2 v3 m = some (r, m') → m_R X (d + 1) 110 33 [some (.ref 0), some (.int v1), some (.int v2), some (.int v3), w4] [] (SH, m) (some (.int r), (SH, m'))) : ∀ (v1 : Int32) (v2 : Int32) (v3 : Int32) (v4 : Int32) (s1 : Int32) (s2 : Int32) (s3 : Int32)  (m : mM) (r : Int32) (m' : mM), f_x_read_90 F k33 v1 v2 v3 v4 s1 s2 s3 m = some (r, m') → m_R X (d + 1) 110 90 [some (.ref 0), some (.int v1), some (.int v2), some (.int v3), some (.int v4)] [.int s3, .int s2, .int s1, .ref 52] (SH, m) (some (.int r), (SH, m')) := by
  intro v1 v2 v3 v4 s1 s2 s3 m r m' h
  unfold f_x_read_90 at h
  obtain ⟨q5, hc5, h⟩ := Option.bind_eq_some_iff.mp h
  refine m_R_cV (v := (some (.int q5.1))) (h1 := (SH, q5.2)) (rest := []) (lo' := [some (.ref 52), some (.int s1), some (.int s2), some (.int s3), none, none]) (ml := 6) (k0 := 52) (by decide) (Or.inl rfl) (m_opb_of (ins := .invokevirtual 347) (len := 3) (tag := 5) (a := 109) (b := 3) (c := 0) (q := 1062) (by decide +kernel)) (by decide +kernel) rfl (show m_isO 109 52 (SH, _) = true from m_isO_of (by decide +kernel)) (Nat.le_of_ble_eq_true rfl) rfl rfl (ok_Seasons_put X (d + 0) F _ _ _ _ _ _ hc5) ?_
  refine m_R_sg (by decide) [(.pop, 1, 0, 0, 0, 0, 0), (.iload_n 2, 1, 0, 2, 0, 0, 0), (.iload 4, 2, 0, 4, 0, 0, 0)] (by decide +kernel) (show m_sgl X _ _ _ _ _ = some (97, [some (.ref 0), some (.int v1), some (.int v2), some (.int v3), some (.int v4)], [.int v4, .int v2], (SH, q5.2.1, q5.2.2)) from rfl) ?_
  rcases m_ite h with ⟨c958, h⟩ | ⟨c958, h⟩
  · refine m_R_1 (by decide) (m_opb_of (ins := .ifCond .eq 7) (len := 3) (tag := 0) (a := 104) (b := 0) (c := 0) (q := 0) (by decide +kernel)) (if_pos c958) ?_
    refine m_R_sg (by decide) [(.iconst 0, 1, 0, 0, 0, 0, 0)] (by decide +kernel) (show m_sgl X _ _ _ _ _ = some (105, [some (.ref 0), some (.int v1), some (.int v2), some (.int v3), some (.int v4)], [.int (0 : Int32), .int v2], (SH, q5.2.1, q5.2.2)) from rfl) ?_
    exact ok_x_read_105 X d F _ hk33 _ _ _ _ _ _ _ _ _ h
  · refine m_R_1 (by decide) (m_opb_of (ins := .ifCond .eq 7) (len := 3) (tag := 0) (a := 104) (b := 0) (c := 0) (q := 0) (by decide +kernel)) (if_neg c958) ?_
    refine m_R_sg (by decide) [(.iconst 1, 1, 0, 1, 0, 0, 0), (.goto 4, 3, 0, 105, 0, 0, 0)] (by decide +kernel) (show m_sgl X _ _ _ _ _ = some (105, [some (.ref 0), some (.int v1), some (.int v2), some (.int v3), some (.int v4)], [.int (1 : Int32), .int v2], (SH, q5.2.1, q5.2.2)) from rfl) ?_
    exact ok_x_read_105 X d F _ hk33 _ _ _ _ _ _ _ _ _ h
def f_x_read_113 (F : Nat)   (v2 : Int32) (m : mM) : Option (Int32 × mM) := some (v2, m)
theorem ok_x_read_113 (X : mX) (d F : Nat) : ∀ (v2 : Int32) (w0 : Option Value) (w1 : Option Value) (w3 : Option Value) (w4 : Option Value) (m : mM) (r : Int32) (m' : mM), f_x_read_113 F v2 m = some (r, m') → m_R X (d + 1) 110 113 [w0, w1, some (.int v2), w3, w4] [] (SH, m) (some (.int r), (SH, m')) := by
  intro v2 w0 w1 w3 w4 m r m' h
  unfold f_x_read_113 at h
  refine m_R_sg (by decide) [(.iload_n 2, 1, 0, 2, 0, 0, 0)] (by decide +kernel) (show m_sgl X _ _ _ _ _ = some (114, [w0, w1, some (.int v2), w3, w4], [.int v2], (SH, m.1, m.2)) from rfl) ?_
  obtain ⟨rfl, rfl⟩ := m_some h
  exact m_R_iret (by decide) (m_opb_of (ins := .ireturn) (len := 1) (tag := 1) (a := 0) (b := 0) (c := 0) (q := 0) (by decide +kernel)) (Or.inl rfl)
def f_x_read_33 (F : Nat)   : Nat → Int32 → Int32 → Int32 → mM → Option (Int32 × mM)
  | 0, _, _, _, _ => none
  | n + 1, v1, v2, v3, m => (if (m.1 0 10) ≤ v3 then f_x_read_113 F v2 m else (if (52 : Int32) ≤ v3 then f_x_read_113 F v2 m else (if v3 < 0 ∨ 60 ≤ v3.toNatClampNeg then none else ((f_Seasons_mayStand F v1 (m.1 117 v3.toNatClampNeg) m).bind fun q4 => (if q4.1 = 0 then f_x_read_90 F (f_x_read_33 F n) v1 v2 v3 q4.1 v1 v3 (-1 : Int32) q4.2 else f_x_read_90 F (f_x_read_33 F n) v1 v2 v3 q4.1 v1 v3 (q4.2.1 117 v3.toNatClampNeg) q4.2)))))
theorem ok_x_read_33 (X : mX) (d F : Nat) : ∀ (n : Nat) (v1 : Int32) (v2 : Int32) (v3 : Int32) (w4 : Option Value) (m : mM) (r : Int32) (m' : mM), f_x_read_33 F n v1 v2 v3 m = some (r, m') → m_R X (d + 1) 110 33 [some (.ref 0), some (.int v1), some (.int v2), some (.int v3), w4] [] (SH, m) (some (.int r), (SH, m')) := by
  intro n
  induction n with
  | zero => intro v1 v2 v3 w4 m r m' h; cases h
  | succ n ih =>
    intro v1 v2 v3 w4 m r m' h
    simp only [f_x_read_33] at h
    refine m_R_sg (by decide) [(.iload_n 3, 1, 0, 3, 0, 0, 0), (.aload_n 0, 1, 0, 0, 0, 0, 0), (.getfield 63, 3, 0, 11, 10, 0, 640)] (by decide +kernel) (show m_sgl X _ _ _ _ _ = some (38, [some (.ref 0), some (.int v1), some (.int v2), some (.int v3), w4], [.int (m.1 0 10), .int v3], (SH, m.1, m.2)) from rfl) ?_
    rcases m_ite h with ⟨c959, h⟩ | ⟨c959, h⟩
    · refine m_R_1 (by decide) (m_opb_of (ins := .if_icmp .ge 75) (len := 3) (tag := 0) (a := 113) (b := 0) (c := 0) (q := 0) (by decide +kernel)) (if_pos c959) ?_
      exact ok_x_read_113 X d F _ _ _ _ _ _ _ _ h
    · refine m_R_1 (by decide) (m_opb_of (ins := .if_icmp .ge 75) (len := 3) (tag := 0) (a := 113) (b := 0) (c := 0) (q := 0) (by decide +kernel)) (if_neg c959) ?_
      refine m_R_sg (by decide) [(.iload_n 3, 1, 0, 3, 0, 0, 0), (.bipush 52, 2, 0, 52, 0, 0, 0)] (by decide +kernel) (show m_sgl X _ _ _ _ _ = some (44, [some (.ref 0), some (.int v1), some (.int v2), some (.int v3), w4], [.int (52 : Int32), .int v3], (SH, m.1, m.2)) from rfl) ?_
      rcases m_ite h with ⟨c960, h⟩ | ⟨c960, h⟩
      · refine m_R_1 (by decide) (m_opb_of (ins := .if_icmp .ge 69) (len := 3) (tag := 0) (a := 113) (b := 0) (c := 0) (q := 0) (by decide +kernel)) (if_pos c960) ?_
        exact ok_x_read_113 X d F _ _ _ _ _ _ _ _ h
      · refine m_R_1 (by decide) (m_opb_of (ins := .if_icmp .ge 69) (len := 3) (tag := 0) (a := 113) (b := 0) (c := 0) (q := 0) (by decide +kernel)) (if_neg c960) ?_
        refine m_R_sg (by decide) [(.aload_n 0, 1, 0, 0, 0, 0, 0), (.getfield 28, 3, 0, 11, 2, 3, 632), (.getfield 338, 3, 0, 10, 4, 3, 514), (.iload_n 1, 1, 0, 1, 0, 0, 0), (.aload_n 0, 1, 0, 0, 0, 0, 0), (.getfield 53, 3, 0, 11, 7, 3, 637), (.iload_n 3, 1, 0, 3, 0, 0, 0)] (by decide +kernel) (show m_sgl X _ _ _ _ _ = some (60, [some (.ref 0), some (.int v1), some (.int v2), some (.int v3), w4], [.int v3, .ref 117, .int v1, .ref 52], (SH, m.1, m.2)) from rfl) ?_
        obtain ⟨c961, h⟩ := m_ite_n h
        refine m_R_1 (by decide) (m_opb_of (ins := .iaload) (len := 1) (tag := 0) (a := 0) (b := 0) (c := 0) (q := 0) (by decide +kernel)) (m_s_iald sh_117 (by decide) c961) ?_
        obtain ⟨q4, hc4, h⟩ := Option.bind_eq_some_iff.mp h
        refine m_R_cV (v := (some (.int q4.1))) (h1 := (SH, q4.2)) (rest := []) (lo' := [some (.ref 52), some (.int v1), some (.int (m.1 117 v3.toNatClampNeg))]) (ml := 3) (k0 := 52) (by decide) (Or.inl rfl) (m_opb_of (ins := .invokevirtual 342) (len := 3) (tag := 5) (a := 108) (b := 2) (c := 0) (q := 1058) (by decide +kernel)) (by decide +kernel) rfl (show m_isO 108 52 (SH, _) = true from m_isO_of (by decide +kernel)) (Nat.le_of_ble_eq_true rfl) rfl rfl (ok_Seasons_mayStand X (d + 0) F _ _ _ _ _ hc4) ?_
        refine m_R_sg (by decide) [(.istore 4, 2, 0, 4, 0, 0, 0), (.aload_n 0, 1, 0, 0, 0, 0, 0), (.getfield 28, 3, 0, 11, 2, 3, 632), (.getfield 338, 3, 0, 10, 4, 3, 514), (.iload_n 1, 1, 0, 1, 0, 0, 0), (.iload_n 3, 1, 0, 3, 0, 0, 0), (.iload 4, 2, 0, 4, 0, 0, 0)] (by decide +kernel) (show m_sgl X _ _ _ _ _ = some (77, [some (.ref 0), some (.int v1), some (.int v2), some (.int v3), some (.int q4.1)], [.int q4.1, .int v3, .int v1, .ref 52], (SH, q4.2.1, q4.2.2)) from rfl) ?_
        rcases m_ite h with ⟨c962, h⟩ | ⟨c962, h⟩
        · refine m_R_1 (by decide) (m_opb_of (ins := .ifCond .eq 12) (len := 3) (tag := 0) (a := 89) (b := 0) (c := 0) (q := 0) (by decide +kernel)) (if_pos c962) ?_
          refine m_R_sg (by decide) [(.iconst (-1), 1, 0, 1, 1, 0, 0)] (by decide +kernel) (show m_sgl X _ _ _ _ _ = some (90, [some (.ref 0), some (.int v1), some (.int v2), some (.int v3), some (.int q4.1)], [.int (-1 : Int32), .int v3, .int v1, .ref 52], (SH, q4.2.1, q4.2.2)) from rfl) ?_
          exact ok_x_read_90 X d F _ (fun a0 a1 a2 a3 m r m' h => ih a0 a1 a2 a3 m r m' h) _ _ _ _ _ _ _ _ _ _ h
        · refine m_R_1 (by decide) (m_opb_of (ins := .ifCond .eq 12) (len := 3) (tag := 0) (a := 89) (b := 0) (c := 0) (q := 0) (by decide +kernel)) (if_neg c962) ?_
          refine m_R_sg (by decide) [(.aload_n 0, 1, 0, 0, 0, 0, 0), (.getfield 53, 3, 0, 11, 7, 3, 637), (.iload_n 3, 1, 0, 3, 0, 0, 0)] (by decide +kernel) (show m_sgl X _ _ _ _ _ = some (85, [some (.ref 0), some (.int v1), some (.int v2), some (.int v3), some (.int q4.1)], [.int v3, .ref 117, .int v3, .int v1, .ref 52], (SH, q4.2.1, q4.2.2)) from rfl) ?_
          refine m_R_1 (by decide) (m_opb_of (ins := .iaload) (len := 1) (tag := 0) (a := 0) (b := 0) (c := 0) (q := 0) (by decide +kernel)) (m_s_iald sh_117 (by decide) c961) ?_
          refine m_R_sg (by decide) [(.goto 4, 3, 0, 90, 0, 0, 0)] (by decide +kernel) (show m_sgl X _ _ _ _ _ = some (90, [some (.ref 0), some (.int v1), some (.int v2), some (.int v3), some (.int q4.1)], [.int (q4.2.1 117 v3.toNatClampNeg), .int v3, .int v1, .ref 52], (SH, q4.2.1, q4.2.2)) from rfl) ?_
          exact ok_x_read_90 X d F _ (fun a0 a1 a2 a3 m r m' h => ih a0 a1 a2 a3 m r m' h) _ _ _ _ _ _ _ _ _ _ h
def f_x_read (F : Nat)   (v1 : Int32) (m : mM) : Option (Int32 × mM) := ((f_x_isSeason F v1 m).bind fun q1 => (if q1.1 = 0 then ((f_x_refuse F (-3 : Int32) q1.2).bind fun q2 => some (q2.1, q2.2)) else (if (q1.2.1 0 10) = (-1 : Int32) then ((f_x_refuse F (-2 : Int32) q1.2).bind fun q3 => some (q3.1, q3.2)) else f_x_read_33 F F v1 (0 : Int32) (0 : Int32) q1.2)))
theorem ok_x_read (X : mX) (d F : Nat) : ∀ (v1 : Int32)  (m : mM) (r : Int32) (m' : mM), f_x_read F v1 m = some (r, m') → m_R X (d + 1) 110 0 [some (.ref 0), some (.int v1), none, none, none] [] (SH, m) (some (.int r), (SH, m')) := by
  intro v1 m r m' h
  unfold f_x_read at h
  refine m_R_sg (by decide) [(.iload_n 1, 1, 0, 1, 0, 0, 0)] (by decide +kernel) (show m_sgl X _ _ _ _ _ = some (1, [some (.ref 0), some (.int v1), none, none, none], [.int v1], (SH, m.1, m.2)) from rfl) ?_
  obtain ⟨q1, hc1, h⟩ := Option.bind_eq_some_iff.mp h
  refine m_R_cS (v := (some (.int q1.1))) (h1 := (SH, q1.2)) (rest := []) (lo' := [some (.int v1)]) (ml := 1) (by decide) (m_opb_of (ins := .invokestatic 332) (len := 3) (tag := 4) (a := 106) (b := 1) (c := 0) (q := 1051) (by decide +kernel)) (by decide +kernel) (Nat.le_of_ble_eq_true rfl) rfl (Nat.le_of_ble_eq_true rfl) rfl rfl (ok_x_isSeason X (d + 0) F _ _ _ _ hc1) ?_
  rcases m_ite h with ⟨c963, h⟩ | ⟨c963, h⟩
  · refine m_R_1 (by decide) (m_opb_of (ins := .ifCond .ne 10) (len := 3) (tag := 0) (a := 14) (b := 0) (c := 0) (q := 0) (by decide +kernel)) (if_pos c963) ?_
    refine m_R_sg (by decide) [(.aload_n 0, 1, 0, 0, 0, 0, 0), (.bipush (-3), 2, 0, 3, 1, 0, 0)] (by decide +kernel) (show m_sgl X _ _ _ _ _ = some (10, [some (.ref 0), some (.int v1), none, none, none], [.int (-3 : Int32), .ref 0], (SH, q1.2.1, q1.2.2)) from rfl) ?_
    obtain ⟨q2, hc2, h⟩ := Option.bind_eq_some_iff.mp h
    refine m_R_cV (v := (some (.int q2.1))) (h1 := (SH, q2.2)) (rest := []) (lo' := [some (.ref 0), some (.int (-3 : Int32))]) (ml := 2) (k0 := 0) (by decide) (Or.inl rfl) (m_opb_of (ins := .invokevirtual 76) (len := 3) (tag := 5) (a := 14) (b := 1) (c := 0) (q := 671) (by decide +kernel)) (by decide +kernel) rfl (show m_isO 14 0 (SH, _) = true from m_isO_of (by decide +kernel)) (Nat.le_of_ble_eq_true rfl) rfl rfl (ok_x_refuse X (d + 0) F _ _ _ _ hc2) ?_
    obtain ⟨rfl, rfl⟩ := m_some h
    exact m_R_iret (by decide) (m_opb_of (ins := .ireturn) (len := 1) (tag := 1) (a := 0) (b := 0) (c := 0) (q := 0) (by decide +kernel)) (Or.inl rfl)
  · refine m_R_1 (by decide) (m_opb_of (ins := .ifCond .ne 10) (len := 3) (tag := 0) (a := 14) (b := 0) (c := 0) (q := 0) (by decide +kernel)) (if_neg c963) ?_
    refine m_R_sg (by decide) [(.aload_n 0, 1, 0, 0, 0, 0, 0), (.getfield 63, 3, 0, 11, 10, 0, 640), (.iconst (-1), 1, 0, 1, 1, 0, 0)] (by decide +kernel) (show m_sgl X _ _ _ _ _ = some (19, [some (.ref 0), some (.int v1), none, none, none], [.int (-1 : Int32), .int (q1.2.1 0 10)], (SH, q1.2.1, q1.2.2)) from rfl) ?_
    rcases m_ite h with ⟨c964, h⟩ | ⟨c964, h⟩
    · refine m_R_1 (by decide) (m_opb_of (ins := .if_icmp .ne 10) (len := 3) (tag := 0) (a := 29) (b := 0) (c := 0) (q := 0) (by decide +kernel)) (if_pos c964) ?_
      refine m_R_sg (by decide) [(.aload_n 0, 1, 0, 0, 0, 0, 0), (.bipush (-2), 2, 0, 2, 1, 0, 0)] (by decide +kernel) (show m_sgl X _ _ _ _ _ = some (25, [some (.ref 0), some (.int v1), none, none, none], [.int (-2 : Int32), .ref 0], (SH, q1.2.1, q1.2.2)) from rfl) ?_
      obtain ⟨q3, hc3, h⟩ := Option.bind_eq_some_iff.mp h
      refine m_R_cV (v := (some (.int q3.1))) (h1 := (SH, q3.2)) (rest := []) (lo' := [some (.ref 0), some (.int (-2 : Int32))]) (ml := 2) (k0 := 0) (by decide) (Or.inl rfl) (m_opb_of (ins := .invokevirtual 76) (len := 3) (tag := 5) (a := 14) (b := 1) (c := 0) (q := 671) (by decide +kernel)) (by decide +kernel) rfl (show m_isO 14 0 (SH, _) = true from m_isO_of (by decide +kernel)) (Nat.le_of_ble_eq_true rfl) rfl rfl (ok_x_refuse X (d + 0) F _ _ _ _ hc3) ?_
      obtain ⟨rfl, rfl⟩ := m_some h
      exact m_R_iret (by decide) (m_opb_of (ins := .ireturn) (len := 1) (tag := 1) (a := 0) (b := 0) (c := 0) (q := 0) (by decide +kernel)) (Or.inl rfl)
    · refine m_R_1 (by decide) (m_opb_of (ins := .if_icmp .ne 10) (len := 3) (tag := 0) (a := 29) (b := 0) (c := 0) (q := 0) (by decide +kernel)) (if_neg c964) ?_
      refine m_R_sg (by decide) [(.iconst 0, 1, 0, 0, 0, 0, 0), (.istore_n 2, 1, 0, 2, 0, 0, 0), (.iconst 0, 1, 0, 0, 0, 0, 0), (.istore_n 3, 1, 0, 3, 0, 0, 0)] (by decide +kernel) (show m_sgl X _ _ _ _ _ = some (33, [some (.ref 0), some (.int v1), some (.int (0 : Int32)), some (.int (0 : Int32)), none], [], (SH, q1.2.1, q1.2.2)) from rfl) ?_
      exact ok_x_read_33 X d F F _ _ _ _ _ _ _ h
def f_m_read_101 (F : Nat)  (k34 : Int32 → Int32 → Int32 → mM → Option (Int32 × mM)) (v1 : Int32) (v3 : Int32) (s0 : Int32) (s1 : Int32) (m : mM) : Option (Int32 × mM) := k34 v1 (s0 + s1) (v3 + (1 : Int32)) m
theorem ok_m_read_101 (X : mX) (d F : Nat) (k34 : Int32 → Int32 → Int32 → mM → Option (Int32 × mM)) (hk34 : ∀ (v1 : Int32) (v2 : Int32) (v3 : Int32) (w4 : Option Value) (m : mM) (r : Int32) (m' : mM), k34 v1 v2 v3 m = some (r, m') → m_R X (d + 2) 336 34 [some (.ref 304), some (.int v1), some (.int v2), some (.int v3), w4] [] (SH, m) (some (.int r), (SH, m'))) : ∀ (v1 : Int32) (v3 : Int32) (s0 : Int32) (s1 : Int32) (w2 : Option Value) (w4 : Option Value) (m : mM) (r : Int32) (m' : mM), f_m_read_101 F k34 v1 v3 s0 s1 m = some (r, m') → m_R X (d + 2) 336 101 [some (.ref 304), some (.int v1), w2, some (.int v3), w4] [.int s1, .int s0] (SH, m) (some (.int r), (SH, m')) := by
  intro v1 v3 s0 s1 w2 w4 m r m' h
  unfold f_m_read_101 at h
  refine m_R_sg (by decide) [(.iadd, 1, 0, 0, 0, 0, 0), (.istore_n 2, 1, 0, 2, 0, 0, 0), (.iinc 3 1, 3, 0, 3, 1, 0, 0), (.goto (-72), 3, 0, 34, 0, 0, 0)] (by decide +kernel) (show m_sgl X _ _ _ _ _ = some (34, [some (.ref 304), some (.int v1), some (.int (s0 + s1)), some (.int (v3 + (1 : Int32))), w4], [], (SH, m.1, m.2)) from rfl) ?_
  exact hk34 _ _ _ _ _ _ _ h
def f_m_read_89 (F : Nat)  (k34 : Int32 → Int32 → Int32 → mM → Option (Int32 × mM)) (v1 : Int32) (v2 : Int32) (v3 : Int32) (v4 : Int32) (s1 : Int32) (s2 : Int32) (m : mM) : Option (Int32 × mM) := (if s1 < 0 ∨ 9732 ≤ s1.toNatClampNeg then none else (if v4 = 0 then f_m_read_101 F k34 v1 v3 v2 (0 : Int32) ((m_up m.1 305 s1.toNatClampNeg s2), m.2) else f_m_read_101 F k34 v1 v3 v2 (1 : Int32) ((m_up m.1 305 s1.toNatClampNeg s2), m.2)))
theorem ok_m_read_89 (X : mX) (d F : Nat) (k34 : Int32 → Int32 → Int32 → mM → Option (Int32 × mM)) (hk34 : ∀ (v1 : Int32) (v2 : Int32) (v3 : Int32) (w4 : Option Value) (m : mM) (r : Int32) (m' : mM), k34 v1 v2 v3 m = some (r, m') → m_R X (d + 2) 336 34 [some (.ref 304), some (.int v1), some (.int v2), some (.int v3), w4] [] (SH, m) (some (.int r), (SH, m'))) : ∀ (v1 : Int32) (v2 : Int32) (v3 : Int32) (v4 : Int32) (s1 : Int32) (s2 : Int32)  (m : mM) (r : Int32) (m' : mM), f_m_read_89 F k34 v1 v2 v3 v4 s1 s2 m = some (r, m') → m_R X (d + 2) 336 89 [some (.ref 304), some (.int v1), some (.int v2), some (.int v3), some (.int v4)] [.int s2, .int s1, .ref 305] (SH, m) (some (.int r), (SH, m')) := by
  intro v1 v2 v3 v4 s1 s2 m r m' h
  unfold f_m_read_89 at h
  obtain ⟨c965, h⟩ := m_ite_n h
  refine m_R_1 (by decide) (m_opb_of (ins := .iastore) (len := 1) (tag := 0) (a := 0) (b := 0) (c := 0) (q := 0) (by decide +kernel)) (m_s_iast sh_305 c965) ?_
  refine m_R_sg (by decide) [(.iload_n 2, 1, 0, 2, 0, 0, 0), (.iload 4, 2, 0, 4, 0, 0, 0)] (by decide +kernel) (show m_sgl X _ _ _ _ _ = some (93, [some (.ref 304), some (.int v1), some (.int v2), some (.int v3), some (.int v4)], [.int v4, .int v2], (SH, (m_up m.1 305 s1.toNatClampNeg s2), m.2)) from rfl) ?_
  rcases m_ite h with ⟨c966, h⟩ | ⟨c966, h⟩
  · refine m_R_1 (by decide) (m_opb_of (ins := .ifCond .eq 7) (len := 3) (tag := 0) (a := 100) (b := 0) (c := 0) (q := 0) (by decide +kernel)) (if_pos c966) ?_
    refine m_R_sg (by decide) [(.iconst 0, 1, 0, 0, 0, 0, 0)] (by decide +kernel) (show m_sgl X _ _ _ _ _ = some (101, [some (.ref 304), some (.int v1), some (.int v2), some (.int v3), some (.int v4)], [.int (0 : Int32), .int v2], (SH, (m_up m.1 305 s1.toNatClampNeg s2), m.2)) from rfl) ?_
    exact ok_m_read_101 X d F _ hk34 _ _ _ _ _ _ _ _ _ h
  · refine m_R_1 (by decide) (m_opb_of (ins := .ifCond .eq 7) (len := 3) (tag := 0) (a := 100) (b := 0) (c := 0) (q := 0) (by decide +kernel)) (if_neg c966) ?_
    refine m_R_sg (by decide) [(.iconst 1, 1, 0, 1, 0, 0, 0), (.goto 4, 3, 0, 101, 0, 0, 0)] (by decide +kernel) (show m_sgl X _ _ _ _ _ = some (101, [some (.ref 304), some (.int v1), some (.int v2), some (.int v3), some (.int v4)], [.int (1 : Int32), .int v2], (SH, (m_up m.1 305 s1.toNatClampNeg s2), m.2)) from rfl) ?_
    exact ok_m_read_101 X d F _ hk34 _ _ _ _ _ _ _ _ _ h
def f_m_read_109 (F : Nat)   (v2 : Int32) (m : mM) : Option (Int32 × mM) := some (v2, m)
theorem ok_m_read_109 (X : mX) (d F : Nat) : ∀ (v2 : Int32) (w0 : Option Value) (w1 : Option Value) (w3 : Option Value) (w4 : Option Value) (m : mM) (r : Int32) (m' : mM), f_m_read_109 F v2 m = some (r, m') → m_R X (d + 2) 336 109 [w0, w1, some (.int v2), w3, w4] [] (SH, m) (some (.int r), (SH, m')) := by
  intro v2 w0 w1 w3 w4 m r m' h
  unfold f_m_read_109 at h
  refine m_R_sg (by decide) [(.iload_n 2, 1, 0, 2, 0, 0, 0)] (by decide +kernel) (show m_sgl X _ _ _ _ _ = some (110, [w0, w1, some (.int v2), w3, w4], [.int v2], (SH, m.1, m.2)) from rfl) ?_
  obtain ⟨rfl, rfl⟩ := m_some h
  exact m_R_iret (by decide) (m_opb_of (ins := .ireturn) (len := 1) (tag := 1) (a := 0) (b := 0) (c := 0) (q := 0) (by decide +kernel)) (Or.inl rfl)
def f_m_read_34 (F : Nat)   : Nat → Int32 → Int32 → Int32 → mM → Option (Int32 × mM)
  | 0, _, _, _, _ => none
  | n + 1, v1, v2, v3, m => (if (m.1 304 29) ≤ v3 then f_m_read_109 F v2 m else (if (52 : Int32) ≤ v3 then f_m_read_109 F v2 m else (if v3 < 0 ∨ 60 ≤ v3.toNatClampNeg then none else ((f_m_isThere F v1 (m.1 317 v3.toNatClampNeg) m).bind fun q4 => (if q4.1 = 0 then f_m_read_89 F (f_m_read_34 F n) v1 v2 v3 q4.1 (((7440 : Int32) + ((52 : Int32) * v1)) + v3) (-1 : Int32) q4.2 else f_m_read_89 F (f_m_read_34 F n) v1 v2 v3 q4.1 (((7440 : Int32) + ((52 : Int32) * v1)) + v3) (q4.2.1 317 v3.toNatClampNeg) q4.2)))))
theorem ok_m_read_34 (X : mX) (d F : Nat) : ∀ (n : Nat) (v1 : Int32) (v2 : Int32) (v3 : Int32) (w4 : Option Value) (m : mM) (r : Int32) (m' : mM), f_m_read_34 F n v1 v2 v3 m = some (r, m') → m_R X (d + 2) 336 34 [some (.ref 304), some (.int v1), some (.int v2), some (.int v3), w4] [] (SH, m) (some (.int r), (SH, m')) := by
  intro n
  induction n with
  | zero => intro v1 v2 v3 w4 m r m' h; cases h
  | succ n ih =>
    intro v1 v2 v3 w4 m r m' h
    simp only [f_m_read_34] at h
    refine m_R_sg (by decide) [(.iload_n 3, 1, 0, 3, 0, 0, 0), (.aload_n 0, 1, 0, 0, 0, 0, 0), (.getfield 448, 3, 0, 12, 29, 0, 1521)] (by decide +kernel) (show m_sgl X _ _ _ _ _ = some (39, [some (.ref 304), some (.int v1), some (.int v2), some (.int v3), w4], [.int (m.1 304 29), .int v3], (SH, m.1, m.2)) from rfl) ?_
    rcases m_ite h with ⟨c967, h⟩ | ⟨c967, h⟩
    · refine m_R_1 (by decide) (m_opb_of (ins := .if_icmp .ge 70) (len := 3) (tag := 0) (a := 109) (b := 0) (c := 0) (q := 0) (by decide +kernel)) (if_pos c967) ?_
      exact ok_m_read_109 X d F _ _ _ _ _ _ _ _ h
    · refine m_R_1 (by decide) (m_opb_of (ins := .if_icmp .ge 70) (len := 3) (tag := 0) (a := 109) (b := 0) (c := 0) (q := 0) (by decide +kernel)) (if_neg c967) ?_
      refine m_R_sg (by decide) [(.iload_n 3, 1, 0, 3, 0, 0, 0), (.bipush 52, 2, 0, 52, 0, 0, 0)] (by decide +kernel) (show m_sgl X _ _ _ _ _ = some (45, [some (.ref 304), some (.int v1), some (.int v2), some (.int v3), w4], [.int (52 : Int32), .int v3], (SH, m.1, m.2)) from rfl) ?_
      rcases m_ite h with ⟨c968, h⟩ | ⟨c968, h⟩
      · refine m_R_1 (by decide) (m_opb_of (ins := .if_icmp .ge 64) (len := 3) (tag := 0) (a := 109) (b := 0) (c := 0) (q := 0) (by decide +kernel)) (if_pos c968) ?_
        exact ok_m_read_109 X d F _ _ _ _ _ _ _ _ h
      · refine m_R_1 (by decide) (m_opb_of (ins := .if_icmp .ge 64) (len := 3) (tag := 0) (a := 109) (b := 0) (c := 0) (q := 0) (by decide +kernel)) (if_neg c968) ?_
        refine m_R_sg (by decide) [(.iload_n 1, 1, 0, 1, 0, 0, 0), (.aload_n 0, 1, 0, 0, 0, 0, 0), (.getfield 51, 3, 0, 12, 28, 3, 1520), (.iload_n 3, 1, 0, 3, 0, 0, 0)] (by decide +kernel) (show m_sgl X _ _ _ _ _ = some (54, [some (.ref 304), some (.int v1), some (.int v2), some (.int v3), w4], [.int v3, .ref 317, .int v1], (SH, m.1, m.2)) from rfl) ?_
        obtain ⟨c969, h⟩ := m_ite_n h
        refine m_R_1 (by decide) (m_opb_of (ins := .iaload) (len := 1) (tag := 0) (a := 0) (b := 0) (c := 0) (q := 0) (by decide +kernel)) (m_s_iald sh_317 (by decide) c969) ?_
        obtain ⟨q4, hc4, h⟩ := Option.bind_eq_some_iff.mp h
        refine m_R_cS (v := (some (.int q4.1))) (h1 := (SH, q4.2)) (rest := []) (lo' := [some (.int v1), some (.int (m.1 317 v3.toNatClampNeg))]) (ml := 2) (by decide) (m_opb_of (ins := .invokestatic 218) (len := 3) (tag := 4) (a := 293) (b := 2) (c := 0) (q := 1990) (by decide +kernel)) (by decide +kernel) (Nat.le_of_ble_eq_true rfl) rfl (Nat.le_of_ble_eq_true rfl) rfl rfl (ok_m_isThere X (d + 0) F _ _ _ _ _ hc4) ?_
        refine m_R_sg (by decide) [(.istore 4, 2, 0, 4, 0, 0, 0), (.aload_n 0, 1, 0, 0, 0, 0, 0), (.getfield 13, 3, 0, 12, 1, 3, 1493), (.sipush 7440, 3, 0, 7440, 0, 0, 0), (.bipush 52, 2, 0, 52, 0, 0, 0), (.iload_n 1, 1, 0, 1, 0, 0, 0), (.imul, 1, 0, 0, 0, 0, 0), (.iadd, 1, 0, 0, 0, 0, 0), (.iload_n 3, 1, 0, 3, 0, 0, 0), (.iadd, 1, 0, 0, 0, 0, 0), (.iload 4, 2, 0, 4, 0, 0, 0)] (by decide +kernel) (show m_sgl X _ _ _ _ _ = some (76, [some (.ref 304), some (.int v1), some (.int v2), some (.int v3), some (.int q4.1)], [.int q4.1, .int (((7440 : Int32) + ((52 : Int32) * v1)) + v3), .ref 305], (SH, q4.2.1, q4.2.2)) from rfl) ?_
        rcases m_ite h with ⟨c970, h⟩ | ⟨c970, h⟩
        · refine m_R_1 (by decide) (m_opb_of (ins := .ifCond .eq 12) (len := 3) (tag := 0) (a := 88) (b := 0) (c := 0) (q := 0) (by decide +kernel)) (if_pos c970) ?_
          refine m_R_sg (by decide) [(.iconst (-1), 1, 0, 1, 1, 0, 0)] (by decide +kernel) (show m_sgl X _ _ _ _ _ = some (89, [some (.ref 304), some (.int v1), some (.int v2), some (.int v3), some (.int q4.1)], [.int (-1 : Int32), .int (((7440 : Int32) + ((52 : Int32) * v1)) + v3), .ref 305], (SH, q4.2.1, q4.2.2)) from rfl) ?_
          exact ok_m_read_89 X d F _ (fun a0 a1 a2 a3 m r m' h => ih a0 a1 a2 a3 m r m' h) _ _ _ _ _ _ _ _ _ h
        · refine m_R_1 (by decide) (m_opb_of (ins := .ifCond .eq 12) (len := 3) (tag := 0) (a := 88) (b := 0) (c := 0) (q := 0) (by decide +kernel)) (if_neg c970) ?_
          refine m_R_sg (by decide) [(.aload_n 0, 1, 0, 0, 0, 0, 0), (.getfield 51, 3, 0, 12, 28, 3, 1520), (.iload_n 3, 1, 0, 3, 0, 0, 0)] (by decide +kernel) (show m_sgl X _ _ _ _ _ = some (84, [some (.ref 304), some (.int v1), some (.int v2), some (.int v3), some (.int q4.1)], [.int v3, .ref 317, .int (((7440 : Int32) + ((52 : Int32) * v1)) + v3), .ref 305], (SH, q4.2.1, q4.2.2)) from rfl) ?_
          refine m_R_1 (by decide) (m_opb_of (ins := .iaload) (len := 1) (tag := 0) (a := 0) (b := 0) (c := 0) (q := 0) (by decide +kernel)) (m_s_iald sh_317 (by decide) c969) ?_
          refine m_R_sg (by decide) [(.goto 4, 3, 0, 89, 0, 0, 0)] (by decide +kernel) (show m_sgl X _ _ _ _ _ = some (89, [some (.ref 304), some (.int v1), some (.int v2), some (.int v3), some (.int q4.1)], [.int (q4.2.1 317 v3.toNatClampNeg), .int (((7440 : Int32) + ((52 : Int32) * v1)) + v3), .ref 305], (SH, q4.2.1, q4.2.2)) from rfl) ?_
          exact ok_m_read_89 X d F _ (fun a0 a1 a2 a3 m r m' h => ih a0 a1 a2 a3 m r m' h) _ _ _ _ _ _ _ _ _ h
def f_m_read (F : Nat)   (v1 : Int32) (m : mM) : Option (Int32 × mM) := ((f_m_in F v1 (0 : Int32) (1 : Int32) m).bind fun q1 => (if q1.1 = 0 then ((f_m_refuse F (-3 : Int32) q1.2).bind fun q2 => some (q2.1, q2.2)) else (if (q1.2.1 304 30) = 0 then ((f_m_refuse F (-2 : Int32) q1.2).bind fun q3 => some (q3.1, q3.2)) else f_m_read_34 F F v1 (0 : Int32) (0 : Int32) q1.2)))
theorem ok_m_read (X : mX) (d F : Nat) : ∀ (v1 : Int32)  (m : mM) (r : Int32) (m' : mM), f_m_read F v1 m = some (r, m') → m_R X (d + 2) 336 0 [some (.ref 304), some (.int v1), none, none, none] [] (SH, m) (some (.int r), (SH, m')) := by
  intro v1 m r m' h
  unfold f_m_read at h
  refine m_R_sg (by decide) [(.iload_n 1, 1, 0, 1, 0, 0, 0), (.iconst 0, 1, 0, 0, 0, 0, 0), (.iconst 1, 1, 0, 1, 0, 0, 0)] (by decide +kernel) (show m_sgl X _ _ _ _ _ = some (3, [some (.ref 304), some (.int v1), none, none, none], [.int (1 : Int32), .int (0 : Int32), .int v1], (SH, m.1, m.2)) from rfl) ?_
  obtain ⟨q1, hc1, h⟩ := Option.bind_eq_some_iff.mp h
  refine m_R_cS (v := (some (.int q1.1))) (h1 := (SH, q1.2)) (rest := []) (lo' := [some (.int v1), some (.int (0 : Int32)), some (.int (1 : Int32))]) (ml := 3) (by decide) (m_opb_of (ins := .invokestatic 57) (len := 3) (tag := 4) (a := 201) (b := 3) (c := 0) (q := 1590) (by decide +kernel)) (by decide +kernel) (Nat.le_of_ble_eq_true rfl) rfl (Nat.le_of_ble_eq_true rfl) rfl rfl (ok_m_in X (d + 1) F _ _ _ _ _ _ hc1) ?_
  rcases m_ite h with ⟨c971, h⟩ | ⟨c971, h⟩
  · refine m_R_1 (by decide) (m_opb_of (ins := .ifCond .ne 10) (len := 3) (tag := 0) (a := 16) (b := 0) (c := 0) (q := 0) (by decide +kernel)) (if_pos c971) ?_
    refine m_R_sg (by decide) [(.aload_n 0, 1, 0, 0, 0, 0, 0), (.bipush (-3), 2, 0, 3, 1, 0, 0)] (by decide +kernel) (show m_sgl X _ _ _ _ _ = some (12, [some (.ref 304), some (.int v1), none, none, none], [.int (-3 : Int32), .ref 304], (SH, q1.2.1, q1.2.2)) from rfl) ?_
    obtain ⟨q2, hc2, h⟩ := Option.bind_eq_some_iff.mp h
    refine m_R_cV (v := (some (.int q2.1))) (h1 := (SH, q2.2)) (rest := []) (lo' := [some (.ref 304), some (.int (-3 : Int32))]) (ml := 2) (k0 := 304) (by decide) (Or.inl rfl) (m_opb_of (ins := .invokevirtual 61) (len := 3) (tag := 5) (a := 202) (b := 1) (c := 0) (q := 1593) (by decide +kernel)) (by decide +kernel) rfl (show m_isO 202 304 (SH, _) = true from m_isO_of (by decide +kernel)) (Nat.le_of_ble_eq_true rfl) rfl rfl (ok_m_refuse X (d + 1) F _ _ _ _ hc2) ?_
    obtain ⟨rfl, rfl⟩ := m_some h
    exact m_R_iret (by decide) (m_opb_of (ins := .ireturn) (len := 1) (tag := 1) (a := 0) (b := 0) (c := 0) (q := 0) (by decide +kernel)) (Or.inl rfl)
  · refine m_R_1 (by decide) (m_opb_of (ins := .ifCond .ne 10) (len := 3) (tag := 0) (a := 16) (b := 0) (c := 0) (q := 0) (by decide +kernel)) (if_neg c971) ?_
    refine m_R_sg (by decide) [(.aload_n 0, 1, 0, 0, 0, 0, 0), (.getfield 445, 3, 0, 12, 30, 1, 1522)] (by decide +kernel) (show m_sgl X _ _ _ _ _ = some (20, [some (.ref 304), some (.int v1), none, none, none], [.int (q1.2.1 304 30)], (SH, q1.2.1, q1.2.2)) from rfl) ?_
    rcases m_ite h with ⟨c972, h⟩ | ⟨c972, h⟩
    · refine m_R_1 (by decide) (m_opb_of (ins := .ifCond .ne 10) (len := 3) (tag := 0) (a := 30) (b := 0) (c := 0) (q := 0) (by decide +kernel)) (if_pos c972) ?_
      refine m_R_sg (by decide) [(.aload_n 0, 1, 0, 0, 0, 0, 0), (.bipush (-2), 2, 0, 2, 1, 0, 0)] (by decide +kernel) (show m_sgl X _ _ _ _ _ = some (26, [some (.ref 304), some (.int v1), none, none, none], [.int (-2 : Int32), .ref 304], (SH, q1.2.1, q1.2.2)) from rfl) ?_
      obtain ⟨q3, hc3, h⟩ := Option.bind_eq_some_iff.mp h
      refine m_R_cV (v := (some (.int q3.1))) (h1 := (SH, q3.2)) (rest := []) (lo' := [some (.ref 304), some (.int (-2 : Int32))]) (ml := 2) (k0 := 304) (by decide) (Or.inl rfl) (m_opb_of (ins := .invokevirtual 61) (len := 3) (tag := 5) (a := 202) (b := 1) (c := 0) (q := 1593) (by decide +kernel)) (by decide +kernel) rfl (show m_isO 202 304 (SH, _) = true from m_isO_of (by decide +kernel)) (Nat.le_of_ble_eq_true rfl) rfl rfl (ok_m_refuse X (d + 1) F _ _ _ _ hc3) ?_
      obtain ⟨rfl, rfl⟩ := m_some h
      exact m_R_iret (by decide) (m_opb_of (ins := .ireturn) (len := 1) (tag := 1) (a := 0) (b := 0) (c := 0) (q := 0) (by decide +kernel)) (Or.inl rfl)
    · refine m_R_1 (by decide) (m_opb_of (ins := .ifCond .ne 10) (len := 3) (tag := 0) (a := 30) (b := 0) (c := 0) (q := 0) (by decide +kernel)) (if_neg c972) ?_
      refine m_R_sg (by decide) [(.iconst 0, 1, 0, 0, 0, 0, 0), (.istore_n 2, 1, 0, 2, 0, 0, 0), (.iconst 0, 1, 0, 0, 0, 0, 0), (.istore_n 3, 1, 0, 3, 0, 0, 0)] (by decide +kernel) (show m_sgl X _ _ _ _ _ = some (34, [some (.ref 304), some (.int v1), some (.int (0 : Int32)), some (.int (0 : Int32)), none], [], (SH, q1.2.1, q1.2.2)) from rfl) ?_
      exact ok_m_read_34 X d F F _ _ _ _ _ _ _ h
def f_Math_floorMod_18 (F : Nat)   (v2 : Int32) (m : mM) : Option (Int32 × mM) := some (v2, m)
theorem ok_Math_floorMod_18 (X : mX) (d F : Nat) : ∀ (v2 : Int32) (w0 : Option Value) (w1 : Option Value) (m : mM) (r : Int32) (m' : mM), f_Math_floorMod_18 F v2 m = some (r, m') → m_R X (d + 0) 113 18 [w0, w1, some (.int v2)] [] (SH, m) (some (.int r), (SH, m')) := by
  intro v2 w0 w1 m r m' h
  unfold f_Math_floorMod_18 at h
  refine m_R_sg (by decide) [(.iload_n 2, 1, 0, 2, 0, 0, 0)] (by decide +kernel) (show m_sgl X _ _ _ _ _ = some (19, [w0, w1, some (.int v2)], [.int v2], (SH, m.1, m.2)) from rfl) ?_
  obtain ⟨rfl, rfl⟩ := m_some h
  exact m_R_iret (by decide) (m_opb_of (ins := .ireturn) (len := 1) (tag := 1) (a := 0) (b := 0) (c := 0) (q := 0) (by decide +kernel)) (Or.inl rfl)
def f_Math_floorMod (F : Nat)   (v0 : Int32) (v1 : Int32) (m : mM) : Option (Int32 × mM) := (if v1 = 0 then none else (if 0 ≤ (v0 ^^^ v1) then f_Math_floorMod_18 F (v0 - v0 / v1 * v1) m else (if (v0 - v0 / v1 * v1) = 0 then f_Math_floorMod_18 F (v0 - v0 / v1 * v1) m else some (((v0 - v0 / v1 * v1) + v1), m))))
theorem ok_Math_floorMod (X : mX) (d F : Nat) : ∀ (v0 : Int32) (v1 : Int32)  (m : mM) (r : Int32) (m' : mM), f_Math_floorMod F v0 v1 m = some (r, m') → m_R X (d + 0) 113 0 [some (.int v0), some (.int v1), none] [] (SH, m) (some (.int r), (SH, m')) := by
  intro v0 v1 m r m' h
  unfold f_Math_floorMod at h
  refine m_R_sg (by decide) [(.iload_n 0, 1, 0, 0, 0, 0, 0), (.iload_n 1, 1, 0, 1, 0, 0, 0)] (by decide +kernel) (show m_sgl X _ _ _ _ _ = some (2, [some (.int v0), some (.int v1), none], [.int v1, .int v0], (SH, m.1, m.2)) from rfl) ?_
  obtain ⟨c973, h⟩ := m_ite_n h
  refine m_R_1 (by decide) (m_opb_of (ins := .irem) (len := 1) (tag := 0) (a := 0) (b := 0) (c := 0) (q := 0) (by decide +kernel)) (m_s_irem c973) ?_
  refine m_R_sg (by decide) [(.istore_n 2, 1, 0, 2, 0, 0, 0), (.iload_n 0, 1, 0, 0, 0, 0, 0), (.iload_n 1, 1, 0, 1, 0, 0, 0), (.ixor, 1, 0, 0, 0, 0, 0)] (by decide +kernel) (show m_sgl X _ _ _ _ _ = some (7, [some (.int v0), some (.int v1), some (.int (v0 - v0 / v1 * v1))], [.int (v0 ^^^ v1)], (SH, m.1, m.2)) from rfl) ?_
  rcases m_ite h with ⟨c974, h⟩ | ⟨c974, h⟩
  · refine m_R_1 (by decide) (m_opb_of (ins := .ifCond .ge 11) (len := 3) (tag := 0) (a := 18) (b := 0) (c := 0) (q := 0) (by decide +kernel)) (if_pos c974) ?_
    exact ok_Math_floorMod_18 X d F _ _ _ _ _ _ h
  · refine m_R_1 (by decide) (m_opb_of (ins := .ifCond .ge 11) (len := 3) (tag := 0) (a := 18) (b := 0) (c := 0) (q := 0) (by decide +kernel)) (if_neg c974) ?_
    refine m_R_sg (by decide) [(.iload_n 2, 1, 0, 2, 0, 0, 0)] (by decide +kernel) (show m_sgl X _ _ _ _ _ = some (11, [some (.int v0), some (.int v1), some (.int (v0 - v0 / v1 * v1))], [.int (v0 - v0 / v1 * v1)], (SH, m.1, m.2)) from rfl) ?_
    rcases m_ite h with ⟨c975, h⟩ | ⟨c975, h⟩
    · refine m_R_1 (by decide) (m_opb_of (ins := .ifCond .eq 7) (len := 3) (tag := 0) (a := 18) (b := 0) (c := 0) (q := 0) (by decide +kernel)) (if_pos c975) ?_
      exact ok_Math_floorMod_18 X d F _ _ _ _ _ _ h
    · refine m_R_1 (by decide) (m_opb_of (ins := .ifCond .eq 7) (len := 3) (tag := 0) (a := 18) (b := 0) (c := 0) (q := 0) (by decide +kernel)) (if_neg c975) ?_
      refine m_R_sg (by decide) [(.iload_n 2, 1, 0, 2, 0, 0, 0), (.iload_n 1, 1, 0, 1, 0, 0, 0), (.iadd, 1, 0, 0, 0, 0, 0)] (by decide +kernel) (show m_sgl X _ _ _ _ _ = some (17, [some (.int v0), some (.int v1), some (.int (v0 - v0 / v1 * v1))], [.int ((v0 - v0 / v1 * v1) + v1)], (SH, m.1, m.2)) from rfl) ?_
      obtain ⟨rfl, rfl⟩ := m_some h
      exact m_R_iret (by decide) (m_opb_of (ins := .ireturn) (len := 1) (tag := 1) (a := 0) (b := 0) (c := 0) (q := 0) (by decide +kernel)) (Or.inl rfl)
def f_Seasons_filled_61 (F : Nat)   (s0 : Int32) (m : mM) : Option (Int32 × mM) := some (s0, m)
theorem ok_Seasons_filled_61 (X : mX) (d F : Nat) : ∀ (s0 : Int32) (w0 : Option Value) (w1 : Option Value) (w2 : Option Value) (w3 : Option Value) (w4 : Option Value) (w5 : Option Value) (m : mM) (r : Int32) (m' : mM), f_Seasons_filled_61 F s0 m = some (r, m') → m_R X (d + 1) 112 61 [w0, w1, w2, w3, w4, w5] [.int s0] (SH, m) (some (.int r), (SH, m')) := by
  intro s0 w0 w1 w2 w3 w4 w5 m r m' h
  unfold f_Seasons_filled_61 at h
  obtain ⟨rfl, rfl⟩ := m_some h
  exact m_R_iret (by decide) (m_opb_of (ins := .ireturn) (len := 1) (tag := 1) (a := 0) (b := 0) (c := 0) (q := 0) (by decide +kernel)) (Or.inl rfl)
def f_Seasons_filled_8 (F : Nat)   : Nat → Int32 → Int32 → Int32 → mM → Option (Int32 × mM)
  | 0, _, _, _, _ => none
  | n + 1, v1, v3, v4, m => (if (52 : Int32) ≤ v4 then (if v1 = 0 then f_Seasons_filled_61 F (100 : Int32) m else f_Seasons_filled_61 F (5 : Int32) m) else ((f_Math_floorMod F (v3 - v4) (52 : Int32) m).bind fun q1 => (if ((v1 * (52 : Int32)) + q1.1) < 0 ∨ 104 ≤ ((v1 * (52 : Int32)) + q1.1).toNatClampNeg then none else (if (q1.2.1 53 ((v1 * (52 : Int32)) + q1.1).toNatClampNeg) = (-1 : Int32) then f_Seasons_filled_8 F n v1 v3 (v4 + (1 : Int32)) q1.2 else some ((q1.2.1 53 ((v1 * (52 : Int32)) + q1.1).toNatClampNeg), q1.2)))))
theorem ok_Seasons_filled_8 (X : mX) (d F : Nat) : ∀ (n : Nat) (v1 : Int32) (v3 : Int32) (v4 : Int32) (w2 : Option Value) (w5 : Option Value) (m : mM) (r : Int32) (m' : mM), f_Seasons_filled_8 F n v1 v3 v4 m = some (r, m') → m_R X (d + 1) 112 8 [some (.ref 52), some (.int v1), w2, some (.int v3), some (.int v4), w5] [] (SH, m) (some (.int r), (SH, m')) := by
  intro n
  induction n with
  | zero => intro v1 v3 v4 w2 w5 m r m' h; cases h
  | succ n ih =>
    intro v1 v3 v4 w2 w5 m r m' h
    simp only [f_Seasons_filled_8] at h
    refine m_R_sg (by decide) [(.iload 4, 2, 0, 4, 0, 0, 0), (.bipush 52, 2, 0, 52, 0, 0, 0)] (by decide +kernel) (show m_sgl X _ _ _ _ _ = some (12, [some (.ref 52), some (.int v1), w2, some (.int v3), some (.int v4), w5], [.int (52 : Int32), .int v4], (SH, m.1, m.2)) from rfl) ?_
    rcases m_ite h with ⟨c976, h⟩ | ⟨c976, h⟩
    · refine m_R_1 (by decide) (m_opb_of (ins := .if_icmp .ge 39) (len := 3) (tag := 0) (a := 51) (b := 0) (c := 0) (q := 0) (by decide +kernel)) (if_pos c976) ?_
      refine m_R_sg (by decide) [(.iload_n 1, 1, 0, 1, 0, 0, 0)] (by decide +kernel) (show m_sgl X _ _ _ _ _ = some (52, [some (.ref 52), some (.int v1), w2, some (.int v3), some (.int v4), w5], [.int v1], (SH, m.1, m.2)) from rfl) ?_
      rcases m_ite h with ⟨c977, h⟩ | ⟨c977, h⟩
      · refine m_R_1 (by decide) (m_opb_of (ins := .ifCond .ne 8) (len := 3) (tag := 0) (a := 60) (b := 0) (c := 0) (q := 0) (by decide +kernel)) (if_pos c977) ?_
        refine m_R_sg (by decide) [(.bipush 100, 2, 0, 100, 0, 0, 0), (.goto 4, 3, 0, 61, 0, 0, 0)] (by decide +kernel) (show m_sgl X _ _ _ _ _ = some (61, [some (.ref 52), some (.int v1), w2, some (.int v3), some (.int v4), w5], [.int (100 : Int32)], (SH, m.1, m.2)) from rfl) ?_
        exact ok_Seasons_filled_61 X d F _ _ _ _ _ _ _ _ _ _ h
      · refine m_R_1 (by decide) (m_opb_of (ins := .ifCond .ne 8) (len := 3) (tag := 0) (a := 60) (b := 0) (c := 0) (q := 0) (by decide +kernel)) (if_neg c977) ?_
        refine m_R_sg (by decide) [(.iconst 5, 1, 0, 5, 0, 0, 0)] (by decide +kernel) (show m_sgl X _ _ _ _ _ = some (61, [some (.ref 52), some (.int v1), w2, some (.int v3), some (.int v4), w5], [.int (5 : Int32)], (SH, m.1, m.2)) from rfl) ?_
        exact ok_Seasons_filled_61 X d F _ _ _ _ _ _ _ _ _ _ h
    · refine m_R_1 (by decide) (m_opb_of (ins := .if_icmp .ge 39) (len := 3) (tag := 0) (a := 51) (b := 0) (c := 0) (q := 0) (by decide +kernel)) (if_neg c976) ?_
      refine m_R_sg (by decide) [(.aload_n 0, 1, 0, 0, 0, 0, 0), (.getfield 9, 3, 0, 7, 0, 3, 439), (.iload_n 1, 1, 0, 1, 0, 0, 0), (.bipush 52, 2, 0, 52, 0, 0, 0), (.imul, 1, 0, 0, 0, 0, 0), (.iload_n 3, 1, 0, 3, 0, 0, 0), (.iload 4, 2, 0, 4, 0, 0, 0), (.isub, 1, 0, 0, 0, 0, 0), (.bipush 52, 2, 0, 52, 0, 0, 0)] (by decide +kernel) (show m_sgl X _ _ _ _ _ = some (29, [some (.ref 52), some (.int v1), w2, some (.int v3), some (.int v4), w5], [.int (52 : Int32), .int (v3 - v4), .int (v1 * (52 : Int32)), .ref 53], (SH, m.1, m.2)) from rfl) ?_
      obtain ⟨q1, hc1, h⟩ := Option.bind_eq_some_iff.mp h
      refine m_R_cS (v := (some (.int q1.1))) (h1 := (SH, q1.2)) (rest := [.int (v1 * (52 : Int32)), .ref 53]) (lo' := [some (.int (v3 - v4)), some (.int (52 : Int32)), none]) (ml := 3) (by decide) (m_opb_of (ins := .invokestatic 19) (len := 3) (tag := 4) (a := 113) (b := 2) (c := 0) (q := 1078) (by decide +kernel)) (by decide +kernel) (Nat.le_of_ble_eq_true rfl) rfl (Nat.le_of_ble_eq_true rfl) rfl rfl (ok_Math_floorMod X (d + 0) F _ _ _ _ _ hc1) ?_
      refine m_R_sg (by decide) [(.iadd, 1, 0, 0, 0, 0, 0)] (by decide +kernel) (show m_sgl X _ _ _ _ _ = some (33, [some (.ref 52), some (.int v1), w2, some (.int v3), some (.int v4), w5], [.int ((v1 * (52 : Int32)) + q1.1), .ref 53], (SH, q1.2.1, q1.2.2)) from rfl) ?_
      obtain ⟨c978, h⟩ := m_ite_n h
      refine m_R_1 (by decide) (m_opb_of (ins := .iaload) (len := 1) (tag := 0) (a := 0) (b := 0) (c := 0) (q := 0) (by decide +kernel)) (m_s_iald sh_53 (by decide) c978) ?_
      refine m_R_sg (by decide) [(.istore 5, 2, 0, 5, 0, 0, 0), (.iload 5, 2, 0, 5, 0, 0, 0), (.iconst (-1), 1, 0, 1, 1, 0, 0)] (by decide +kernel) (show m_sgl X _ _ _ _ _ = some (39, [some (.ref 52), some (.int v1), w2, some (.int v3), some (.int v4), some (.int (q1.2.1 53 ((v1 * (52 : Int32)) + q1.1).toNatClampNeg))], [.int (-1 : Int32), .int (q1.2.1 53 ((v1 * (52 : Int32)) + q1.1).toNatClampNeg)], (SH, q1.2.1, q1.2.2)) from rfl) ?_
      rcases m_ite h with ⟨c979, h⟩ | ⟨c979, h⟩
      · refine m_R_1 (by decide) (m_opb_of (ins := .if_icmp .eq 6) (len := 3) (tag := 0) (a := 45) (b := 0) (c := 0) (q := 0) (by decide +kernel)) (if_pos c979) ?_
        refine m_R_sg (by decide) [(.iinc 4 1, 3, 0, 4, 1, 0, 0), (.goto (-40), 3, 0, 8, 0, 0, 0)] (by decide +kernel) (show m_sgl X _ _ _ _ _ = some (8, [some (.ref 52), some (.int v1), w2, some (.int v3), some (.int (v4 + (1 : Int32))), some (.int (q1.2.1 53 ((v1 * (52 : Int32)) + q1.1).toNatClampNeg))], [], (SH, q1.2.1, q1.2.2)) from rfl) ?_
        exact ih _ _ _ _ _ _ _ _ h
      · refine m_R_1 (by decide) (m_opb_of (ins := .if_icmp .eq 6) (len := 3) (tag := 0) (a := 45) (b := 0) (c := 0) (q := 0) (by decide +kernel)) (if_neg c979) ?_
        refine m_R_sg (by decide) [(.iload 5, 2, 0, 5, 0, 0, 0)] (by decide +kernel) (show m_sgl X _ _ _ _ _ = some (44, [some (.ref 52), some (.int v1), w2, some (.int v3), some (.int v4), some (.int (q1.2.1 53 ((v1 * (52 : Int32)) + q1.1).toNatClampNeg))], [.int (q1.2.1 53 ((v1 * (52 : Int32)) + q1.1).toNatClampNeg)], (SH, q1.2.1, q1.2.2)) from rfl) ?_
        obtain ⟨rfl, rfl⟩ := m_some h
        exact m_R_iret (by decide) (m_opb_of (ins := .ireturn) (len := 1) (tag := 1) (a := 0) (b := 0) (c := 0) (q := 0) (by decide +kernel)) (Or.inl rfl)
def f_Seasons_filled (F : Nat)   (v1 : Int32) (v2 : Int32) (m : mM) : Option (Int32 × mM) := f_Seasons_filled_8 F F v1 (v2 - v2 / (52 : Int32) * (52 : Int32)) (0 : Int32) m
theorem ok_Seasons_filled (X : mX) (d F : Nat) : ∀ (v1 : Int32) (v2 : Int32)  (m : mM) (r : Int32) (m' : mM), f_Seasons_filled F v1 v2 m = some (r, m') → m_R X (d + 1) 112 0 [some (.ref 52), some (.int v1), some (.int v2), none, none, none] [] (SH, m) (some (.int r), (SH, m')) := by
  intro v1 v2 m r m' h
  unfold f_Seasons_filled at h
  refine m_R_sg (by decide) [(.iload_n 2, 1, 0, 2, 0, 0, 0), (.bipush 52, 2, 0, 52, 0, 0, 0)] (by decide +kernel) (show m_sgl X _ _ _ _ _ = some (3, [some (.ref 52), some (.int v1), some (.int v2), none, none, none], [.int (52 : Int32), .int v2], (SH, m.1, m.2)) from rfl) ?_
  refine m_R_1 (by decide) (m_opb_of (ins := .irem) (len := 1) (tag := 0) (a := 0) (b := 0) (c := 0) (q := 0) (by decide +kernel)) (m_s_irem (by decide)) ?_
  refine m_R_sg (by decide) [(.istore_n 3, 1, 0, 3, 0, 0, 0), (.iconst 0, 1, 0, 0, 0, 0, 0), (.istore 4, 2, 0, 4, 0, 0, 0)] (by decide +kernel) (show m_sgl X _ _ _ _ _ = some (8, [some (.ref 52), some (.int v1), some (.int v2), some (.int (v2 - v2 / (52 : Int32) * (52 : Int32))), some (.int (0 : Int32)), none], [], (SH, m.1, m.2)) from rfl) ?_
  exact ok_Seasons_filled_8 X d F F _ _ _ _ _ _ _ _ h
def f_x_week_11 (F : Nat)    (m : mM) : Option (Int32 × mM) := ((f_x_refuse F (-3 : Int32) m).bind fun q3 => some (q3.1, q3.2))
theorem ok_x_week_11 (X : mX) (d F : Nat) : ∀  (w1 : Option Value) (w2 : Option Value) (m : mM) (r : Int32) (m' : mM), f_x_week_11 F  m = some (r, m') → m_R X (d + 2) 111 11 [some (.ref 0), w1, w2] [] (SH, m) (some (.int r), (SH, m')) := by
  intro w1 w2 m r m' h
  unfold f_x_week_11 at h
  refine m_R_sg (by decide) [(.aload_n 0, 1, 0, 0, 0, 0, 0), (.bipush (-3), 2, 0, 3, 1, 0, 0)] (by decide +kernel) (show m_sgl X _ _ _ _ _ = some (14, [some (.ref 0), w1, w2], [.int (-3 : Int32), .ref 0], (SH, m.1, m.2)) from rfl) ?_
  obtain ⟨q3, hc3, h⟩ := Option.bind_eq_some_iff.mp h
  refine m_R_cV (v := (some (.int q3.1))) (h1 := (SH, q3.2)) (rest := []) (lo' := [some (.ref 0), some (.int (-3 : Int32))]) (ml := 2) (k0 := 0) (by decide) (Or.inl rfl) (m_opb_of (ins := .invokevirtual 76) (len := 3) (tag := 5) (a := 14) (b := 1) (c := 0) (q := 671) (by decide +kernel)) (by decide +kernel) rfl (show m_isO 14 0 (SH, _) = true from m_isO_of (by decide +kernel)) (Nat.le_of_ble_eq_true rfl) rfl rfl (ok_x_refuse X (d + 1) F _ _ _ _ hc3) ?_
  obtain ⟨rfl, rfl⟩ := m_some h
  exact m_R_iret (by decide) (m_opb_of (ins := .ireturn) (len := 1) (tag := 1) (a := 0) (b := 0) (c := 0) (q := 0) (by decide +kernel)) (Or.inl rfl)
def f_x_week (F : Nat)   (v1 : Int32) (v2 : Int32) (m : mM) : Option (Int32 × mM) := ((f_x_isSeason F v1 m).bind fun q1 => (if q1.1 = 0 then f_x_week_11 F q1.2 else (if 0 ≤ v2 then ((f_Seasons_filled F v1 v2 q1.2).bind fun q2 => some (q2.1, q2.2)) else f_x_week_11 F q1.2)))
theorem ok_x_week (X : mX) (d F : Nat) : ∀ (v1 : Int32) (v2 : Int32)  (m : mM) (r : Int32) (m' : mM), f_x_week F v1 v2 m = some (r, m') → m_R X (d + 2) 111 0 [some (.ref 0), some (.int v1), some (.int v2)] [] (SH, m) (some (.int r), (SH, m')) := by
  intro v1 v2 m r m' h
  unfold f_x_week at h
  refine m_R_sg (by decide) [(.iload_n 1, 1, 0, 1, 0, 0, 0)] (by decide +kernel) (show m_sgl X _ _ _ _ _ = some (1, [some (.ref 0), some (.int v1), some (.int v2)], [.int v1], (SH, m.1, m.2)) from rfl) ?_
  obtain ⟨q1, hc1, h⟩ := Option.bind_eq_some_iff.mp h
  refine m_R_cS (v := (some (.int q1.1))) (h1 := (SH, q1.2)) (rest := []) (lo' := [some (.int v1)]) (ml := 1) (by decide) (m_opb_of (ins := .invokestatic 332) (len := 3) (tag := 4) (a := 106) (b := 1) (c := 0) (q := 1051) (by decide +kernel)) (by decide +kernel) (Nat.le_of_ble_eq_true rfl) rfl (Nat.le_of_ble_eq_true rfl) rfl rfl (ok_x_isSeason X (d + 1) F _ _ _ _ hc1) ?_
  rcases m_ite h with ⟨c980, h⟩ | ⟨c980, h⟩
  · refine m_R_1 (by decide) (m_opb_of (ins := .ifCond .eq 7) (len := 3) (tag := 0) (a := 11) (b := 0) (c := 0) (q := 0) (by decide +kernel)) (if_pos c980) ?_
    exact ok_x_week_11 X d F _ _ _ _ _ h
  · refine m_R_1 (by decide) (m_opb_of (ins := .ifCond .eq 7) (len := 3) (tag := 0) (a := 11) (b := 0) (c := 0) (q := 0) (by decide +kernel)) (if_neg c980) ?_
    refine m_R_sg (by decide) [(.iload_n 2, 1, 0, 2, 0, 0, 0)] (by decide +kernel) (show m_sgl X _ _ _ _ _ = some (8, [some (.ref 0), some (.int v1), some (.int v2)], [.int v2], (SH, q1.2.1, q1.2.2)) from rfl) ?_
    rcases m_ite h with ⟨c981, h⟩ | ⟨c981, h⟩
    · refine m_R_1 (by decide) (m_opb_of (ins := .ifCond .ge 10) (len := 3) (tag := 0) (a := 18) (b := 0) (c := 0) (q := 0) (by decide +kernel)) (if_pos c981) ?_
      refine m_R_sg (by decide) [(.aload_n 0, 1, 0, 0, 0, 0, 0), (.getfield 28, 3, 0, 11, 2, 3, 632), (.getfield 338, 3, 0, 10, 4, 3, 514), (.iload_n 1, 1, 0, 1, 0, 0, 0), (.iload_n 2, 1, 0, 2, 0, 0, 0)] (by decide +kernel) (show m_sgl X _ _ _ _ _ = some (27, [some (.ref 0), some (.int v1), some (.int v2)], [.int v2, .int v1, .ref 52], (SH, q1.2.1, q1.2.2)) from rfl) ?_
      obtain ⟨q2, hc2, h⟩ := Option.bind_eq_some_iff.mp h
      refine m_R_cV (v := (some (.int q2.1))) (h1 := (SH, q2.2)) (rest := []) (lo' := [some (.ref 52), some (.int v1), some (.int v2), none, none, none]) (ml := 6) (k0 := 52) (by decide) (Or.inl rfl) (m_opb_of (ins := .invokevirtual 350) (len := 3) (tag := 5) (a := 112) (b := 2) (c := 0) (q := 1074) (by decide +kernel)) (by decide +kernel) rfl (show m_isO 112 52 (SH, _) = true from m_isO_of (by decide +kernel)) (Nat.le_of_ble_eq_true rfl) rfl rfl (ok_Seasons_filled X (d + 0) F _ _ _ _ _ hc2) ?_
      obtain ⟨rfl, rfl⟩ := m_some h
      exact m_R_iret (by decide) (m_opb_of (ins := .ireturn) (len := 1) (tag := 1) (a := 0) (b := 0) (c := 0) (q := 0) (by decide +kernel)) (Or.inl rfl)
    · refine m_R_1 (by decide) (m_opb_of (ins := .ifCond .ge 10) (len := 3) (tag := 0) (a := 18) (b := 0) (c := 0) (q := 0) (by decide +kernel)) (if_neg c981) ?_
      exact ok_x_week_11 X d F _ _ _ _ _ h
def f_m_weekOf_66 (F : Nat)   (s0 : Int32) (m : mM) : Option (Int32 × mM) := some (s0, m)
theorem ok_m_weekOf_66 (X : mX) (d F : Nat) : ∀ (s0 : Int32) (w0 : Option Value) (w1 : Option Value) (w2 : Option Value) (w3 : Option Value) (w4 : Option Value) (w5 : Option Value) (m : mM) (r : Int32) (m' : mM), f_m_weekOf_66 F s0 m = some (r, m') → m_R X (d + 0) 295 66 [w0, w1, w2, w3, w4, w5] [.int s0] (SH, m) (some (.int r), (SH, m')) := by
  intro s0 w0 w1 w2 w3 w4 w5 m r m' h
  unfold f_m_weekOf_66 at h
  obtain ⟨rfl, rfl⟩ := m_some h
  exact m_R_iret (by decide) (m_opb_of (ins := .ireturn) (len := 1) (tag := 1) (a := 0) (b := 0) (c := 0) (q := 0) (by decide +kernel)) (Or.inl rfl)
def f_m_weekOf_8 (F : Nat)   : Nat → Int32 → Int32 → Int32 → mM → Option (Int32 × mM)
  | 0, _, _, _, _ => none
  | n + 1, v1, v3, v4, m => (if (52 : Int32) ≤ v4 then (if v1 = 0 then f_m_weekOf_66 F (100 : Int32) m else f_m_weekOf_66 F (5 : Int32) m) else (if (((7440 : Int32) + ((52 : Int32) * v1)) + (((v3 + (52 : Int32)) - v4) - ((v3 + (52 : Int32)) - v4) / (52 : Int32) * (52 : Int32))) < 0 ∨ 9732 ≤ (((7440 : Int32) + ((52 : Int32) * v1)) + (((v3 + (52 : Int32)) - v4) - ((v3 + (52 : Int32)) - v4) / (52 : Int32) * (52 : Int32))).toNatClampNeg then none else (if (m.1 305 (((7440 : Int32) + ((52 : Int32) * v1)) + (((v3 + (52 : Int32)) - v4) - ((v3 + (52 : Int32)) - v4) / (52 : Int32) * (52 : Int32))).toNatClampNeg) = (-1 : Int32) then f_m_weekOf_8 F n v1 v3 (v4 + (1 : Int32)) m else some ((m.1 305 (((7440 : Int32) + ((52 : Int32) * v1)) + (((v3 + (52 : Int32)) - v4) - ((v3 + (52 : Int32)) - v4) / (52 : Int32) * (52 : Int32))).toNatClampNeg), m))))
theorem ok_m_weekOf_8 (X : mX) (d F : Nat) : ∀ (n : Nat) (v1 : Int32) (v3 : Int32) (v4 : Int32) (w2 : Option Value) (w5 : Option Value) (m : mM) (r : Int32) (m' : mM), f_m_weekOf_8 F n v1 v3 v4 m = some (r, m') → m_R X (d + 0) 295 8 [some (.ref 304), some (.int v1), w2, some (.int v3), some (.int v4), w5] [] (SH, m) (some (.int r), (SH, m')) := by
  intro n
  induction n with
  | zero => intro v1 v3 v4 w2 w5 m r m' h; cases h
  | succ n ih =>
    intro v1 v3 v4 w2 w5 m r m' h
    simp only [f_m_weekOf_8] at h
    refine m_R_sg (by decide) [(.iload 4, 2, 0, 4, 0, 0, 0), (.bipush 52, 2, 0, 52, 0, 0, 0)] (by decide +kernel) (show m_sgl X _ _ _ _ _ = some (12, [some (.ref 304), some (.int v1), w2, some (.int v3), some (.int v4), w5], [.int (52 : Int32), .int v4], (SH, m.1, m.2)) from rfl) ?_
    rcases m_ite h with ⟨c982, h⟩ | ⟨c982, h⟩
    · refine m_R_1 (by decide) (m_opb_of (ins := .if_icmp .ge 44) (len := 3) (tag := 0) (a := 56) (b := 0) (c := 0) (q := 0) (by decide +kernel)) (if_pos c982) ?_
      refine m_R_sg (by decide) [(.iload_n 1, 1, 0, 1, 0, 0, 0)] (by decide +kernel) (show m_sgl X _ _ _ _ _ = some (57, [some (.ref 304), some (.int v1), w2, some (.int v3), some (.int v4), w5], [.int v1], (SH, m.1, m.2)) from rfl) ?_
      rcases m_ite h with ⟨c983, h⟩ | ⟨c983, h⟩
      · refine m_R_1 (by decide) (m_opb_of (ins := .ifCond .ne 8) (len := 3) (tag := 0) (a := 65) (b := 0) (c := 0) (q := 0) (by decide +kernel)) (if_pos c983) ?_
        refine m_R_sg (by decide) [(.bipush 100, 2, 0, 100, 0, 0, 0), (.goto 4, 3, 0, 66, 0, 0, 0)] (by decide +kernel) (show m_sgl X _ _ _ _ _ = some (66, [some (.ref 304), some (.int v1), w2, some (.int v3), some (.int v4), w5], [.int (100 : Int32)], (SH, m.1, m.2)) from rfl) ?_
        exact ok_m_weekOf_66 X d F _ _ _ _ _ _ _ _ _ _ h
      · refine m_R_1 (by decide) (m_opb_of (ins := .ifCond .ne 8) (len := 3) (tag := 0) (a := 65) (b := 0) (c := 0) (q := 0) (by decide +kernel)) (if_neg c983) ?_
        refine m_R_sg (by decide) [(.iconst 5, 1, 0, 5, 0, 0, 0)] (by decide +kernel) (show m_sgl X _ _ _ _ _ = some (66, [some (.ref 304), some (.int v1), w2, some (.int v3), some (.int v4), w5], [.int (5 : Int32)], (SH, m.1, m.2)) from rfl) ?_
        exact ok_m_weekOf_66 X d F _ _ _ _ _ _ _ _ _ _ h
    · refine m_R_1 (by decide) (m_opb_of (ins := .if_icmp .ge 44) (len := 3) (tag := 0) (a := 56) (b := 0) (c := 0) (q := 0) (by decide +kernel)) (if_neg c982) ?_
      refine m_R_sg (by decide) [(.aload_n 0, 1, 0, 0, 0, 0, 0), (.getfield 13, 3, 0, 12, 1, 3, 1493), (.sipush 7440, 3, 0, 7440, 0, 0, 0), (.bipush 52, 2, 0, 52, 0, 0, 0), (.iload_n 1, 1, 0, 1, 0, 0, 0), (.imul, 1, 0, 0, 0, 0, 0), (.iadd, 1, 0, 0, 0, 0, 0), (.iload_n 3, 1, 0, 3, 0, 0, 0), (.bipush 52, 2, 0, 52, 0, 0, 0), (.iadd, 1, 0, 0, 0, 0, 0), (.iload 4, 2, 0, 4, 0, 0, 0), (.isub, 1, 0, 0, 0, 0, 0), (.bipush 52, 2, 0, 52, 0, 0, 0)] (by decide +kernel) (show m_sgl X _ _ _ _ _ = some (36, [some (.ref 304), some (.int v1), w2, some (.int v3), some (.int v4), w5], [.int (52 : Int32), .int ((v3 + (52 : Int32)) - v4), .int ((7440 : Int32) + ((52 : Int32) * v1)), .ref 305], (SH, m.1, m.2)) from rfl) ?_
      refine m_R_1 (by decide) (m_opb_of (ins := .irem) (len := 1) (tag := 0) (a := 0) (b := 0) (c := 0) (q := 0) (by decide +kernel)) (m_s_irem (by decide)) ?_
      refine m_R_sg (by decide) [(.iadd, 1, 0, 0, 0, 0, 0)] (by decide +kernel) (show m_sgl X _ _ _ _ _ = some (38, [some (.ref 304), some (.int v1), w2, some (.int v3), some (.int v4), w5], [.int (((7440 : Int32) + ((52 : Int32) * v1)) + (((v3 + (52 : Int32)) - v4) - ((v3 + (52 : Int32)) - v4) / (52 : Int32) * (52 : Int32))), .ref 305], (SH, m.1, m.2)) from rfl) ?_
      obtain ⟨c984, h⟩ := m_ite_n h
      refine m_R_1 (by decide) (m_opb_of (ins := .iaload) (len := 1) (tag := 0) (a := 0) (b := 0) (c := 0) (q := 0) (by decide +kernel)) (m_s_iald sh_305 (by decide) c984) ?_
      refine m_R_sg (by decide) [(.istore 5, 2, 0, 5, 0, 0, 0), (.iload 5, 2, 0, 5, 0, 0, 0), (.iconst (-1), 1, 0, 1, 1, 0, 0)] (by decide +kernel) (show m_sgl X _ _ _ _ _ = some (44, [some (.ref 304), some (.int v1), w2, some (.int v3), some (.int v4), some (.int (m.1 305 (((7440 : Int32) + ((52 : Int32) * v1)) + (((v3 + (52 : Int32)) - v4) - ((v3 + (52 : Int32)) - v4) / (52 : Int32) * (52 : Int32))).toNatClampNeg))], [.int (-1 : Int32), .int (m.1 305 (((7440 : Int32) + ((52 : Int32) * v1)) + (((v3 + (52 : Int32)) - v4) - ((v3 + (52 : Int32)) - v4) / (52 : Int32) * (52 : Int32))).toNatClampNeg)], (SH, m.1, m.2)) from rfl) ?_
      rcases m_ite h with ⟨c985, h⟩ | ⟨c985, h⟩
      · refine m_R_1 (by decide) (m_opb_of (ins := .if_icmp .eq 6) (len := 3) (tag := 0) (a := 50) (b := 0) (c := 0) (q := 0) (by decide +kernel)) (if_pos c985) ?_
        refine m_R_sg (by decide) [(.iinc 4 1, 3, 0, 4, 1, 0, 0), (.goto (-45), 3, 0, 8, 0, 0, 0)] (by decide +kernel) (show m_sgl X _ _ _ _ _ = some (8, [some (.ref 304), some (.int v1), w2, some (.int v3), some (.int (v4 + (1 : Int32))), some (.int (m.1 305 (((7440 : Int32) + ((52 : Int32) * v1)) + (((v3 + (52 : Int32)) - v4) - ((v3 + (52 : Int32)) - v4) / (52 : Int32) * (52 : Int32))).toNatClampNeg))], [], (SH, m.1, m.2)) from rfl) ?_
        exact ih _ _ _ _ _ _ _ _ h
      · refine m_R_1 (by decide) (m_opb_of (ins := .if_icmp .eq 6) (len := 3) (tag := 0) (a := 50) (b := 0) (c := 0) (q := 0) (by decide +kernel)) (if_neg c985) ?_
        refine m_R_sg (by decide) [(.iload 5, 2, 0, 5, 0, 0, 0)] (by decide +kernel) (show m_sgl X _ _ _ _ _ = some (49, [some (.ref 304), some (.int v1), w2, some (.int v3), some (.int v4), some (.int (m.1 305 (((7440 : Int32) + ((52 : Int32) * v1)) + (((v3 + (52 : Int32)) - v4) - ((v3 + (52 : Int32)) - v4) / (52 : Int32) * (52 : Int32))).toNatClampNeg))], [.int (m.1 305 (((7440 : Int32) + ((52 : Int32) * v1)) + (((v3 + (52 : Int32)) - v4) - ((v3 + (52 : Int32)) - v4) / (52 : Int32) * (52 : Int32))).toNatClampNeg)], (SH, m.1, m.2)) from rfl) ?_
        obtain ⟨rfl, rfl⟩ := m_some h
        exact m_R_iret (by decide) (m_opb_of (ins := .ireturn) (len := 1) (tag := 1) (a := 0) (b := 0) (c := 0) (q := 0) (by decide +kernel)) (Or.inl rfl)
def f_m_weekOf (F : Nat)   (v1 : Int32) (v2 : Int32) (m : mM) : Option (Int32 × mM) := f_m_weekOf_8 F F v1 (v2 - v2 / (52 : Int32) * (52 : Int32)) (0 : Int32) m
theorem ok_m_weekOf (X : mX) (d F : Nat) : ∀ (v1 : Int32) (v2 : Int32)  (m : mM) (r : Int32) (m' : mM), f_m_weekOf F v1 v2 m = some (r, m') → m_R X (d + 0) 295 0 [some (.ref 304), some (.int v1), some (.int v2), none, none, none] [] (SH, m) (some (.int r), (SH, m')) := by
  intro v1 v2 m r m' h
  unfold f_m_weekOf at h
  refine m_R_sg (by decide) [(.iload_n 2, 1, 0, 2, 0, 0, 0), (.bipush 52, 2, 0, 52, 0, 0, 0)] (by decide +kernel) (show m_sgl X _ _ _ _ _ = some (3, [some (.ref 304), some (.int v1), some (.int v2), none, none, none], [.int (52 : Int32), .int v2], (SH, m.1, m.2)) from rfl) ?_
  refine m_R_1 (by decide) (m_opb_of (ins := .irem) (len := 1) (tag := 0) (a := 0) (b := 0) (c := 0) (q := 0) (by decide +kernel)) (m_s_irem (by decide)) ?_
  refine m_R_sg (by decide) [(.istore_n 3, 1, 0, 3, 0, 0, 0), (.iconst 0, 1, 0, 0, 0, 0, 0), (.istore 4, 2, 0, 4, 0, 0, 0)] (by decide +kernel) (show m_sgl X _ _ _ _ _ = some (8, [some (.ref 304), some (.int v1), some (.int v2), some (.int (v2 - v2 / (52 : Int32) * (52 : Int32))), some (.int (0 : Int32)), none], [], (SH, m.1, m.2)) from rfl) ?_
  exact ok_m_weekOf_8 X d F F _ _ _ _ _ _ _ _ h
def f_m_week_28 (F : Nat)   (s0 : Int32) (m : mM) : Option (Int32 × mM) := some (s0, m)
theorem ok_m_week_28 (X : mX) (d F : Nat) : ∀ (s0 : Int32) (w0 : Option Value) (w1 : Option Value) (w2 : Option Value) (m : mM) (r : Int32) (m' : mM), f_m_week_28 F s0 m = some (r, m') → m_R X (d + 1) 294 28 [w0, w1, w2] [.int s0] (SH, m) (some (.int r), (SH, m')) := by
  intro s0 w0 w1 w2 m r m' h
  unfold f_m_week_28 at h
  obtain ⟨rfl, rfl⟩ := m_some h
  exact m_R_iret (by decide) (m_opb_of (ins := .ireturn) (len := 1) (tag := 1) (a := 0) (b := 0) (c := 0) (q := 0) (by decide +kernel)) (Or.inl rfl)
def f_m_week_22 (F : Nat)    (m : mM) : Option (Int32 × mM) := ((f_m_refuse F (-3 : Int32) m).bind fun q3 => f_m_week_28 F q3.1 q3.2)
theorem ok_m_week_22 (X : mX) (d F : Nat) : ∀  (w1 : Option Value) (w2 : Option Value) (m : mM) (r : Int32) (m' : mM), f_m_week_22 F  m = some (r, m') → m_R X (d + 1) 294 22 [some (.ref 304), w1, w2] [] (SH, m) (some (.int r), (SH, m')) := by
  intro w1 w2 m r m' h
  unfold f_m_week_22 at h
  refine m_R_sg (by decide) [(.aload_n 0, 1, 0, 0, 0, 0, 0), (.bipush (-3), 2, 0, 3, 1, 0, 0)] (by decide +kernel) (show m_sgl X _ _ _ _ _ = some (25, [some (.ref 304), w1, w2], [.int (-3 : Int32), .ref 304], (SH, m.1, m.2)) from rfl) ?_
  obtain ⟨q3, hc3, h⟩ := Option.bind_eq_some_iff.mp h
  refine m_R_cV (v := (some (.int q3.1))) (h1 := (SH, q3.2)) (rest := []) (lo' := [some (.ref 304), some (.int (-3 : Int32))]) (ml := 2) (k0 := 304) (by decide) (Or.inl rfl) (m_opb_of (ins := .invokevirtual 61) (len := 3) (tag := 5) (a := 202) (b := 1) (c := 0) (q := 1593) (by decide +kernel)) (by decide +kernel) rfl (show m_isO 202 304 (SH, _) = true from m_isO_of (by decide +kernel)) (Nat.le_of_ble_eq_true rfl) rfl rfl (ok_m_refuse X (d + 0) F _ _ _ _ hc3) ?_
  exact ok_m_week_28 X d F _ _ _ _ _ _ _ h
def f_m_week (F : Nat)   (v1 : Int32) (v2 : Int32) (m : mM) : Option (Int32 × mM) := ((f_m_in F v1 (0 : Int32) (1 : Int32) m).bind fun q1 => (if q1.1 = 0 then f_m_week_22 F q1.2 else (if v2 < 0 then f_m_week_22 F q1.2 else ((f_m_weekOf F v1 v2 q1.2).bind fun q2 => f_m_week_28 F q2.1 q2.2))))
theorem ok_m_week (X : mX) (d F : Nat) : ∀ (v1 : Int32) (v2 : Int32)  (m : mM) (r : Int32) (m' : mM), f_m_week F v1 v2 m = some (r, m') → m_R X (d + 1) 294 0 [some (.ref 304), some (.int v1), some (.int v2)] [] (SH, m) (some (.int r), (SH, m')) := by
  intro v1 v2 m r m' h
  unfold f_m_week at h
  refine m_R_sg (by decide) [(.iload_n 1, 1, 0, 1, 0, 0, 0), (.iconst 0, 1, 0, 0, 0, 0, 0), (.iconst 1, 1, 0, 1, 0, 0, 0)] (by decide +kernel) (show m_sgl X _ _ _ _ _ = some (3, [some (.ref 304), some (.int v1), some (.int v2)], [.int (1 : Int32), .int (0 : Int32), .int v1], (SH, m.1, m.2)) from rfl) ?_
  obtain ⟨q1, hc1, h⟩ := Option.bind_eq_some_iff.mp h
  refine m_R_cS (v := (some (.int q1.1))) (h1 := (SH, q1.2)) (rest := []) (lo' := [some (.int v1), some (.int (0 : Int32)), some (.int (1 : Int32))]) (ml := 3) (by decide) (m_opb_of (ins := .invokestatic 57) (len := 3) (tag := 4) (a := 201) (b := 3) (c := 0) (q := 1590) (by decide +kernel)) (by decide +kernel) (Nat.le_of_ble_eq_true rfl) rfl (Nat.le_of_ble_eq_true rfl) rfl rfl (ok_m_in X (d + 0) F _ _ _ _ _ _ hc1) ?_
  rcases m_ite h with ⟨c986, h⟩ | ⟨c986, h⟩
  · refine m_R_1 (by decide) (m_opb_of (ins := .ifCond .eq 16) (len := 3) (tag := 0) (a := 22) (b := 0) (c := 0) (q := 0) (by decide +kernel)) (if_pos c986) ?_
    exact ok_m_week_22 X d F _ _ _ _ _ h
  · refine m_R_1 (by decide) (m_opb_of (ins := .ifCond .eq 16) (len := 3) (tag := 0) (a := 22) (b := 0) (c := 0) (q := 0) (by decide +kernel)) (if_neg c986) ?_
    refine m_R_sg (by decide) [(.iload_n 2, 1, 0, 2, 0, 0, 0)] (by decide +kernel) (show m_sgl X _ _ _ _ _ = some (10, [some (.ref 304), some (.int v1), some (.int v2)], [.int v2], (SH, q1.2.1, q1.2.2)) from rfl) ?_
    rcases m_ite h with ⟨c987, h⟩ | ⟨c987, h⟩
    · refine m_R_1 (by decide) (m_opb_of (ins := .ifCond .lt 12) (len := 3) (tag := 0) (a := 22) (b := 0) (c := 0) (q := 0) (by decide +kernel)) (if_pos c987) ?_
      exact ok_m_week_22 X d F _ _ _ _ _ h
    · refine m_R_1 (by decide) (m_opb_of (ins := .ifCond .lt 12) (len := 3) (tag := 0) (a := 22) (b := 0) (c := 0) (q := 0) (by decide +kernel)) (if_neg c987) ?_
      refine m_R_sg (by decide) [(.aload_n 0, 1, 0, 0, 0, 0, 0), (.iload_n 1, 1, 0, 1, 0, 0, 0), (.iload_n 2, 1, 0, 2, 0, 0, 0)] (by decide +kernel) (show m_sgl X _ _ _ _ _ = some (16, [some (.ref 304), some (.int v1), some (.int v2)], [.int v2, .int v1, .ref 304], (SH, q1.2.1, q1.2.2)) from rfl) ?_
      obtain ⟨q2, hc2, h⟩ := Option.bind_eq_some_iff.mp h
      refine m_R_cV (v := (some (.int q2.1))) (h1 := (SH, q2.2)) (rest := []) (lo' := [some (.ref 304), some (.int v1), some (.int v2), none, none, none]) (ml := 6) (k0 := 304) (by decide) (Or.inl rfl) (m_opb_of (ins := .invokevirtual 221) (len := 3) (tag := 5) (a := 295) (b := 2) (c := 0) (q := 1997) (by decide +kernel)) (by decide +kernel) rfl (show m_isO 295 304 (SH, _) = true from m_isO_of (by decide +kernel)) (Nat.le_of_ble_eq_true rfl) rfl rfl (ok_m_weekOf X (d + 0) F _ _ _ _ _ hc2) ?_
      refine m_R_sg (by decide) [(.goto 9, 3, 0, 28, 0, 0, 0)] (by decide +kernel) (show m_sgl X _ _ _ _ _ = some (28, [some (.ref 304), some (.int v1), some (.int v2)], [.int q2.1], (SH, q2.2.1, q2.2.2)) from rfl) ?_
      exact ok_m_week_28 X d F _ _ _ _ _ _ _ h
def f_x_flow_10 (F : Nat)    (m : mM) : Option (Int32 × mM) := ((f_x_refuse F (-7 : Int32) m).bind fun q1 => some (q1.1, q1.2))
theorem ok_x_flow_10 (X : mX) (d F : Nat) : ∀  (w1 : Option Value) (w2 : Option Value) (m : mM) (r : Int32) (m' : mM), f_x_flow_10 F  m = some (r, m') → m_R X (d + 1) 114 10 [some (.ref 0), w1, w2] [] (SH, m) (some (.int r), (SH, m')) := by
  intro w1 w2 m r m' h
  unfold f_x_flow_10 at h
  refine m_R_sg (by decide) [(.aload_n 0, 1, 0, 0, 0, 0, 0), (.bipush (-7), 2, 0, 7, 1, 0, 0)] (by decide +kernel) (show m_sgl X _ _ _ _ _ = some (13, [some (.ref 0), w1, w2], [.int (-7 : Int32), .ref 0], (SH, m.1, m.2)) from rfl) ?_
  obtain ⟨q1, hc1, h⟩ := Option.bind_eq_some_iff.mp h
  refine m_R_cV (v := (some (.int q1.1))) (h1 := (SH, q1.2)) (rest := []) (lo' := [some (.ref 0), some (.int (-7 : Int32))]) (ml := 2) (k0 := 0) (by decide) (Or.inl rfl) (m_opb_of (ins := .invokevirtual 76) (len := 3) (tag := 5) (a := 14) (b := 1) (c := 0) (q := 671) (by decide +kernel)) (by decide +kernel) rfl (show m_isO 14 0 (SH, _) = true from m_isO_of (by decide +kernel)) (Nat.le_of_ble_eq_true rfl) rfl rfl (ok_x_refuse X (d + 0) F _ _ _ _ hc1) ?_
  obtain ⟨rfl, rfl⟩ := m_some h
  exact m_R_iret (by decide) (m_opb_of (ins := .ireturn) (len := 1) (tag := 1) (a := 0) (b := 0) (c := 0) (q := 0) (by decide +kernel)) (Or.inl rfl)
def f_x_flow (F : Nat)   (v1 : Int32) (m : mM) : Option (Int32 × mM) := (if v1 < 0 then f_x_flow_10 F m else (if v1 ≤ (100 : Int32) then some ((m.1 16 11), ((m_up m.1 16 11 v1), m.2)) else f_x_flow_10 F m))
theorem ok_x_flow (X : mX) (d F : Nat) : ∀ (v1 : Int32)  (m : mM) (r : Int32) (m' : mM), f_x_flow F v1 m = some (r, m') → m_R X (d + 1) 114 0 [some (.ref 0), some (.int v1), none] [] (SH, m) (some (.int r), (SH, m')) := by
  intro v1 m r m' h
  unfold f_x_flow at h
  refine m_R_sg (by decide) [(.iload_n 1, 1, 0, 1, 0, 0, 0)] (by decide +kernel) (show m_sgl X _ _ _ _ _ = some (1, [some (.ref 0), some (.int v1), none], [.int v1], (SH, m.1, m.2)) from rfl) ?_
  rcases m_ite h with ⟨c988, h⟩ | ⟨c988, h⟩
  · refine m_R_1 (by decide) (m_opb_of (ins := .ifCond .lt 9) (len := 3) (tag := 0) (a := 10) (b := 0) (c := 0) (q := 0) (by decide +kernel)) (if_pos c988) ?_
    exact ok_x_flow_10 X d F _ _ _ _ _ h
  · refine m_R_1 (by decide) (m_opb_of (ins := .ifCond .lt 9) (len := 3) (tag := 0) (a := 10) (b := 0) (c := 0) (q := 0) (by decide +kernel)) (if_neg c988) ?_
    refine m_R_sg (by decide) [(.iload_n 1, 1, 0, 1, 0, 0, 0), (.bipush 100, 2, 0, 100, 0, 0, 0)] (by decide +kernel) (show m_sgl X _ _ _ _ _ = some (7, [some (.ref 0), some (.int v1), none], [.int (100 : Int32), .int v1], (SH, m.1, m.2)) from rfl) ?_
    rcases m_ite h with ⟨c989, h⟩ | ⟨c989, h⟩
    · refine m_R_1 (by decide) (m_opb_of (ins := .if_icmp .le 10) (len := 3) (tag := 0) (a := 17) (b := 0) (c := 0) (q := 0) (by decide +kernel)) (if_pos c989) ?_
      refine m_R_sg (by decide) [(.aload_n 0, 1, 0, 0, 0, 0, 0), (.getfield 28, 3, 0, 11, 2, 3, 632), (.getfield 353, 3, 0, 10, 11, 0, 525), (.istore_n 2, 1, 0, 2, 0, 0, 0), (.aload_n 0, 1, 0, 0, 0, 0, 0), (.getfield 28, 3, 0, 11, 2, 3, 632), (.iload_n 1, 1, 0, 1, 0, 0, 0), (.putfield 353, 3, 0, 10, 11, 0, 525), (.iload_n 2, 1, 0, 2, 0, 0, 0)] (by decide +kernel) (show m_sgl X _ _ _ _ _ = some (34, [some (.ref 0), some (.int v1), some (.int (m.1 16 11))], [.int (m.1 16 11)], (SH, (m_up m.1 16 11 v1), m.2)) from rfl) ?_
      obtain ⟨rfl, rfl⟩ := m_some h
      exact m_R_iret (by decide) (m_opb_of (ins := .ireturn) (len := 1) (tag := 1) (a := 0) (b := 0) (c := 0) (q := 0) (by decide +kernel)) (Or.inl rfl)
    · refine m_R_1 (by decide) (m_opb_of (ins := .if_icmp .le 10) (len := 3) (tag := 0) (a := 17) (b := 0) (c := 0) (q := 0) (by decide +kernel)) (if_neg c989) ?_
      exact ok_x_flow_10 X d F _ _ _ _ _ h
def f_m_flow (F : Nat)   (v1 : Int32) (m : mM) : Option (Int32 × mM) := ((f_m_in F v1 (0 : Int32) (100 : Int32) m).bind fun q1 => (if q1.1 = 0 then ((f_m_refuse F (-7 : Int32) q1.2).bind fun q2 => some (q2.1, q2.2)) else some ((q1.2.1 305 (11 : Int32).toNatClampNeg), ((m_up q1.2.1 305 (11 : Int32).toNatClampNeg v1), q1.2.2))))
theorem ok_m_flow (X : mX) (d F : Nat) : ∀ (v1 : Int32)  (m : mM) (r : Int32) (m' : mM), f_m_flow F v1 m = some (r, m') → m_R X (d + 1) 296 0 [some (.ref 304), some (.int v1), none] [] (SH, m) (some (.int r), (SH, m')) := by
  intro v1 m r m' h
  unfold f_m_flow at h
  refine m_R_sg (by decide) [(.iload_n 1, 1, 0, 1, 0, 0, 0), (.iconst 0, 1, 0, 0, 0, 0, 0), (.bipush 100, 2, 0, 100, 0, 0, 0)] (by decide +kernel) (show m_sgl X _ _ _ _ _ = some (4, [some (.ref 304), some (.int v1), none], [.int (100 : Int32), .int (0 : Int32), .int v1], (SH, m.1, m.2)) from rfl) ?_
  obtain ⟨q1, hc1, h⟩ := Option.bind_eq_some_iff.mp h
  refine m_R_cS (v := (some (.int q1.1))) (h1 := (SH, q1.2)) (rest := []) (lo' := [some (.int v1), some (.int (0 : Int32)), some (.int (100 : Int32))]) (ml := 3) (by decide) (m_opb_of (ins := .invokestatic 57) (len := 3) (tag := 4) (a := 201) (b := 3) (c := 0) (q := 1590) (by decide +kernel)) (by decide +kernel) (Nat.le_of_ble_eq_true rfl) rfl (Nat.le_of_ble_eq_true rfl) rfl rfl (ok_m_in X (d + 0) F _ _ _ _ _ _ hc1) ?_
  rcases m_ite h with ⟨c990, h⟩ | ⟨c990, h⟩
  · refine m_R_1 (by decide) (m_opb_of (ins := .ifCond .ne 10) (len := 3) (tag := 0) (a := 17) (b := 0) (c := 0) (q := 0) (by decide +kernel)) (if_pos c990) ?_
    refine m_R_sg (by decide) [(.aload_n 0, 1, 0, 0, 0, 0, 0), (.bipush (-7), 2, 0, 7, 1, 0, 0)] (by decide +kernel) (show m_sgl X _ _ _ _ _ = some (13, [some (.ref 304), some (.int v1), none], [.int (-7 : Int32), .ref 304], (SH, q1.2.1, q1.2.2)) from rfl) ?_
    obtain ⟨q2, hc2, h⟩ := Option.bind_eq_some_iff.mp h
    refine m_R_cV (v := (some (.int q2.1))) (h1 := (SH, q2.2)) (rest := []) (lo' := [some (.ref 304), some (.int (-7 : Int32))]) (ml := 2) (k0 := 304) (by decide) (Or.inl rfl) (m_opb_of (ins := .invokevirtual 61) (len := 3) (tag := 5) (a := 202) (b := 1) (c := 0) (q := 1593) (by decide +kernel)) (by decide +kernel) rfl (show m_isO 202 304 (SH, _) = true from m_isO_of (by decide +kernel)) (Nat.le_of_ble_eq_true rfl) rfl rfl (ok_m_refuse X (d + 0) F _ _ _ _ hc2) ?_
    obtain ⟨rfl, rfl⟩ := m_some h
    exact m_R_iret (by decide) (m_opb_of (ins := .ireturn) (len := 1) (tag := 1) (a := 0) (b := 0) (c := 0) (q := 0) (by decide +kernel)) (Or.inl rfl)
  · refine m_R_1 (by decide) (m_opb_of (ins := .ifCond .ne 10) (len := 3) (tag := 0) (a := 17) (b := 0) (c := 0) (q := 0) (by decide +kernel)) (if_neg c990) ?_
    refine m_R_sg (by decide) [(.aload_n 0, 1, 0, 0, 0, 0, 0), (.getfield 13, 3, 0, 12, 1, 3, 1493), (.bipush 11, 2, 0, 11, 0, 0, 0)] (by decide +kernel) (show m_sgl X _ _ _ _ _ = some (23, [some (.ref 304), some (.int v1), none], [.int (11 : Int32), .ref 305], (SH, q1.2.1, q1.2.2)) from rfl) ?_
    refine m_R_1 (by decide) (m_opb_of (ins := .iaload) (len := 1) (tag := 0) (a := 0) (b := 0) (c := 0) (q := 0) (by decide +kernel)) (m_s_iald sh_305 (by decide) (show ¬ ((11 : Int32) < 0 ∨ 9732 ≤ (11 : Int32).toNatClampNeg) by decide)) ?_
    refine m_R_sg (by decide) [(.istore_n 2, 1, 0, 2, 0, 0, 0), (.aload_n 0, 1, 0, 0, 0, 0, 0), (.getfield 13, 3, 0, 12, 1, 3, 1493), (.bipush 11, 2, 0, 11, 0, 0, 0), (.iload_n 1, 1, 0, 1, 0, 0, 0)] (by decide +kernel) (show m_sgl X _ _ _ _ _ = some (32, [some (.ref 304), some (.int v1), some (.int (q1.2.1 305 (11 : Int32).toNatClampNeg))], [.int v1, .int (11 : Int32), .ref 305], (SH, q1.2.1, q1.2.2)) from rfl) ?_
    refine m_R_1 (by decide) (m_opb_of (ins := .iastore) (len := 1) (tag := 0) (a := 0) (b := 0) (c := 0) (q := 0) (by decide +kernel)) (m_s_iast sh_305 (show ¬ ((11 : Int32) < 0 ∨ 9732 ≤ (11 : Int32).toNatClampNeg) by decide)) ?_
    refine m_R_sg (by decide) [(.iload_n 2, 1, 0, 2, 0, 0, 0)] (by decide +kernel) (show m_sgl X _ _ _ _ _ = some (34, [some (.ref 304), some (.int v1), some (.int (q1.2.1 305 (11 : Int32).toNatClampNeg))], [.int (q1.2.1 305 (11 : Int32).toNatClampNeg)], (SH, (m_up q1.2.1 305 (11 : Int32).toNatClampNeg v1), q1.2.2)) from rfl) ?_
    obtain ⟨rfl, rfl⟩ := m_some h
    exact m_R_iret (by decide) (m_opb_of (ins := .ireturn) (len := 1) (tag := 1) (a := 0) (b := 0) (c := 0) (q := 0) (by decide +kernel)) (Or.inl rfl)
def f_x_isRate_15 (F : Nat)   (s0 : Int32) (m : mM) : Option (Int32 × mM) := (if s0 = 0 ∨ s0 = 1 then some (s0, m) else none)
theorem ok_x_isRate_15 (X : mX) (d F : Nat) : ∀ (s0 : Int32) (w0 : Option Value) (m : mM) (r : Int32) (m' : mM), f_x_isRate_15 F s0 m = some (r, m') → m_R X (d + 0) 116 15 [w0] [.int s0] (SH, m) (some (.int r), (SH, m')) := by
  intro s0 w0 m r m' h
  unfold f_x_isRate_15 at h
  obtain ⟨c0, h⟩ := m_ite_p h
  obtain ⟨rfl, rfl⟩ := m_some h
  exact m_R_iret (by decide) (m_opb_of (ins := .ireturn) (len := 1) (tag := 1) (a := 1) (b := 0) (c := 0) (q := 0) (by decide +kernel)) (Or.inr c0)
def f_x_isRate_14 (F : Nat)    (m : mM) : Option (Int32 × mM) := f_x_isRate_15 F (0 : Int32) m
theorem ok_x_isRate_14 (X : mX) (d F : Nat) : ∀  (w0 : Option Value) (m : mM) (r : Int32) (m' : mM), f_x_isRate_14 F  m = some (r, m') → m_R X (d + 0) 116 14 [w0] [] (SH, m) (some (.int r), (SH, m')) := by
  intro w0 m r m' h
  unfold f_x_isRate_14 at h
  refine m_R_sg (by decide) [(.iconst 0, 1, 0, 0, 0, 0, 0)] (by decide +kernel) (show m_sgl X _ _ _ _ _ = some (15, [w0], [.int (0 : Int32)], (SH, m.1, m.2)) from rfl) ?_
  exact ok_x_isRate_15 X d F _ _ _ _ _ h
def f_x_isRate (F : Nat)   (v0 : Int32) (m : mM) : Option (Int32 × mM) := (if v0 < 0 then f_x_isRate_14 F m else (if (20 : Int32) < v0 then f_x_isRate_14 F m else f_x_isRate_15 F (1 : Int32) m))
theorem ok_x_isRate (X : mX) (d F : Nat) : ∀ (v0 : Int32)  (m : mM) (r : Int32) (m' : mM), f_x_isRate F v0 m = some (r, m') → m_R X (d + 0) 116 0 [some (.int v0)] [] (SH, m) (some (.int r), (SH, m')) := by
  intro v0 m r m' h
  unfold f_x_isRate at h
  refine m_R_sg (by decide) [(.iload_n 0, 1, 0, 0, 0, 0, 0)] (by decide +kernel) (show m_sgl X _ _ _ _ _ = some (1, [some (.int v0)], [.int v0], (SH, m.1, m.2)) from rfl) ?_
  rcases m_ite h with ⟨c991, h⟩ | ⟨c991, h⟩
  · refine m_R_1 (by decide) (m_opb_of (ins := .ifCond .lt 13) (len := 3) (tag := 0) (a := 14) (b := 0) (c := 0) (q := 0) (by decide +kernel)) (if_pos c991) ?_
    exact ok_x_isRate_14 X d F _ _ _ _ h
  · refine m_R_1 (by decide) (m_opb_of (ins := .ifCond .lt 13) (len := 3) (tag := 0) (a := 14) (b := 0) (c := 0) (q := 0) (by decide +kernel)) (if_neg c991) ?_
    refine m_R_sg (by decide) [(.iload_n 0, 1, 0, 0, 0, 0, 0), (.bipush 20, 2, 0, 20, 0, 0, 0)] (by decide +kernel) (show m_sgl X _ _ _ _ _ = some (7, [some (.int v0)], [.int (20 : Int32), .int v0], (SH, m.1, m.2)) from rfl) ?_
    rcases m_ite h with ⟨c992, h⟩ | ⟨c992, h⟩
    · refine m_R_1 (by decide) (m_opb_of (ins := .if_icmp .gt 7) (len := 3) (tag := 0) (a := 14) (b := 0) (c := 0) (q := 0) (by decide +kernel)) (if_pos c992) ?_
      exact ok_x_isRate_14 X d F _ _ _ _ h
    · refine m_R_1 (by decide) (m_opb_of (ins := .if_icmp .gt 7) (len := 3) (tag := 0) (a := 14) (b := 0) (c := 0) (q := 0) (by decide +kernel)) (if_neg c992) ?_
      refine m_R_sg (by decide) [(.iconst 1, 1, 0, 1, 0, 0, 0), (.goto 4, 3, 0, 15, 0, 0, 0)] (by decide +kernel) (show m_sgl X _ _ _ _ _ = some (15, [some (.int v0)], [.int (1 : Int32)], (SH, m.1, m.2)) from rfl) ?_
      exact ok_x_isRate_15 X d F _ _ _ _ _ h
def f_World_whichSays (F : Nat)   (v1 : Int32) (v2 : Int32) (m : mM) : Option (Int32 × mM) := ((f_World_gatherFacts F v2 m).bind fun q1 => ((f_World_textInForce F v1 q1.2).bind fun q2 => some (q2.1, q2.2)))
theorem ok_World_whichSays (X : mX) (d F : Nat) : ∀ (v1 : Int32) (v2 : Int32)  (m : mM) (r : Int32) (m' : mM), f_World_whichSays F v1 v2 m = some (r, m') → m_R X (d + 2) 117 0 [some (.ref 16), some (.int v1), some (.int v2)] [] (SH, m) (some (.int r), (SH, m')) := by
  intro v1 v2 m r m' h
  unfold f_World_whichSays at h
  refine m_R_sg (by decide) [(.aload_n 0, 1, 0, 0, 0, 0, 0), (.iload_n 2, 1, 0, 2, 0, 0, 0)] (by decide +kernel) (show m_sgl X _ _ _ _ _ = some (2, [some (.ref 16), some (.int v1), some (.int v2)], [.int v2, .ref 16], (SH, m.1, m.2)) from rfl) ?_
  obtain ⟨q1, hc1, h⟩ := Option.bind_eq_some_iff.mp h
  refine m_R_cV (v := none) (h1 := (SH, q1.2)) (rest := []) (lo' := [some (.ref 16), some (.int v2), none]) (ml := 3) (k0 := 16) (by decide) (Or.inl rfl) (m_opb_of (ins := .invokevirtual 158) (len := 3) (tag := 5) (a := 40) (b := 1) (c := 0) (q := 775) (by decide +kernel)) (by decide +kernel) rfl (show m_isO 40 16 (SH, _) = true from m_isO_of (by decide +kernel)) (Nat.le_of_ble_eq_true rfl) rfl rfl (ok_World_gatherFacts X (d + 0) F _ _ _ _ hc1) ?_
  refine m_R_sg (by decide) [(.aload_n 0, 1, 0, 0, 0, 0, 0), (.iload_n 1, 1, 0, 1, 0, 0, 0)] (by decide +kernel) (show m_sgl X _ _ _ _ _ = some (7, [some (.ref 16), some (.int v1), some (.int v2)], [.int v1, .ref 16], (SH, q1.2.1, q1.2.2)) from rfl) ?_
  obtain ⟨q2, hc2, h⟩ := Option.bind_eq_some_iff.mp h
  refine m_R_cV (v := (some (.int q2.1))) (h1 := (SH, q2.2)) (rest := []) (lo' := [some (.ref 16), some (.int v1), none]) (ml := 3) (k0 := 16) (by decide) (Or.inl rfl) (m_opb_of (ins := .invokevirtual 162) (len := 3) (tag := 5) (a := 44) (b := 1) (c := 0) (q := 789) (by decide +kernel)) (by decide +kernel) rfl (show m_isO 44 16 (SH, _) = true from m_isO_of (by decide +kernel)) (Nat.le_of_ble_eq_true rfl) rfl rfl (ok_World_textInForce X (d + 0) F _ _ _ _ hc2) ?_
  obtain ⟨rfl, rfl⟩ := m_some h
  exact m_R_iret (by decide) (m_opb_of (ins := .ireturn) (len := 1) (tag := 1) (a := 0) (b := 0) (c := 0) (q := 0) (by decide +kernel)) (Or.inl rfl)
def f_x_rate_20 (F : Nat)    (m : mM) : Option (Int32 × mM) := ((f_x_refuse F (-7 : Int32) m).bind fun q3 => some (q3.1, q3.2))
theorem ok_x_rate_20 (X : mX) (d F : Nat) : ∀  (w1 : Option Value) (w2 : Option Value) (m : mM) (r : Int32) (m' : mM), f_x_rate_20 F  m = some (r, m') → m_R X (d + 3) 115 20 [some (.ref 0), w1, w2] [] (SH, m) (some (.int r), (SH, m')) := by
  intro w1 w2 m r m' h
  unfold f_x_rate_20 at h
  refine m_R_sg (by decide) [(.aload_n 0, 1, 0, 0, 0, 0, 0), (.bipush (-7), 2, 0, 7, 1, 0, 0)] (by decide +kernel) (show m_sgl X _ _ _ _ _ = some (23, [some (.ref 0), w1, w2], [.int (-7 : Int32), .ref 0], (SH, m.1, m.2)) from rfl) ?_
  obtain ⟨q3, hc3, h⟩ := Option.bind_eq_some_iff.mp h
  refine m_R_cV (v := (some (.int q3.1))) (h1 := (SH, q3.2)) (rest := []) (lo' := [some (.ref 0), some (.int (-7 : Int32))]) (ml := 2) (k0 := 0) (by decide) (Or.inl rfl) (m_opb_of (ins := .invokevirtual 76) (len := 3) (tag := 5) (a := 14) (b := 1) (c := 0) (q := 671) (by decide +kernel)) (by decide +kernel) rfl (show m_isO 14 0 (SH, _) = true from m_isO_of (by decide +kernel)) (Nat.le_of_ble_eq_true rfl) rfl rfl (ok_x_refuse X (d + 2) F _ _ _ _ hc3) ?_
  obtain ⟨rfl, rfl⟩ := m_some h
  exact m_R_iret (by decide) (m_opb_of (ins := .ireturn) (len := 1) (tag := 1) (a := 0) (b := 0) (c := 0) (q := 0) (by decide +kernel)) (Or.inl rfl)
def f_x_rate (F : Nat)   (v1 : Int32) (m : mM) : Option (Int32 × mM) := ((f_x_isRate F v1 m).bind fun q1 => (if q1.1 = 0 then f_x_rate_20 F q1.2 else ((f_World_whichSays F (1 : Int32) (-1 : Int32) q1.2).bind fun q2 => (if q2.1 = (-1 : Int32) then some ((q2.2.1 16 10), ((m_up q2.2.1 16 10 v1), q2.2.2)) else f_x_rate_20 F q2.2))))
theorem ok_x_rate (X : mX) (d F : Nat) : ∀ (v1 : Int32)  (m : mM) (r : Int32) (m' : mM), f_x_rate F v1 m = some (r, m') → m_R X (d + 3) 115 0 [some (.ref 0), some (.int v1), none] [] (SH, m) (some (.int r), (SH, m')) := by
  intro v1 m r m' h
  unfold f_x_rate at h
  refine m_R_sg (by decide) [(.iload_n 1, 1, 0, 1, 0, 0, 0)] (by decide +kernel) (show m_sgl X _ _ _ _ _ = some (1, [some (.ref 0), some (.int v1), none], [.int v1], (SH, m.1, m.2)) from rfl) ?_
  obtain ⟨q1, hc1, h⟩ := Option.bind_eq_some_iff.mp h
  refine m_R_cS (v := (some (.int q1.1))) (h1 := (SH, q1.2)) (rest := []) (lo' := [some (.int v1)]) (ml := 1) (by decide) (m_opb_of (ins := .invokestatic 356) (len := 3) (tag := 4) (a := 116) (b := 1) (c := 0) (q := 1089) (by decide +kernel)) (by decide +kernel) (Nat.le_of_ble_eq_true rfl) rfl (Nat.le_of_ble_eq_true rfl) rfl rfl (ok_x_isRate X (d + 2) F _ _ _ _ hc1) ?_
  rcases m_ite h with ⟨c993, h⟩ | ⟨c993, h⟩
  · refine m_R_1 (by decide) (m_opb_of (ins := .ifCond .eq 16) (len := 3) (tag := 0) (a := 20) (b := 0) (c := 0) (q := 0) (by decide +kernel)) (if_pos c993) ?_
    exact ok_x_rate_20 X d F _ _ _ _ _ h
  · refine m_R_1 (by decide) (m_opb_of (ins := .ifCond .eq 16) (len := 3) (tag := 0) (a := 20) (b := 0) (c := 0) (q := 0) (by decide +kernel)) (if_neg c993) ?_
    refine m_R_sg (by decide) [(.aload_n 0, 1, 0, 0, 0, 0, 0), (.getfield 28, 3, 0, 11, 2, 3, 632), (.iconst 1, 1, 0, 1, 0, 0, 0), (.iconst (-1), 1, 0, 1, 1, 0, 0)] (by decide +kernel) (show m_sgl X _ _ _ _ _ = some (13, [some (.ref 0), some (.int v1), none], [.int (-1 : Int32), .int (1 : Int32), .ref 16], (SH, q1.2.1, q1.2.2)) from rfl) ?_
    obtain ⟨q2, hc2, h⟩ := Option.bind_eq_some_iff.mp h
    refine m_R_cV (v := (some (.int q2.1))) (h1 := (SH, q2.2)) (rest := []) (lo' := [some (.ref 16), some (.int (1 : Int32)), some (.int (-1 : Int32))]) (ml := 3) (k0 := 16) (by decide) (Or.inl rfl) (m_opb_of (ins := .invokevirtual 359) (len := 3) (tag := 5) (a := 117) (b := 2) (c := 0) (q := 1092) (by decide +kernel)) (by decide +kernel) rfl (show m_isO 117 16 (SH, _) = true from m_isO_of (by decide +kernel)) (Nat.le_of_ble_eq_true rfl) rfl rfl (ok_World_whichSays X (d + 0) F _ _ _ _ _ hc2) ?_
    refine m_R_sg (by decide) [(.iconst (-1), 1, 0, 1, 1, 0, 0)] (by decide +kernel) (show m_sgl X _ _ _ _ _ = some (17, [some (.ref 0), some (.int v1), none], [.int (-1 : Int32), .int q2.1], (SH, q2.2.1, q2.2.2)) from rfl) ?_
    rcases m_ite h with ⟨c994, h⟩ | ⟨c994, h⟩
    · refine m_R_1 (by decide) (m_opb_of (ins := .if_icmp .eq 10) (len := 3) (tag := 0) (a := 27) (b := 0) (c := 0) (q := 0) (by decide +kernel)) (if_pos c994) ?_
      refine m_R_sg (by decide) [(.aload_n 0, 1, 0, 0, 0, 0, 0), (.getfield 28, 3, 0, 11, 2, 3, 632), (.getfield 362, 3, 0, 10, 10, 0, 523), (.istore_n 2, 1, 0, 2, 0, 0, 0), (.aload_n 0, 1, 0, 0, 0, 0, 0), (.getfield 28, 3, 0, 11, 2, 3, 632), (.iload_n 1, 1, 0, 1, 0, 0, 0), (.putfield 362, 3, 0, 10, 10, 0, 523), (.iload_n 2, 1, 0, 2, 0, 0, 0)] (by decide +kernel) (show m_sgl X _ _ _ _ _ = some (44, [some (.ref 0), some (.int v1), some (.int (q2.2.1 16 10))], [.int (q2.2.1 16 10)], (SH, (m_up q2.2.1 16 10 v1), q2.2.2)) from rfl) ?_
      obtain ⟨rfl, rfl⟩ := m_some h
      exact m_R_iret (by decide) (m_opb_of (ins := .ireturn) (len := 1) (tag := 1) (a := 0) (b := 0) (c := 0) (q := 0) (by decide +kernel)) (Or.inl rfl)
    · refine m_R_1 (by decide) (m_opb_of (ins := .if_icmp .eq 10) (len := 3) (tag := 0) (a := 27) (b := 0) (c := 0) (q := 0) (by decide +kernel)) (if_neg c994) ?_
      exact ok_x_rate_20 X d F _ _ _ _ _ h
def f_m_rate_19 (F : Nat)    (m : mM) : Option (Int32 × mM) := ((f_m_refuse F (-7 : Int32) m).bind fun q3 => some (q3.1, q3.2))
theorem ok_m_rate_19 (X : mX) (d F : Nat) : ∀  (w1 : Option Value) (w2 : Option Value) (m : mM) (r : Int32) (m' : mM), f_m_rate_19 F  m = some (r, m') → m_R X (d + 68) 297 19 [some (.ref 304), w1, w2] [] (SH, m) (some (.int r), (SH, m')) := by
  intro w1 w2 m r m' h
  unfold f_m_rate_19 at h
  refine m_R_sg (by decide) [(.aload_n 0, 1, 0, 0, 0, 0, 0), (.bipush (-7), 2, 0, 7, 1, 0, 0)] (by decide +kernel) (show m_sgl X _ _ _ _ _ = some (22, [some (.ref 304), w1, w2], [.int (-7 : Int32), .ref 304], (SH, m.1, m.2)) from rfl) ?_
  obtain ⟨q3, hc3, h⟩ := Option.bind_eq_some_iff.mp h
  refine m_R_cV (v := (some (.int q3.1))) (h1 := (SH, q3.2)) (rest := []) (lo' := [some (.ref 304), some (.int (-7 : Int32))]) (ml := 2) (k0 := 304) (by decide) (Or.inl rfl) (m_opb_of (ins := .invokevirtual 61) (len := 3) (tag := 5) (a := 202) (b := 1) (c := 0) (q := 1593) (by decide +kernel)) (by decide +kernel) rfl (show m_isO 202 304 (SH, _) = true from m_isO_of (by decide +kernel)) (Nat.le_of_ble_eq_true rfl) rfl rfl (ok_m_refuse X (d + 67) F _ _ _ _ hc3) ?_
  obtain ⟨rfl, rfl⟩ := m_some h
  exact m_R_iret (by decide) (m_opb_of (ins := .ireturn) (len := 1) (tag := 1) (a := 0) (b := 0) (c := 0) (q := 0) (by decide +kernel)) (Or.inl rfl)
def f_m_rate (F : Nat)   (v1 : Int32) (m : mM) : Option (Int32 × mM) := ((f_m_in F v1 (0 : Int32) (20 : Int32) m).bind fun q1 => (if q1.1 = 0 then f_m_rate_19 F q1.2 else ((f_m_rules F (1 : Int32) (-1 : Int32) q1.2).bind fun q2 => (if q2.1 = 0 then some ((q2.2.1 305 (10 : Int32).toNatClampNeg), ((m_up q2.2.1 305 (10 : Int32).toNatClampNeg v1), q2.2.2)) else f_m_rate_19 F q2.2))))
theorem ok_m_rate (X : mX) (d F : Nat) : ∀ (v1 : Int32)  (m : mM) (r : Int32) (m' : mM), f_m_rate F v1 m = some (r, m') → m_R X (d + 68) 297 0 [some (.ref 304), some (.int v1), none] [] (SH, m) (some (.int r), (SH, m')) := by
  intro v1 m r m' h
  unfold f_m_rate at h
  refine m_R_sg (by decide) [(.iload_n 1, 1, 0, 1, 0, 0, 0), (.iconst 0, 1, 0, 0, 0, 0, 0), (.bipush 20, 2, 0, 20, 0, 0, 0)] (by decide +kernel) (show m_sgl X _ _ _ _ _ = some (4, [some (.ref 304), some (.int v1), none], [.int (20 : Int32), .int (0 : Int32), .int v1], (SH, m.1, m.2)) from rfl) ?_
  obtain ⟨q1, hc1, h⟩ := Option.bind_eq_some_iff.mp h
  refine m_R_cS (v := (some (.int q1.1))) (h1 := (SH, q1.2)) (rest := []) (lo' := [some (.int v1), some (.int (0 : Int32)), some (.int (20 : Int32))]) (ml := 3) (by decide) (m_opb_of (ins := .invokestatic 57) (len := 3) (tag := 4) (a := 201) (b := 3) (c := 0) (q := 1590) (by decide +kernel)) (by decide +kernel) (Nat.le_of_ble_eq_true rfl) rfl (Nat.le_of_ble_eq_true rfl) rfl rfl (ok_m_in X (d + 67) F _ _ _ _ _ _ hc1) ?_
  rcases m_ite h with ⟨c995, h⟩ | ⟨c995, h⟩
  · refine m_R_1 (by decide) (m_opb_of (ins := .ifCond .eq 12) (len := 3) (tag := 0) (a := 19) (b := 0) (c := 0) (q := 0) (by decide +kernel)) (if_pos c995) ?_
    exact ok_m_rate_19 X d F _ _ _ _ _ h
  · refine m_R_1 (by decide) (m_opb_of (ins := .ifCond .eq 12) (len := 3) (tag := 0) (a := 19) (b := 0) (c := 0) (q := 0) (by decide +kernel)) (if_neg c995) ?_
    refine m_R_sg (by decide) [(.aload_n 0, 1, 0, 0, 0, 0, 0), (.iconst 1, 1, 0, 1, 0, 0, 0), (.iconst (-1), 1, 0, 1, 1, 0, 0)] (by decide +kernel) (show m_sgl X _ _ _ _ _ = some (13, [some (.ref 304), some (.int v1), none], [.int (-1 : Int32), .int (1 : Int32), .ref 304], (SH, q1.2.1, q1.2.2)) from rfl) ?_
    obtain ⟨q2, hc2, h⟩ := Option.bind_eq_some_iff.mp h
    refine m_R_cV (v := (some (.int q2.1))) (h1 := (SH, q2.2)) (rest := []) (lo' := [some (.ref 304), some (.int (1 : Int32)), some (.int (-1 : Int32))]) (ml := 3) (k0 := 304) (by decide) (Or.inl rfl) (m_opb_of (ins := .invokevirtual 224) (len := 3) (tag := 5) (a := 227) (b := 2) (c := 0) (q := 1693) (by decide +kernel)) (by decide +kernel) rfl (show m_isO 227 304 (SH, _) = true from m_isO_of (by decide +kernel)) (Nat.le_of_ble_eq_true rfl) rfl rfl (ok_m_rules X (d + 0) F _ _ _ _ _ hc2) ?_
    rcases m_ite h with ⟨c996, h⟩ | ⟨c996, h⟩
    · refine m_R_1 (by decide) (m_opb_of (ins := .ifCond .eq 10) (len := 3) (tag := 0) (a := 26) (b := 0) (c := 0) (q := 0) (by decide +kernel)) (if_pos c996) ?_
      refine m_R_sg (by decide) [(.aload_n 0, 1, 0, 0, 0, 0, 0), (.getfield 13, 3, 0, 12, 1, 3, 1493), (.bipush 10, 2, 0, 10, 0, 0, 0)] (by decide +kernel) (show m_sgl X _ _ _ _ _ = some (32, [some (.ref 304), some (.int v1), none], [.int (10 : Int32), .ref 305], (SH, q2.2.1, q2.2.2)) from rfl) ?_
      refine m_R_1 (by decide) (m_opb_of (ins := .iaload) (len := 1) (tag := 0) (a := 0) (b := 0) (c := 0) (q := 0) (by decide +kernel)) (m_s_iald sh_305 (by decide) (show ¬ ((10 : Int32) < 0 ∨ 9732 ≤ (10 : Int32).toNatClampNeg) by decide)) ?_
      refine m_R_sg (by decide) [(.istore_n 2, 1, 0, 2, 0, 0, 0), (.aload_n 0, 1, 0, 0, 0, 0, 0), (.getfield 13, 3, 0, 12, 1, 3, 1493), (.bipush 10, 2, 0, 10, 0, 0, 0), (.iload_n 1, 1, 0, 1, 0, 0, 0)] (by decide +kernel) (show m_sgl X _ _ _ _ _ = some (41, [some (.ref 304), some (.int v1), some (.int (q2.2.1 305 (10 : Int32).toNatClampNeg))], [.int v1, .int (10 : Int32), .ref 305], (SH, q2.2.1, q2.2.2)) from rfl) ?_
      refine m_R_1 (by decide) (m_opb_of (ins := .iastore) (len := 1) (tag := 0) (a := 0) (b := 0) (c := 0) (q := 0) (by decide +kernel)) (m_s_iast sh_305 (show ¬ ((10 : Int32) < 0 ∨ 9732 ≤ (10 : Int32).toNatClampNeg) by decide)) ?_
      refine m_R_sg (by decide) [(.iload_n 2, 1, 0, 2, 0, 0, 0)] (by decide +kernel) (show m_sgl X _ _ _ _ _ = some (43, [some (.ref 304), some (.int v1), some (.int (q2.2.1 305 (10 : Int32).toNatClampNeg))], [.int (q2.2.1 305 (10 : Int32).toNatClampNeg)], (SH, (m_up q2.2.1 305 (10 : Int32).toNatClampNeg v1), q2.2.2)) from rfl) ?_
      obtain ⟨rfl, rfl⟩ := m_some h
      exact m_R_iret (by decide) (m_opb_of (ins := .ireturn) (len := 1) (tag := 1) (a := 0) (b := 0) (c := 0) (q := 0) (by decide +kernel)) (Or.inl rfl)
    · refine m_R_1 (by decide) (m_opb_of (ins := .ifCond .eq 10) (len := 3) (tag := 0) (a := 26) (b := 0) (c := 0) (q := 0) (by decide +kernel)) (if_neg c996) ?_
      exact ok_m_rate_19 X d F _ _ _ _ _ h
def f_Reader_addByte_29 (F : Nat)    (m : mM) : Option (Unit × mM) := some ((), m)
theorem ok_Reader_addByte_29 (X : mX) (d F : Nat) : ∀  (w0 : Option Value) (w1 : Option Value) (m : mM) (r : Unit) (m' : mM), f_Reader_addByte_29 F  m = some (r, m') → m_R X (d + 0) 119 29 [w0, w1] [] (SH, m) (none, (SH, m')) := by
  intro w0 w1 m r m' h
  unfold f_Reader_addByte_29 at h
  obtain ⟨rfl, rfl⟩ := m_some h
  exact m_R_vret (by decide) (m_opb_of (ins := .return_) (len := 1) (tag := 3) (a := 0) (b := 0) (c := 0) (q := 0) (by decide +kernel))
def f_Reader_addByte (F : Nat)   (v1 : Int32) (m : mM) : Option (Unit × mM) := (if (120 : Int32) ≤ (m.1 114 2) then f_Reader_addByte_29 F m else (if (m.1 114 2) < 0 ∨ 120 ≤ (m.1 114 2).toNatClampNeg then none else f_Reader_addByte_29 F ((m_up (m_up m.1 115 (m.1 114 2).toNatClampNeg v1) 114 2 (((m_up m.1 115 (m.1 114 2).toNatClampNeg v1) 114 2) + (1 : Int32))), m.2)))
theorem ok_Reader_addByte (X : mX) (d F : Nat) : ∀ (v1 : Int32)  (m : mM) (r : Unit) (m' : mM), f_Reader_addByte F v1 m = some (r, m') → m_R X (d + 0) 119 0 [some (.ref 114), some (.int v1)] [] (SH, m) (none, (SH, m')) := by
  intro v1 m r m' h
  unfold f_Reader_addByte at h
  refine m_R_sg (by decide) [(.aload_n 0, 1, 0, 0, 0, 0, 0), (.getfield 18, 3, 0, 5, 2, 0, 594), (.bipush 120, 2, 0, 120, 0, 0, 0)] (by decide +kernel) (show m_sgl X _ _ _ _ _ = some (6, [some (.ref 114), some (.int v1)], [.int (120 : Int32), .int (m.1 114 2)], (SH, m.1, m.2)) from rfl) ?_
  rcases m_ite h with ⟨c997, h⟩ | ⟨c997, h⟩
  · refine m_R_1 (by decide) (m_opb_of (ins := .if_icmp .ge 23) (len := 3) (tag := 0) (a := 29) (b := 0) (c := 0) (q := 0) (by decide +kernel)) (if_pos c997) ?_
    exact ok_Reader_addByte_29 X d F _ _ _ _ _ h
  · refine m_R_1 (by decide) (m_opb_of (ins := .if_icmp .ge 23) (len := 3) (tag := 0) (a := 29) (b := 0) (c := 0) (q := 0) (by decide +kernel)) (if_neg c997) ?_
    refine m_R_sg (by decide) [(.aload_n 0, 1, 0, 0, 0, 0, 0), (.getfield 9, 3, 0, 5, 0, 3, 591), (.aload_n 0, 1, 0, 0, 0, 0, 0), (.getfield 18, 3, 0, 5, 2, 0, 594), (.iload_n 1, 1, 0, 1, 0, 0, 0)] (by decide +kernel) (show m_sgl X _ _ _ _ _ = some (18, [some (.ref 114), some (.int v1)], [.int v1, .int (m.1 114 2), .ref 115], (SH, m.1, m.2)) from rfl) ?_
    obtain ⟨c998, h⟩ := m_ite_n h
    refine m_R_1 (by decide) (m_opb_of (ins := .iastore) (len := 1) (tag := 0) (a := 0) (b := 0) (c := 0) (q := 0) (by decide +kernel)) (m_s_iast sh_115 c998) ?_
    refine m_R_sg (by decide) [(.aload_n 0, 1, 0, 0, 0, 0, 0), (.dup, 1, 0, 0, 0, 0, 0), (.getfield 18, 3, 0, 5, 2, 0, 594), (.iconst 1, 1, 0, 1, 0, 0, 0), (.iadd, 1, 0, 0, 0, 0, 0), (.putfield 18, 3, 0, 5, 2, 0, 594)] (by decide +kernel) (show m_sgl X _ _ _ _ _ = some (29, [some (.ref 114), some (.int v1)], [], (SH, (m_up (m_up m.1 115 (m.1 114 2).toNatClampNeg v1) 114 2 (((m_up m.1 115 (m.1 114 2).toNatClampNeg v1) 114 2) + (1 : Int32))), m.2)) from rfl) ?_
    exact ok_Reader_addByte_29 X d F _ _ _ _ _ h
def f_x_feed_48 (F : Nat)   : Nat → Int32 → Int32 → mM → Option (Int32 × mM)
  | 0, _, _, _ => none
  | n + 1, v1, v3, m => (if v3 < 0 then some ((m.1 114 2), m) else ((f_Reader_addByte F ((v1 >>> (((8 : Int32) * v3) &&& 31)) &&& (255 : Int32)) m).bind fun q4 => f_x_feed_48 F n v1 (v3 + (-1 : Int32)) q4.2))
theorem ok_x_feed_48 (X : mX) (d F : Nat) : ∀ (n : Nat) (v1 : Int32) (v3 : Int32) (w2 : Option Value) (m : mM) (r : Int32) (m' : mM), f_x_feed_48 F n v1 v3 m = some (r, m') → m_R X (d + 1) 118 48 [some (.ref 0), some (.int v1), w2, some (.int v3)] [] (SH, m) (some (.int r), (SH, m')) := by
  intro n
  induction n with
  | zero => intro v1 v3 w2 m r m' h; cases h
  | succ n ih =>
    intro v1 v3 w2 m r m' h
    simp only [f_x_feed_48] at h
    refine m_R_sg (by decide) [(.iload_n 3, 1, 0, 3, 0, 0, 0)] (by decide +kernel) (show m_sgl X _ _ _ _ _ = some (49, [some (.ref 0), some (.int v1), w2, some (.int v3)], [.int v3], (SH, m.1, m.2)) from rfl) ?_
    rcases m_ite h with ⟨c999, h⟩ | ⟨c999, h⟩
    · refine m_R_1 (by decide) (m_opb_of (ins := .ifCond .lt 26) (len := 3) (tag := 0) (a := 75) (b := 0) (c := 0) (q := 0) (by decide +kernel)) (if_pos c999) ?_
      refine m_R_sg (by decide) [(.aload_n 0, 1, 0, 0, 0, 0, 0), (.getfield 49, 3, 0, 11, 6, 3, 636), (.getfield 365, 3, 0, 5, 2, 0, 595)] (by decide +kernel) (show m_sgl X _ _ _ _ _ = some (82, [some (.ref 0), some (.int v1), w2, some (.int v3)], [.int (m.1 114 2)], (SH, m.1, m.2)) from rfl) ?_
      obtain ⟨rfl, rfl⟩ := m_some h
      exact m_R_iret (by decide) (m_opb_of (ins := .ireturn) (len := 1) (tag := 1) (a := 0) (b := 0) (c := 0) (q := 0) (by decide +kernel)) (Or.inl rfl)
    · refine m_R_1 (by decide) (m_opb_of (ins := .ifCond .lt 26) (len := 3) (tag := 0) (a := 75) (b := 0) (c := 0) (q := 0) (by decide +kernel)) (if_neg c999) ?_
      refine m_R_sg (by decide) [(.aload_n 0, 1, 0, 0, 0, 0, 0), (.getfield 49, 3, 0, 11, 6, 3, 636), (.iload_n 1, 1, 0, 1, 0, 0, 0), (.bipush 8, 2, 0, 8, 0, 0, 0), (.iload_n 3, 1, 0, 3, 0, 0, 0), (.imul, 1, 0, 0, 0, 0, 0), (.ishr, 1, 0, 0, 0, 0, 0), (.sipush 255, 3, 0, 255, 0, 0, 0), (.iand, 1, 0, 0, 0, 0, 0)] (by decide +kernel) (show m_sgl X _ _ _ _ _ = some (66, [some (.ref 0), some (.int v1), w2, some (.int v3)], [.int ((v1 >>> (((8 : Int32) * v3) &&& 31)) &&& (255 : Int32)), .ref 114], (SH, m.1, m.2)) from rfl) ?_
      obtain ⟨q4, hc4, h⟩ := Option.bind_eq_some_iff.mp h
      refine m_R_cV (v := none) (h1 := (SH, q4.2)) (rest := []) (lo' := [some (.ref 114), some (.int ((v1 >>> (((8 : Int32) * v3) &&& 31)) &&& (255 : Int32)))]) (ml := 2) (k0 := 114) (by decide) (Or.inl rfl) (m_opb_of (ins := .invokevirtual 368) (len := 3) (tag := 5) (a := 119) (b := 1) (c := 0) (q := 1100) (by decide +kernel)) (by decide +kernel) rfl (show m_isO 119 114 (SH, _) = true from m_isO_of (by decide +kernel)) (Nat.le_of_ble_eq_true rfl) rfl rfl (ok_Reader_addByte X (d + 0) F _ _ _ _ hc4) ?_
      refine m_R_sg (by decide) [(.iinc 3 (-1), 3, 0, 3, 1, 1, 0), (.goto (-24), 3, 0, 48, 0, 0, 0)] (by decide +kernel) (show m_sgl X _ _ _ _ _ = some (48, [some (.ref 0), some (.int v1), w2, some (.int (v3 + (-1 : Int32)))], [], (SH, q4.2.1, q4.2.2)) from rfl) ?_
      exact ih _ _ _ _ _ _ h
def f_x_feed (F : Nat)   (v1 : Int32) (v2 : Int32) (m : mM) : Option (Int32 × mM) := (if 0 ≤ v2 then (if v2 ≤ (4 : Int32) then (if ((m.1 114 2) + v2) ≤ (120 : Int32) then f_x_feed_48 F F v1 (v2 - (1 : Int32)) m else ((f_x_refuse F (-8 : Int32) m).bind fun q1 => some (q1.1, q1.2))) else ((f_x_refuse F (-7 : Int32) m).bind fun q2 => some (q2.1, q2.2))) else ((f_x_refuse F (-4 : Int32) m).bind fun q3 => some (q3.1, q3.2)))
theorem ok_x_feed (X : mX) (d F : Nat) : ∀ (v1 : Int32) (v2 : Int32)  (m : mM) (r : Int32) (m' : mM), f_x_feed F v1 v2 m = some (r, m') → m_R X (d + 1) 118 0 [some (.ref 0), some (.int v1), some (.int v2), none] [] (SH, m) (some (.int r), (SH, m')) := by
  intro v1 v2 m r m' h
  unfold f_x_feed at h
  refine m_R_sg (by decide) [(.iload_n 2, 1, 0, 2, 0, 0, 0)] (by decide +kernel) (show m_sgl X _ _ _ _ _ = some (1, [some (.ref 0), some (.int v1), some (.int v2), none], [.int v2], (SH, m.1, m.2)) from rfl) ?_
  rcases m_ite h with ⟨c1000, h⟩ | ⟨c1000, h⟩
  · refine m_R_1 (by decide) (m_opb_of (ins := .ifCond .ge 10) (len := 3) (tag := 0) (a := 11) (b := 0) (c := 0) (q := 0) (by decide +kernel)) (if_pos c1000) ?_
    refine m_R_sg (by decide) [(.iload_n 2, 1, 0, 2, 0, 0, 0), (.iconst 4, 1, 0, 4, 0, 0, 0)] (by decide +kernel) (show m_sgl X _ _ _ _ _ = some (13, [some (.ref 0), some (.int v1), some (.int v2), none], [.int (4 : Int32), .int v2], (SH, m.1, m.2)) from rfl) ?_
    rcases m_ite h with ⟨c1001, h⟩ | ⟨c1001, h⟩
    · refine m_R_1 (by decide) (m_opb_of (ins := .if_icmp .le 10) (len := 3) (tag := 0) (a := 23) (b := 0) (c := 0) (q := 0) (by decide +kernel)) (if_pos c1001) ?_
      refine m_R_sg (by decide) [(.aload_n 0, 1, 0, 0, 0, 0, 0), (.getfield 49, 3, 0, 11, 6, 3, 636), (.getfield 365, 3, 0, 5, 2, 0, 595), (.iload_n 2, 1, 0, 2, 0, 0, 0), (.iadd, 1, 0, 0, 0, 0, 0), (.bipush 120, 2, 0, 120, 0, 0, 0)] (by decide +kernel) (show m_sgl X _ _ _ _ _ = some (34, [some (.ref 0), some (.int v1), some (.int v2), none], [.int (120 : Int32), .int ((m.1 114 2) + v2)], (SH, m.1, m.2)) from rfl) ?_
      rcases m_ite h with ⟨c1002, h⟩ | ⟨c1002, h⟩
      · refine m_R_1 (by decide) (m_opb_of (ins := .if_icmp .le 10) (len := 3) (tag := 0) (a := 44) (b := 0) (c := 0) (q := 0) (by decide +kernel)) (if_pos c1002) ?_
        refine m_R_sg (by decide) [(.iload_n 2, 1, 0, 2, 0, 0, 0), (.iconst 1, 1, 0, 1, 0, 0, 0), (.isub, 1, 0, 0, 0, 0, 0), (.istore_n 3, 1, 0, 3, 0, 0, 0)] (by decide +kernel) (show m_sgl X _ _ _ _ _ = some (48, [some (.ref 0), some (.int v1), some (.int v2), some (.int (v2 - (1 : Int32)))], [], (SH, m.1, m.2)) from rfl) ?_
        exact ok_x_feed_48 X d F F _ _ _ _ _ _ h
      · refine m_R_1 (by decide) (m_opb_of (ins := .if_icmp .le 10) (len := 3) (tag := 0) (a := 44) (b := 0) (c := 0) (q := 0) (by decide +kernel)) (if_neg c1002) ?_
        refine m_R_sg (by decide) [(.aload_n 0, 1, 0, 0, 0, 0, 0), (.bipush (-8), 2, 0, 8, 1, 0, 0)] (by decide +kernel) (show m_sgl X _ _ _ _ _ = some (40, [some (.ref 0), some (.int v1), some (.int v2), none], [.int (-8 : Int32), .ref 0], (SH, m.1, m.2)) from rfl) ?_
        obtain ⟨q1, hc1, h⟩ := Option.bind_eq_some_iff.mp h
        refine m_R_cV (v := (some (.int q1.1))) (h1 := (SH, q1.2)) (rest := []) (lo' := [some (.ref 0), some (.int (-8 : Int32))]) (ml := 2) (k0 := 0) (by decide) (Or.inl rfl) (m_opb_of (ins := .invokevirtual 76) (len := 3) (tag := 5) (a := 14) (b := 1) (c := 0) (q := 671) (by decide +kernel)) (by decide +kernel) rfl (show m_isO 14 0 (SH, _) = true from m_isO_of (by decide +kernel)) (Nat.le_of_ble_eq_true rfl) rfl rfl (ok_x_refuse X (d + 0) F _ _ _ _ hc1) ?_
        obtain ⟨rfl, rfl⟩ := m_some h
        exact m_R_iret (by decide) (m_opb_of (ins := .ireturn) (len := 1) (tag := 1) (a := 0) (b := 0) (c := 0) (q := 0) (by decide +kernel)) (Or.inl rfl)
    · refine m_R_1 (by decide) (m_opb_of (ins := .if_icmp .le 10) (len := 3) (tag := 0) (a := 23) (b := 0) (c := 0) (q := 0) (by decide +kernel)) (if_neg c1001) ?_
      refine m_R_sg (by decide) [(.aload_n 0, 1, 0, 0, 0, 0, 0), (.bipush (-7), 2, 0, 7, 1, 0, 0)] (by decide +kernel) (show m_sgl X _ _ _ _ _ = some (19, [some (.ref 0), some (.int v1), some (.int v2), none], [.int (-7 : Int32), .ref 0], (SH, m.1, m.2)) from rfl) ?_
      obtain ⟨q2, hc2, h⟩ := Option.bind_eq_some_iff.mp h
      refine m_R_cV (v := (some (.int q2.1))) (h1 := (SH, q2.2)) (rest := []) (lo' := [some (.ref 0), some (.int (-7 : Int32))]) (ml := 2) (k0 := 0) (by decide) (Or.inl rfl) (m_opb_of (ins := .invokevirtual 76) (len := 3) (tag := 5) (a := 14) (b := 1) (c := 0) (q := 671) (by decide +kernel)) (by decide +kernel) rfl (show m_isO 14 0 (SH, _) = true from m_isO_of (by decide +kernel)) (Nat.le_of_ble_eq_true rfl) rfl rfl (ok_x_refuse X (d + 0) F _ _ _ _ hc2) ?_
      obtain ⟨rfl, rfl⟩ := m_some h
      exact m_R_iret (by decide) (m_opb_of (ins := .ireturn) (len := 1) (tag := 1) (a := 0) (b := 0) (c := 0) (q := 0) (by decide +kernel)) (Or.inl rfl)
  · refine m_R_1 (by decide) (m_opb_of (ins := .ifCond .ge 10) (len := 3) (tag := 0) (a := 11) (b := 0) (c := 0) (q := 0) (by decide +kernel)) (if_neg c1000) ?_
    refine m_R_sg (by decide) [(.aload_n 0, 1, 0, 0, 0, 0, 0), (.bipush (-4), 2, 0, 4, 1, 0, 0)] (by decide +kernel) (show m_sgl X _ _ _ _ _ = some (7, [some (.ref 0), some (.int v1), some (.int v2), none], [.int (-4 : Int32), .ref 0], (SH, m.1, m.2)) from rfl) ?_
    obtain ⟨q3, hc3, h⟩ := Option.bind_eq_some_iff.mp h
    refine m_R_cV (v := (some (.int q3.1))) (h1 := (SH, q3.2)) (rest := []) (lo' := [some (.ref 0), some (.int (-4 : Int32))]) (ml := 2) (k0 := 0) (by decide) (Or.inl rfl) (m_opb_of (ins := .invokevirtual 76) (len := 3) (tag := 5) (a := 14) (b := 1) (c := 0) (q := 671) (by decide +kernel)) (by decide +kernel) rfl (show m_isO 14 0 (SH, _) = true from m_isO_of (by decide +kernel)) (Nat.le_of_ble_eq_true rfl) rfl rfl (ok_x_refuse X (d + 0) F _ _ _ _ hc3) ?_
    obtain ⟨rfl, rfl⟩ := m_some h
    exact m_R_iret (by decide) (m_opb_of (ins := .ireturn) (len := 1) (tag := 1) (a := 0) (b := 0) (c := 0) (q := 0) (by decide +kernel)) (Or.inl rfl)
def f_m_feed_78 (F : Nat)  (k45 : Int32 → Int32 → mM → Option (Int32 × mM)) (v1 : Int32) (v3 : Int32) (m : mM) : Option (Int32 × mM) := k45 v1 (v3 + (-1 : Int32)) m
theorem ok_m_feed_78 (X : mX) (d F : Nat) (k45 : Int32 → Int32 → mM → Option (Int32 × mM)) (hk45 : ∀ (v1 : Int32) (v3 : Int32) (w2 : Option Value) (m : mM) (r : Int32) (m' : mM), k45 v1 v3 m = some (r, m') → m_R X (d + 1) 298 45 [some (.ref 304), some (.int v1), w2, some (.int v3)] [] (SH, m) (some (.int r), (SH, m'))) : ∀ (v1 : Int32) (v3 : Int32) (w2 : Option Value) (m : mM) (r : Int32) (m' : mM), f_m_feed_78 F k45 v1 v3 m = some (r, m') → m_R X (d + 1) 298 78 [some (.ref 304), some (.int v1), w2, some (.int v3)] [] (SH, m) (some (.int r), (SH, m')) := by
  intro v1 v3 w2 m r m' h
  unfold f_m_feed_78 at h
  refine m_R_sg (by decide) [(.iinc 3 (-1), 3, 0, 3, 1, 1, 0), (.goto (-36), 3, 0, 45, 0, 0, 0)] (by decide +kernel) (show m_sgl X _ _ _ _ _ = some (45, [some (.ref 304), some (.int v1), w2, some (.int (v3 + (-1 : Int32)))], [], (SH, m.1, m.2)) from rfl) ?_
  exact hk45 _ _ _ _ _ _ h
def f_m_feed_45 (F : Nat)   : Nat → Int32 → Int32 → mM → Option (Int32 × mM)
  | 0, _, _, _ => none
  | n + 1, v1, v3, m => (if v3 < 0 then some ((m.1 304 9), m) else (if (m.1 304 9) < 0 ∨ 120 ≤ (m.1 304 9).toNatClampNeg then none else f_m_feed_78 F (f_m_feed_45 F n) v1 v3 ((m_up (m_up m.1 311 (m.1 304 9).toNatClampNeg ((v1 >>> (((8 : Int32) * v3) &&& 31)) &&& (255 : Int32))) 304 9 (((m_up m.1 311 (m.1 304 9).toNatClampNeg ((v1 >>> (((8 : Int32) * v3) &&& 31)) &&& (255 : Int32))) 304 9) + (1 : Int32))), m.2)))
theorem ok_m_feed_45 (X : mX) (d F : Nat) : ∀ (n : Nat) (v1 : Int32) (v3 : Int32) (w2 : Option Value) (m : mM) (r : Int32) (m' : mM), f_m_feed_45 F n v1 v3 m = some (r, m') → m_R X (d + 1) 298 45 [some (.ref 304), some (.int v1), w2, some (.int v3)] [] (SH, m) (some (.int r), (SH, m')) := by
  intro n
  induction n with
  | zero => intro v1 v3 w2 m r m' h; cases h
  | succ n ih =>
    intro v1 v3 w2 m r m' h
    simp only [f_m_feed_45] at h
    refine m_R_sg (by decide) [(.iload_n 3, 1, 0, 3, 0, 0, 0)] (by decide +kernel) (show m_sgl X _ _ _ _ _ = some (46, [some (.ref 304), some (.int v1), w2, some (.int v3)], [.int v3], (SH, m.1, m.2)) from rfl) ?_
    rcases m_ite h with ⟨c1003, h⟩ | ⟨c1003, h⟩
    · refine m_R_1 (by decide) (m_opb_of (ins := .ifCond .lt 38) (len := 3) (tag := 0) (a := 84) (b := 0) (c := 0) (q := 0) (by decide +kernel)) (if_pos c1003) ?_
      refine m_R_sg (by decide) [(.aload_n 0, 1, 0, 0, 0, 0, 0), (.getfield 378, 3, 0, 12, 9, 0, 1501)] (by decide +kernel) (show m_sgl X _ _ _ _ _ = some (88, [some (.ref 304), some (.int v1), w2, some (.int v3)], [.int (m.1 304 9)], (SH, m.1, m.2)) from rfl) ?_
      obtain ⟨rfl, rfl⟩ := m_some h
      exact m_R_iret (by decide) (m_opb_of (ins := .ireturn) (len := 1) (tag := 1) (a := 0) (b := 0) (c := 0) (q := 0) (by decide +kernel)) (Or.inl rfl)
    · refine m_R_1 (by decide) (m_opb_of (ins := .ifCond .lt 38) (len := 3) (tag := 0) (a := 84) (b := 0) (c := 0) (q := 0) (by decide +kernel)) (if_neg c1003) ?_
      refine m_R_sg (by decide) [(.aload_n 0, 1, 0, 0, 0, 0, 0), (.getfield 33, 3, 0, 12, 8, 3, 1500), (.aload_n 0, 1, 0, 0, 0, 0, 0), (.getfield 378, 3, 0, 12, 9, 0, 1501), (.iload_n 1, 1, 0, 1, 0, 0, 0), (.bipush 8, 2, 0, 8, 0, 0, 0), (.iload_n 3, 1, 0, 3, 0, 0, 0), (.imul, 1, 0, 0, 0, 0, 0), (.ishr, 1, 0, 0, 0, 0, 0), (.sipush 255, 3, 0, 255, 0, 0, 0), (.iand, 1, 0, 0, 0, 0, 0)] (by decide +kernel) (show m_sgl X _ _ _ _ _ = some (67, [some (.ref 304), some (.int v1), w2, some (.int v3)], [.int ((v1 >>> (((8 : Int32) * v3) &&& 31)) &&& (255 : Int32)), .int (m.1 304 9), .ref 311], (SH, m.1, m.2)) from rfl) ?_
      obtain ⟨c1004, h⟩ := m_ite_n h
      refine m_R_1 (by decide) (m_opb_of (ins := .iastore) (len := 1) (tag := 0) (a := 0) (b := 0) (c := 0) (q := 0) (by decide +kernel)) (m_s_iast sh_311 c1004) ?_
      refine m_R_sg (by decide) [(.aload_n 0, 1, 0, 0, 0, 0, 0), (.dup, 1, 0, 0, 0, 0, 0), (.getfield 378, 3, 0, 12, 9, 0, 1501), (.iconst 1, 1, 0, 1, 0, 0, 0), (.iadd, 1, 0, 0, 0, 0, 0), (.putfield 378, 3, 0, 12, 9, 0, 1501)] (by decide +kernel) (show m_sgl X _ _ _ _ _ = some (78, [some (.ref 304), some (.int v1), w2, some (.int v3)], [], (SH, (m_up (m_up m.1 311 (m.1 304 9).toNatClampNeg ((v1 >>> (((8 : Int32) * v3) &&& 31)) &&& (255 : Int32))) 304 9 (((m_up m.1 311 (m.1 304 9).toNatClampNeg ((v1 >>> (((8 : Int32) * v3) &&& 31)) &&& (255 : Int32))) 304 9) + (1 : Int32))), m.2)) from rfl) ?_
      exact ok_m_feed_78 X d F _ (fun a0 a1 a2 m r m' h => ih a0 a1 a2 m r m' h) _ _ _ _ _ _ h
def f_m_feed (F : Nat)   (v1 : Int32) (v2 : Int32) (m : mM) : Option (Int32 × mM) := (if 0 ≤ v2 then (if v2 ≤ (4 : Int32) then (if ((m.1 304 9) + v2) ≤ (120 : Int32) then f_m_feed_45 F F v1 (v2 - (1 : Int32)) m else ((f_m_refuse F (-8 : Int32) m).bind fun q1 => some (q1.1, q1.2))) else ((f_m_refuse F (-7 : Int32) m).bind fun q2 => some (q2.1, q2.2))) else ((f_m_refuse F (-4 : Int32) m).bind fun q3 => some (q3.1, q3.2)))
theorem ok_m_feed (X : mX) (d F : Nat) : ∀ (v1 : Int32) (v2 : Int32)  (m : mM) (r : Int32) (m' : mM), f_m_feed F v1 v2 m = some (r, m') → m_R X (d + 1) 298 0 [some (.ref 304), some (.int v1), some (.int v2), none] [] (SH, m) (some (.int r), (SH, m')) := by
  intro v1 v2 m r m' h
  unfold f_m_feed at h
  refine m_R_sg (by decide) [(.iload_n 2, 1, 0, 2, 0, 0, 0)] (by decide +kernel) (show m_sgl X _ _ _ _ _ = some (1, [some (.ref 304), some (.int v1), some (.int v2), none], [.int v2], (SH, m.1, m.2)) from rfl) ?_
  rcases m_ite h with ⟨c1005, h⟩ | ⟨c1005, h⟩
  · refine m_R_1 (by decide) (m_opb_of (ins := .ifCond .ge 10) (len := 3) (tag := 0) (a := 11) (b := 0) (c := 0) (q := 0) (by decide +kernel)) (if_pos c1005) ?_
    refine m_R_sg (by decide) [(.iload_n 2, 1, 0, 2, 0, 0, 0), (.iconst 4, 1, 0, 4, 0, 0, 0)] (by decide +kernel) (show m_sgl X _ _ _ _ _ = some (13, [some (.ref 304), some (.int v1), some (.int v2), none], [.int (4 : Int32), .int v2], (SH, m.1, m.2)) from rfl) ?_
    rcases m_ite h with ⟨c1006, h⟩ | ⟨c1006, h⟩
    · refine m_R_1 (by decide) (m_opb_of (ins := .if_icmp .le 10) (len := 3) (tag := 0) (a := 23) (b := 0) (c := 0) (q := 0) (by decide +kernel)) (if_pos c1006) ?_
      refine m_R_sg (by decide) [(.aload_n 0, 1, 0, 0, 0, 0, 0), (.getfield 378, 3, 0, 12, 9, 0, 1501), (.iload_n 2, 1, 0, 2, 0, 0, 0), (.iadd, 1, 0, 0, 0, 0, 0), (.bipush 120, 2, 0, 120, 0, 0, 0)] (by decide +kernel) (show m_sgl X _ _ _ _ _ = some (31, [some (.ref 304), some (.int v1), some (.int v2), none], [.int (120 : Int32), .int ((m.1 304 9) + v2)], (SH, m.1, m.2)) from rfl) ?_
      rcases m_ite h with ⟨c1007, h⟩ | ⟨c1007, h⟩
      · refine m_R_1 (by decide) (m_opb_of (ins := .if_icmp .le 10) (len := 3) (tag := 0) (a := 41) (b := 0) (c := 0) (q := 0) (by decide +kernel)) (if_pos c1007) ?_
        refine m_R_sg (by decide) [(.iload_n 2, 1, 0, 2, 0, 0, 0), (.iconst 1, 1, 0, 1, 0, 0, 0), (.isub, 1, 0, 0, 0, 0, 0), (.istore_n 3, 1, 0, 3, 0, 0, 0)] (by decide +kernel) (show m_sgl X _ _ _ _ _ = some (45, [some (.ref 304), some (.int v1), some (.int v2), some (.int (v2 - (1 : Int32)))], [], (SH, m.1, m.2)) from rfl) ?_
        exact ok_m_feed_45 X d F F _ _ _ _ _ _ h
      · refine m_R_1 (by decide) (m_opb_of (ins := .if_icmp .le 10) (len := 3) (tag := 0) (a := 41) (b := 0) (c := 0) (q := 0) (by decide +kernel)) (if_neg c1007) ?_
        refine m_R_sg (by decide) [(.aload_n 0, 1, 0, 0, 0, 0, 0), (.bipush (-8), 2, 0, 8, 1, 0, 0)] (by decide +kernel) (show m_sgl X _ _ _ _ _ = some (37, [some (.ref 304), some (.int v1), some (.int v2), none], [.int (-8 : Int32), .ref 304], (SH, m.1, m.2)) from rfl) ?_
        obtain ⟨q1, hc1, h⟩ := Option.bind_eq_some_iff.mp h
        refine m_R_cV (v := (some (.int q1.1))) (h1 := (SH, q1.2)) (rest := []) (lo' := [some (.ref 304), some (.int (-8 : Int32))]) (ml := 2) (k0 := 304) (by decide) (Or.inl rfl) (m_opb_of (ins := .invokevirtual 61) (len := 3) (tag := 5) (a := 202) (b := 1) (c := 0) (q := 1593) (by decide +kernel)) (by decide +kernel) rfl (show m_isO 202 304 (SH, _) = true from m_isO_of (by decide +kernel)) (Nat.le_of_ble_eq_true rfl) rfl rfl (ok_m_refuse X (d + 0) F _ _ _ _ hc1) ?_
        obtain ⟨rfl, rfl⟩ := m_some h
        exact m_R_iret (by decide) (m_opb_of (ins := .ireturn) (len := 1) (tag := 1) (a := 0) (b := 0) (c := 0) (q := 0) (by decide +kernel)) (Or.inl rfl)
    · refine m_R_1 (by decide) (m_opb_of (ins := .if_icmp .le 10) (len := 3) (tag := 0) (a := 23) (b := 0) (c := 0) (q := 0) (by decide +kernel)) (if_neg c1006) ?_
      refine m_R_sg (by decide) [(.aload_n 0, 1, 0, 0, 0, 0, 0), (.bipush (-7), 2, 0, 7, 1, 0, 0)] (by decide +kernel) (show m_sgl X _ _ _ _ _ = some (19, [some (.ref 304), some (.int v1), some (.int v2), none], [.int (-7 : Int32), .ref 304], (SH, m.1, m.2)) from rfl) ?_
      obtain ⟨q2, hc2, h⟩ := Option.bind_eq_some_iff.mp h
      refine m_R_cV (v := (some (.int q2.1))) (h1 := (SH, q2.2)) (rest := []) (lo' := [some (.ref 304), some (.int (-7 : Int32))]) (ml := 2) (k0 := 304) (by decide) (Or.inl rfl) (m_opb_of (ins := .invokevirtual 61) (len := 3) (tag := 5) (a := 202) (b := 1) (c := 0) (q := 1593) (by decide +kernel)) (by decide +kernel) rfl (show m_isO 202 304 (SH, _) = true from m_isO_of (by decide +kernel)) (Nat.le_of_ble_eq_true rfl) rfl rfl (ok_m_refuse X (d + 0) F _ _ _ _ hc2) ?_
      obtain ⟨rfl, rfl⟩ := m_some h
      exact m_R_iret (by decide) (m_opb_of (ins := .ireturn) (len := 1) (tag := 1) (a := 0) (b := 0) (c := 0) (q := 0) (by decide +kernel)) (Or.inl rfl)
  · refine m_R_1 (by decide) (m_opb_of (ins := .ifCond .ge 10) (len := 3) (tag := 0) (a := 11) (b := 0) (c := 0) (q := 0) (by decide +kernel)) (if_neg c1005) ?_
    refine m_R_sg (by decide) [(.aload_n 0, 1, 0, 0, 0, 0, 0), (.bipush (-4), 2, 0, 4, 1, 0, 0)] (by decide +kernel) (show m_sgl X _ _ _ _ _ = some (7, [some (.ref 304), some (.int v1), some (.int v2), none], [.int (-4 : Int32), .ref 304], (SH, m.1, m.2)) from rfl) ?_
    obtain ⟨q3, hc3, h⟩ := Option.bind_eq_some_iff.mp h
    refine m_R_cV (v := (some (.int q3.1))) (h1 := (SH, q3.2)) (rest := []) (lo' := [some (.ref 304), some (.int (-4 : Int32))]) (ml := 2) (k0 := 304) (by decide) (Or.inl rfl) (m_opb_of (ins := .invokevirtual 61) (len := 3) (tag := 5) (a := 202) (b := 1) (c := 0) (q := 1593) (by decide +kernel)) (by decide +kernel) rfl (show m_isO 202 304 (SH, _) = true from m_isO_of (by decide +kernel)) (Nat.le_of_ble_eq_true rfl) rfl rfl (ok_m_refuse X (d + 0) F _ _ _ _ hc3) ?_
    obtain ⟨rfl, rfl⟩ := m_some h
    exact m_R_iret (by decide) (m_opb_of (ins := .ireturn) (len := 1) (tag := 1) (a := 0) (b := 0) (c := 0) (q := 0) (by decide +kernel)) (Or.inl rfl)
def f_x_wipe (F : Nat)    (m : mM) : Option (Int32 × mM) := some ((m.1 114 2), ((m_up m.1 114 2 (0 : Int32)), m.2))
theorem ok_x_wipe (X : mX) (d F : Nat) : ∀   (m : mM) (r : Int32) (m' : mM), f_x_wipe F  m = some (r, m') → m_R X (d + 0) 120 0 [some (.ref 0), none] [] (SH, m) (some (.int r), (SH, m')) := by
  intro m r m' h
  unfold f_x_wipe at h
  refine m_R_sg (by decide) [(.aload_n 0, 1, 0, 0, 0, 0, 0), (.getfield 49, 3, 0, 11, 6, 3, 636), (.getfield 365, 3, 0, 5, 2, 0, 595), (.istore_n 1, 1, 0, 1, 0, 0, 0), (.aload_n 0, 1, 0, 0, 0, 0, 0), (.getfield 49, 3, 0, 11, 6, 3, 636), (.iconst 0, 1, 0, 0, 0, 0, 0), (.putfield 365, 3, 0, 5, 2, 0, 595), (.iload_n 1, 1, 0, 1, 0, 0, 0)] (by decide +kernel) (show m_sgl X _ _ _ _ _ = some (17, [some (.ref 0), some (.int (m.1 114 2))], [.int (m.1 114 2)], (SH, (m_up m.1 114 2 (0 : Int32)), m.2)) from rfl) ?_
  obtain ⟨rfl, rfl⟩ := m_some h
  exact m_R_iret (by decide) (m_opb_of (ins := .ireturn) (len := 1) (tag := 1) (a := 0) (b := 0) (c := 0) (q := 0) (by decide +kernel)) (Or.inl rfl)
def f_m_wipe (F : Nat)    (m : mM) : Option (Int32 × mM) := some ((m.1 304 9), ((m_up m.1 304 9 (0 : Int32)), m.2))
theorem ok_m_wipe (X : mX) (d F : Nat) : ∀   (m : mM) (r : Int32) (m' : mM), f_m_wipe F  m = some (r, m') → m_R X (d + 0) 299 0 [some (.ref 304), none] [] (SH, m) (some (.int r), (SH, m')) := by
  intro m r m' h
  unfold f_m_wipe at h
  refine m_R_sg (by decide) [(.aload_n 0, 1, 0, 0, 0, 0, 0), (.getfield 378, 3, 0, 12, 9, 0, 1501), (.istore_n 1, 1, 0, 1, 0, 0, 0), (.aload_n 0, 1, 0, 0, 0, 0, 0), (.iconst 0, 1, 0, 0, 0, 0, 0), (.putfield 378, 3, 0, 12, 9, 0, 1501), (.iload_n 1, 1, 0, 1, 0, 0, 0)] (by decide +kernel) (show m_sgl X _ _ _ _ _ = some (11, [some (.ref 304), some (.int (m.1 304 9))], [.int (m.1 304 9)], (SH, (m_up m.1 304 9 (0 : Int32)), m.2)) from rfl) ?_
  obtain ⟨rfl, rfl⟩ := m_some h
  exact m_R_iret (by decide) (m_opb_of (ins := .ireturn) (len := 1) (tag := 1) (a := 0) (b := 0) (c := 0) (q := 0) (by decide +kernel)) (Or.inl rfl)
def f_Reader_isLetter_17 (F : Nat)   (s0 : Int32) (m : mM) : Option (Int32 × mM) := (if s0 = 0 ∨ s0 = 1 then some (s0, m) else none)
theorem ok_Reader_isLetter_17 (X : mX) (d F : Nat) : ∀ (s0 : Int32) (w0 : Option Value) (m : mM) (r : Int32) (m' : mM), f_Reader_isLetter_17 F s0 m = some (r, m') → m_R X (d + 0) 124 17 [w0] [.int s0] (SH, m) (some (.int r), (SH, m')) := by
  intro s0 w0 m r m' h
  unfold f_Reader_isLetter_17 at h
  obtain ⟨c0, h⟩ := m_ite_p h
  obtain ⟨rfl, rfl⟩ := m_some h
  exact m_R_iret (by decide) (m_opb_of (ins := .ireturn) (len := 1) (tag := 1) (a := 1) (b := 0) (c := 0) (q := 0) (by decide +kernel)) (Or.inr c0)
def f_Reader_isLetter_16 (F : Nat)    (m : mM) : Option (Int32 × mM) := f_Reader_isLetter_17 F (0 : Int32) m
theorem ok_Reader_isLetter_16 (X : mX) (d F : Nat) : ∀  (w0 : Option Value) (m : mM) (r : Int32) (m' : mM), f_Reader_isLetter_16 F  m = some (r, m') → m_R X (d + 0) 124 16 [w0] [] (SH, m) (some (.int r), (SH, m')) := by
  intro w0 m r m' h
  unfold f_Reader_isLetter_16 at h
  refine m_R_sg (by decide) [(.iconst 0, 1, 0, 0, 0, 0, 0)] (by decide +kernel) (show m_sgl X _ _ _ _ _ = some (17, [w0], [.int (0 : Int32)], (SH, m.1, m.2)) from rfl) ?_
  exact ok_Reader_isLetter_17 X d F _ _ _ _ _ h
def f_Reader_isLetter (F : Nat)   (v0 : Int32) (m : mM) : Option (Int32 × mM) := (if v0 < (97 : Int32) then f_Reader_isLetter_16 F m else (if (122 : Int32) < v0 then f_Reader_isLetter_16 F m else f_Reader_isLetter_17 F (1 : Int32) m))
theorem ok_Reader_isLetter (X : mX) (d F : Nat) : ∀ (v0 : Int32)  (m : mM) (r : Int32) (m' : mM), f_Reader_isLetter F v0 m = some (r, m') → m_R X (d + 0) 124 0 [some (.int v0)] [] (SH, m) (some (.int r), (SH, m')) := by
  intro v0 m r m' h
  unfold f_Reader_isLetter at h
  refine m_R_sg (by decide) [(.iload_n 0, 1, 0, 0, 0, 0, 0), (.bipush 97, 2, 0, 97, 0, 0, 0)] (by decide +kernel) (show m_sgl X _ _ _ _ _ = some (3, [some (.int v0)], [.int (97 : Int32), .int v0], (SH, m.1, m.2)) from rfl) ?_
  rcases m_ite h with ⟨c1008, h⟩ | ⟨c1008, h⟩
  · refine m_R_1 (by decide) (m_opb_of (ins := .if_icmp .lt 13) (len := 3) (tag := 0) (a := 16) (b := 0) (c := 0) (q := 0) (by decide +kernel)) (if_pos c1008) ?_
    exact ok_Reader_isLetter_16 X d F _ _ _ _ h
  · refine m_R_1 (by decide) (m_opb_of (ins := .if_icmp .lt 13) (len := 3) (tag := 0) (a := 16) (b := 0) (c := 0) (q := 0) (by decide +kernel)) (if_neg c1008) ?_
    refine m_R_sg (by decide) [(.iload_n 0, 1, 0, 0, 0, 0, 0), (.bipush 122, 2, 0, 122, 0, 0, 0)] (by decide +kernel) (show m_sgl X _ _ _ _ _ = some (9, [some (.int v0)], [.int (122 : Int32), .int v0], (SH, m.1, m.2)) from rfl) ?_
    rcases m_ite h with ⟨c1009, h⟩ | ⟨c1009, h⟩
    · refine m_R_1 (by decide) (m_opb_of (ins := .if_icmp .gt 7) (len := 3) (tag := 0) (a := 16) (b := 0) (c := 0) (q := 0) (by decide +kernel)) (if_pos c1009) ?_
      exact ok_Reader_isLetter_16 X d F _ _ _ _ h
    · refine m_R_1 (by decide) (m_opb_of (ins := .if_icmp .gt 7) (len := 3) (tag := 0) (a := 16) (b := 0) (c := 0) (q := 0) (by decide +kernel)) (if_neg c1009) ?_
      refine m_R_sg (by decide) [(.iconst 1, 1, 0, 1, 0, 0, 0), (.goto 4, 3, 0, 17, 0, 0, 0)] (by decide +kernel) (show m_sgl X _ _ _ _ _ = some (17, [some (.int v0)], [.int (1 : Int32)], (SH, m.1, m.2)) from rfl) ?_
      exact ok_Reader_isLetter_17 X d F _ _ _ _ _ h
def f_Reader_isDigit_17 (F : Nat)   (s0 : Int32) (m : mM) : Option (Int32 × mM) := (if s0 = 0 ∨ s0 = 1 then some (s0, m) else none)
theorem ok_Reader_isDigit_17 (X : mX) (d F : Nat) : ∀ (s0 : Int32) (w0 : Option Value) (m : mM) (r : Int32) (m' : mM), f_Reader_isDigit_17 F s0 m = some (r, m') → m_R X (d + 0) 127 17 [w0] [.int s0] (SH, m) (some (.int r), (SH, m')) := by
  intro s0 w0 m r m' h
  unfold f_Reader_isDigit_17 at h
  obtain ⟨c0, h⟩ := m_ite_p h
  obtain ⟨rfl, rfl⟩ := m_some h
  exact m_R_iret (by decide) (m_opb_of (ins := .ireturn) (len := 1) (tag := 1) (a := 1) (b := 0) (c := 0) (q := 0) (by decide +kernel)) (Or.inr c0)
def f_Reader_isDigit_16 (F : Nat)    (m : mM) : Option (Int32 × mM) := f_Reader_isDigit_17 F (0 : Int32) m
theorem ok_Reader_isDigit_16 (X : mX) (d F : Nat) : ∀  (w0 : Option Value) (m : mM) (r : Int32) (m' : mM), f_Reader_isDigit_16 F  m = some (r, m') → m_R X (d + 0) 127 16 [w0] [] (SH, m) (some (.int r), (SH, m')) := by
  intro w0 m r m' h
  unfold f_Reader_isDigit_16 at h
  refine m_R_sg (by decide) [(.iconst 0, 1, 0, 0, 0, 0, 0)] (by decide +kernel) (show m_sgl X _ _ _ _ _ = some (17, [w0], [.int (0 : Int32)], (SH, m.1, m.2)) from rfl) ?_
  exact ok_Reader_isDigit_17 X d F _ _ _ _ _ h
def f_Reader_isDigit (F : Nat)   (v0 : Int32) (m : mM) : Option (Int32 × mM) := (if v0 < (48 : Int32) then f_Reader_isDigit_16 F m else (if (57 : Int32) < v0 then f_Reader_isDigit_16 F m else f_Reader_isDigit_17 F (1 : Int32) m))
theorem ok_Reader_isDigit (X : mX) (d F : Nat) : ∀ (v0 : Int32)  (m : mM) (r : Int32) (m' : mM), f_Reader_isDigit F v0 m = some (r, m') → m_R X (d + 0) 127 0 [some (.int v0)] [] (SH, m) (some (.int r), (SH, m')) := by
  intro v0 m r m' h
  unfold f_Reader_isDigit at h
  refine m_R_sg (by decide) [(.iload_n 0, 1, 0, 0, 0, 0, 0), (.bipush 48, 2, 0, 48, 0, 0, 0)] (by decide +kernel) (show m_sgl X _ _ _ _ _ = some (3, [some (.int v0)], [.int (48 : Int32), .int v0], (SH, m.1, m.2)) from rfl) ?_
  rcases m_ite h with ⟨c1010, h⟩ | ⟨c1010, h⟩
  · refine m_R_1 (by decide) (m_opb_of (ins := .if_icmp .lt 13) (len := 3) (tag := 0) (a := 16) (b := 0) (c := 0) (q := 0) (by decide +kernel)) (if_pos c1010) ?_
    exact ok_Reader_isDigit_16 X d F _ _ _ _ h
  · refine m_R_1 (by decide) (m_opb_of (ins := .if_icmp .lt 13) (len := 3) (tag := 0) (a := 16) (b := 0) (c := 0) (q := 0) (by decide +kernel)) (if_neg c1010) ?_
    refine m_R_sg (by decide) [(.iload_n 0, 1, 0, 0, 0, 0, 0), (.bipush 57, 2, 0, 57, 0, 0, 0)] (by decide +kernel) (show m_sgl X _ _ _ _ _ = some (9, [some (.int v0)], [.int (57 : Int32), .int v0], (SH, m.1, m.2)) from rfl) ?_
    rcases m_ite h with ⟨c1011, h⟩ | ⟨c1011, h⟩
    · refine m_R_1 (by decide) (m_opb_of (ins := .if_icmp .gt 7) (len := 3) (tag := 0) (a := 16) (b := 0) (c := 0) (q := 0) (by decide +kernel)) (if_pos c1011) ?_
      exact ok_Reader_isDigit_16 X d F _ _ _ _ h
    · refine m_R_1 (by decide) (m_opb_of (ins := .if_icmp .gt 7) (len := 3) (tag := 0) (a := 16) (b := 0) (c := 0) (q := 0) (by decide +kernel)) (if_neg c1011) ?_
      refine m_R_sg (by decide) [(.iconst 1, 1, 0, 1, 0, 0, 0), (.goto 4, 3, 0, 17, 0, 0, 0)] (by decide +kernel) (show m_sgl X _ _ _ _ _ = some (17, [some (.int v0)], [.int (1 : Int32)], (SH, m.1, m.2)) from rfl) ?_
      exact ok_Reader_isDigit_17 X d F _ _ _ _ _ h
def f_Reader_isSign (F : Nat)   (v0 : Int32) (m : mM) : Option (Int32 × mM) := (if v0 = (37 : Int32) then some ((1 : Int32), m) else (if v0 = (38 : Int32) then some ((0 : Int32), m) else (if v0 = (39 : Int32) then some ((0 : Int32), m) else (if v0 = (40 : Int32) then some ((1 : Int32), m) else (if v0 = (41 : Int32) then some ((1 : Int32), m) else (if v0 = (42 : Int32) then some ((1 : Int32), m) else (if v0 = (43 : Int32) then some ((1 : Int32), m) else (if v0 = (44 : Int32) then some ((0 : Int32), m) else (if v0 = (45 : Int32) then some ((1 : Int32), m) else (if v0 = (46 : Int32) then some ((0 : Int32), m) else (if v0 = (47 : Int32) then some ((1 : Int32), m) else (if v0 = (48 : Int32) then some ((0 : Int32), m) else (if v0 = (49 : Int32) then some ((0 : Int32), m) else (if v0 = (50 : Int32) then some ((0 : Int32), m) else (if v0 = (51 : Int32) then some ((0 : Int32), m) else (if v0 = (52 : Int32) then some ((0 : Int32), m) else (if v0 = (53 : Int32) then some ((0 : Int32), m) else (if v0 = (54 : Int32) then some ((0 : Int32), m) else (if v0 = (55 : Int32) then some ((0 : Int32), m) else (if v0 = (56 : Int32) then some ((0 : Int32), m) else (if v0 = (57 : Int32) then some ((0 : Int32), m) else (if v0 = (58 : Int32) then some ((0 : Int32), m) else (if v0 = (59 : Int32) then some ((0 : Int32), m) else (if v0 = (60 : Int32) then some ((1 : Int32), m) else (if v0 = (61 : Int32) then some ((1 : Int32), m) else (if v0 = (62 : Int32) then some ((1 : Int32), m) else some ((0 : Int32), m)))))))))))))))))))))))))))
theorem ok_Reader_isSign (X : mX) (d F : Nat) : ∀ (v0 : Int32)  (m : mM) (r : Int32) (m' : mM), f_Reader_isSign F v0 m = some (r, m') → m_R X (d + 0) 129 0 [some (.int v0)] [] (SH, m) (some (.int r), (SH, m')) := by
  intro v0 m r m' h
  unfold f_Reader_isSign at h
  refine m_R_sg (by decide) [(.iload_n 0, 1, 0, 0, 0, 0, 0)] (by decide +kernel) (show m_sgl X _ _ _ _ _ = some (1, [some (.int v0)], [.int v0], (SH, m.1, m.2)) from rfl) ?_
  rcases m_ite h with ⟨c0, h⟩ | ⟨d0, h⟩
  · refine m_R_1 (by decide) (m_opb_of (ins := .tableswitch 121 37 62 #[119, 121, 121, 119, 119, 119, 119, 121, 119, 121, 119, 121, 121, 121, 121, 121, 121, 121, 121, 121, 121, 121, 121, 119, 119, 119]) (len := 119) (tag := 0) (a := 0) (b := 0) (c := 0) (q := 0) (by decide +kernel)) (m_s_sw (by rw [c0]; decide) (by rw [c0]; rfl) (by decide) (t := 120) rfl) ?_
    refine m_R_sg (by decide) [(.iconst 1, 1, 0, 1, 0, 0, 0)] (by decide +kernel) (show m_sgl X _ _ _ _ _ = some (121, [some (.int v0)], [.int (1 : Int32)], (SH, m.1, m.2)) from rfl) ?_
    obtain ⟨rfl, rfl⟩ := m_some h
    exact m_R_iret (by decide) (m_opb_of (ins := .ireturn) (len := 1) (tag := 1) (a := 1) (b := 0) (c := 0) (q := 0) (by decide +kernel)) (Or.inr (Or.inr rfl))
  rcases m_ite h with ⟨c0, h⟩ | ⟨d1, h⟩
  · refine m_R_1 (by decide) (m_opb_of (ins := .tableswitch 121 37 62 #[119, 121, 121, 119, 119, 119, 119, 121, 119, 121, 119, 121, 121, 121, 121, 121, 121, 121, 121, 121, 121, 121, 121, 119, 119, 119]) (len := 119) (tag := 0) (a := 0) (b := 0) (c := 0) (q := 0) (by decide +kernel)) (m_s_sw (by rw [c0]; decide) (by rw [c0]; rfl) (by decide) (t := 122) rfl) ?_
    refine m_R_sg (by decide) [(.iconst 0, 1, 0, 0, 0, 0, 0)] (by decide +kernel) (show m_sgl X _ _ _ _ _ = some (123, [some (.int v0)], [.int (0 : Int32)], (SH, m.1, m.2)) from rfl) ?_
    obtain ⟨rfl, rfl⟩ := m_some h
    exact m_R_iret (by decide) (m_opb_of (ins := .ireturn) (len := 1) (tag := 1) (a := 1) (b := 0) (c := 0) (q := 0) (by decide +kernel)) (Or.inr (Or.inl rfl))
  rcases m_ite h with ⟨c0, h⟩ | ⟨d2, h⟩
  · refine m_R_1 (by decide) (m_opb_of (ins := .tableswitch 121 37 62 #[119, 121, 121, 119, 119, 119, 119, 121, 119, 121, 119, 121, 121, 121, 121, 121, 121, 121, 121, 121, 121, 121, 121, 119, 119, 119]) (len := 119) (tag := 0) (a := 0) (b := 0) (c := 0) (q := 0) (by decide +kernel)) (m_s_sw (by rw [c0]; decide) (by rw [c0]; rfl) (by decide) (t := 122) rfl) ?_
    refine m_R_sg (by decide) [(.iconst 0, 1, 0, 0, 0, 0, 0)] (by decide +kernel) (show m_sgl X _ _ _ _ _ = some (123, [some (.int v0)], [.int (0 : Int32)], (SH, m.1, m.2)) from rfl) ?_
    obtain ⟨rfl, rfl⟩ := m_some h
    exact m_R_iret (by decide) (m_opb_of (ins := .ireturn) (len := 1) (tag := 1) (a := 1) (b := 0) (c := 0) (q := 0) (by decide +kernel)) (Or.inr (Or.inl rfl))
  rcases m_ite h with ⟨c0, h⟩ | ⟨d3, h⟩
  · refine m_R_1 (by decide) (m_opb_of (ins := .tableswitch 121 37 62 #[119, 121, 121, 119, 119, 119, 119, 121, 119, 121, 119, 121, 121, 121, 121, 121, 121, 121, 121, 121, 121, 121, 121, 119, 119, 119]) (len := 119) (tag := 0) (a := 0) (b := 0) (c := 0) (q := 0) (by decide +kernel)) (m_s_sw (by rw [c0]; decide) (by rw [c0]; rfl) (by decide) (t := 120) rfl) ?_
    refine m_R_sg (by decide) [(.iconst 1, 1, 0, 1, 0, 0, 0)] (by decide +kernel) (show m_sgl X _ _ _ _ _ = some (121, [some (.int v0)], [.int (1 : Int32)], (SH, m.1, m.2)) from rfl) ?_
    obtain ⟨rfl, rfl⟩ := m_some h
    exact m_R_iret (by decide) (m_opb_of (ins := .ireturn) (len := 1) (tag := 1) (a := 1) (b := 0) (c := 0) (q := 0) (by decide +kernel)) (Or.inr (Or.inr rfl))
  rcases m_ite h with ⟨c0, h⟩ | ⟨d4, h⟩
  · refine m_R_1 (by decide) (m_opb_of (ins := .tableswitch 121 37 62 #[119, 121, 121, 119, 119, 119, 119, 121, 119, 121, 119, 121, 121, 121, 121, 121, 121, 121, 121, 121, 121, 121, 121, 119, 119, 119]) (len := 119) (tag := 0) (a := 0) (b := 0) (c := 0) (q := 0) (by decide +kernel)) (m_s_sw (by rw [c0]; decide) (by rw [c0]; rfl) (by decide) (t := 120) rfl) ?_
    refine m_R_sg (by decide) [(.iconst 1, 1, 0, 1, 0, 0, 0)] (by decide +kernel) (show m_sgl X _ _ _ _ _ = some (121, [some (.int v0)], [.int (1 : Int32)], (SH, m.1, m.2)) from rfl) ?_
    obtain ⟨rfl, rfl⟩ := m_some h
    exact m_R_iret (by decide) (m_opb_of (ins := .ireturn) (len := 1) (tag := 1) (a := 1) (b := 0) (c := 0) (q := 0) (by decide +kernel)) (Or.inr (Or.inr rfl))
  rcases m_ite h with ⟨c0, h⟩ | ⟨d5, h⟩
  · refine m_R_1 (by decide) (m_opb_of (ins := .tableswitch 121 37 62 #[119, 121, 121, 119, 119, 119, 119, 121, 119, 121, 119, 121, 121, 121, 121, 121, 121, 121, 121, 121, 121, 121, 121, 119, 119, 119]) (len := 119) (tag := 0) (a := 0) (b := 0) (c := 0) (q := 0) (by decide +kernel)) (m_s_sw (by rw [c0]; decide) (by rw [c0]; rfl) (by decide) (t := 120) rfl) ?_
    refine m_R_sg (by decide) [(.iconst 1, 1, 0, 1, 0, 0, 0)] (by decide +kernel) (show m_sgl X _ _ _ _ _ = some (121, [some (.int v0)], [.int (1 : Int32)], (SH, m.1, m.2)) from rfl) ?_
    obtain ⟨rfl, rfl⟩ := m_some h
    exact m_R_iret (by decide) (m_opb_of (ins := .ireturn) (len := 1) (tag := 1) (a := 1) (b := 0) (c := 0) (q := 0) (by decide +kernel)) (Or.inr (Or.inr rfl))
  rcases m_ite h with ⟨c0, h⟩ | ⟨d6, h⟩
  · refine m_R_1 (by decide) (m_opb_of (ins := .tableswitch 121 37 62 #[119, 121, 121, 119, 119, 119, 119, 121, 119, 121, 119, 121, 121, 121, 121, 121, 121, 121, 121, 121, 121, 121, 121, 119, 119, 119]) (len := 119) (tag := 0) (a := 0) (b := 0) (c := 0) (q := 0) (by decide +kernel)) (m_s_sw (by rw [c0]; decide) (by rw [c0]; rfl) (by decide) (t := 120) rfl) ?_
    refine m_R_sg (by decide) [(.iconst 1, 1, 0, 1, 0, 0, 0)] (by decide +kernel) (show m_sgl X _ _ _ _ _ = some (121, [some (.int v0)], [.int (1 : Int32)], (SH, m.1, m.2)) from rfl) ?_
    obtain ⟨rfl, rfl⟩ := m_some h
    exact m_R_iret (by decide) (m_opb_of (ins := .ireturn) (len := 1) (tag := 1) (a := 1) (b := 0) (c := 0) (q := 0) (by decide +kernel)) (Or.inr (Or.inr rfl))
  rcases m_ite h with ⟨c0, h⟩ | ⟨d7, h⟩
  · refine m_R_1 (by decide) (m_opb_of (ins := .tableswitch 121 37 62 #[119, 121, 121, 119, 119, 119, 119, 121, 119, 121, 119, 121, 121, 121, 121, 121, 121, 121, 121, 121, 121, 121, 121, 119, 119, 119]) (len := 119) (tag := 0) (a := 0) (b := 0) (c := 0) (q := 0) (by decide +kernel)) (m_s_sw (by rw [c0]; decide) (by rw [c0]; rfl) (by decide) (t := 122) rfl) ?_
    refine m_R_sg (by decide) [(.iconst 0, 1, 0, 0, 0, 0, 0)] (by decide +kernel) (show m_sgl X _ _ _ _ _ = some (123, [some (.int v0)], [.int (0 : Int32)], (SH, m.1, m.2)) from rfl) ?_
    obtain ⟨rfl, rfl⟩ := m_some h
    exact m_R_iret (by decide) (m_opb_of (ins := .ireturn) (len := 1) (tag := 1) (a := 1) (b := 0) (c := 0) (q := 0) (by decide +kernel)) (Or.inr (Or.inl rfl))
  rcases m_ite h with ⟨c0, h⟩ | ⟨d8, h⟩
  · refine m_R_1 (by decide) (m_opb_of (ins := .tableswitch 121 37 62 #[119, 121, 121, 119, 119, 119, 119, 121, 119, 121, 119, 121, 121, 121, 121, 121, 121, 121, 121, 121, 121, 121, 121, 119, 119, 119]) (len := 119) (tag := 0) (a := 0) (b := 0) (c := 0) (q := 0) (by decide +kernel)) (m_s_sw (by rw [c0]; decide) (by rw [c0]; rfl) (by decide) (t := 120) rfl) ?_
    refine m_R_sg (by decide) [(.iconst 1, 1, 0, 1, 0, 0, 0)] (by decide +kernel) (show m_sgl X _ _ _ _ _ = some (121, [some (.int v0)], [.int (1 : Int32)], (SH, m.1, m.2)) from rfl) ?_
    obtain ⟨rfl, rfl⟩ := m_some h
    exact m_R_iret (by decide) (m_opb_of (ins := .ireturn) (len := 1) (tag := 1) (a := 1) (b := 0) (c := 0) (q := 0) (by decide +kernel)) (Or.inr (Or.inr rfl))
  rcases m_ite h with ⟨c0, h⟩ | ⟨d9, h⟩
  · refine m_R_1 (by decide) (m_opb_of (ins := .tableswitch 121 37 62 #[119, 121, 121, 119, 119, 119, 119, 121, 119, 121, 119, 121, 121, 121, 121, 121, 121, 121, 121, 121, 121, 121, 121, 119, 119, 119]) (len := 119) (tag := 0) (a := 0) (b := 0) (c := 0) (q := 0) (by decide +kernel)) (m_s_sw (by rw [c0]; decide) (by rw [c0]; rfl) (by decide) (t := 122) rfl) ?_
    refine m_R_sg (by decide) [(.iconst 0, 1, 0, 0, 0, 0, 0)] (by decide +kernel) (show m_sgl X _ _ _ _ _ = some (123, [some (.int v0)], [.int (0 : Int32)], (SH, m.1, m.2)) from rfl) ?_
    obtain ⟨rfl, rfl⟩ := m_some h
    exact m_R_iret (by decide) (m_opb_of (ins := .ireturn) (len := 1) (tag := 1) (a := 1) (b := 0) (c := 0) (q := 0) (by decide +kernel)) (Or.inr (Or.inl rfl))
  rcases m_ite h with ⟨c0, h⟩ | ⟨d10, h⟩
  · refine m_R_1 (by decide) (m_opb_of (ins := .tableswitch 121 37 62 #[119, 121, 121, 119, 119, 119, 119, 121, 119, 121, 119, 121, 121, 121, 121, 121, 121, 121, 121, 121, 121, 121, 121, 119, 119, 119]) (len := 119) (tag := 0) (a := 0) (b := 0) (c := 0) (q := 0) (by decide +kernel)) (m_s_sw (by rw [c0]; decide) (by rw [c0]; rfl) (by decide) (t := 120) rfl) ?_
    refine m_R_sg (by decide) [(.iconst 1, 1, 0, 1, 0, 0, 0)] (by decide +kernel) (show m_sgl X _ _ _ _ _ = some (121, [some (.int v0)], [.int (1 : Int32)], (SH, m.1, m.2)) from rfl) ?_
    obtain ⟨rfl, rfl⟩ := m_some h
    exact m_R_iret (by decide) (m_opb_of (ins := .ireturn) (len := 1) (tag := 1) (a := 1) (b := 0) (c := 0) (q := 0) (by decide +kernel)) (Or.inr (Or.inr rfl))
  rcases m_ite h with ⟨c0, h⟩ | ⟨d11, h⟩
  · refine m_R_1 (by decide) (m_opb_of (ins := .tableswitch 121 37 62 #[119, 121, 121, 119, 119, 119, 119, 121, 119, 121, 119, 121, 121, 121, 121, 121, 121, 121, 121, 121, 121, 121, 121, 119, 119, 119]) (len := 119) (tag := 0) (a := 0) (b := 0) (c := 0) (q := 0) (by decide +kernel)) (m_s_sw (by rw [c0]; decide) (by rw [c0]; rfl) (by decide) (t := 122) rfl) ?_
    refine m_R_sg (by decide) [(.iconst 0, 1, 0, 0, 0, 0, 0)] (by decide +kernel) (show m_sgl X _ _ _ _ _ = some (123, [some (.int v0)], [.int (0 : Int32)], (SH, m.1, m.2)) from rfl) ?_
    obtain ⟨rfl, rfl⟩ := m_some h
    exact m_R_iret (by decide) (m_opb_of (ins := .ireturn) (len := 1) (tag := 1) (a := 1) (b := 0) (c := 0) (q := 0) (by decide +kernel)) (Or.inr (Or.inl rfl))
  rcases m_ite h with ⟨c0, h⟩ | ⟨d12, h⟩
  · refine m_R_1 (by decide) (m_opb_of (ins := .tableswitch 121 37 62 #[119, 121, 121, 119, 119, 119, 119, 121, 119, 121, 119, 121, 121, 121, 121, 121, 121, 121, 121, 121, 121, 121, 121, 119, 119, 119]) (len := 119) (tag := 0) (a := 0) (b := 0) (c := 0) (q := 0) (by decide +kernel)) (m_s_sw (by rw [c0]; decide) (by rw [c0]; rfl) (by decide) (t := 122) rfl) ?_
    refine m_R_sg (by decide) [(.iconst 0, 1, 0, 0, 0, 0, 0)] (by decide +kernel) (show m_sgl X _ _ _ _ _ = some (123, [some (.int v0)], [.int (0 : Int32)], (SH, m.1, m.2)) from rfl) ?_
    obtain ⟨rfl, rfl⟩ := m_some h
    exact m_R_iret (by decide) (m_opb_of (ins := .ireturn) (len := 1) (tag := 1) (a := 1) (b := 0) (c := 0) (q := 0) (by decide +kernel)) (Or.inr (Or.inl rfl))
  rcases m_ite h with ⟨c0, h⟩ | ⟨d13, h⟩
  · refine m_R_1 (by decide) (m_opb_of (ins := .tableswitch 121 37 62 #[119, 121, 121, 119, 119, 119, 119, 121, 119, 121, 119, 121, 121, 121, 121, 121, 121, 121, 121, 121, 121, 121, 121, 119, 119, 119]) (len := 119) (tag := 0) (a := 0) (b := 0) (c := 0) (q := 0) (by decide +kernel)) (m_s_sw (by rw [c0]; decide) (by rw [c0]; rfl) (by decide) (t := 122) rfl) ?_
    refine m_R_sg (by decide) [(.iconst 0, 1, 0, 0, 0, 0, 0)] (by decide +kernel) (show m_sgl X _ _ _ _ _ = some (123, [some (.int v0)], [.int (0 : Int32)], (SH, m.1, m.2)) from rfl) ?_
    obtain ⟨rfl, rfl⟩ := m_some h
    exact m_R_iret (by decide) (m_opb_of (ins := .ireturn) (len := 1) (tag := 1) (a := 1) (b := 0) (c := 0) (q := 0) (by decide +kernel)) (Or.inr (Or.inl rfl))
  rcases m_ite h with ⟨c0, h⟩ | ⟨d14, h⟩
  · refine m_R_1 (by decide) (m_opb_of (ins := .tableswitch 121 37 62 #[119, 121, 121, 119, 119, 119, 119, 121, 119, 121, 119, 121, 121, 121, 121, 121, 121, 121, 121, 121, 121, 121, 121, 119, 119, 119]) (len := 119) (tag := 0) (a := 0) (b := 0) (c := 0) (q := 0) (by decide +kernel)) (m_s_sw (by rw [c0]; decide) (by rw [c0]; rfl) (by decide) (t := 122) rfl) ?_
    refine m_R_sg (by decide) [(.iconst 0, 1, 0, 0, 0, 0, 0)] (by decide +kernel) (show m_sgl X _ _ _ _ _ = some (123, [some (.int v0)], [.int (0 : Int32)], (SH, m.1, m.2)) from rfl) ?_
    obtain ⟨rfl, rfl⟩ := m_some h
    exact m_R_iret (by decide) (m_opb_of (ins := .ireturn) (len := 1) (tag := 1) (a := 1) (b := 0) (c := 0) (q := 0) (by decide +kernel)) (Or.inr (Or.inl rfl))
  rcases m_ite h with ⟨c0, h⟩ | ⟨d15, h⟩
  · refine m_R_1 (by decide) (m_opb_of (ins := .tableswitch 121 37 62 #[119, 121, 121, 119, 119, 119, 119, 121, 119, 121, 119, 121, 121, 121, 121, 121, 121, 121, 121, 121, 121, 121, 121, 119, 119, 119]) (len := 119) (tag := 0) (a := 0) (b := 0) (c := 0) (q := 0) (by decide +kernel)) (m_s_sw (by rw [c0]; decide) (by rw [c0]; rfl) (by decide) (t := 122) rfl) ?_
    refine m_R_sg (by decide) [(.iconst 0, 1, 0, 0, 0, 0, 0)] (by decide +kernel) (show m_sgl X _ _ _ _ _ = some (123, [some (.int v0)], [.int (0 : Int32)], (SH, m.1, m.2)) from rfl) ?_
    obtain ⟨rfl, rfl⟩ := m_some h
    exact m_R_iret (by decide) (m_opb_of (ins := .ireturn) (len := 1) (tag := 1) (a := 1) (b := 0) (c := 0) (q := 0) (by decide +kernel)) (Or.inr (Or.inl rfl))
  rcases m_ite h with ⟨c0, h⟩ | ⟨d16, h⟩
  · refine m_R_1 (by decide) (m_opb_of (ins := .tableswitch 121 37 62 #[119, 121, 121, 119, 119, 119, 119, 121, 119, 121, 119, 121, 121, 121, 121, 121, 121, 121, 121, 121, 121, 121, 121, 119, 119, 119]) (len := 119) (tag := 0) (a := 0) (b := 0) (c := 0) (q := 0) (by decide +kernel)) (m_s_sw (by rw [c0]; decide) (by rw [c0]; rfl) (by decide) (t := 122) rfl) ?_
    refine m_R_sg (by decide) [(.iconst 0, 1, 0, 0, 0, 0, 0)] (by decide +kernel) (show m_sgl X _ _ _ _ _ = some (123, [some (.int v0)], [.int (0 : Int32)], (SH, m.1, m.2)) from rfl) ?_
    obtain ⟨rfl, rfl⟩ := m_some h
    exact m_R_iret (by decide) (m_opb_of (ins := .ireturn) (len := 1) (tag := 1) (a := 1) (b := 0) (c := 0) (q := 0) (by decide +kernel)) (Or.inr (Or.inl rfl))
  rcases m_ite h with ⟨c0, h⟩ | ⟨d17, h⟩
  · refine m_R_1 (by decide) (m_opb_of (ins := .tableswitch 121 37 62 #[119, 121, 121, 119, 119, 119, 119, 121, 119, 121, 119, 121, 121, 121, 121, 121, 121, 121, 121, 121, 121, 121, 121, 119, 119, 119]) (len := 119) (tag := 0) (a := 0) (b := 0) (c := 0) (q := 0) (by decide +kernel)) (m_s_sw (by rw [c0]; decide) (by rw [c0]; rfl) (by decide) (t := 122) rfl) ?_
    refine m_R_sg (by decide) [(.iconst 0, 1, 0, 0, 0, 0, 0)] (by decide +kernel) (show m_sgl X _ _ _ _ _ = some (123, [some (.int v0)], [.int (0 : Int32)], (SH, m.1, m.2)) from rfl) ?_
    obtain ⟨rfl, rfl⟩ := m_some h
    exact m_R_iret (by decide) (m_opb_of (ins := .ireturn) (len := 1) (tag := 1) (a := 1) (b := 0) (c := 0) (q := 0) (by decide +kernel)) (Or.inr (Or.inl rfl))
  rcases m_ite h with ⟨c0, h⟩ | ⟨d18, h⟩
  · refine m_R_1 (by decide) (m_opb_of (ins := .tableswitch 121 37 62 #[119, 121, 121, 119, 119, 119, 119, 121, 119, 121, 119, 121, 121, 121, 121, 121, 121, 121, 121, 121, 121, 121, 121, 119, 119, 119]) (len := 119) (tag := 0) (a := 0) (b := 0) (c := 0) (q := 0) (by decide +kernel)) (m_s_sw (by rw [c0]; decide) (by rw [c0]; rfl) (by decide) (t := 122) rfl) ?_
    refine m_R_sg (by decide) [(.iconst 0, 1, 0, 0, 0, 0, 0)] (by decide +kernel) (show m_sgl X _ _ _ _ _ = some (123, [some (.int v0)], [.int (0 : Int32)], (SH, m.1, m.2)) from rfl) ?_
    obtain ⟨rfl, rfl⟩ := m_some h
    exact m_R_iret (by decide) (m_opb_of (ins := .ireturn) (len := 1) (tag := 1) (a := 1) (b := 0) (c := 0) (q := 0) (by decide +kernel)) (Or.inr (Or.inl rfl))
  rcases m_ite h with ⟨c0, h⟩ | ⟨d19, h⟩
  · refine m_R_1 (by decide) (m_opb_of (ins := .tableswitch 121 37 62 #[119, 121, 121, 119, 119, 119, 119, 121, 119, 121, 119, 121, 121, 121, 121, 121, 121, 121, 121, 121, 121, 121, 121, 119, 119, 119]) (len := 119) (tag := 0) (a := 0) (b := 0) (c := 0) (q := 0) (by decide +kernel)) (m_s_sw (by rw [c0]; decide) (by rw [c0]; rfl) (by decide) (t := 122) rfl) ?_
    refine m_R_sg (by decide) [(.iconst 0, 1, 0, 0, 0, 0, 0)] (by decide +kernel) (show m_sgl X _ _ _ _ _ = some (123, [some (.int v0)], [.int (0 : Int32)], (SH, m.1, m.2)) from rfl) ?_
    obtain ⟨rfl, rfl⟩ := m_some h
    exact m_R_iret (by decide) (m_opb_of (ins := .ireturn) (len := 1) (tag := 1) (a := 1) (b := 0) (c := 0) (q := 0) (by decide +kernel)) (Or.inr (Or.inl rfl))
  rcases m_ite h with ⟨c0, h⟩ | ⟨d20, h⟩
  · refine m_R_1 (by decide) (m_opb_of (ins := .tableswitch 121 37 62 #[119, 121, 121, 119, 119, 119, 119, 121, 119, 121, 119, 121, 121, 121, 121, 121, 121, 121, 121, 121, 121, 121, 121, 119, 119, 119]) (len := 119) (tag := 0) (a := 0) (b := 0) (c := 0) (q := 0) (by decide +kernel)) (m_s_sw (by rw [c0]; decide) (by rw [c0]; rfl) (by decide) (t := 122) rfl) ?_
    refine m_R_sg (by decide) [(.iconst 0, 1, 0, 0, 0, 0, 0)] (by decide +kernel) (show m_sgl X _ _ _ _ _ = some (123, [some (.int v0)], [.int (0 : Int32)], (SH, m.1, m.2)) from rfl) ?_
    obtain ⟨rfl, rfl⟩ := m_some h
    exact m_R_iret (by decide) (m_opb_of (ins := .ireturn) (len := 1) (tag := 1) (a := 1) (b := 0) (c := 0) (q := 0) (by decide +kernel)) (Or.inr (Or.inl rfl))
  rcases m_ite h with ⟨c0, h⟩ | ⟨d21, h⟩
  · refine m_R_1 (by decide) (m_opb_of (ins := .tableswitch 121 37 62 #[119, 121, 121, 119, 119, 119, 119, 121, 119, 121, 119, 121, 121, 121, 121, 121, 121, 121, 121, 121, 121, 121, 121, 119, 119, 119]) (len := 119) (tag := 0) (a := 0) (b := 0) (c := 0) (q := 0) (by decide +kernel)) (m_s_sw (by rw [c0]; decide) (by rw [c0]; rfl) (by decide) (t := 122) rfl) ?_
    refine m_R_sg (by decide) [(.iconst 0, 1, 0, 0, 0, 0, 0)] (by decide +kernel) (show m_sgl X _ _ _ _ _ = some (123, [some (.int v0)], [.int (0 : Int32)], (SH, m.1, m.2)) from rfl) ?_
    obtain ⟨rfl, rfl⟩ := m_some h
    exact m_R_iret (by decide) (m_opb_of (ins := .ireturn) (len := 1) (tag := 1) (a := 1) (b := 0) (c := 0) (q := 0) (by decide +kernel)) (Or.inr (Or.inl rfl))
  rcases m_ite h with ⟨c0, h⟩ | ⟨d22, h⟩
  · refine m_R_1 (by decide) (m_opb_of (ins := .tableswitch 121 37 62 #[119, 121, 121, 119, 119, 119, 119, 121, 119, 121, 119, 121, 121, 121, 121, 121, 121, 121, 121, 121, 121, 121, 121, 119, 119, 119]) (len := 119) (tag := 0) (a := 0) (b := 0) (c := 0) (q := 0) (by decide +kernel)) (m_s_sw (by rw [c0]; decide) (by rw [c0]; rfl) (by decide) (t := 122) rfl) ?_
    refine m_R_sg (by decide) [(.iconst 0, 1, 0, 0, 0, 0, 0)] (by decide +kernel) (show m_sgl X _ _ _ _ _ = some (123, [some (.int v0)], [.int (0 : Int32)], (SH, m.1, m.2)) from rfl) ?_
    obtain ⟨rfl, rfl⟩ := m_some h
    exact m_R_iret (by decide) (m_opb_of (ins := .ireturn) (len := 1) (tag := 1) (a := 1) (b := 0) (c := 0) (q := 0) (by decide +kernel)) (Or.inr (Or.inl rfl))
  rcases m_ite h with ⟨c0, h⟩ | ⟨d23, h⟩
  · refine m_R_1 (by decide) (m_opb_of (ins := .tableswitch 121 37 62 #[119, 121, 121, 119, 119, 119, 119, 121, 119, 121, 119, 121, 121, 121, 121, 121, 121, 121, 121, 121, 121, 121, 121, 119, 119, 119]) (len := 119) (tag := 0) (a := 0) (b := 0) (c := 0) (q := 0) (by decide +kernel)) (m_s_sw (by rw [c0]; decide) (by rw [c0]; rfl) (by decide) (t := 120) rfl) ?_
    refine m_R_sg (by decide) [(.iconst 1, 1, 0, 1, 0, 0, 0)] (by decide +kernel) (show m_sgl X _ _ _ _ _ = some (121, [some (.int v0)], [.int (1 : Int32)], (SH, m.1, m.2)) from rfl) ?_
    obtain ⟨rfl, rfl⟩ := m_some h
    exact m_R_iret (by decide) (m_opb_of (ins := .ireturn) (len := 1) (tag := 1) (a := 1) (b := 0) (c := 0) (q := 0) (by decide +kernel)) (Or.inr (Or.inr rfl))
  rcases m_ite h with ⟨c0, h⟩ | ⟨d24, h⟩
  · refine m_R_1 (by decide) (m_opb_of (ins := .tableswitch 121 37 62 #[119, 121, 121, 119, 119, 119, 119, 121, 119, 121, 119, 121, 121, 121, 121, 121, 121, 121, 121, 121, 121, 121, 121, 119, 119, 119]) (len := 119) (tag := 0) (a := 0) (b := 0) (c := 0) (q := 0) (by decide +kernel)) (m_s_sw (by rw [c0]; decide) (by rw [c0]; rfl) (by decide) (t := 120) rfl) ?_
    refine m_R_sg (by decide) [(.iconst 1, 1, 0, 1, 0, 0, 0)] (by decide +kernel) (show m_sgl X _ _ _ _ _ = some (121, [some (.int v0)], [.int (1 : Int32)], (SH, m.1, m.2)) from rfl) ?_
    obtain ⟨rfl, rfl⟩ := m_some h
    exact m_R_iret (by decide) (m_opb_of (ins := .ireturn) (len := 1) (tag := 1) (a := 1) (b := 0) (c := 0) (q := 0) (by decide +kernel)) (Or.inr (Or.inr rfl))
  rcases m_ite h with ⟨c0, h⟩ | ⟨d25, h⟩
  · refine m_R_1 (by decide) (m_opb_of (ins := .tableswitch 121 37 62 #[119, 121, 121, 119, 119, 119, 119, 121, 119, 121, 119, 121, 121, 121, 121, 121, 121, 121, 121, 121, 121, 121, 121, 119, 119, 119]) (len := 119) (tag := 0) (a := 0) (b := 0) (c := 0) (q := 0) (by decide +kernel)) (m_s_sw (by rw [c0]; decide) (by rw [c0]; rfl) (by decide) (t := 120) rfl) ?_
    refine m_R_sg (by decide) [(.iconst 1, 1, 0, 1, 0, 0, 0)] (by decide +kernel) (show m_sgl X _ _ _ _ _ = some (121, [some (.int v0)], [.int (1 : Int32)], (SH, m.1, m.2)) from rfl) ?_
    obtain ⟨rfl, rfl⟩ := m_some h
    exact m_R_iret (by decide) (m_opb_of (ins := .ireturn) (len := 1) (tag := 1) (a := 1) (b := 0) (c := 0) (q := 0) (by decide +kernel)) (Or.inr (Or.inr rfl))
  refine m_R_1 (by decide) (m_opb_of (ins := .tableswitch 121 37 62 #[119, 121, 121, 119, 119, 119, 119, 121, 119, 121, 119, 121, 121, 121, 121, 121, 121, 121, 121, 121, 121, 121, 121, 119, 119, 119]) (len := 119) (tag := 0) (a := 0) (b := 0) (c := 0) (q := 0) (by decide +kernel)) (m_s_swd (m_swx 26 (fun j hj => match j, hj with | 0, _ => fun e => d0 (e.trans (by decide)) | 1, _ => fun e => d1 (e.trans (by decide)) | 2, _ => fun e => d2 (e.trans (by decide)) | 3, _ => fun e => d3 (e.trans (by decide)) | 4, _ => fun e => d4 (e.trans (by decide)) | 5, _ => fun e => d5 (e.trans (by decide)) | 6, _ => fun e => d6 (e.trans (by decide)) | 7, _ => fun e => d7 (e.trans (by decide)) | 8, _ => fun e => d8 (e.trans (by decide)) | 9, _ => fun e => d9 (e.trans (by decide)) | 10, _ => fun e => d10 (e.trans (by decide)) | 11, _ => fun e => d11 (e.trans (by decide)) | 12, _ => fun e => d12 (e.trans (by decide)) | 13, _ => fun e => d13 (e.trans (by decide)) | 14, _ => fun e => d14 (e.trans (by decide)) | 15, _ => fun e => d15 (e.trans (by decide)) | 16, _ => fun e => d16 (e.trans (by decide)) | 17, _ => fun e => d17 (e.trans (by decide)) | 18, _ => fun e => d18 (e.trans (by decide)) | 19, _ => fun e => d19 (e.trans (by decide)) | 20, _ => fun e => d20 (e.trans (by decide)) | 21, _ => fun e => d21 (e.trans (by decide)) | 22, _ => fun e => d22 (e.trans (by decide)) | 23, _ => fun e => d23 (e.trans (by decide)) | 24, _ => fun e => d24 (e.trans (by decide)) | 25, _ => fun e => d25 (e.trans (by decide)) | j + 26, hj => absurd hj (by omega))) (by decide) (t := 122) rfl) ?_
  refine m_R_sg (by decide) [(.iconst 0, 1, 0, 0, 0, 0, 0)] (by decide +kernel) (show m_sgl X _ _ _ _ _ = some (123, [some (.int v0)], [.int (0 : Int32)], (SH, m.1, m.2)) from rfl) ?_
  obtain ⟨rfl, rfl⟩ := m_some h
  exact m_R_iret (by decide) (m_opb_of (ins := .ireturn) (len := 1) (tag := 1) (a := 1) (b := 0) (c := 0) (q := 0) (by decide +kernel)) (Or.inr (Or.inl rfl))
def f_Reader_readNumber_65 (F : Nat)  (k5 : mM → Option (Unit × mM))  (m : mM) : Option (Unit × mM) := k5 m
theorem ok_Reader_readNumber_65 (X : mX) (d F : Nat) (k5 : mM → Option (Unit × mM)) (hk5 : ∀  (m : mM) (r : Unit) (m' : mM), k5  m = some (r, m') → m_R X (d + 1) 128 5 [some (.ref 114)] [] (SH, m) (none, (SH, m'))) : ∀   (m : mM) (r : Unit) (m' : mM), f_Reader_readNumber_65 F k5  m = some (r, m') → m_R X (d + 1) 128 65 [some (.ref 114)] [] (SH, m) (none, (SH, m')) := by
  intro m r m' h
  unfold f_Reader_readNumber_65 at h
  refine m_R_sg (by decide) [(.goto (-60), 3, 0, 5, 0, 0, 0)] (by decide +kernel) (show m_sgl X _ _ _ _ _ = some (5, [some (.ref 114)], [], (SH, m.1, m.2)) from rfl) ?_
  exact hk5 _ _ _ h
def f_Reader_readNumber_87 (F : Nat)   (s1 : Int32) (m : mM) : Option (Unit × mM) := some ((), ((m_up m.1 114 8 s1), m.2))
theorem ok_Reader_readNumber_87 (X : mX) (d F : Nat) : ∀ (s1 : Int32) (w0 : Option Value) (m : mM) (r : Unit) (m' : mM), f_Reader_readNumber_87 F s1 m = some (r, m') → m_R X (d + 1) 128 87 [w0] [.int s1, .ref 114] (SH, m) (none, (SH, m')) := by
  intro s1 w0 m r m' h
  unfold f_Reader_readNumber_87 at h
  refine m_R_sg (by decide) [(.putfield 34, 3, 0, 5, 8, 0, 604)] (by decide +kernel) (show m_sgl X _ _ _ _ _ = some (90, [w0], [], (SH, (m_up m.1 114 8 s1), m.2)) from rfl) ?_
  obtain ⟨rfl, rfl⟩ := m_some h
  exact m_R_vret (by decide) (m_opb_of (ins := .return_) (len := 1) (tag := 3) (a := 0) (b := 0) (c := 0) (q := 0) (by decide +kernel))
def f_Reader_readNumber_68 (F : Nat)    (m : mM) : Option (Unit × mM) := (if ((m.1 114 6) - (m.1 114 9)) ≤ (5 : Int32) then f_Reader_readNumber_87 F (2 : Int32) m else f_Reader_readNumber_87 F (1 : Int32) m)
theorem ok_Reader_readNumber_68 (X : mX) (d F : Nat) : ∀   (m : mM) (r : Unit) (m' : mM), f_Reader_readNumber_68 F  m = some (r, m') → m_R X (d + 1) 128 68 [some (.ref 114)] [] (SH, m) (none, (SH, m')) := by
  intro m r m' h
  unfold f_Reader_readNumber_68 at h
  refine m_R_sg (by decide) [(.aload_n 0, 1, 0, 0, 0, 0, 0), (.aload_n 0, 1, 0, 0, 0, 0, 0), (.getfield 22, 3, 0, 5, 6, 0, 602), (.aload_n 0, 1, 0, 0, 0, 0, 0), (.getfield 53, 3, 0, 5, 9, 0, 605), (.isub, 1, 0, 0, 0, 0, 0), (.iconst 5, 1, 0, 5, 0, 0, 0)] (by decide +kernel) (show m_sgl X _ _ _ _ _ = some (79, [some (.ref 114)], [.int (5 : Int32), .int ((m.1 114 6) - (m.1 114 9)), .ref 114], (SH, m.1, m.2)) from rfl) ?_
  rcases m_ite h with ⟨c1012, h⟩ | ⟨c1012, h⟩
  · refine m_R_1 (by decide) (m_opb_of (ins := .if_icmp .le 7) (len := 3) (tag := 0) (a := 86) (b := 0) (c := 0) (q := 0) (by decide +kernel)) (if_pos c1012) ?_
    refine m_R_sg (by decide) [(.iconst 2, 1, 0, 2, 0, 0, 0)] (by decide +kernel) (show m_sgl X _ _ _ _ _ = some (87, [some (.ref 114)], [.int (2 : Int32), .ref 114], (SH, m.1, m.2)) from rfl) ?_
    exact ok_Reader_readNumber_87 X d F _ _ _ _ _ h
  · refine m_R_1 (by decide) (m_opb_of (ins := .if_icmp .le 7) (len := 3) (tag := 0) (a := 86) (b := 0) (c := 0) (q := 0) (by decide +kernel)) (if_neg c1012) ?_
    refine m_R_sg (by decide) [(.iconst 1, 1, 0, 1, 0, 0, 0), (.goto 4, 3, 0, 87, 0, 0, 0)] (by decide +kernel) (show m_sgl X _ _ _ _ _ = some (87, [some (.ref 114)], [.int (1 : Int32), .ref 114], (SH, m.1, m.2)) from rfl) ?_
    exact ok_Reader_readNumber_87 X d F _ _ _ _ _ h
def f_Reader_readNumber_5 (F : Nat)   : Nat → mM → Option (Unit × mM)
  | 0, _ => none
  | n + 1, m => (if (m.1 114 2) ≤ (m.1 114 6) then f_Reader_readNumber_68 F m else (if (m.1 114 6) < 0 ∨ 120 ≤ (m.1 114 6).toNatClampNeg then none else ((f_Reader_isDigit F (m.1 115 (m.1 114 6).toNatClampNeg) m).bind fun q1 => (if q1.1 = 0 then f_Reader_readNumber_68 F q1.2 else (if (q1.2.1 114 6) < 0 ∨ 120 ≤ (q1.2.1 114 6).toNatClampNeg then none else f_Reader_readNumber_65 F (f_Reader_readNumber_5 F n) ((m_up (m_up q1.2.1 114 10 ((((10 : Int32) * (q1.2.1 114 10)) + (q1.2.1 115 (q1.2.1 114 6).toNatClampNeg)) - (48 : Int32))) 114 6 (((m_up q1.2.1 114 10 ((((10 : Int32) * (q1.2.1 114 10)) + (q1.2.1 115 (q1.2.1 114 6).toNatClampNeg)) - (48 : Int32))) 114 6) + (1 : Int32))), q1.2.2))))))
theorem ok_Reader_readNumber_5 (X : mX) (d F : Nat) : ∀ (n : Nat)   (m : mM) (r : Unit) (m' : mM), f_Reader_readNumber_5 F n  m = some (r, m') → m_R X (d + 1) 128 5 [some (.ref 114)] [] (SH, m) (none, (SH, m')) := by
  intro n
  induction n with
  | zero => intro m r m' h; cases h
  | succ n ih =>
    intro m r m' h
    simp only [f_Reader_readNumber_5] at h
    refine m_R_sg (by decide) [(.aload_n 0, 1, 0, 0, 0, 0, 0), (.getfield 22, 3, 0, 5, 6, 0, 602), (.aload_n 0, 1, 0, 0, 0, 0, 0), (.getfield 18, 3, 0, 5, 2, 0, 594)] (by decide +kernel) (show m_sgl X _ _ _ _ _ = some (13, [some (.ref 114)], [.int (m.1 114 2), .int (m.1 114 6)], (SH, m.1, m.2)) from rfl) ?_
    rcases m_ite h with ⟨c1013, h⟩ | ⟨c1013, h⟩
    · refine m_R_1 (by decide) (m_opb_of (ins := .if_icmp .ge 55) (len := 3) (tag := 0) (a := 68) (b := 0) (c := 0) (q := 0) (by decide +kernel)) (if_pos c1013) ?_
      exact ok_Reader_readNumber_68 X d F _ _ _ h
    · refine m_R_1 (by decide) (m_opb_of (ins := .if_icmp .ge 55) (len := 3) (tag := 0) (a := 68) (b := 0) (c := 0) (q := 0) (by decide +kernel)) (if_neg c1013) ?_
      refine m_R_sg (by decide) [(.aload_n 0, 1, 0, 0, 0, 0, 0), (.getfield 9, 3, 0, 5, 0, 3, 591), (.aload_n 0, 1, 0, 0, 0, 0, 0), (.getfield 22, 3, 0, 5, 6, 0, 602)] (by decide +kernel) (show m_sgl X _ _ _ _ _ = some (24, [some (.ref 114)], [.int (m.1 114 6), .ref 115], (SH, m.1, m.2)) from rfl) ?_
      obtain ⟨c1014, h⟩ := m_ite_n h
      refine m_R_1 (by decide) (m_opb_of (ins := .iaload) (len := 1) (tag := 0) (a := 0) (b := 0) (c := 0) (q := 0) (by decide +kernel)) (m_s_iald sh_115 (by decide) c1014) ?_
      obtain ⟨q1, hc1, h⟩ := Option.bind_eq_some_iff.mp h
      refine m_R_cS (v := (some (.int q1.1))) (h1 := (SH, q1.2)) (rest := []) (lo' := [some (.int (m.1 115 (m.1 114 6).toNatClampNeg))]) (ml := 1) (by decide) (m_opb_of (ins := .invokestatic 87) (len := 3) (tag := 4) (a := 127) (b := 1) (c := 0) (q := 1180) (by decide +kernel)) (by decide +kernel) (Nat.le_of_ble_eq_true rfl) rfl (Nat.le_of_ble_eq_true rfl) rfl rfl (ok_Reader_isDigit X (d + 0) F _ _ _ _ hc1) ?_
      rcases m_ite h with ⟨c1015, h⟩ | ⟨c1015, h⟩
      · refine m_R_1 (by decide) (m_opb_of (ins := .ifCond .eq 40) (len := 3) (tag := 0) (a := 68) (b := 0) (c := 0) (q := 0) (by decide +kernel)) (if_pos c1015) ?_
        exact ok_Reader_readNumber_68 X d F _ _ _ h
      · refine m_R_1 (by decide) (m_opb_of (ins := .ifCond .eq 40) (len := 3) (tag := 0) (a := 68) (b := 0) (c := 0) (q := 0) (by decide +kernel)) (if_neg c1015) ?_
        refine m_R_sg (by decide) [(.aload_n 0, 1, 0, 0, 0, 0, 0), (.bipush 10, 2, 0, 10, 0, 0, 0), (.aload_n 0, 1, 0, 0, 0, 0, 0), (.getfield 40, 3, 0, 5, 10, 0, 606), (.imul, 1, 0, 0, 0, 0, 0), (.aload_n 0, 1, 0, 0, 0, 0, 0), (.getfield 9, 3, 0, 5, 0, 3, 591), (.aload_n 0, 1, 0, 0, 0, 0, 0), (.getfield 22, 3, 0, 5, 6, 0, 602)] (by decide +kernel) (show m_sgl X _ _ _ _ _ = some (47, [some (.ref 114)], [.int (q1.2.1 114 6), .ref 115, .int ((10 : Int32) * (q1.2.1 114 10)), .ref 114], (SH, q1.2.1, q1.2.2)) from rfl) ?_
        obtain ⟨c1016, h⟩ := m_ite_n h
        refine m_R_1 (by decide) (m_opb_of (ins := .iaload) (len := 1) (tag := 0) (a := 0) (b := 0) (c := 0) (q := 0) (by decide +kernel)) (m_s_iald sh_115 (by decide) c1016) ?_
        refine m_R_sg (by decide) [(.iadd, 1, 0, 0, 0, 0, 0), (.bipush 48, 2, 0, 48, 0, 0, 0), (.isub, 1, 0, 0, 0, 0, 0), (.putfield 40, 3, 0, 5, 10, 0, 606), (.aload_n 0, 1, 0, 0, 0, 0, 0), (.dup, 1, 0, 0, 0, 0, 0), (.getfield 22, 3, 0, 5, 6, 0, 602), (.iconst 1, 1, 0, 1, 0, 0, 0), (.iadd, 1, 0, 0, 0, 0, 0), (.putfield 22, 3, 0, 5, 6, 0, 602)] (by decide +kernel) (show m_sgl X _ _ _ _ _ = some (65, [some (.ref 114)], [], (SH, (m_up (m_up q1.2.1 114 10 ((((10 : Int32) * (q1.2.1 114 10)) + (q1.2.1 115 (q1.2.1 114 6).toNatClampNeg)) - (48 : Int32))) 114 6 (((m_up q1.2.1 114 10 ((((10 : Int32) * (q1.2.1 114 10)) + (q1.2.1 115 (q1.2.1 114 6).toNatClampNeg)) - (48 : Int32))) 114 6) + (1 : Int32))), q1.2.2)) from rfl) ?_
        exact ok_Reader_readNumber_65 X d F _ (fun  m r m' h => ih  m r m' h) _ _ _ h
def f_Reader_readNumber (F : Nat)    (m : mM) : Option (Unit × mM) := f_Reader_readNumber_5 F F ((m_up m.1 114 10 (0 : Int32)), m.2)
theorem ok_Reader_readNumber (X : mX) (d F : Nat) : ∀   (m : mM) (r : Unit) (m' : mM), f_Reader_readNumber F  m = some (r, m') → m_R X (d + 1) 128 0 [some (.ref 114)] [] (SH, m) (none, (SH, m')) := by
  intro m r m' h
  unfold f_Reader_readNumber at h
  refine m_R_sg (by decide) [(.aload_n 0, 1, 0, 0, 0, 0, 0), (.iconst 0, 1, 0, 0, 0, 0, 0), (.putfield 40, 3, 0, 5, 10, 0, 606)] (by decide +kernel) (show m_sgl X _ _ _ _ _ = some (5, [some (.ref 114)], [], (SH, (m_up m.1 114 10 (0 : Int32)), m.2)) from rfl) ?_
  exact ok_Reader_readNumber_5 X d F F _ _ _ h
def f_Reader_readWord_116 (F : Nat)    (m : mM) : Option (Unit × mM) := some ((), m)
theorem ok_Reader_readWord_116 (X : mX) (d F : Nat) : ∀  (w0 : Option Value) (w1 : Option Value) (m : mM) (r : Unit) (m' : mM), f_Reader_readWord_116 F  m = some (r, m') → m_R X (d + 5) 125 116 [w0, w1] [] (SH, m) (none, (SH, m')) := by
  intro w0 w1 m r m' h
  unfold f_Reader_readWord_116 at h
  obtain ⟨rfl, rfl⟩ := m_some h
  exact m_R_vret (by decide) (m_opb_of (ins := .return_) (len := 1) (tag := 3) (a := 0) (b := 0) (c := 0) (q := 0) (by decide +kernel))
def f_Reader_readWord_39 (F : Nat)    (m : mM) : Option (Unit × mM) := ((((m_wd (m.1 115) 120 (m.1 114 9) (m.1 114 6) m_txt 0 (m.1 114 9) 1).map (fun r => (r, m)))).bind fun q2 => (if q2.1 = (-1 : Int32) then f_Reader_readWord_116 F ((m_up (m_up q2.2.1 114 10 q2.1) 114 8 (1 : Int32)), q2.2.2) else (if (7 : Int32) ≤ q2.1 then (if (17 : Int32) ≤ q2.1 then f_Reader_readWord_116 F ((m_up (m_up q2.2.1 114 10 q2.1) 114 8 (((5 : Int32) + q2.1) - (17 : Int32))), q2.2.2) else f_Reader_readWord_116 F ((m_up (m_up (m_up q2.2.1 114 10 q2.1) 114 8 (4 : Int32)) 114 10 (q2.1 - (7 : Int32))), q2.2.2)) else f_Reader_readWord_116 F ((m_up (m_up q2.2.1 114 10 q2.1) 114 8 (3 : Int32)), q2.2.2))))
theorem ok_Reader_readWord_39 (X : mX) (d F : Nat) : ∀  (w1 : Option Value) (m : mM) (r : Unit) (m' : mM), f_Reader_readWord_39 F  m = some (r, m') → m_R X (d + 5) 125 39 [some (.ref 114), w1] [] (SH, m) (none, (SH, m')) := by
  intro w1 m r m' h
  unfold f_Reader_readWord_39 at h
  refine m_R_sg (by decide) [(.aload_n 0, 1, 0, 0, 0, 0, 0), (.aload_n 0, 1, 0, 0, 0, 0, 0), (.getfield 53, 3, 0, 5, 9, 0, 605), (.aload_n 0, 1, 0, 0, 0, 0, 0), (.getfield 22, 3, 0, 5, 6, 0, 602)] (by decide +kernel) (show m_sgl X _ _ _ _ _ = some (48, [some (.ref 114), w1], [.int (m.1 114 6), .int (m.1 114 9), .ref 114], (SH, m.1, m.2)) from rfl) ?_
  obtain ⟨q2, hc2, h⟩ := Option.bind_eq_some_iff.mp h
  refine m_R_cV (v := (some (.int q2.1))) (h1 := (SH, q2.2)) (rest := []) (lo' := [some (.ref 114), some (.int (m.1 114 9)), some (.int (m.1 114 6)), none, none, none, none, none]) (ml := 8) (k0 := 114) (by decide) (Or.inl rfl) (m_opb_of (ins := .invokevirtual 96) (len := 3) (tag := 5) (a := 126) (b := 2) (c := 0) (q := 1127) (by decide +kernel)) (by decide +kernel) rfl (show m_isO 126 114 (SH, _) = true from m_isO_of (by decide +kernel)) (Nat.le_of_ble_eq_true rfl) rfl rfl (m_R_wal (d := d + 0) hc2) ?_
  refine m_R_sg (by decide) [(.istore_n 1, 1, 0, 1, 0, 0, 0), (.aload_n 0, 1, 0, 0, 0, 0, 0), (.iload_n 1, 1, 0, 1, 0, 0, 0), (.putfield 40, 3, 0, 5, 10, 0, 606), (.iload_n 1, 1, 0, 1, 0, 0, 0), (.iconst (-1), 1, 0, 1, 1, 0, 0)] (by decide +kernel) (show m_sgl X _ _ _ _ _ = some (59, [some (.ref 114), some (.int q2.1)], [.int (-1 : Int32), .int q2.1], (SH, (m_up q2.2.1 114 10 q2.1), q2.2.2)) from rfl) ?_
  rcases m_ite h with ⟨c1017, h⟩ | ⟨c1017, h⟩
  · refine m_R_1 (by decide) (m_opb_of (ins := .if_icmp .ne 11) (len := 3) (tag := 0) (a := 70) (b := 0) (c := 0) (q := 0) (by decide +kernel)) (if_pos c1017) ?_
    refine m_R_sg (by decide) [(.aload_n 0, 1, 0, 0, 0, 0, 0), (.iconst 1, 1, 0, 1, 0, 0, 0), (.putfield 34, 3, 0, 5, 8, 0, 604), (.goto 49, 3, 0, 116, 0, 0, 0)] (by decide +kernel) (show m_sgl X _ _ _ _ _ = some (116, [some (.ref 114), some (.int q2.1)], [], (SH, (m_up (m_up q2.2.1 114 10 q2.1) 114 8 (1 : Int32)), q2.2.2)) from rfl) ?_
    exact ok_Reader_readWord_116 X d F _ _ _ _ _ h
  · refine m_R_1 (by decide) (m_opb_of (ins := .if_icmp .ne 11) (len := 3) (tag := 0) (a := 70) (b := 0) (c := 0) (q := 0) (by decide +kernel)) (if_neg c1017) ?_
    refine m_R_sg (by decide) [(.iload_n 1, 1, 0, 1, 0, 0, 0), (.bipush 7, 2, 0, 7, 0, 0, 0)] (by decide +kernel) (show m_sgl X _ _ _ _ _ = some (73, [some (.ref 114), some (.int q2.1)], [.int (7 : Int32), .int q2.1], (SH, (m_up q2.2.1 114 10 q2.1), q2.2.2)) from rfl) ?_
    rcases m_ite h with ⟨c1018, h⟩ | ⟨c1018, h⟩
    · refine m_R_1 (by decide) (m_opb_of (ins := .if_icmp .ge 11) (len := 3) (tag := 0) (a := 84) (b := 0) (c := 0) (q := 0) (by decide +kernel)) (if_pos c1018) ?_
      refine m_R_sg (by decide) [(.iload_n 1, 1, 0, 1, 0, 0, 0), (.bipush 17, 2, 0, 17, 0, 0, 0)] (by decide +kernel) (show m_sgl X _ _ _ _ _ = some (87, [some (.ref 114), some (.int q2.1)], [.int (17 : Int32), .int q2.1], (SH, (m_up q2.2.1 114 10 q2.1), q2.2.2)) from rfl) ?_
      rcases m_ite h with ⟨c1019, h⟩ | ⟨c1019, h⟩
      · refine m_R_1 (by decide) (m_opb_of (ins := .if_icmp .ge 19) (len := 3) (tag := 0) (a := 106) (b := 0) (c := 0) (q := 0) (by decide +kernel)) (if_pos c1019) ?_
        refine m_R_sg (by decide) [(.aload_n 0, 1, 0, 0, 0, 0, 0), (.iconst 5, 1, 0, 5, 0, 0, 0), (.iload_n 1, 1, 0, 1, 0, 0, 0), (.iadd, 1, 0, 0, 0, 0, 0), (.bipush 17, 2, 0, 17, 0, 0, 0), (.isub, 1, 0, 0, 0, 0, 0), (.putfield 34, 3, 0, 5, 8, 0, 604)] (by decide +kernel) (show m_sgl X _ _ _ _ _ = some (116, [some (.ref 114), some (.int q2.1)], [], (SH, (m_up (m_up q2.2.1 114 10 q2.1) 114 8 (((5 : Int32) + q2.1) - (17 : Int32))), q2.2.2)) from rfl) ?_
        exact ok_Reader_readWord_116 X d F _ _ _ _ _ h
      · refine m_R_1 (by decide) (m_opb_of (ins := .if_icmp .ge 19) (len := 3) (tag := 0) (a := 106) (b := 0) (c := 0) (q := 0) (by decide +kernel)) (if_neg c1019) ?_
        refine m_R_sg (by decide) [(.aload_n 0, 1, 0, 0, 0, 0, 0), (.iconst 4, 1, 0, 4, 0, 0, 0), (.putfield 34, 3, 0, 5, 8, 0, 604), (.aload_n 0, 1, 0, 0, 0, 0, 0), (.iload_n 1, 1, 0, 1, 0, 0, 0), (.bipush 7, 2, 0, 7, 0, 0, 0), (.isub, 1, 0, 0, 0, 0, 0), (.putfield 40, 3, 0, 5, 10, 0, 606), (.goto 13, 3, 0, 116, 0, 0, 0)] (by decide +kernel) (show m_sgl X _ _ _ _ _ = some (116, [some (.ref 114), some (.int q2.1)], [], (SH, (m_up (m_up (m_up q2.2.1 114 10 q2.1) 114 8 (4 : Int32)) 114 10 (q2.1 - (7 : Int32))), q2.2.2)) from rfl) ?_
        exact ok_Reader_readWord_116 X d F _ _ _ _ _ h
    · refine m_R_1 (by decide) (m_opb_of (ins := .if_icmp .ge 11) (len := 3) (tag := 0) (a := 84) (b := 0) (c := 0) (q := 0) (by decide +kernel)) (if_neg c1018) ?_
      refine m_R_sg (by decide) [(.aload_n 0, 1, 0, 0, 0, 0, 0), (.iconst 3, 1, 0, 3, 0, 0, 0), (.putfield 34, 3, 0, 5, 8, 0, 604), (.goto 35, 3, 0, 116, 0, 0, 0)] (by decide +kernel) (show m_sgl X _ _ _ _ _ = some (116, [some (.ref 114), some (.int q2.1)], [], (SH, (m_up (m_up q2.2.1 114 10 q2.1) 114 8 (3 : Int32)), q2.2.2)) from rfl) ?_
      exact ok_Reader_readWord_116 X d F _ _ _ _ _ h
def f_Reader_readWord_0 (F : Nat)   : Nat → mM → Option (Unit × mM)
  | 0, _ => none
  | n + 1, m => (if (m.1 114 2) ≤ (m.1 114 6) then f_Reader_readWord_39 F m else (if (m.1 114 6) < 0 ∨ 120 ≤ (m.1 114 6).toNatClampNeg then none else ((f_Reader_isLetter F (m.1 115 (m.1 114 6).toNatClampNeg) m).bind fun q1 => (if q1.1 = 0 then f_Reader_readWord_39 F q1.2 else f_Reader_readWord_0 F n ((m_up q1.2.1 114 6 ((q1.2.1 114 6) + (1 : Int32))), q1.2.2)))))
theorem ok_Reader_readWord_0 (X : mX) (d F : Nat) : ∀ (n : Nat)  (w1 : Option Value) (m : mM) (r : Unit) (m' : mM), f_Reader_readWord_0 F n  m = some (r, m') → m_R X (d + 5) 125 0 [some (.ref 114), w1] [] (SH, m) (none, (SH, m')) := by
  intro n
  induction n with
  | zero => intro w1 m r m' h; cases h
  | succ n ih =>
    intro w1 m r m' h
    simp only [f_Reader_readWord_0] at h
    refine m_R_sg (by decide) [(.aload_n 0, 1, 0, 0, 0, 0, 0), (.getfield 22, 3, 0, 5, 6, 0, 602), (.aload_n 0, 1, 0, 0, 0, 0, 0), (.getfield 18, 3, 0, 5, 2, 0, 594)] (by decide +kernel) (show m_sgl X _ _ _ _ _ = some (8, [some (.ref 114), w1], [.int (m.1 114 2), .int (m.1 114 6)], (SH, m.1, m.2)) from rfl) ?_
    rcases m_ite h with ⟨c1020, h⟩ | ⟨c1020, h⟩
    · refine m_R_1 (by decide) (m_opb_of (ins := .if_icmp .ge 31) (len := 3) (tag := 0) (a := 39) (b := 0) (c := 0) (q := 0) (by decide +kernel)) (if_pos c1020) ?_
      exact ok_Reader_readWord_39 X d F _ _ _ _ h
    · refine m_R_1 (by decide) (m_opb_of (ins := .if_icmp .ge 31) (len := 3) (tag := 0) (a := 39) (b := 0) (c := 0) (q := 0) (by decide +kernel)) (if_neg c1020) ?_
      refine m_R_sg (by decide) [(.aload_n 0, 1, 0, 0, 0, 0, 0), (.getfield 9, 3, 0, 5, 0, 3, 591), (.aload_n 0, 1, 0, 0, 0, 0, 0), (.getfield 22, 3, 0, 5, 6, 0, 602)] (by decide +kernel) (show m_sgl X _ _ _ _ _ = some (19, [some (.ref 114), w1], [.int (m.1 114 6), .ref 115], (SH, m.1, m.2)) from rfl) ?_
      obtain ⟨c1021, h⟩ := m_ite_n h
      refine m_R_1 (by decide) (m_opb_of (ins := .iaload) (len := 1) (tag := 0) (a := 0) (b := 0) (c := 0) (q := 0) (by decide +kernel)) (m_s_iald sh_115 (by decide) c1021) ?_
      obtain ⟨q1, hc1, h⟩ := Option.bind_eq_some_iff.mp h
      refine m_R_cS (v := (some (.int q1.1))) (h1 := (SH, q1.2)) (rest := []) (lo' := [some (.int (m.1 115 (m.1 114 6).toNatClampNeg))]) (ml := 1) (by decide) (m_opb_of (ins := .invokestatic 80) (len := 3) (tag := 4) (a := 124) (b := 1) (c := 0) (q := 1120) (by decide +kernel)) (by decide +kernel) (Nat.le_of_ble_eq_true rfl) rfl (Nat.le_of_ble_eq_true rfl) rfl rfl (ok_Reader_isLetter X (d + 4) F _ _ _ _ hc1) ?_
      rcases m_ite h with ⟨c1022, h⟩ | ⟨c1022, h⟩
      · refine m_R_1 (by decide) (m_opb_of (ins := .ifCond .eq 16) (len := 3) (tag := 0) (a := 39) (b := 0) (c := 0) (q := 0) (by decide +kernel)) (if_pos c1022) ?_
        exact ok_Reader_readWord_39 X d F _ _ _ _ h
      · refine m_R_1 (by decide) (m_opb_of (ins := .ifCond .eq 16) (len := 3) (tag := 0) (a := 39) (b := 0) (c := 0) (q := 0) (by decide +kernel)) (if_neg c1022) ?_
        refine m_R_sg (by decide) [(.aload_n 0, 1, 0, 0, 0, 0, 0), (.dup, 1, 0, 0, 0, 0, 0), (.getfield 22, 3, 0, 5, 6, 0, 602), (.iconst 1, 1, 0, 1, 0, 0, 0), (.iadd, 1, 0, 0, 0, 0, 0), (.putfield 22, 3, 0, 5, 6, 0, 602), (.goto (-36), 3, 0, 0, 0, 0, 0)] (by decide +kernel) (show m_sgl X _ _ _ _ _ = some (0, [some (.ref 114), w1], [], (SH, (m_up q1.2.1 114 6 ((q1.2.1 114 6) + (1 : Int32))), q1.2.2)) from rfl) ?_
        exact ih _ _ _ _ h
def f_Reader_readWord (F : Nat)    (m : mM) : Option (Unit × mM) := f_Reader_readWord_0 F F m
theorem ok_Reader_readWord (X : mX) (d F : Nat) : ∀   (m : mM) (r : Unit) (m' : mM), f_Reader_readWord F  m = some (r, m') → m_R X (d + 5) 125 0 [some (.ref 114), none] [] (SH, m) (none, (SH, m')) := by
  intro m r m' h
  unfold f_Reader_readWord at h
  exact ok_Reader_readWord_0 X d F F _ _ _ _ h
def f_Reader_nextToken_151 (F : Nat)    (m : mM) : Option (Unit × mM) := some ((), m)
theorem ok_Reader_nextToken_151 (X : mX) (d F : Nat) : ∀  (w0 : Option Value) (m : mM) (r : Unit) (m' : mM), f_Reader_nextToken_151 F  m = some (r, m') → m_R X (d + 6) 123 151 [w0] [] (SH, m) (none, (SH, m')) := by
  intro w0 m r m' h
  unfold f_Reader_nextToken_151 at h
  obtain ⟨rfl, rfl⟩ := m_some h
  exact m_R_vret (by decide) (m_opb_of (ins := .return_) (len := 1) (tag := 3) (a := 0) (b := 0) (c := 0) (q := 0) (by decide +kernel))
def f_Reader_nextToken_138 (F : Nat)   (s1 : Int32) (m : mM) : Option (Unit × mM) := f_Reader_nextToken_151 F ((m_up (m_up m.1 114 8 s1) 114 6 (((m_up m.1 114 8 s1) 114 6) + (1 : Int32))), m.2)
theorem ok_Reader_nextToken_138 (X : mX) (d F : Nat) : ∀ (s1 : Int32)  (m : mM) (r : Unit) (m' : mM), f_Reader_nextToken_138 F s1 m = some (r, m') → m_R X (d + 6) 123 138 [some (.ref 114)] [.int s1, .ref 114] (SH, m) (none, (SH, m')) := by
  intro s1 m r m' h
  unfold f_Reader_nextToken_138 at h
  refine m_R_sg (by decide) [(.putfield 34, 3, 0, 5, 8, 0, 604), (.aload_n 0, 1, 0, 0, 0, 0, 0), (.dup, 1, 0, 0, 0, 0, 0), (.getfield 22, 3, 0, 5, 6, 0, 602), (.iconst 1, 1, 0, 1, 0, 0, 0), (.iadd, 1, 0, 0, 0, 0, 0), (.putfield 22, 3, 0, 5, 6, 0, 602)] (by decide +kernel) (show m_sgl X _ _ _ _ _ = some (151, [some (.ref 114)], [], (SH, (m_up (m_up m.1 114 8 s1) 114 6 (((m_up m.1 114 8 s1) 114 6) + (1 : Int32))), m.2)) from rfl) ?_
  exact ok_Reader_nextToken_151 X d F _ _ _ _ h
def f_Reader_nextToken_38 (F : Nat)    (m : mM) : Option (Unit × mM) := (if ((m_up m.1 114 9 (m.1 114 6)) 114 6) < ((m_up m.1 114 9 (m.1 114 6)) 114 2) then (if ((m_up m.1 114 9 (m.1 114 6)) 114 6) < 0 ∨ 120 ≤ ((m_up m.1 114 9 (m.1 114 6)) 114 6).toNatClampNeg then none else ((f_Reader_isLetter F ((m_up m.1 114 9 (m.1 114 6)) 115 ((m_up m.1 114 9 (m.1 114 6)) 114 6).toNatClampNeg) ((m_up m.1 114 9 (m.1 114 6)), m.2)).bind fun q1 => (if q1.1 = 0 then (if (q1.2.1 114 6) < 0 ∨ 120 ≤ (q1.2.1 114 6).toNatClampNeg then none else ((f_Reader_isDigit F (q1.2.1 115 (q1.2.1 114 6).toNatClampNeg) q1.2).bind fun q2 => (if q2.1 = 0 then (if (q2.2.1 114 6) < 0 ∨ 120 ≤ (q2.2.1 114 6).toNatClampNeg then none else ((f_Reader_isSign F (q2.2.1 115 (q2.2.1 114 6).toNatClampNeg) q2.2).bind fun q3 => (if q3.1 = 0 then f_Reader_nextToken_138 F (1 : Int32) q3.2 else (if (q3.2.1 114 6) < 0 ∨ 120 ≤ (q3.2.1 114 6).toNatClampNeg then none else f_Reader_nextToken_138 F (q3.2.1 115 (q3.2.1 114 6).toNatClampNeg) q3.2)))) else ((f_Reader_readNumber F q2.2).bind fun q4 => f_Reader_nextToken_151 F q4.2)))) else ((f_Reader_readWord F q1.2).bind fun q5 => f_Reader_nextToken_151 F q5.2)))) else f_Reader_nextToken_151 F ((m_up (m_up m.1 114 9 (m.1 114 6)) 114 8 (0 : Int32)), m.2))
theorem ok_Reader_nextToken_38 (X : mX) (d F : Nat) : ∀   (m : mM) (r : Unit) (m' : mM), f_Reader_nextToken_38 F  m = some (r, m') → m_R X (d + 6) 123 38 [some (.ref 114)] [] (SH, m) (none, (SH, m')) := by
  intro m r m' h
  unfold f_Reader_nextToken_38 at h
  refine m_R_sg (by decide) [(.aload_n 0, 1, 0, 0, 0, 0, 0), (.aload_n 0, 1, 0, 0, 0, 0, 0), (.getfield 22, 3, 0, 5, 6, 0, 602), (.putfield 53, 3, 0, 5, 9, 0, 605), (.aload_n 0, 1, 0, 0, 0, 0, 0), (.getfield 22, 3, 0, 5, 6, 0, 602), (.aload_n 0, 1, 0, 0, 0, 0, 0), (.getfield 18, 3, 0, 5, 2, 0, 594)] (by decide +kernel) (show m_sgl X _ _ _ _ _ = some (54, [some (.ref 114)], [.int ((m_up m.1 114 9 (m.1 114 6)) 114 2), .int ((m_up m.1 114 9 (m.1 114 6)) 114 6)], (SH, (m_up m.1 114 9 (m.1 114 6)), m.2)) from rfl) ?_
  rcases m_ite h with ⟨c1023, h⟩ | ⟨c1023, h⟩
  · refine m_R_1 (by decide) (m_opb_of (ins := .if_icmp .lt 11) (len := 3) (tag := 0) (a := 65) (b := 0) (c := 0) (q := 0) (by decide +kernel)) (if_pos c1023) ?_
    refine m_R_sg (by decide) [(.aload_n 0, 1, 0, 0, 0, 0, 0), (.getfield 9, 3, 0, 5, 0, 3, 591), (.aload_n 0, 1, 0, 0, 0, 0, 0), (.getfield 22, 3, 0, 5, 6, 0, 602)] (by decide +kernel) (show m_sgl X _ _ _ _ _ = some (73, [some (.ref 114)], [.int ((m_up m.1 114 9 (m.1 114 6)) 114 6), .ref 115], (SH, (m_up m.1 114 9 (m.1 114 6)), m.2)) from rfl) ?_
    obtain ⟨c1024, h⟩ := m_ite_n h
    refine m_R_1 (by decide) (m_opb_of (ins := .iaload) (len := 1) (tag := 0) (a := 0) (b := 0) (c := 0) (q := 0) (by decide +kernel)) (m_s_iald sh_115 (by decide) c1024) ?_
    obtain ⟨q1, hc1, h⟩ := Option.bind_eq_some_iff.mp h
    refine m_R_cS (v := (some (.int q1.1))) (h1 := (SH, q1.2)) (rest := []) (lo' := [some (.int ((m_up m.1 114 9 (m.1 114 6)) 115 ((m_up m.1 114 9 (m.1 114 6)) 114 6).toNatClampNeg))]) (ml := 1) (by decide) (m_opb_of (ins := .invokestatic 80) (len := 3) (tag := 4) (a := 124) (b := 1) (c := 0) (q := 1120) (by decide +kernel)) (by decide +kernel) (Nat.le_of_ble_eq_true rfl) rfl (Nat.le_of_ble_eq_true rfl) rfl rfl (ok_Reader_isLetter X (d + 5) F _ _ _ _ hc1) ?_
    rcases m_ite h with ⟨c1025, h⟩ | ⟨c1025, h⟩
    · refine m_R_1 (by decide) (m_opb_of (ins := .ifCond .eq 10) (len := 3) (tag := 0) (a := 87) (b := 0) (c := 0) (q := 0) (by decide +kernel)) (if_pos c1025) ?_
      refine m_R_sg (by decide) [(.aload_n 0, 1, 0, 0, 0, 0, 0), (.getfield 9, 3, 0, 5, 0, 3, 591), (.aload_n 0, 1, 0, 0, 0, 0, 0), (.getfield 22, 3, 0, 5, 6, 0, 602)] (by decide +kernel) (show m_sgl X _ _ _ _ _ = some (95, [some (.ref 114)], [.int (q1.2.1 114 6), .ref 115], (SH, q1.2.1, q1.2.2)) from rfl) ?_
      obtain ⟨c1026, h⟩ := m_ite_n h
      refine m_R_1 (by decide) (m_opb_of (ins := .iaload) (len := 1) (tag := 0) (a := 0) (b := 0) (c := 0) (q := 0) (by decide +kernel)) (m_s_iald sh_115 (by decide) c1026) ?_
      obtain ⟨q2, hc2, h⟩ := Option.bind_eq_some_iff.mp h
      refine m_R_cS (v := (some (.int q2.1))) (h1 := (SH, q2.2)) (rest := []) (lo' := [some (.int (q1.2.1 115 (q1.2.1 114 6).toNatClampNeg))]) (ml := 1) (by decide) (m_opb_of (ins := .invokestatic 87) (len := 3) (tag := 4) (a := 127) (b := 1) (c := 0) (q := 1180) (by decide +kernel)) (by decide +kernel) (Nat.le_of_ble_eq_true rfl) rfl (Nat.le_of_ble_eq_true rfl) rfl rfl (ok_Reader_isDigit X (d + 5) F _ _ _ _ hc2) ?_
      rcases m_ite h with ⟨c1027, h⟩ | ⟨c1027, h⟩
      · refine m_R_1 (by decide) (m_opb_of (ins := .ifCond .eq 10) (len := 3) (tag := 0) (a := 109) (b := 0) (c := 0) (q := 0) (by decide +kernel)) (if_pos c1027) ?_
        refine m_R_sg (by decide) [(.aload_n 0, 1, 0, 0, 0, 0, 0), (.aload_n 0, 1, 0, 0, 0, 0, 0), (.getfield 9, 3, 0, 5, 0, 3, 591), (.aload_n 0, 1, 0, 0, 0, 0, 0), (.getfield 22, 3, 0, 5, 6, 0, 602)] (by decide +kernel) (show m_sgl X _ _ _ _ _ = some (118, [some (.ref 114)], [.int (q2.2.1 114 6), .ref 115, .ref 114], (SH, q2.2.1, q2.2.2)) from rfl) ?_
        obtain ⟨c1028, h⟩ := m_ite_n h
        refine m_R_1 (by decide) (m_opb_of (ins := .iaload) (len := 1) (tag := 0) (a := 0) (b := 0) (c := 0) (q := 0) (by decide +kernel)) (m_s_iald sh_115 (by decide) c1028) ?_
        obtain ⟨q3, hc3, h⟩ := Option.bind_eq_some_iff.mp h
        refine m_R_cS (v := (some (.int q3.1))) (h1 := (SH, q3.2)) (rest := [.ref 114]) (lo' := [some (.int (q2.2.1 115 (q2.2.1 114 6).toNatClampNeg))]) (ml := 1) (by decide) (m_opb_of (ins := .invokestatic 93) (len := 3) (tag := 4) (a := 129) (b := 1) (c := 0) (q := 1187) (by decide +kernel)) (by decide +kernel) (Nat.le_of_ble_eq_true rfl) rfl (Nat.le_of_ble_eq_true rfl) rfl rfl (ok_Reader_isSign X (d + 5) F _ _ _ _ hc3) ?_
        rcases m_ite h with ⟨c1029, h⟩ | ⟨c1029, h⟩
        · refine m_R_1 (by decide) (m_opb_of (ins := .ifCond .eq 15) (len := 3) (tag := 0) (a := 137) (b := 0) (c := 0) (q := 0) (by decide +kernel)) (if_pos c1029) ?_
          refine m_R_sg (by decide) [(.iconst 1, 1, 0, 1, 0, 0, 0)] (by decide +kernel) (show m_sgl X _ _ _ _ _ = some (138, [some (.ref 114)], [.int (1 : Int32), .ref 114], (SH, q3.2.1, q3.2.2)) from rfl) ?_
          exact ok_Reader_nextToken_138 X d F _ _ _ _ h
        · refine m_R_1 (by decide) (m_opb_of (ins := .ifCond .eq 15) (len := 3) (tag := 0) (a := 137) (b := 0) (c := 0) (q := 0) (by decide +kernel)) (if_neg c1029) ?_
          refine m_R_sg (by decide) [(.aload_n 0, 1, 0, 0, 0, 0, 0), (.getfield 9, 3, 0, 5, 0, 3, 591), (.aload_n 0, 1, 0, 0, 0, 0, 0), (.getfield 22, 3, 0, 5, 6, 0, 602)] (by decide +kernel) (show m_sgl X _ _ _ _ _ = some (133, [some (.ref 114)], [.int (q3.2.1 114 6), .ref 115, .ref 114], (SH, q3.2.1, q3.2.2)) from rfl) ?_
          obtain ⟨c1030, h⟩ := m_ite_n h
          refine m_R_1 (by decide) (m_opb_of (ins := .iaload) (len := 1) (tag := 0) (a := 0) (b := 0) (c := 0) (q := 0) (by decide +kernel)) (m_s_iald sh_115 (by decide) c1030) ?_
          refine m_R_sg (by decide) [(.goto 4, 3, 0, 138, 0, 0, 0)] (by decide +kernel) (show m_sgl X _ _ _ _ _ = some (138, [some (.ref 114)], [.int (q3.2.1 115 (q3.2.1 114 6).toNatClampNeg), .ref 114], (SH, q3.2.1, q3.2.2)) from rfl) ?_
          exact ok_Reader_nextToken_138 X d F _ _ _ _ h
      · refine m_R_1 (by decide) (m_opb_of (ins := .ifCond .eq 10) (len := 3) (tag := 0) (a := 109) (b := 0) (c := 0) (q := 0) (by decide +kernel)) (if_neg c1027) ?_
        refine m_R_sg (by decide) [(.aload_n 0, 1, 0, 0, 0, 0, 0)] (by decide +kernel) (show m_sgl X _ _ _ _ _ = some (103, [some (.ref 114)], [.ref 114], (SH, q2.2.1, q2.2.2)) from rfl) ?_
        obtain ⟨q4, hc4, h⟩ := Option.bind_eq_some_iff.mp h
        refine m_R_cV (v := none) (h1 := (SH, q4.2)) (rest := []) (lo' := [some (.ref 114)]) (ml := 1) (k0 := 114) (by decide) (Or.inl rfl) (m_opb_of (ins := .invokevirtual 90) (len := 3) (tag := 5) (a := 128) (b := 0) (c := 0) (q := 1183) (by decide +kernel)) (by decide +kernel) rfl (show m_isO 128 114 (SH, _) = true from m_isO_of (by decide +kernel)) (Nat.le_of_ble_eq_true rfl) rfl rfl (ok_Reader_readNumber X (d + 4) F _ _ _ hc4) ?_
        refine m_R_sg (by decide) [(.goto 45, 3, 0, 151, 0, 0, 0)] (by decide +kernel) (show m_sgl X _ _ _ _ _ = some (151, [some (.ref 114)], [], (SH, q4.2.1, q4.2.2)) from rfl) ?_
        exact ok_Reader_nextToken_151 X d F _ _ _ _ h
    · refine m_R_1 (by decide) (m_opb_of (ins := .ifCond .eq 10) (len := 3) (tag := 0) (a := 87) (b := 0) (c := 0) (q := 0) (by decide +kernel)) (if_neg c1025) ?_
      refine m_R_sg (by decide) [(.aload_n 0, 1, 0, 0, 0, 0, 0)] (by decide +kernel) (show m_sgl X _ _ _ _ _ = some (81, [some (.ref 114)], [.ref 114], (SH, q1.2.1, q1.2.2)) from rfl) ?_
      obtain ⟨q5, hc5, h⟩ := Option.bind_eq_some_iff.mp h
      refine m_R_cV (v := none) (h1 := (SH, q5.2)) (rest := []) (lo' := [some (.ref 114), none]) (ml := 2) (k0 := 114) (by decide) (Or.inl rfl) (m_opb_of (ins := .invokevirtual 84) (len := 3) (tag := 5) (a := 125) (b := 0) (c := 0) (q := 1123) (by decide +kernel)) (by decide +kernel) rfl (show m_isO 125 114 (SH, _) = true from m_isO_of (by decide +kernel)) (Nat.le_of_ble_eq_true rfl) rfl rfl (ok_Reader_readWord X (d + 0) F _ _ _ hc5) ?_
      refine m_R_sg (by decide) [(.goto 67, 3, 0, 151, 0, 0, 0)] (by decide +kernel) (show m_sgl X _ _ _ _ _ = some (151, [some (.ref 114)], [], (SH, q5.2.1, q5.2.2)) from rfl) ?_
      exact ok_Reader_nextToken_151 X d F _ _ _ _ h
  · refine m_R_1 (by decide) (m_opb_of (ins := .if_icmp .lt 11) (len := 3) (tag := 0) (a := 65) (b := 0) (c := 0) (q := 0) (by decide +kernel)) (if_neg c1023) ?_
    refine m_R_sg (by decide) [(.aload_n 0, 1, 0, 0, 0, 0, 0), (.iconst 0, 1, 0, 0, 0, 0, 0), (.putfield 34, 3, 0, 5, 8, 0, 604), (.goto 89, 3, 0, 151, 0, 0, 0)] (by decide +kernel) (show m_sgl X _ _ _ _ _ = some (151, [some (.ref 114)], [], (SH, (m_up (m_up m.1 114 9 (m.1 114 6)) 114 8 (0 : Int32)), m.2)) from rfl) ?_
    exact ok_Reader_nextToken_151 X d F _ _ _ _ h
def f_Reader_nextToken_0 (F : Nat)   : Nat → mM → Option (Unit × mM)
  | 0, _ => none
  | n + 1, m => (if (m.1 114 2) ≤ (m.1 114 6) then f_Reader_nextToken_38 F m else (if (m.1 114 6) < 0 ∨ 120 ≤ (m.1 114 6).toNatClampNeg then none else (if (m.1 115 (m.1 114 6).toNatClampNeg) = (32 : Int32) then f_Reader_nextToken_0 F n ((m_up m.1 114 6 ((m.1 114 6) + (1 : Int32))), m.2) else f_Reader_nextToken_38 F m)))
theorem ok_Reader_nextToken_0 (X : mX) (d F : Nat) : ∀ (n : Nat)   (m : mM) (r : Unit) (m' : mM), f_Reader_nextToken_0 F n  m = some (r, m') → m_R X (d + 6) 123 0 [some (.ref 114)] [] (SH, m) (none, (SH, m')) := by
  intro n
  induction n with
  | zero => intro m r m' h; cases h
  | succ n ih =>
    intro m r m' h
    simp only [f_Reader_nextToken_0] at h
    refine m_R_sg (by decide) [(.aload_n 0, 1, 0, 0, 0, 0, 0), (.getfield 22, 3, 0, 5, 6, 0, 602), (.aload_n 0, 1, 0, 0, 0, 0, 0), (.getfield 18, 3, 0, 5, 2, 0, 594)] (by decide +kernel) (show m_sgl X _ _ _ _ _ = some (8, [some (.ref 114)], [.int (m.1 114 2), .int (m.1 114 6)], (SH, m.1, m.2)) from rfl) ?_
    rcases m_ite h with ⟨c1031, h⟩ | ⟨c1031, h⟩
    · refine m_R_1 (by decide) (m_opb_of (ins := .if_icmp .ge 30) (len := 3) (tag := 0) (a := 38) (b := 0) (c := 0) (q := 0) (by decide +kernel)) (if_pos c1031) ?_
      exact ok_Reader_nextToken_38 X d F _ _ _ h
    · refine m_R_1 (by decide) (m_opb_of (ins := .if_icmp .ge 30) (len := 3) (tag := 0) (a := 38) (b := 0) (c := 0) (q := 0) (by decide +kernel)) (if_neg c1031) ?_
      refine m_R_sg (by decide) [(.aload_n 0, 1, 0, 0, 0, 0, 0), (.getfield 9, 3, 0, 5, 0, 3, 591), (.aload_n 0, 1, 0, 0, 0, 0, 0), (.getfield 22, 3, 0, 5, 6, 0, 602)] (by decide +kernel) (show m_sgl X _ _ _ _ _ = some (19, [some (.ref 114)], [.int (m.1 114 6), .ref 115], (SH, m.1, m.2)) from rfl) ?_
      obtain ⟨c1032, h⟩ := m_ite_n h
      refine m_R_1 (by decide) (m_opb_of (ins := .iaload) (len := 1) (tag := 0) (a := 0) (b := 0) (c := 0) (q := 0) (by decide +kernel)) (m_s_iald sh_115 (by decide) c1032) ?_
      refine m_R_sg (by decide) [(.bipush 32, 2, 0, 32, 0, 0, 0)] (by decide +kernel) (show m_sgl X _ _ _ _ _ = some (22, [some (.ref 114)], [.int (32 : Int32), .int (m.1 115 (m.1 114 6).toNatClampNeg)], (SH, m.1, m.2)) from rfl) ?_
      rcases m_ite h with ⟨c1033, h⟩ | ⟨c1033, h⟩
      · refine m_R_1 (by decide) (m_opb_of (ins := .if_icmp .ne 16) (len := 3) (tag := 0) (a := 38) (b := 0) (c := 0) (q := 0) (by decide +kernel)) (if_pos c1033) ?_
        refine m_R_sg (by decide) [(.aload_n 0, 1, 0, 0, 0, 0, 0), (.dup, 1, 0, 0, 0, 0, 0), (.getfield 22, 3, 0, 5, 6, 0, 602), (.iconst 1, 1, 0, 1, 0, 0, 0), (.iadd, 1, 0, 0, 0, 0, 0), (.putfield 22, 3, 0, 5, 6, 0, 602), (.goto (-35), 3, 0, 0, 0, 0, 0)] (by decide +kernel) (show m_sgl X _ _ _ _ _ = some (0, [some (.ref 114)], [], (SH, (m_up m.1 114 6 ((m.1 114 6) + (1 : Int32))), m.2)) from rfl) ?_
        exact ih _ _ _ h
      · refine m_R_1 (by decide) (m_opb_of (ins := .if_icmp .ne 16) (len := 3) (tag := 0) (a := 38) (b := 0) (c := 0) (q := 0) (by decide +kernel)) (if_neg c1033) ?_
        exact ok_Reader_nextToken_38 X d F _ _ _ h
def f_Reader_nextToken (F : Nat)    (m : mM) : Option (Unit × mM) := f_Reader_nextToken_0 F F m
theorem ok_Reader_nextToken (X : mX) (d F : Nat) : ∀   (m : mM) (r : Unit) (m' : mM), f_Reader_nextToken F  m = some (r, m') → m_R X (d + 6) 123 0 [some (.ref 114)] [] (SH, m) (none, (SH, m')) := by
  intro m r m' h
  unfold f_Reader_nextToken at h
  exact ok_Reader_nextToken_0 X d F F _ _ _ h
def f_Reader_addCode_32 (F : Nat)    (m : mM) : Option (Unit × mM) := some ((), m)
theorem ok_Reader_addCode_32 (X : mX) (d F : Nat) : ∀  (w0 : Option Value) (w1 : Option Value) (m : mM) (r : Unit) (m' : mM), f_Reader_addCode_32 F  m = some (r, m') → m_R X (d + 0) 134 32 [w0, w1] [] (SH, m) (none, (SH, m')) := by
  intro w0 w1 m r m' h
  unfold f_Reader_addCode_32 at h
  obtain ⟨rfl, rfl⟩ := m_some h
  exact m_R_vret (by decide) (m_opb_of (ins := .return_) (len := 1) (tag := 3) (a := 0) (b := 0) (c := 0) (q := 0) (by decide +kernel))
def f_Reader_addCode (F : Nat)   (v1 : Int32) (m : mM) : Option (Unit × mM) := (if (Int32.ofNat 120) ≤ (m.1 114 3) then f_Reader_addCode_32 F m else (if (m.1 114 3) < 0 ∨ 120 ≤ (m.1 114 3).toNatClampNeg then none else f_Reader_addCode_32 F ((m_up (m_up m.1 116 (m.1 114 3).toNatClampNeg v1) 114 3 (((m_up m.1 116 (m.1 114 3).toNatClampNeg v1) 114 3) + (1 : Int32))), m.2)))
theorem ok_Reader_addCode (X : mX) (d F : Nat) : ∀ (v1 : Int32)  (m : mM) (r : Unit) (m' : mM), f_Reader_addCode F v1 m = some (r, m') → m_R X (d + 0) 134 0 [some (.ref 114), some (.int v1)] [] (SH, m) (none, (SH, m')) := by
  intro v1 m r m' h
  unfold f_Reader_addCode at h
  refine m_R_sg (by decide) [(.aload_n 0, 1, 0, 0, 0, 0, 0), (.getfield 25, 3, 0, 5, 3, 0, 596), (.aload_n 0, 1, 0, 0, 0, 0, 0), (.getfield 15, 3, 0, 5, 1, 3, 592), (.arraylength, 1, 0, 0, 0, 0, 0)] (by decide +kernel) (show m_sgl X _ _ _ _ _ = some (9, [some (.ref 114), some (.int v1)], [.int (Int32.ofNat 120), .int (m.1 114 3)], (SH, m.1, m.2)) from rfl) ?_
  rcases m_ite h with ⟨c1034, h⟩ | ⟨c1034, h⟩
  · refine m_R_1 (by decide) (m_opb_of (ins := .if_icmp .ge 23) (len := 3) (tag := 0) (a := 32) (b := 0) (c := 0) (q := 0) (by decide +kernel)) (if_pos c1034) ?_
    exact ok_Reader_addCode_32 X d F _ _ _ _ _ h
  · refine m_R_1 (by decide) (m_opb_of (ins := .if_icmp .ge 23) (len := 3) (tag := 0) (a := 32) (b := 0) (c := 0) (q := 0) (by decide +kernel)) (if_neg c1034) ?_
    refine m_R_sg (by decide) [(.aload_n 0, 1, 0, 0, 0, 0, 0), (.getfield 15, 3, 0, 5, 1, 3, 592), (.aload_n 0, 1, 0, 0, 0, 0, 0), (.getfield 25, 3, 0, 5, 3, 0, 596), (.iload_n 1, 1, 0, 1, 0, 0, 0)] (by decide +kernel) (show m_sgl X _ _ _ _ _ = some (21, [some (.ref 114), some (.int v1)], [.int v1, .int (m.1 114 3), .ref 116], (SH, m.1, m.2)) from rfl) ?_
    obtain ⟨c1035, h⟩ := m_ite_n h
    refine m_R_1 (by decide) (m_opb_of (ins := .iastore) (len := 1) (tag := 0) (a := 0) (b := 0) (c := 0) (q := 0) (by decide +kernel)) (m_s_iast sh_116 c1035) ?_
    refine m_R_sg (by decide) [(.aload_n 0, 1, 0, 0, 0, 0, 0), (.dup, 1, 0, 0, 0, 0, 0), (.getfield 25, 3, 0, 5, 3, 0, 596), (.iconst 1, 1, 0, 1, 0, 0, 0), (.iadd, 1, 0, 0, 0, 0, 0), (.putfield 25, 3, 0, 5, 3, 0, 596)] (by decide +kernel) (show m_sgl X _ _ _ _ _ = some (32, [some (.ref 114), some (.int v1)], [], (SH, (m_up (m_up m.1 116 (m.1 114 3).toNatClampNeg v1) 114 3 (((m_up m.1 116 (m.1 114 3).toNatClampNeg v1) 114 3) + (1 : Int32))), m.2)) from rfl) ?_
    exact ok_Reader_addCode_32 X d F _ _ _ _ _ h
def f_Reader_stop_16 (F : Nat)    (m : mM) : Option (Unit × mM) := some ((), ((m_up m.1 114 8 (1 : Int32)), m.2))
theorem ok_Reader_stop_16 (X : mX) (d F : Nat) : ∀   (m : mM) (r : Unit) (m' : mM), f_Reader_stop_16 F  m = some (r, m') → m_R X (d + 0) 130 16 [some (.ref 114)] [] (SH, m) (none, (SH, m')) := by
  intro m r m' h
  unfold f_Reader_stop_16 at h
  refine m_R_sg (by decide) [(.aload_n 0, 1, 0, 0, 0, 0, 0), (.iconst 1, 1, 0, 1, 0, 0, 0), (.putfield 34, 3, 0, 5, 8, 0, 604)] (by decide +kernel) (show m_sgl X _ _ _ _ _ = some (21, [some (.ref 114)], [], (SH, (m_up m.1 114 8 (1 : Int32)), m.2)) from rfl) ?_
  obtain ⟨rfl, rfl⟩ := m_some h
  exact m_R_vret (by decide) (m_opb_of (ins := .return_) (len := 1) (tag := 3) (a := 0) (b := 0) (c := 0) (q := 0) (by decide +kernel))
def f_Reader_stop (F : Nat)    (m : mM) : Option (Unit × mM) := (if (m.1 114 7) = (-1 : Int32) then f_Reader_stop_16 F ((m_up m.1 114 7 (m.1 114 9)), m.2) else f_Reader_stop_16 F m)
theorem ok_Reader_stop (X : mX) (d F : Nat) : ∀   (m : mM) (r : Unit) (m' : mM), f_Reader_stop F  m = some (r, m') → m_R X (d + 0) 130 0 [some (.ref 114)] [] (SH, m) (none, (SH, m')) := by
  intro m r m' h
  unfold f_Reader_stop at h
  refine m_R_sg (by decide) [(.aload_n 0, 1, 0, 0, 0, 0, 0), (.getfield 28, 3, 0, 5, 7, 0, 603), (.iconst (-1), 1, 0, 1, 1, 0, 0)] (by decide +kernel) (show m_sgl X _ _ _ _ _ = some (5, [some (.ref 114)], [.int (-1 : Int32), .int (m.1 114 7)], (SH, m.1, m.2)) from rfl) ?_
  rcases m_ite h with ⟨c1036, h⟩ | ⟨c1036, h⟩
  · refine m_R_1 (by decide) (m_opb_of (ins := .if_icmp .ne 11) (len := 3) (tag := 0) (a := 16) (b := 0) (c := 0) (q := 0) (by decide +kernel)) (if_pos c1036) ?_
    refine m_R_sg (by decide) [(.aload_n 0, 1, 0, 0, 0, 0, 0), (.aload_n 0, 1, 0, 0, 0, 0, 0), (.getfield 53, 3, 0, 5, 9, 0, 605), (.putfield 28, 3, 0, 5, 7, 0, 603)] (by decide +kernel) (show m_sgl X _ _ _ _ _ = some (16, [some (.ref 114)], [], (SH, (m_up m.1 114 7 (m.1 114 9)), m.2)) from rfl) ?_
    exact ok_Reader_stop_16 X d F _ _ _ h
  · refine m_R_1 (by decide) (m_opb_of (ins := .if_icmp .ne 11) (len := 3) (tag := 0) (a := 16) (b := 0) (c := 0) (q := 0) (by decide +kernel)) (if_neg c1036) ?_
    exact ok_Reader_stop_16 X d F _ _ _ h
def f_Texts_codeOfComparison (F : Nat)   (v0 : Int32) (m : mM) : Option (Int32 × mM) := (if v0 = (60 : Int32) then some ((-16 : Int32), m) else (if v0 = (61 : Int32) then some ((-15 : Int32), m) else (if v0 = (62 : Int32) then some ((-17 : Int32), m) else some ((0 : Int32), m))))
theorem ok_Texts_codeOfComparison (X : mX) (d F : Nat) : ∀ (v0 : Int32)  (m : mM) (r : Int32) (m' : mM), f_Texts_codeOfComparison F v0 m = some (r, m') → m_R X (d + 0) 138 0 [some (.int v0)] [] (SH, m) (some (.int r), (SH, m')) := by
  intro v0 m r m' h
  unfold f_Texts_codeOfComparison at h
  refine m_R_sg (by decide) [(.iload_n 0, 1, 0, 0, 0, 0, 0)] (by decide +kernel) (show m_sgl X _ _ _ _ _ = some (1, [some (.int v0)], [.int v0], (SH, m.1, m.2)) from rfl) ?_
  rcases m_ite h with ⟨c0, h⟩ | ⟨d0, h⟩
  · refine m_R_1 (by decide) (m_opb_of (ins := .tableswitch 36 60 62 #[30, 27, 33]) (len := 27) (tag := 0) (a := 0) (b := 0) (c := 0) (q := 0) (by decide +kernel)) (m_s_sw (by rw [c0]; decide) (by rw [c0]; rfl) (by decide) (t := 31) rfl) ?_
    refine m_R_sg (by decide) [(.bipush (-16), 2, 0, 16, 1, 0, 0)] (by decide +kernel) (show m_sgl X _ _ _ _ _ = some (33, [some (.int v0)], [.int (-16 : Int32)], (SH, m.1, m.2)) from rfl) ?_
    obtain ⟨rfl, rfl⟩ := m_some h
    exact m_R_iret (by decide) (m_opb_of (ins := .ireturn) (len := 1) (tag := 1) (a := 0) (b := 0) (c := 0) (q := 0) (by decide +kernel)) (Or.inl rfl)
  rcases m_ite h with ⟨c0, h⟩ | ⟨d1, h⟩
  · refine m_R_1 (by decide) (m_opb_of (ins := .tableswitch 36 60 62 #[30, 27, 33]) (len := 27) (tag := 0) (a := 0) (b := 0) (c := 0) (q := 0) (by decide +kernel)) (m_s_sw (by rw [c0]; decide) (by rw [c0]; rfl) (by decide) (t := 28) rfl) ?_
    refine m_R_sg (by decide) [(.bipush (-15), 2, 0, 15, 1, 0, 0)] (by decide +kernel) (show m_sgl X _ _ _ _ _ = some (30, [some (.int v0)], [.int (-15 : Int32)], (SH, m.1, m.2)) from rfl) ?_
    obtain ⟨rfl, rfl⟩ := m_some h
    exact m_R_iret (by decide) (m_opb_of (ins := .ireturn) (len := 1) (tag := 1) (a := 0) (b := 0) (c := 0) (q := 0) (by decide +kernel)) (Or.inl rfl)
  rcases m_ite h with ⟨c0, h⟩ | ⟨d2, h⟩
  · refine m_R_1 (by decide) (m_opb_of (ins := .tableswitch 36 60 62 #[30, 27, 33]) (len := 27) (tag := 0) (a := 0) (b := 0) (c := 0) (q := 0) (by decide +kernel)) (m_s_sw (by rw [c0]; decide) (by rw [c0]; rfl) (by decide) (t := 34) rfl) ?_
    refine m_R_sg (by decide) [(.bipush (-17), 2, 0, 17, 1, 0, 0)] (by decide +kernel) (show m_sgl X _ _ _ _ _ = some (36, [some (.int v0)], [.int (-17 : Int32)], (SH, m.1, m.2)) from rfl) ?_
    obtain ⟨rfl, rfl⟩ := m_some h
    exact m_R_iret (by decide) (m_opb_of (ins := .ireturn) (len := 1) (tag := 1) (a := 0) (b := 0) (c := 0) (q := 0) (by decide +kernel)) (Or.inl rfl)
  refine m_R_1 (by decide) (m_opb_of (ins := .tableswitch 36 60 62 #[30, 27, 33]) (len := 27) (tag := 0) (a := 0) (b := 0) (c := 0) (q := 0) (by decide +kernel)) (m_s_swd (m_swx 3 (fun j hj => match j, hj with | 0, _ => fun e => d0 (e.trans (by decide)) | 1, _ => fun e => d1 (e.trans (by decide)) | 2, _ => fun e => d2 (e.trans (by decide)) | j + 3, hj => absurd hj (by omega))) (by decide) (t := 37) rfl) ?_
  refine m_R_sg (by decide) [(.iconst 0, 1, 0, 0, 0, 0, 0)] (by decide +kernel) (show m_sgl X _ _ _ _ _ = some (38, [some (.int v0)], [.int (0 : Int32)], (SH, m.1, m.2)) from rfl) ?_
  obtain ⟨rfl, rfl⟩ := m_some h
  exact m_R_iret (by decide) (m_opb_of (ins := .ireturn) (len := 1) (tag := 1) (a := 0) (b := 0) (c := 0) (q := 0) (by decide +kernel)) (Or.inl rfl)
def f_Reader_readOrs_43 (F : Nat) (g : Nat → Int32 → mM → Option (Unit × mM))   (m : mM) : Option (Unit × mM) := some ((), m)
theorem ok_Reader_readOrs_43 (X : mX) (d F : Nat) (g : Nat → Int32 → mM → Option (Unit × mM)) (hg131 : ∀ (v1 : Int32) (m : mM) (r : Unit) (m' : mM), g 131 v1 m = some (r, m') → m_R X (d + 6) 131 0 [some (.ref 114), some (.int v1), none] [] (SH, m) (none, (SH, m'))) (hg132 : ∀ (v1 : Int32) (m : mM) (r : Unit) (m' : mM), g 132 v1 m = some (r, m') → m_R X (d + 6) 132 0 [some (.ref 114), some (.int v1), none] [] (SH, m) (none, (SH, m'))) (hg133 : ∀ (v1 : Int32) (m : mM) (r : Unit) (m' : mM), g 133 v1 m = some (r, m') → m_R X (d + 6) 133 0 [some (.ref 114), some (.int v1), none] [] (SH, m) (none, (SH, m'))) (hg135 : ∀ (v1 : Int32) (m : mM) (r : Unit) (m' : mM), g 135 v1 m = some (r, m') → m_R X (d + 6) 135 0 [some (.ref 114), some (.int v1), none, none] [] (SH, m) (none, (SH, m'))) (hg136 : ∀ (v1 : Int32) (m : mM) (r : Unit) (m' : mM), g 136 v1 m = some (r, m') → m_R X (d + 6) 136 0 [some (.ref 114), some (.int v1), none, none] [] (SH, m) (none, (SH, m'))) (hg137 : ∀ (v1 : Int32) (m : mM) (r : Unit) (m' : mM), g 137 v1 m = some (r, m') → m_R X (d + 6) 137 0 [some (.ref 114), some (.int v1), none] [] (SH, m) (none, (SH, m'))) : ∀  (w0 : Option Value) (w1 : Option Value) (w2 : Option Value) (m : mM) (r : Unit) (m' : mM), f_Reader_readOrs_43 F g  m = some (r, m') → m_R X (d + 7) 131 43 [w0, w1, w2] [] (SH, m) (none, (SH, m')) := by
  intro w0 w1 w2 m r m' h
  unfold f_Reader_readOrs_43 at h
  obtain ⟨rfl, rfl⟩ := m_some h
  exact m_R_vret (by decide) (m_opb_of (ins := .return_) (len := 1) (tag := 3) (a := 0) (b := 0) (c := 0) (q := 0) (by decide +kernel))
def f_Reader_readOrs_7 (F : Nat) (g : Nat → Int32 → mM → Option (Unit × mM))  : Nat → Int32 → Int32 → mM → Option (Unit × mM)
  | 0, _, _, _ => none
  | n + 1, v1, v2, m => (if (120 : Int32) ≤ v2 then f_Reader_readOrs_43 F g m else (if (m.1 114 8) = (6 : Int32) then ((f_Reader_nextToken F m).bind fun q2 => ((g 132 v1 q2.2).bind fun q3 => ((f_Reader_addCode F (-13 : Int32) q3.2).bind fun q4 => f_Reader_readOrs_7 F g n v1 (v2 + (1 : Int32)) q4.2))) else f_Reader_readOrs_43 F g m))
theorem ok_Reader_readOrs_7 (X : mX) (d F : Nat) (g : Nat → Int32 → mM → Option (Unit × mM)) (hg131 : ∀ (v1 : Int32) (m : mM) (r : Unit) (m' : mM), g 131 v1 m = some (r, m') → m_R X (d + 6) 131 0 [some (.ref 114), some (.int v1), none] [] (SH, m) (none, (SH, m'))) (hg132 : ∀ (v1 : Int32) (m : mM) (r : Unit) (m' : mM), g 132 v1 m = some (r, m') → m_R X (d + 6) 132 0 [some (.ref 114), some (.int v1), none] [] (SH, m) (none, (SH, m'))) (hg133 : ∀ (v1 : Int32) (m : mM) (r : Unit) (m' : mM), g 133 v1 m = some (r, m') → m_R X (d + 6) 133 0 [some (.ref 114), some (.int v1), none] [] (SH, m) (none, (SH, m'))) (hg135 : ∀ (v1 : Int32) (m : mM) (r : Unit) (m' : mM), g 135 v1 m = some (r, m') → m_R X (d + 6) 135 0 [some (.ref 114), some (.int v1), none, none] [] (SH, m) (none, (SH, m'))) (hg136 : ∀ (v1 : Int32) (m : mM) (r : Unit) (m' : mM), g 136 v1 m = some (r, m') → m_R X (d + 6) 136 0 [some (.ref 114), some (.int v1), none, none] [] (SH, m) (none, (SH, m'))) (hg137 : ∀ (v1 : Int32) (m : mM) (r : Unit) (m' : mM), g 137 v1 m = some (r, m') → m_R X (d + 6) 137 0 [some (.ref 114), some (.int v1), none] [] (SH, m) (none, (SH, m'))) : ∀ (n : Nat) (v1 : Int32) (v2 : Int32)  (m : mM) (r : Unit) (m' : mM), f_Reader_readOrs_7 F g n v1 v2 m = some (r, m') → m_R X (d + 7) 131 7 [some (.ref 114), some (.int v1), some (.int v2)] [] (SH, m) (none, (SH, m')) := by
  intro n
  induction n with
  | zero => intro v1 v2 m r m' h; cases h
  | succ n ih =>
    intro v1 v2 m r m' h
    simp only [f_Reader_readOrs_7] at h
    refine m_R_sg (by decide) [(.iload_n 2, 1, 0, 2, 0, 0, 0), (.bipush 120, 2, 0, 120, 0, 0, 0)] (by decide +kernel) (show m_sgl X _ _ _ _ _ = some (10, [some (.ref 114), some (.int v1), some (.int v2)], [.int (120 : Int32), .int v2], (SH, m.1, m.2)) from rfl) ?_
    rcases m_ite h with ⟨c1037, h⟩ | ⟨c1037, h⟩
    · refine m_R_1 (by decide) (m_opb_of (ins := .if_icmp .ge 33) (len := 3) (tag := 0) (a := 43) (b := 0) (c := 0) (q := 0) (by decide +kernel)) (if_pos c1037) ?_
      exact ok_Reader_readOrs_43 X d F g hg131 hg132 hg133 hg135 hg136 hg137 _ _ _ _ _ _ h
    · refine m_R_1 (by decide) (m_opb_of (ins := .if_icmp .ge 33) (len := 3) (tag := 0) (a := 43) (b := 0) (c := 0) (q := 0) (by decide +kernel)) (if_neg c1037) ?_
      refine m_R_sg (by decide) [(.aload_n 0, 1, 0, 0, 0, 0, 0), (.getfield 34, 3, 0, 5, 8, 0, 604), (.bipush 6, 2, 0, 6, 0, 0, 0)] (by decide +kernel) (show m_sgl X _ _ _ _ _ = some (19, [some (.ref 114), some (.int v1), some (.int v2)], [.int (6 : Int32), .int (m.1 114 8)], (SH, m.1, m.2)) from rfl) ?_
      rcases m_ite h with ⟨c1038, h⟩ | ⟨c1038, h⟩
      · refine m_R_1 (by decide) (m_opb_of (ins := .if_icmp .ne 24) (len := 3) (tag := 0) (a := 43) (b := 0) (c := 0) (q := 0) (by decide +kernel)) (if_pos c1038) ?_
        refine m_R_sg (by decide) [(.aload_n 0, 1, 0, 0, 0, 0, 0)] (by decide +kernel) (show m_sgl X _ _ _ _ _ = some (23, [some (.ref 114), some (.int v1), some (.int v2)], [.ref 114], (SH, m.1, m.2)) from rfl) ?_
        obtain ⟨q2, hc2, h⟩ := Option.bind_eq_some_iff.mp h
        refine m_R_cV (v := none) (h1 := (SH, q2.2)) (rest := []) (lo' := [some (.ref 114)]) (ml := 1) (k0 := 114) (by decide) (Or.inl rfl) (m_opb_of (ins := .invokevirtual 31) (len := 3) (tag := 5) (a := 123) (b := 0) (c := 0) (q := 1116) (by decide +kernel)) (by decide +kernel) rfl (show m_isO 123 114 (SH, _) = true from m_isO_of (by decide +kernel)) (Nat.le_of_ble_eq_true rfl) rfl rfl (ok_Reader_nextToken X (d + 0) F _ _ _ hc2) ?_
        refine m_R_sg (by decide) [(.aload_n 0, 1, 0, 0, 0, 0, 0), (.iload_n 1, 1, 0, 1, 0, 0, 0)] (by decide +kernel) (show m_sgl X _ _ _ _ _ = some (28, [some (.ref 114), some (.int v1), some (.int v2)], [.int v1, .ref 114], (SH, q2.2.1, q2.2.2)) from rfl) ?_
        obtain ⟨q3, hc3, h⟩ := Option.bind_eq_some_iff.mp h
        refine m_R_cV (v := none) (h1 := (SH, q3.2)) (rest := []) (lo' := [some (.ref 114), some (.int v1), none]) (ml := 3) (k0 := 114) (by decide) (Or.inl rfl) (m_opb_of (ins := .invokevirtual 56) (len := 3) (tag := 5) (a := 132) (b := 1) (c := 0) (q := 1198) (by decide +kernel)) (by decide +kernel) rfl (show m_isO 132 114 (SH, _) = true from m_isO_of (by decide +kernel)) (Nat.le_of_ble_eq_true rfl) rfl rfl (hg132 _ _ _ _ hc3) ?_
        refine m_R_sg (by decide) [(.aload_n 0, 1, 0, 0, 0, 0, 0), (.bipush (-13), 2, 0, 13, 1, 0, 0)] (by decide +kernel) (show m_sgl X _ _ _ _ _ = some (34, [some (.ref 114), some (.int v1), some (.int v2)], [.int (-13 : Int32), .ref 114], (SH, q3.2.1, q3.2.2)) from rfl) ?_
        obtain ⟨q4, hc4, h⟩ := Option.bind_eq_some_iff.mp h
        refine m_R_cV (v := none) (h1 := (SH, q4.2)) (rest := []) (lo' := [some (.ref 114), some (.int (-13 : Int32))]) (ml := 2) (k0 := 114) (by decide) (Or.inl rfl) (m_opb_of (ins := .invokevirtual 61) (len := 3) (tag := 5) (a := 134) (b := 1) (c := 0) (q := 1206) (by decide +kernel)) (by decide +kernel) rfl (show m_isO 134 114 (SH, _) = true from m_isO_of (by decide +kernel)) (Nat.le_of_ble_eq_true rfl) rfl rfl (ok_Reader_addCode X (d + 6) F _ _ _ _ hc4) ?_
        refine m_R_sg (by decide) [(.iinc 2 1, 3, 0, 2, 1, 0, 0), (.goto (-33), 3, 0, 7, 0, 0, 0)] (by decide +kernel) (show m_sgl X _ _ _ _ _ = some (7, [some (.ref 114), some (.int v1), some (.int (v2 + (1 : Int32)))], [], (SH, q4.2.1, q4.2.2)) from rfl) ?_
        exact ih _ _ _ _ _ h
      · refine m_R_1 (by decide) (m_opb_of (ins := .if_icmp .ne 24) (len := 3) (tag := 0) (a := 43) (b := 0) (c := 0) (q := 0) (by decide +kernel)) (if_neg c1038) ?_
        exact ok_Reader_readOrs_43 X d F g hg131 hg132 hg133 hg135 hg136 hg137 _ _ _ _ _ _ h
def f_Reader_readOrs (F : Nat) (g : Nat → Int32 → mM → Option (Unit × mM))  (v1 : Int32) (m : mM) : Option (Unit × mM) := ((g 132 v1 m).bind fun q1 => f_Reader_readOrs_7 F g F v1 (0 : Int32) q1.2)
theorem ok_Reader_readOrs (X : mX) (d F : Nat) (g : Nat → Int32 → mM → Option (Unit × mM)) (hg131 : ∀ (v1 : Int32) (m : mM) (r : Unit) (m' : mM), g 131 v1 m = some (r, m') → m_R X (d + 6) 131 0 [some (.ref 114), some (.int v1), none] [] (SH, m) (none, (SH, m'))) (hg132 : ∀ (v1 : Int32) (m : mM) (r : Unit) (m' : mM), g 132 v1 m = some (r, m') → m_R X (d + 6) 132 0 [some (.ref 114), some (.int v1), none] [] (SH, m) (none, (SH, m'))) (hg133 : ∀ (v1 : Int32) (m : mM) (r : Unit) (m' : mM), g 133 v1 m = some (r, m') → m_R X (d + 6) 133 0 [some (.ref 114), some (.int v1), none] [] (SH, m) (none, (SH, m'))) (hg135 : ∀ (v1 : Int32) (m : mM) (r : Unit) (m' : mM), g 135 v1 m = some (r, m') → m_R X (d + 6) 135 0 [some (.ref 114), some (.int v1), none, none] [] (SH, m) (none, (SH, m'))) (hg136 : ∀ (v1 : Int32) (m : mM) (r : Unit) (m' : mM), g 136 v1 m = some (r, m') → m_R X (d + 6) 136 0 [some (.ref 114), some (.int v1), none, none] [] (SH, m) (none, (SH, m'))) (hg137 : ∀ (v1 : Int32) (m : mM) (r : Unit) (m' : mM), g 137 v1 m = some (r, m') → m_R X (d + 6) 137 0 [some (.ref 114), some (.int v1), none] [] (SH, m) (none, (SH, m'))) : ∀ (v1 : Int32)  (m : mM) (r : Unit) (m' : mM), f_Reader_readOrs F g v1 m = some (r, m') → m_R X (d + 7) 131 0 [some (.ref 114), some (.int v1), none] [] (SH, m) (none, (SH, m')) := by
  intro v1 m r m' h
  unfold f_Reader_readOrs at h
  refine m_R_sg (by decide) [(.aload_n 0, 1, 0, 0, 0, 0, 0), (.iload_n 1, 1, 0, 1, 0, 0, 0)] (by decide +kernel) (show m_sgl X _ _ _ _ _ = some (2, [some (.ref 114), some (.int v1), none], [.int v1, .ref 114], (SH, m.1, m.2)) from rfl) ?_
  obtain ⟨q1, hc1, h⟩ := Option.bind_eq_some_iff.mp h
  refine m_R_cV (v := none) (h1 := (SH, q1.2)) (rest := []) (lo' := [some (.ref 114), some (.int v1), none]) (ml := 3) (k0 := 114) (by decide) (Or.inl rfl) (m_opb_of (ins := .invokevirtual 56) (len := 3) (tag := 5) (a := 132) (b := 1) (c := 0) (q := 1198) (by decide +kernel)) (by decide +kernel) rfl (show m_isO 132 114 (SH, _) = true from m_isO_of (by decide +kernel)) (Nat.le_of_ble_eq_true rfl) rfl rfl (hg132 _ _ _ _ hc1) ?_
  refine m_R_sg (by decide) [(.iconst 0, 1, 0, 0, 0, 0, 0), (.istore_n 2, 1, 0, 2, 0, 0, 0)] (by decide +kernel) (show m_sgl X _ _ _ _ _ = some (7, [some (.ref 114), some (.int v1), some (.int (0 : Int32))], [], (SH, q1.2.1, q1.2.2)) from rfl) ?_
  exact ok_Reader_readOrs_7 X d F g hg131 hg132 hg133 hg135 hg136 hg137 F _ _ _ _ _ h
def f_Reader_readAnds_43 (F : Nat) (g : Nat → Int32 → mM → Option (Unit × mM))   (m : mM) : Option (Unit × mM) := some ((), m)
theorem ok_Reader_readAnds_43 (X : mX) (d F : Nat) (g : Nat → Int32 → mM → Option (Unit × mM)) (hg131 : ∀ (v1 : Int32) (m : mM) (r : Unit) (m' : mM), g 131 v1 m = some (r, m') → m_R X (d + 6) 131 0 [some (.ref 114), some (.int v1), none] [] (SH, m) (none, (SH, m'))) (hg132 : ∀ (v1 : Int32) (m : mM) (r : Unit) (m' : mM), g 132 v1 m = some (r, m') → m_R X (d + 6) 132 0 [some (.ref 114), some (.int v1), none] [] (SH, m) (none, (SH, m'))) (hg133 : ∀ (v1 : Int32) (m : mM) (r : Unit) (m' : mM), g 133 v1 m = some (r, m') → m_R X (d + 6) 133 0 [some (.ref 114), some (.int v1), none] [] (SH, m) (none, (SH, m'))) (hg135 : ∀ (v1 : Int32) (m : mM) (r : Unit) (m' : mM), g 135 v1 m = some (r, m') → m_R X (d + 6) 135 0 [some (.ref 114), some (.int v1), none, none] [] (SH, m) (none, (SH, m'))) (hg136 : ∀ (v1 : Int32) (m : mM) (r : Unit) (m' : mM), g 136 v1 m = some (r, m') → m_R X (d + 6) 136 0 [some (.ref 114), some (.int v1), none, none] [] (SH, m) (none, (SH, m'))) (hg137 : ∀ (v1 : Int32) (m : mM) (r : Unit) (m' : mM), g 137 v1 m = some (r, m') → m_R X (d + 6) 137 0 [some (.ref 114), some (.int v1), none] [] (SH, m) (none, (SH, m'))) : ∀  (w0 : Option Value) (w1 : Option Value) (w2 : Option Value) (m : mM) (r : Unit) (m' : mM), f_Reader_readAnds_43 F g  m = some (r, m') → m_R X (d + 7) 132 43 [w0, w1, w2] [] (SH, m) (none, (SH, m')) := by
  intro w0 w1 w2 m r m' h
  unfold f_Reader_readAnds_43 at h
  obtain ⟨rfl, rfl⟩ := m_some h
  exact m_R_vret (by decide) (m_opb_of (ins := .return_) (len := 1) (tag := 3) (a := 0) (b := 0) (c := 0) (q := 0) (by decide +kernel))
def f_Reader_readAnds_7 (F : Nat) (g : Nat → Int32 → mM → Option (Unit × mM))  : Nat → Int32 → Int32 → mM → Option (Unit × mM)
  | 0, _, _, _ => none
  | n + 1, v1, v2, m => (if (120 : Int32) ≤ v2 then f_Reader_readAnds_43 F g m else (if (m.1 114 8) = (7 : Int32) then ((f_Reader_nextToken F m).bind fun q2 => ((g 133 v1 q2.2).bind fun q3 => ((f_Reader_addCode F (-14 : Int32) q3.2).bind fun q4 => f_Reader_readAnds_7 F g n v1 (v2 + (1 : Int32)) q4.2))) else f_Reader_readAnds_43 F g m))
theorem ok_Reader_readAnds_7 (X : mX) (d F : Nat) (g : Nat → Int32 → mM → Option (Unit × mM)) (hg131 : ∀ (v1 : Int32) (m : mM) (r : Unit) (m' : mM), g 131 v1 m = some (r, m') → m_R X (d + 6) 131 0 [some (.ref 114), some (.int v1), none] [] (SH, m) (none, (SH, m'))) (hg132 : ∀ (v1 : Int32) (m : mM) (r : Unit) (m' : mM), g 132 v1 m = some (r, m') → m_R X (d + 6) 132 0 [some (.ref 114), some (.int v1), none] [] (SH, m) (none, (SH, m'))) (hg133 : ∀ (v1 : Int32) (m : mM) (r : Unit) (m' : mM), g 133 v1 m = some (r, m') → m_R X (d + 6) 133 0 [some (.ref 114), some (.int v1), none] [] (SH, m) (none, (SH, m'))) (hg135 : ∀ (v1 : Int32) (m : mM) (r : Unit) (m' : mM), g 135 v1 m = some (r, m') → m_R X (d + 6) 135 0 [some (.ref 114), some (.int v1), none, none] [] (SH, m) (none, (SH, m'))) (hg136 : ∀ (v1 : Int32) (m : mM) (r : Unit) (m' : mM), g 136 v1 m = some (r, m') → m_R X (d + 6) 136 0 [some (.ref 114), some (.int v1), none, none] [] (SH, m) (none, (SH, m'))) (hg137 : ∀ (v1 : Int32) (m : mM) (r : Unit) (m' : mM), g 137 v1 m = some (r, m') → m_R X (d + 6) 137 0 [some (.ref 114), some (.int v1), none] [] (SH, m) (none, (SH, m'))) : ∀ (n : Nat) (v1 : Int32) (v2 : Int32)  (m : mM) (r : Unit) (m' : mM), f_Reader_readAnds_7 F g n v1 v2 m = some (r, m') → m_R X (d + 7) 132 7 [some (.ref 114), some (.int v1), some (.int v2)] [] (SH, m) (none, (SH, m')) := by
  intro n
  induction n with
  | zero => intro v1 v2 m r m' h; cases h
  | succ n ih =>
    intro v1 v2 m r m' h
    simp only [f_Reader_readAnds_7] at h
    refine m_R_sg (by decide) [(.iload_n 2, 1, 0, 2, 0, 0, 0), (.bipush 120, 2, 0, 120, 0, 0, 0)] (by decide +kernel) (show m_sgl X _ _ _ _ _ = some (10, [some (.ref 114), some (.int v1), some (.int v2)], [.int (120 : Int32), .int v2], (SH, m.1, m.2)) from rfl) ?_
    rcases m_ite h with ⟨c1039, h⟩ | ⟨c1039, h⟩
    · refine m_R_1 (by decide) (m_opb_of (ins := .if_icmp .ge 33) (len := 3) (tag := 0) (a := 43) (b := 0) (c := 0) (q := 0) (by decide +kernel)) (if_pos c1039) ?_
      exact ok_Reader_readAnds_43 X d F g hg131 hg132 hg133 hg135 hg136 hg137 _ _ _ _ _ _ h
    · refine m_R_1 (by decide) (m_opb_of (ins := .if_icmp .ge 33) (len := 3) (tag := 0) (a := 43) (b := 0) (c := 0) (q := 0) (by decide +kernel)) (if_neg c1039) ?_
      refine m_R_sg (by decide) [(.aload_n 0, 1, 0, 0, 0, 0, 0), (.getfield 34, 3, 0, 5, 8, 0, 604), (.bipush 7, 2, 0, 7, 0, 0, 0)] (by decide +kernel) (show m_sgl X _ _ _ _ _ = some (19, [some (.ref 114), some (.int v1), some (.int v2)], [.int (7 : Int32), .int (m.1 114 8)], (SH, m.1, m.2)) from rfl) ?_
      rcases m_ite h with ⟨c1040, h⟩ | ⟨c1040, h⟩
      · refine m_R_1 (by decide) (m_opb_of (ins := .if_icmp .ne 24) (len := 3) (tag := 0) (a := 43) (b := 0) (c := 0) (q := 0) (by decide +kernel)) (if_pos c1040) ?_
        refine m_R_sg (by decide) [(.aload_n 0, 1, 0, 0, 0, 0, 0)] (by decide +kernel) (show m_sgl X _ _ _ _ _ = some (23, [some (.ref 114), some (.int v1), some (.int v2)], [.ref 114], (SH, m.1, m.2)) from rfl) ?_
        obtain ⟨q2, hc2, h⟩ := Option.bind_eq_some_iff.mp h
        refine m_R_cV (v := none) (h1 := (SH, q2.2)) (rest := []) (lo' := [some (.ref 114)]) (ml := 1) (k0 := 114) (by decide) (Or.inl rfl) (m_opb_of (ins := .invokevirtual 31) (len := 3) (tag := 5) (a := 123) (b := 0) (c := 0) (q := 1116) (by decide +kernel)) (by decide +kernel) rfl (show m_isO 123 114 (SH, _) = true from m_isO_of (by decide +kernel)) (Nat.le_of_ble_eq_true rfl) rfl rfl (ok_Reader_nextToken X (d + 0) F _ _ _ hc2) ?_
        refine m_R_sg (by decide) [(.aload_n 0, 1, 0, 0, 0, 0, 0), (.iload_n 1, 1, 0, 1, 0, 0, 0)] (by decide +kernel) (show m_sgl X _ _ _ _ _ = some (28, [some (.ref 114), some (.int v1), some (.int v2)], [.int v1, .ref 114], (SH, q2.2.1, q2.2.2)) from rfl) ?_
        obtain ⟨q3, hc3, h⟩ := Option.bind_eq_some_iff.mp h
        refine m_R_cV (v := none) (h1 := (SH, q3.2)) (rest := []) (lo' := [some (.ref 114), some (.int v1), none]) (ml := 3) (k0 := 114) (by decide) (Or.inl rfl) (m_opb_of (ins := .invokevirtual 64) (len := 3) (tag := 5) (a := 133) (b := 1) (c := 0) (q := 1202) (by decide +kernel)) (by decide +kernel) rfl (show m_isO 133 114 (SH, _) = true from m_isO_of (by decide +kernel)) (Nat.le_of_ble_eq_true rfl) rfl rfl (hg133 _ _ _ _ hc3) ?_
        refine m_R_sg (by decide) [(.aload_n 0, 1, 0, 0, 0, 0, 0), (.bipush (-14), 2, 0, 14, 1, 0, 0)] (by decide +kernel) (show m_sgl X _ _ _ _ _ = some (34, [some (.ref 114), some (.int v1), some (.int v2)], [.int (-14 : Int32), .ref 114], (SH, q3.2.1, q3.2.2)) from rfl) ?_
        obtain ⟨q4, hc4, h⟩ := Option.bind_eq_some_iff.mp h
        refine m_R_cV (v := none) (h1 := (SH, q4.2)) (rest := []) (lo' := [some (.ref 114), some (.int (-14 : Int32))]) (ml := 2) (k0 := 114) (by decide) (Or.inl rfl) (m_opb_of (ins := .invokevirtual 61) (len := 3) (tag := 5) (a := 134) (b := 1) (c := 0) (q := 1206) (by decide +kernel)) (by decide +kernel) rfl (show m_isO 134 114 (SH, _) = true from m_isO_of (by decide +kernel)) (Nat.le_of_ble_eq_true rfl) rfl rfl (ok_Reader_addCode X (d + 6) F _ _ _ _ hc4) ?_
        refine m_R_sg (by decide) [(.iinc 2 1, 3, 0, 2, 1, 0, 0), (.goto (-33), 3, 0, 7, 0, 0, 0)] (by decide +kernel) (show m_sgl X _ _ _ _ _ = some (7, [some (.ref 114), some (.int v1), some (.int (v2 + (1 : Int32)))], [], (SH, q4.2.1, q4.2.2)) from rfl) ?_
        exact ih _ _ _ _ _ h
      · refine m_R_1 (by decide) (m_opb_of (ins := .if_icmp .ne 24) (len := 3) (tag := 0) (a := 43) (b := 0) (c := 0) (q := 0) (by decide +kernel)) (if_neg c1040) ?_
        exact ok_Reader_readAnds_43 X d F g hg131 hg132 hg133 hg135 hg136 hg137 _ _ _ _ _ _ h
def f_Reader_readAnds (F : Nat) (g : Nat → Int32 → mM → Option (Unit × mM))  (v1 : Int32) (m : mM) : Option (Unit × mM) := ((g 133 v1 m).bind fun q1 => f_Reader_readAnds_7 F g F v1 (0 : Int32) q1.2)
theorem ok_Reader_readAnds (X : mX) (d F : Nat) (g : Nat → Int32 → mM → Option (Unit × mM)) (hg131 : ∀ (v1 : Int32) (m : mM) (r : Unit) (m' : mM), g 131 v1 m = some (r, m') → m_R X (d + 6) 131 0 [some (.ref 114), some (.int v1), none] [] (SH, m) (none, (SH, m'))) (hg132 : ∀ (v1 : Int32) (m : mM) (r : Unit) (m' : mM), g 132 v1 m = some (r, m') → m_R X (d + 6) 132 0 [some (.ref 114), some (.int v1), none] [] (SH, m) (none, (SH, m'))) (hg133 : ∀ (v1 : Int32) (m : mM) (r : Unit) (m' : mM), g 133 v1 m = some (r, m') → m_R X (d + 6) 133 0 [some (.ref 114), some (.int v1), none] [] (SH, m) (none, (SH, m'))) (hg135 : ∀ (v1 : Int32) (m : mM) (r : Unit) (m' : mM), g 135 v1 m = some (r, m') → m_R X (d + 6) 135 0 [some (.ref 114), some (.int v1), none, none] [] (SH, m) (none, (SH, m'))) (hg136 : ∀ (v1 : Int32) (m : mM) (r : Unit) (m' : mM), g 136 v1 m = some (r, m') → m_R X (d + 6) 136 0 [some (.ref 114), some (.int v1), none, none] [] (SH, m) (none, (SH, m'))) (hg137 : ∀ (v1 : Int32) (m : mM) (r : Unit) (m' : mM), g 137 v1 m = some (r, m') → m_R X (d + 6) 137 0 [some (.ref 114), some (.int v1), none] [] (SH, m) (none, (SH, m'))) : ∀ (v1 : Int32)  (m : mM) (r : Unit) (m' : mM), f_Reader_readAnds F g v1 m = some (r, m') → m_R X (d + 7) 132 0 [some (.ref 114), some (.int v1), none] [] (SH, m) (none, (SH, m')) := by
  intro v1 m r m' h
  unfold f_Reader_readAnds at h
  refine m_R_sg (by decide) [(.aload_n 0, 1, 0, 0, 0, 0, 0), (.iload_n 1, 1, 0, 1, 0, 0, 0)] (by decide +kernel) (show m_sgl X _ _ _ _ _ = some (2, [some (.ref 114), some (.int v1), none], [.int v1, .ref 114], (SH, m.1, m.2)) from rfl) ?_
  obtain ⟨q1, hc1, h⟩ := Option.bind_eq_some_iff.mp h
  refine m_R_cV (v := none) (h1 := (SH, q1.2)) (rest := []) (lo' := [some (.ref 114), some (.int v1), none]) (ml := 3) (k0 := 114) (by decide) (Or.inl rfl) (m_opb_of (ins := .invokevirtual 64) (len := 3) (tag := 5) (a := 133) (b := 1) (c := 0) (q := 1202) (by decide +kernel)) (by decide +kernel) rfl (show m_isO 133 114 (SH, _) = true from m_isO_of (by decide +kernel)) (Nat.le_of_ble_eq_true rfl) rfl rfl (hg133 _ _ _ _ hc1) ?_
  refine m_R_sg (by decide) [(.iconst 0, 1, 0, 0, 0, 0, 0), (.istore_n 2, 1, 0, 2, 0, 0, 0)] (by decide +kernel) (show m_sgl X _ _ _ _ _ = some (7, [some (.ref 114), some (.int v1), some (.int (0 : Int32))], [], (SH, q1.2.1, q1.2.2)) from rfl) ?_
  exact ok_Reader_readAnds_7 X d F g hg131 hg132 hg133 hg135 hg136 hg137 F _ _ _ _ _ h
def f_Reader_readNot_69 (F : Nat) (g : Nat → Int32 → mM → Option (Unit × mM))   (m : mM) : Option (Unit × mM) := some ((), m)
theorem ok_Reader_readNot_69 (X : mX) (d F : Nat) (g : Nat → Int32 → mM → Option (Unit × mM)) (hg131 : ∀ (v1 : Int32) (m : mM) (r : Unit) (m' : mM), g 131 v1 m = some (r, m') → m_R X (d + 6) 131 0 [some (.ref 114), some (.int v1), none] [] (SH, m) (none, (SH, m'))) (hg132 : ∀ (v1 : Int32) (m : mM) (r : Unit) (m' : mM), g 132 v1 m = some (r, m') → m_R X (d + 6) 132 0 [some (.ref 114), some (.int v1), none] [] (SH, m) (none, (SH, m'))) (hg133 : ∀ (v1 : Int32) (m : mM) (r : Unit) (m' : mM), g 133 v1 m = some (r, m') → m_R X (d + 6) 133 0 [some (.ref 114), some (.int v1), none] [] (SH, m) (none, (SH, m'))) (hg135 : ∀ (v1 : Int32) (m : mM) (r : Unit) (m' : mM), g 135 v1 m = some (r, m') → m_R X (d + 6) 135 0 [some (.ref 114), some (.int v1), none, none] [] (SH, m) (none, (SH, m'))) (hg136 : ∀ (v1 : Int32) (m : mM) (r : Unit) (m' : mM), g 136 v1 m = some (r, m') → m_R X (d + 6) 136 0 [some (.ref 114), some (.int v1), none, none] [] (SH, m) (none, (SH, m'))) (hg137 : ∀ (v1 : Int32) (m : mM) (r : Unit) (m' : mM), g 137 v1 m = some (r, m') → m_R X (d + 6) 137 0 [some (.ref 114), some (.int v1), none] [] (SH, m) (none, (SH, m'))) : ∀  (w0 : Option Value) (w1 : Option Value) (w2 : Option Value) (m : mM) (r : Unit) (m' : mM), f_Reader_readNot_69 F g  m = some (r, m') → m_R X (d + 7) 133 69 [w0, w1, w2] [] (SH, m) (none, (SH, m')) := by
  intro w0 w1 w2 m r m' h
  unfold f_Reader_readNot_69 at h
  obtain ⟨rfl, rfl⟩ := m_some h
  exact m_R_vret (by decide) (m_opb_of (ins := .return_) (len := 1) (tag := 3) (a := 0) (b := 0) (c := 0) (q := 0) (by decide +kernel))
def f_Reader_readNot (F : Nat) (g : Nat → Int32 → mM → Option (Unit × mM))  (v1 : Int32) (m : mM) : Option (Unit × mM) := (if (m.1 114 8) = (8 : Int32) then (if v1 < (6 : Int32) then ((f_Reader_nextToken F m).bind fun q1 => ((g 133 (v1 + (1 : Int32)) q1.2).bind fun q2 => ((f_Reader_addCode F (-11 : Int32) q2.2).bind fun q3 => some ((), q3.2)))) else ((f_Reader_stop F m).bind fun q4 => some ((), q4.2))) else ((g 135 v1 m).bind fun q5 => ((f_Texts_codeOfComparison F (q5.2.1 114 8) q5.2).bind fun q6 => (if q6.1 = 0 then f_Reader_readNot_69 F g q6.2 else ((f_Reader_nextToken F q6.2).bind fun q7 => ((g 135 v1 q7.2).bind fun q8 => ((f_Reader_addCode F q6.1 q8.2).bind fun q9 => f_Reader_readNot_69 F g q9.2)))))))
theorem ok_Reader_readNot (X : mX) (d F : Nat) (g : Nat → Int32 → mM → Option (Unit × mM)) (hg131 : ∀ (v1 : Int32) (m : mM) (r : Unit) (m' : mM), g 131 v1 m = some (r, m') → m_R X (d + 6) 131 0 [some (.ref 114), some (.int v1), none] [] (SH, m) (none, (SH, m'))) (hg132 : ∀ (v1 : Int32) (m : mM) (r : Unit) (m' : mM), g 132 v1 m = some (r, m') → m_R X (d + 6) 132 0 [some (.ref 114), some (.int v1), none] [] (SH, m) (none, (SH, m'))) (hg133 : ∀ (v1 : Int32) (m : mM) (r : Unit) (m' : mM), g 133 v1 m = some (r, m') → m_R X (d + 6) 133 0 [some (.ref 114), some (.int v1), none] [] (SH, m) (none, (SH, m'))) (hg135 : ∀ (v1 : Int32) (m : mM) (r : Unit) (m' : mM), g 135 v1 m = some (r, m') → m_R X (d + 6) 135 0 [some (.ref 114), some (.int v1), none, none] [] (SH, m) (none, (SH, m'))) (hg136 : ∀ (v1 : Int32) (m : mM) (r : Unit) (m' : mM), g 136 v1 m = some (r, m') → m_R X (d + 6) 136 0 [some (.ref 114), some (.int v1), none, none] [] (SH, m) (none, (SH, m'))) (hg137 : ∀ (v1 : Int32) (m : mM) (r : Unit) (m' : mM), g 137 v1 m = some (r, m') → m_R X (d + 6) 137 0 [some (.ref 114), some (.int v1), none] [] (SH, m) (none, (SH, m'))) : ∀ (v1 : Int32)  (m : mM) (r : Unit) (m' : mM), f_Reader_readNot F g v1 m = some (r, m') → m_R X (d + 7) 133 0 [some (.ref 114), some (.int v1), none] [] (SH, m) (none, (SH, m')) := by
  intro v1 m r m' h
  unfold f_Reader_readNot at h
  refine m_R_sg (by decide) [(.aload_n 0, 1, 0, 0, 0, 0, 0), (.getfield 34, 3, 0, 5, 8, 0, 604), (.bipush 8, 2, 0, 8, 0, 0, 0)] (by decide +kernel) (show m_sgl X _ _ _ _ _ = some (6, [some (.ref 114), some (.int v1), none], [.int (8 : Int32), .int (m.1 114 8)], (SH, m.1, m.2)) from rfl) ?_
  rcases m_ite h with ⟨c1041, h⟩ | ⟨c1041, h⟩
  · refine m_R_1 (by decide) (m_opb_of (ins := .if_icmp .ne 32) (len := 3) (tag := 0) (a := 38) (b := 0) (c := 0) (q := 0) (by decide +kernel)) (if_pos c1041) ?_
    refine m_R_sg (by decide) [(.iload_n 1, 1, 0, 1, 0, 0, 0), (.bipush 6, 2, 0, 6, 0, 0, 0)] (by decide +kernel) (show m_sgl X _ _ _ _ _ = some (12, [some (.ref 114), some (.int v1), none], [.int (6 : Int32), .int v1], (SH, m.1, m.2)) from rfl) ?_
    rcases m_ite h with ⟨c1042, h⟩ | ⟨c1042, h⟩
    · refine m_R_1 (by decide) (m_opb_of (ins := .if_icmp .lt 8) (len := 3) (tag := 0) (a := 20) (b := 0) (c := 0) (q := 0) (by decide +kernel)) (if_pos c1042) ?_
      refine m_R_sg (by decide) [(.aload_n 0, 1, 0, 0, 0, 0, 0)] (by decide +kernel) (show m_sgl X _ _ _ _ _ = some (21, [some (.ref 114), some (.int v1), none], [.ref 114], (SH, m.1, m.2)) from rfl) ?_
      obtain ⟨q1, hc1, h⟩ := Option.bind_eq_some_iff.mp h
      refine m_R_cV (v := none) (h1 := (SH, q1.2)) (rest := []) (lo' := [some (.ref 114)]) (ml := 1) (k0 := 114) (by decide) (Or.inl rfl) (m_opb_of (ins := .invokevirtual 31) (len := 3) (tag := 5) (a := 123) (b := 0) (c := 0) (q := 1116) (by decide +kernel)) (by decide +kernel) rfl (show m_isO 123 114 (SH, _) = true from m_isO_of (by decide +kernel)) (Nat.le_of_ble_eq_true rfl) rfl rfl (ok_Reader_nextToken X (d + 0) F _ _ _ hc1) ?_
      refine m_R_sg (by decide) [(.aload_n 0, 1, 0, 0, 0, 0, 0), (.iload_n 1, 1, 0, 1, 0, 0, 0), (.iconst 1, 1, 0, 1, 0, 0, 0), (.iadd, 1, 0, 0, 0, 0, 0)] (by decide +kernel) (show m_sgl X _ _ _ _ _ = some (28, [some (.ref 114), some (.int v1), none], [.int (v1 + (1 : Int32)), .ref 114], (SH, q1.2.1, q1.2.2)) from rfl) ?_
      obtain ⟨q2, hc2, h⟩ := Option.bind_eq_some_iff.mp h
      refine m_R_cV (v := none) (h1 := (SH, q2.2)) (rest := []) (lo' := [some (.ref 114), some (.int (v1 + (1 : Int32))), none]) (ml := 3) (k0 := 114) (by decide) (Or.inl rfl) (m_opb_of (ins := .invokevirtual 64) (len := 3) (tag := 5) (a := 133) (b := 1) (c := 0) (q := 1202) (by decide +kernel)) (by decide +kernel) rfl (show m_isO 133 114 (SH, _) = true from m_isO_of (by decide +kernel)) (Nat.le_of_ble_eq_true rfl) rfl rfl (hg133 _ _ _ _ hc2) ?_
      refine m_R_sg (by decide) [(.aload_n 0, 1, 0, 0, 0, 0, 0), (.bipush (-11), 2, 0, 11, 1, 0, 0)] (by decide +kernel) (show m_sgl X _ _ _ _ _ = some (34, [some (.ref 114), some (.int v1), none], [.int (-11 : Int32), .ref 114], (SH, q2.2.1, q2.2.2)) from rfl) ?_
      obtain ⟨q3, hc3, h⟩ := Option.bind_eq_some_iff.mp h
      refine m_R_cV (v := none) (h1 := (SH, q3.2)) (rest := []) (lo' := [some (.ref 114), some (.int (-11 : Int32))]) (ml := 2) (k0 := 114) (by decide) (Or.inl rfl) (m_opb_of (ins := .invokevirtual 61) (len := 3) (tag := 5) (a := 134) (b := 1) (c := 0) (q := 1206) (by decide +kernel)) (by decide +kernel) rfl (show m_isO 134 114 (SH, _) = true from m_isO_of (by decide +kernel)) (Nat.le_of_ble_eq_true rfl) rfl rfl (ok_Reader_addCode X (d + 6) F _ _ _ _ hc3) ?_
      obtain ⟨rfl, rfl⟩ := m_some h
      exact m_R_vret (by decide) (m_opb_of (ins := .return_) (len := 1) (tag := 3) (a := 0) (b := 0) (c := 0) (q := 0) (by decide +kernel))
    · refine m_R_1 (by decide) (m_opb_of (ins := .if_icmp .lt 8) (len := 3) (tag := 0) (a := 20) (b := 0) (c := 0) (q := 0) (by decide +kernel)) (if_neg c1042) ?_
      refine m_R_sg (by decide) [(.aload_n 0, 1, 0, 0, 0, 0, 0)] (by decide +kernel) (show m_sgl X _ _ _ _ _ = some (16, [some (.ref 114), some (.int v1), none], [.ref 114], (SH, m.1, m.2)) from rfl) ?_
      obtain ⟨q4, hc4, h⟩ := Option.bind_eq_some_iff.mp h
      refine m_R_cV (v := none) (h1 := (SH, q4.2)) (rest := []) (lo' := [some (.ref 114)]) (ml := 1) (k0 := 114) (by decide) (Or.inl rfl) (m_opb_of (ins := .invokevirtual 37) (len := 3) (tag := 5) (a := 130) (b := 0) (c := 0) (q := 1190) (by decide +kernel)) (by decide +kernel) rfl (show m_isO 130 114 (SH, _) = true from m_isO_of (by decide +kernel)) (Nat.le_of_ble_eq_true rfl) rfl rfl (ok_Reader_stop X (d + 6) F _ _ _ hc4) ?_
      obtain ⟨rfl, rfl⟩ := m_some h
      exact m_R_vret (by decide) (m_opb_of (ins := .return_) (len := 1) (tag := 3) (a := 0) (b := 0) (c := 0) (q := 0) (by decide +kernel))
  · refine m_R_1 (by decide) (m_opb_of (ins := .if_icmp .ne 32) (len := 3) (tag := 0) (a := 38) (b := 0) (c := 0) (q := 0) (by decide +kernel)) (if_neg c1041) ?_
    refine m_R_sg (by decide) [(.aload_n 0, 1, 0, 0, 0, 0, 0), (.iload_n 1, 1, 0, 1, 0, 0, 0)] (by decide +kernel) (show m_sgl X _ _ _ _ _ = some (40, [some (.ref 114), some (.int v1), none], [.int v1, .ref 114], (SH, m.1, m.2)) from rfl) ?_
    obtain ⟨q5, hc5, h⟩ := Option.bind_eq_some_iff.mp h
    refine m_R_cV (v := none) (h1 := (SH, q5.2)) (rest := []) (lo' := [some (.ref 114), some (.int v1), none, none]) (ml := 4) (k0 := 114) (by decide) (Or.inl rfl) (m_opb_of (ins := .invokevirtual 67) (len := 3) (tag := 5) (a := 135) (b := 1) (c := 0) (q := 1210) (by decide +kernel)) (by decide +kernel) rfl (show m_isO 135 114 (SH, _) = true from m_isO_of (by decide +kernel)) (Nat.le_of_ble_eq_true rfl) rfl rfl (hg135 _ _ _ _ hc5) ?_
    refine m_R_sg (by decide) [(.aload_n 0, 1, 0, 0, 0, 0, 0), (.getfield 34, 3, 0, 5, 8, 0, 604)] (by decide +kernel) (show m_sgl X _ _ _ _ _ = some (47, [some (.ref 114), some (.int v1), none], [.int (q5.2.1 114 8)], (SH, q5.2.1, q5.2.2)) from rfl) ?_
    obtain ⟨q6, hc6, h⟩ := Option.bind_eq_some_iff.mp h
    refine m_R_cS (v := (some (.int q6.1))) (h1 := (SH, q6.2)) (rest := []) (lo' := [some (.int (q5.2.1 114 8))]) (ml := 1) (by decide) (m_opb_of (ins := .invokestatic 70) (len := 3) (tag := 4) (a := 138) (b := 1) (c := 0) (q := 1222) (by decide +kernel)) (by decide +kernel) (Nat.le_of_ble_eq_true rfl) rfl (Nat.le_of_ble_eq_true rfl) rfl rfl (ok_Texts_codeOfComparison X (d + 6) F _ _ _ _ hc6) ?_
    refine m_R_sg (by decide) [(.istore_n 2, 1, 0, 2, 0, 0, 0), (.iload_n 2, 1, 0, 2, 0, 0, 0)] (by decide +kernel) (show m_sgl X _ _ _ _ _ = some (52, [some (.ref 114), some (.int v1), some (.int q6.1)], [.int q6.1], (SH, q6.2.1, q6.2.2)) from rfl) ?_
    rcases m_ite h with ⟨c1043, h⟩ | ⟨c1043, h⟩
    · refine m_R_1 (by decide) (m_opb_of (ins := .ifCond .eq 17) (len := 3) (tag := 0) (a := 69) (b := 0) (c := 0) (q := 0) (by decide +kernel)) (if_pos c1043) ?_
      exact ok_Reader_readNot_69 X d F g hg131 hg132 hg133 hg135 hg136 hg137 _ _ _ _ _ _ h
    · refine m_R_1 (by decide) (m_opb_of (ins := .ifCond .eq 17) (len := 3) (tag := 0) (a := 69) (b := 0) (c := 0) (q := 0) (by decide +kernel)) (if_neg c1043) ?_
      refine m_R_sg (by decide) [(.aload_n 0, 1, 0, 0, 0, 0, 0)] (by decide +kernel) (show m_sgl X _ _ _ _ _ = some (56, [some (.ref 114), some (.int v1), some (.int q6.1)], [.ref 114], (SH, q6.2.1, q6.2.2)) from rfl) ?_
      obtain ⟨q7, hc7, h⟩ := Option.bind_eq_some_iff.mp h
      refine m_R_cV (v := none) (h1 := (SH, q7.2)) (rest := []) (lo' := [some (.ref 114)]) (ml := 1) (k0 := 114) (by decide) (Or.inl rfl) (m_opb_of (ins := .invokevirtual 31) (len := 3) (tag := 5) (a := 123) (b := 0) (c := 0) (q := 1116) (by decide +kernel)) (by decide +kernel) rfl (show m_isO 123 114 (SH, _) = true from m_isO_of (by decide +kernel)) (Nat.le_of_ble_eq_true rfl) rfl rfl (ok_Reader_nextToken X (d + 0) F _ _ _ hc7) ?_
      refine m_R_sg (by decide) [(.aload_n 0, 1, 0, 0, 0, 0, 0), (.iload_n 1, 1, 0, 1, 0, 0, 0)] (by decide +kernel) (show m_sgl X _ _ _ _ _ = some (61, [some (.ref 114), some (.int v1), some (.int q6.1)], [.int v1, .ref 114], (SH, q7.2.1, q7.2.2)) from rfl) ?_
      obtain ⟨q8, hc8, h⟩ := Option.bind_eq_some_iff.mp h
      refine m_R_cV (v := none) (h1 := (SH, q8.2)) (rest := []) (lo' := [some (.ref 114), some (.int v1), none, none]) (ml := 4) (k0 := 114) (by decide) (Or.inl rfl) (m_opb_of (ins := .invokevirtual 67) (len := 3) (tag := 5) (a := 135) (b := 1) (c := 0) (q := 1210) (by decide +kernel)) (by decide +kernel) rfl (show m_isO 135 114 (SH, _) = true from m_isO_of (by decide +kernel)) (Nat.le_of_ble_eq_true rfl) rfl rfl (hg135 _ _ _ _ hc8) ?_
      refine m_R_sg (by decide) [(.aload_n 0, 1, 0, 0, 0, 0, 0), (.iload_n 2, 1, 0, 2, 0, 0, 0)] (by decide +kernel) (show m_sgl X _ _ _ _ _ = some (66, [some (.ref 114), some (.int v1), some (.int q6.1)], [.int q6.1, .ref 114], (SH, q8.2.1, q8.2.2)) from rfl) ?_
      obtain ⟨q9, hc9, h⟩ := Option.bind_eq_some_iff.mp h
      refine m_R_cV (v := none) (h1 := (SH, q9.2)) (rest := []) (lo' := [some (.ref 114), some (.int q6.1)]) (ml := 2) (k0 := 114) (by decide) (Or.inl rfl) (m_opb_of (ins := .invokevirtual 61) (len := 3) (tag := 5) (a := 134) (b := 1) (c := 0) (q := 1206) (by decide +kernel)) (by decide +kernel) rfl (show m_isO 134 114 (SH, _) = true from m_isO_of (by decide +kernel)) (Nat.le_of_ble_eq_true rfl) rfl rfl (ok_Reader_addCode X (d + 6) F _ _ _ _ hc9) ?_
      exact ok_Reader_readNot_69 X d F g hg131 hg132 hg133 hg135 hg136 hg137 _ _ _ _ _ _ h
def f_Reader_readSum_47 (F : Nat) (g : Nat → Int32 → mM → Option (Unit × mM)) (k7 : Int32 → Int32 → mM → Option (Unit × mM)) (v1 : Int32) (v2 : Int32) (s0 : Int32) (m : mM) : Option (Unit × mM) := ((f_Reader_nextToken F m).bind fun q2 => ((g 136 v1 q2.2).bind fun q3 => ((f_Reader_addCode F s0 q3.2).bind fun q4 => k7 v1 (v2 + (1 : Int32)) q4.2)))
theorem ok_Reader_readSum_47 (X : mX) (d F : Nat) (g : Nat → Int32 → mM → Option (Unit × mM)) (hg131 : ∀ (v1 : Int32) (m : mM) (r : Unit) (m' : mM), g 131 v1 m = some (r, m') → m_R X (d + 6) 131 0 [some (.ref 114), some (.int v1), none] [] (SH, m) (none, (SH, m'))) (hg132 : ∀ (v1 : Int32) (m : mM) (r : Unit) (m' : mM), g 132 v1 m = some (r, m') → m_R X (d + 6) 132 0 [some (.ref 114), some (.int v1), none] [] (SH, m) (none, (SH, m'))) (hg133 : ∀ (v1 : Int32) (m : mM) (r : Unit) (m' : mM), g 133 v1 m = some (r, m') → m_R X (d + 6) 133 0 [some (.ref 114), some (.int v1), none] [] (SH, m) (none, (SH, m'))) (hg135 : ∀ (v1 : Int32) (m : mM) (r : Unit) (m' : mM), g 135 v1 m = some (r, m') → m_R X (d + 6) 135 0 [some (.ref 114), some (.int v1), none, none] [] (SH, m) (none, (SH, m'))) (hg136 : ∀ (v1 : Int32) (m : mM) (r : Unit) (m' : mM), g 136 v1 m = some (r, m') → m_R X (d + 6) 136 0 [some (.ref 114), some (.int v1), none, none] [] (SH, m) (none, (SH, m'))) (hg137 : ∀ (v1 : Int32) (m : mM) (r : Unit) (m' : mM), g 137 v1 m = some (r, m') → m_R X (d + 6) 137 0 [some (.ref 114), some (.int v1), none] [] (SH, m) (none, (SH, m'))) (k7 : Int32 → Int32 → mM → Option (Unit × mM)) (hk7 : ∀ (v1 : Int32) (v2 : Int32) (w3 : Option Value) (m : mM) (r : Unit) (m' : mM), k7 v1 v2 m = some (r, m') → m_R X (d + 7) 135 7 [some (.ref 114), some (.int v1), some (.int v2), w3] [] (SH, m) (none, (SH, m'))) : ∀ (v1 : Int32) (v2 : Int32) (s0 : Int32) (w3 : Option Value) (m : mM) (r : Unit) (m' : mM), f_Reader_readSum_47 F g k7 v1 v2 s0 m = some (r, m') → m_R X (d + 7) 135 47 [some (.ref 114), some (.int v1), some (.int v2), w3] [.int s0] (SH, m) (none, (SH, m')) := by
  intro v1 v2 s0 w3 m r m' h
  unfold f_Reader_readSum_47 at h
  refine m_R_sg (by decide) [(.istore_n 3, 1, 0, 3, 0, 0, 0), (.aload_n 0, 1, 0, 0, 0, 0, 0)] (by decide +kernel) (show m_sgl X _ _ _ _ _ = some (49, [some (.ref 114), some (.int v1), some (.int v2), some (.int s0)], [.ref 114], (SH, m.1, m.2)) from rfl) ?_
  obtain ⟨q2, hc2, h⟩ := Option.bind_eq_some_iff.mp h
  refine m_R_cV (v := none) (h1 := (SH, q2.2)) (rest := []) (lo' := [some (.ref 114)]) (ml := 1) (k0 := 114) (by decide) (Or.inl rfl) (m_opb_of (ins := .invokevirtual 31) (len := 3) (tag := 5) (a := 123) (b := 0) (c := 0) (q := 1116) (by decide +kernel)) (by decide +kernel) rfl (show m_isO 123 114 (SH, _) = true from m_isO_of (by decide +kernel)) (Nat.le_of_ble_eq_true rfl) rfl rfl (ok_Reader_nextToken X (d + 0) F _ _ _ hc2) ?_
  refine m_R_sg (by decide) [(.aload_n 0, 1, 0, 0, 0, 0, 0), (.iload_n 1, 1, 0, 1, 0, 0, 0)] (by decide +kernel) (show m_sgl X _ _ _ _ _ = some (54, [some (.ref 114), some (.int v1), some (.int v2), some (.int s0)], [.int v1, .ref 114], (SH, q2.2.1, q2.2.2)) from rfl) ?_
  obtain ⟨q3, hc3, h⟩ := Option.bind_eq_some_iff.mp h
  refine m_R_cV (v := none) (h1 := (SH, q3.2)) (rest := []) (lo' := [some (.ref 114), some (.int v1), none, none]) (ml := 4) (k0 := 114) (by decide) (Or.inl rfl) (m_opb_of (ins := .invokevirtual 74) (len := 3) (tag := 5) (a := 136) (b := 1) (c := 0) (q := 1214) (by decide +kernel)) (by decide +kernel) rfl (show m_isO 136 114 (SH, _) = true from m_isO_of (by decide +kernel)) (Nat.le_of_ble_eq_true rfl) rfl rfl (hg136 _ _ _ _ hc3) ?_
  refine m_R_sg (by decide) [(.aload_n 0, 1, 0, 0, 0, 0, 0), (.iload_n 3, 1, 0, 3, 0, 0, 0)] (by decide +kernel) (show m_sgl X _ _ _ _ _ = some (59, [some (.ref 114), some (.int v1), some (.int v2), some (.int s0)], [.int s0, .ref 114], (SH, q3.2.1, q3.2.2)) from rfl) ?_
  obtain ⟨q4, hc4, h⟩ := Option.bind_eq_some_iff.mp h
  refine m_R_cV (v := none) (h1 := (SH, q4.2)) (rest := []) (lo' := [some (.ref 114), some (.int s0)]) (ml := 2) (k0 := 114) (by decide) (Or.inl rfl) (m_opb_of (ins := .invokevirtual 61) (len := 3) (tag := 5) (a := 134) (b := 1) (c := 0) (q := 1206) (by decide +kernel)) (by decide +kernel) rfl (show m_isO 134 114 (SH, _) = true from m_isO_of (by decide +kernel)) (Nat.le_of_ble_eq_true rfl) rfl rfl (ok_Reader_addCode X (d + 6) F _ _ _ _ hc4) ?_
  refine m_R_sg (by decide) [(.iinc 2 1, 3, 0, 2, 1, 0, 0), (.goto (-58), 3, 0, 7, 0, 0, 0)] (by decide +kernel) (show m_sgl X _ _ _ _ _ = some (7, [some (.ref 114), some (.int v1), some (.int (v2 + (1 : Int32))), some (.int s0)], [], (SH, q4.2.1, q4.2.2)) from rfl) ?_
  exact hk7 _ _ _ _ _ _ h
def f_Reader_readSum_31 (F : Nat) (g : Nat → Int32 → mM → Option (Unit × mM)) (k7 : Int32 → Int32 → mM → Option (Unit × mM)) (v1 : Int32) (v2 : Int32) (m : mM) : Option (Unit × mM) := (if (m.1 114 8) = (43 : Int32) then f_Reader_readSum_47 F g k7 v1 v2 (-18 : Int32) m else f_Reader_readSum_47 F g k7 v1 v2 (-19 : Int32) m)
theorem ok_Reader_readSum_31 (X : mX) (d F : Nat) (g : Nat → Int32 → mM → Option (Unit × mM)) (hg131 : ∀ (v1 : Int32) (m : mM) (r : Unit) (m' : mM), g 131 v1 m = some (r, m') → m_R X (d + 6) 131 0 [some (.ref 114), some (.int v1), none] [] (SH, m) (none, (SH, m'))) (hg132 : ∀ (v1 : Int32) (m : mM) (r : Unit) (m' : mM), g 132 v1 m = some (r, m') → m_R X (d + 6) 132 0 [some (.ref 114), some (.int v1), none] [] (SH, m) (none, (SH, m'))) (hg133 : ∀ (v1 : Int32) (m : mM) (r : Unit) (m' : mM), g 133 v1 m = some (r, m') → m_R X (d + 6) 133 0 [some (.ref 114), some (.int v1), none] [] (SH, m) (none, (SH, m'))) (hg135 : ∀ (v1 : Int32) (m : mM) (r : Unit) (m' : mM), g 135 v1 m = some (r, m') → m_R X (d + 6) 135 0 [some (.ref 114), some (.int v1), none, none] [] (SH, m) (none, (SH, m'))) (hg136 : ∀ (v1 : Int32) (m : mM) (r : Unit) (m' : mM), g 136 v1 m = some (r, m') → m_R X (d + 6) 136 0 [some (.ref 114), some (.int v1), none, none] [] (SH, m) (none, (SH, m'))) (hg137 : ∀ (v1 : Int32) (m : mM) (r : Unit) (m' : mM), g 137 v1 m = some (r, m') → m_R X (d + 6) 137 0 [some (.ref 114), some (.int v1), none] [] (SH, m) (none, (SH, m'))) (k7 : Int32 → Int32 → mM → Option (Unit × mM)) (hk7 : ∀ (v1 : Int32) (v2 : Int32) (w3 : Option Value) (m : mM) (r : Unit) (m' : mM), k7 v1 v2 m = some (r, m') → m_R X (d + 7) 135 7 [some (.ref 114), some (.int v1), some (.int v2), w3] [] (SH, m) (none, (SH, m'))) : ∀ (v1 : Int32) (v2 : Int32) (w3 : Option Value) (m : mM) (r : Unit) (m' : mM), f_Reader_readSum_31 F g k7 v1 v2 m = some (r, m') → m_R X (d + 7) 135 31 [some (.ref 114), some (.int v1), some (.int v2), w3] [] (SH, m) (none, (SH, m')) := by
  intro v1 v2 w3 m r m' h
  unfold f_Reader_readSum_31 at h
  refine m_R_sg (by decide) [(.aload_n 0, 1, 0, 0, 0, 0, 0), (.getfield 34, 3, 0, 5, 8, 0, 604), (.bipush 43, 2, 0, 43, 0, 0, 0)] (by decide +kernel) (show m_sgl X _ _ _ _ _ = some (37, [some (.ref 114), some (.int v1), some (.int v2), w3], [.int (43 : Int32), .int (m.1 114 8)], (SH, m.1, m.2)) from rfl) ?_
  rcases m_ite h with ⟨c1044, h⟩ | ⟨c1044, h⟩
  · refine m_R_1 (by decide) (m_opb_of (ins := .if_icmp .ne 8) (len := 3) (tag := 0) (a := 45) (b := 0) (c := 0) (q := 0) (by decide +kernel)) (if_pos c1044) ?_
    refine m_R_sg (by decide) [(.bipush (-18), 2, 0, 18, 1, 0, 0), (.goto 5, 3, 0, 47, 0, 0, 0)] (by decide +kernel) (show m_sgl X _ _ _ _ _ = some (47, [some (.ref 114), some (.int v1), some (.int v2), w3], [.int (-18 : Int32)], (SH, m.1, m.2)) from rfl) ?_
    exact ok_Reader_readSum_47 X d F g hg131 hg132 hg133 hg135 hg136 hg137 _ hk7 _ _ _ _ _ _ _ h
  · refine m_R_1 (by decide) (m_opb_of (ins := .if_icmp .ne 8) (len := 3) (tag := 0) (a := 45) (b := 0) (c := 0) (q := 0) (by decide +kernel)) (if_neg c1044) ?_
    refine m_R_sg (by decide) [(.bipush (-19), 2, 0, 19, 1, 0, 0)] (by decide +kernel) (show m_sgl X _ _ _ _ _ = some (47, [some (.ref 114), some (.int v1), some (.int v2), w3], [.int (-19 : Int32)], (SH, m.1, m.2)) from rfl) ?_
    exact ok_Reader_readSum_47 X d F g hg131 hg132 hg133 hg135 hg136 hg137 _ hk7 _ _ _ _ _ _ _ h
def f_Reader_readSum_68 (F : Nat) (g : Nat → Int32 → mM → Option (Unit × mM))   (m : mM) : Option (Unit × mM) := some ((), m)
theorem ok_Reader_readSum_68 (X : mX) (d F : Nat) (g : Nat → Int32 → mM → Option (Unit × mM)) (hg131 : ∀ (v1 : Int32) (m : mM) (r : Unit) (m' : mM), g 131 v1 m = some (r, m') → m_R X (d + 6) 131 0 [some (.ref 114), some (.int v1), none] [] (SH, m) (none, (SH, m'))) (hg132 : ∀ (v1 : Int32) (m : mM) (r : Unit) (m' : mM), g 132 v1 m = some (r, m') → m_R X (d + 6) 132 0 [some (.ref 114), some (.int v1), none] [] (SH, m) (none, (SH, m'))) (hg133 : ∀ (v1 : Int32) (m : mM) (r : Unit) (m' : mM), g 133 v1 m = some (r, m') → m_R X (d + 6) 133 0 [some (.ref 114), some (.int v1), none] [] (SH, m) (none, (SH, m'))) (hg135 : ∀ (v1 : Int32) (m : mM) (r : Unit) (m' : mM), g 135 v1 m = some (r, m') → m_R X (d + 6) 135 0 [some (.ref 114), some (.int v1), none, none] [] (SH, m) (none, (SH, m'))) (hg136 : ∀ (v1 : Int32) (m : mM) (r : Unit) (m' : mM), g 136 v1 m = some (r, m') → m_R X (d + 6) 136 0 [some (.ref 114), some (.int v1), none, none] [] (SH, m) (none, (SH, m'))) (hg137 : ∀ (v1 : Int32) (m : mM) (r : Unit) (m' : mM), g 137 v1 m = some (r, m') → m_R X (d + 6) 137 0 [some (.ref 114), some (.int v1), none] [] (SH, m) (none, (SH, m'))) : ∀  (w0 : Option Value) (w1 : Option Value) (w2 : Option Value) (w3 : Option Value) (m : mM) (r : Unit) (m' : mM), f_Reader_readSum_68 F g  m = some (r, m') → m_R X (d + 7) 135 68 [w0, w1, w2, w3] [] (SH, m) (none, (SH, m')) := by
  intro w0 w1 w2 w3 m r m' h
  unfold f_Reader_readSum_68 at h
  obtain ⟨rfl, rfl⟩ := m_some h
  exact m_R_vret (by decide) (m_opb_of (ins := .return_) (len := 1) (tag := 3) (a := 0) (b := 0) (c := 0) (q := 0) (by decide +kernel))
def f_Reader_readSum_7 (F : Nat) (g : Nat → Int32 → mM → Option (Unit × mM))  : Nat → Int32 → Int32 → mM → Option (Unit × mM)
  | 0, _, _, _ => none
  | n + 1, v1, v2, m => (if (120 : Int32) ≤ v2 then f_Reader_readSum_68 F g m else (if (m.1 114 8) = (43 : Int32) then f_Reader_readSum_31 F g (f_Reader_readSum_7 F g n) v1 v2 m else (if (m.1 114 8) = (45 : Int32) then f_Reader_readSum_31 F g (f_Reader_readSum_7 F g n) v1 v2 m else f_Reader_readSum_68 F g m)))
theorem ok_Reader_readSum_7 (X : mX) (d F : Nat) (g : Nat → Int32 → mM → Option (Unit × mM)) (hg131 : ∀ (v1 : Int32) (m : mM) (r : Unit) (m' : mM), g 131 v1 m = some (r, m') → m_R X (d + 6) 131 0 [some (.ref 114), some (.int v1), none] [] (SH, m) (none, (SH, m'))) (hg132 : ∀ (v1 : Int32) (m : mM) (r : Unit) (m' : mM), g 132 v1 m = some (r, m') → m_R X (d + 6) 132 0 [some (.ref 114), some (.int v1), none] [] (SH, m) (none, (SH, m'))) (hg133 : ∀ (v1 : Int32) (m : mM) (r : Unit) (m' : mM), g 133 v1 m = some (r, m') → m_R X (d + 6) 133 0 [some (.ref 114), some (.int v1), none] [] (SH, m) (none, (SH, m'))) (hg135 : ∀ (v1 : Int32) (m : mM) (r : Unit) (m' : mM), g 135 v1 m = some (r, m') → m_R X (d + 6) 135 0 [some (.ref 114), some (.int v1), none, none] [] (SH, m) (none, (SH, m'))) (hg136 : ∀ (v1 : Int32) (m : mM) (r : Unit) (m' : mM), g 136 v1 m = some (r, m') → m_R X (d + 6) 136 0 [some (.ref 114), some (.int v1), none, none] [] (SH, m) (none, (SH, m'))) (hg137 : ∀ (v1 : Int32) (m : mM) (r : Unit) (m' : mM), g 137 v1 m = some (r, m') → m_R X (d + 6) 137 0 [some (.ref 114), some (.int v1), none] [] (SH, m) (none, (SH, m'))) : ∀ (n : Nat) (v1 : Int32) (v2 : Int32) (w3 : Option Value) (m : mM) (r : Unit) (m' : mM), f_Reader_readSum_7 F g n v1 v2 m = some (r, m') → m_R X (d + 7) 135 7 [some (.ref 114), some (.int v1), some (.int v2), w3] [] (SH, m) (none, (SH, m')) := by
  intro n
  induction n with
  | zero => intro v1 v2 w3 m r m' h; cases h
  | succ n ih =>
    intro v1 v2 w3 m r m' h
    simp only [f_Reader_readSum_7] at h
    refine m_R_sg (by decide) [(.iload_n 2, 1, 0, 2, 0, 0, 0), (.bipush 120, 2, 0, 120, 0, 0, 0)] (by decide +kernel) (show m_sgl X _ _ _ _ _ = some (10, [some (.ref 114), some (.int v1), some (.int v2), w3], [.int (120 : Int32), .int v2], (SH, m.1, m.2)) from rfl) ?_
    rcases m_ite h with ⟨c1045, h⟩ | ⟨c1045, h⟩
    · refine m_R_1 (by decide) (m_opb_of (ins := .if_icmp .ge 58) (len := 3) (tag := 0) (a := 68) (b := 0) (c := 0) (q := 0) (by decide +kernel)) (if_pos c1045) ?_
      exact ok_Reader_readSum_68 X d F g hg131 hg132 hg133 hg135 hg136 hg137 _ _ _ _ _ _ _ h
    · refine m_R_1 (by decide) (m_opb_of (ins := .if_icmp .ge 58) (len := 3) (tag := 0) (a := 68) (b := 0) (c := 0) (q := 0) (by decide +kernel)) (if_neg c1045) ?_
      refine m_R_sg (by decide) [(.aload_n 0, 1, 0, 0, 0, 0, 0), (.getfield 34, 3, 0, 5, 8, 0, 604), (.bipush 43, 2, 0, 43, 0, 0, 0)] (by decide +kernel) (show m_sgl X _ _ _ _ _ = some (19, [some (.ref 114), some (.int v1), some (.int v2), w3], [.int (43 : Int32), .int (m.1 114 8)], (SH, m.1, m.2)) from rfl) ?_
      rcases m_ite h with ⟨c1046, h⟩ | ⟨c1046, h⟩
      · refine m_R_1 (by decide) (m_opb_of (ins := .if_icmp .eq 12) (len := 3) (tag := 0) (a := 31) (b := 0) (c := 0) (q := 0) (by decide +kernel)) (if_pos c1046) ?_
        exact ok_Reader_readSum_31 X d F g hg131 hg132 hg133 hg135 hg136 hg137 _ (fun a0 a1 a2 m r m' h => ih a0 a1 a2 m r m' h) _ _ _ _ _ _ h
      · refine m_R_1 (by decide) (m_opb_of (ins := .if_icmp .eq 12) (len := 3) (tag := 0) (a := 31) (b := 0) (c := 0) (q := 0) (by decide +kernel)) (if_neg c1046) ?_
        refine m_R_sg (by decide) [(.aload_n 0, 1, 0, 0, 0, 0, 0), (.getfield 34, 3, 0, 5, 8, 0, 604), (.bipush 45, 2, 0, 45, 0, 0, 0)] (by decide +kernel) (show m_sgl X _ _ _ _ _ = some (28, [some (.ref 114), some (.int v1), some (.int v2), w3], [.int (45 : Int32), .int (m.1 114 8)], (SH, m.1, m.2)) from rfl) ?_
        rcases m_ite h with ⟨c1047, h⟩ | ⟨c1047, h⟩
        · refine m_R_1 (by decide) (m_opb_of (ins := .if_icmp .ne 40) (len := 3) (tag := 0) (a := 68) (b := 0) (c := 0) (q := 0) (by decide +kernel)) (if_pos c1047) ?_
          exact ok_Reader_readSum_31 X d F g hg131 hg132 hg133 hg135 hg136 hg137 _ (fun a0 a1 a2 m r m' h => ih a0 a1 a2 m r m' h) _ _ _ _ _ _ h
        · refine m_R_1 (by decide) (m_opb_of (ins := .if_icmp .ne 40) (len := 3) (tag := 0) (a := 68) (b := 0) (c := 0) (q := 0) (by decide +kernel)) (if_neg c1047) ?_
          exact ok_Reader_readSum_68 X d F g hg131 hg132 hg133 hg135 hg136 hg137 _ _ _ _ _ _ _ h
def f_Reader_readSum (F : Nat) (g : Nat → Int32 → mM → Option (Unit × mM))  (v1 : Int32) (m : mM) : Option (Unit × mM) := ((g 136 v1 m).bind fun q1 => f_Reader_readSum_7 F g F v1 (0 : Int32) q1.2)
theorem ok_Reader_readSum (X : mX) (d F : Nat) (g : Nat → Int32 → mM → Option (Unit × mM)) (hg131 : ∀ (v1 : Int32) (m : mM) (r : Unit) (m' : mM), g 131 v1 m = some (r, m') → m_R X (d + 6) 131 0 [some (.ref 114), some (.int v1), none] [] (SH, m) (none, (SH, m'))) (hg132 : ∀ (v1 : Int32) (m : mM) (r : Unit) (m' : mM), g 132 v1 m = some (r, m') → m_R X (d + 6) 132 0 [some (.ref 114), some (.int v1), none] [] (SH, m) (none, (SH, m'))) (hg133 : ∀ (v1 : Int32) (m : mM) (r : Unit) (m' : mM), g 133 v1 m = some (r, m') → m_R X (d + 6) 133 0 [some (.ref 114), some (.int v1), none] [] (SH, m) (none, (SH, m'))) (hg135 : ∀ (v1 : Int32) (m : mM) (r : Unit) (m' : mM), g 135 v1 m = some (r, m') → m_R X (d + 6) 135 0 [some (.ref 114), some (.int v1), none, none] [] (SH, m) (none, (SH, m'))) (hg136 : ∀ (v1 : Int32) (m : mM) (r : Unit) (m' : mM), g 136 v1 m = some (r, m') → m_R X (d + 6) 136 0 [some (.ref 114), some (.int v1), none, none] [] (SH, m) (none, (SH, m'))) (hg137 : ∀ (v1 : Int32) (m : mM) (r : Unit) (m' : mM), g 137 v1 m = some (r, m') → m_R X (d + 6) 137 0 [some (.ref 114), some (.int v1), none] [] (SH, m) (none, (SH, m'))) : ∀ (v1 : Int32)  (m : mM) (r : Unit) (m' : mM), f_Reader_readSum F g v1 m = some (r, m') → m_R X (d + 7) 135 0 [some (.ref 114), some (.int v1), none, none] [] (SH, m) (none, (SH, m')) := by
  intro v1 m r m' h
  unfold f_Reader_readSum at h
  refine m_R_sg (by decide) [(.aload_n 0, 1, 0, 0, 0, 0, 0), (.iload_n 1, 1, 0, 1, 0, 0, 0)] (by decide +kernel) (show m_sgl X _ _ _ _ _ = some (2, [some (.ref 114), some (.int v1), none, none], [.int v1, .ref 114], (SH, m.1, m.2)) from rfl) ?_
  obtain ⟨q1, hc1, h⟩ := Option.bind_eq_some_iff.mp h
  refine m_R_cV (v := none) (h1 := (SH, q1.2)) (rest := []) (lo' := [some (.ref 114), some (.int v1), none, none]) (ml := 4) (k0 := 114) (by decide) (Or.inl rfl) (m_opb_of (ins := .invokevirtual 74) (len := 3) (tag := 5) (a := 136) (b := 1) (c := 0) (q := 1214) (by decide +kernel)) (by decide +kernel) rfl (show m_isO 136 114 (SH, _) = true from m_isO_of (by decide +kernel)) (Nat.le_of_ble_eq_true rfl) rfl rfl (hg136 _ _ _ _ hc1) ?_
  refine m_R_sg (by decide) [(.iconst 0, 1, 0, 0, 0, 0, 0), (.istore_n 2, 1, 0, 2, 0, 0, 0)] (by decide +kernel) (show m_sgl X _ _ _ _ _ = some (7, [some (.ref 114), some (.int v1), some (.int (0 : Int32)), none], [], (SH, q1.2.1, q1.2.2)) from rfl) ?_
  exact ok_Reader_readSum_7 X d F g hg131 hg132 hg133 hg135 hg136 hg137 F _ _ _ _ _ _ h
def f_Reader_readTerm_70 (F : Nat) (g : Nat → Int32 → mM → Option (Unit × mM)) (k7 : Int32 → Int32 → mM → Option (Unit × mM)) (v1 : Int32) (v2 : Int32) (s0 : Int32) (m : mM) : Option (Unit × mM) := ((f_Reader_nextToken F m).bind fun q2 => ((g 137 v1 q2.2).bind fun q3 => ((f_Reader_addCode F s0 q3.2).bind fun q4 => k7 v1 (v2 + (1 : Int32)) q4.2)))
theorem ok_Reader_readTerm_70 (X : mX) (d F : Nat) (g : Nat → Int32 → mM → Option (Unit × mM)) (hg131 : ∀ (v1 : Int32) (m : mM) (r : Unit) (m' : mM), g 131 v1 m = some (r, m') → m_R X (d + 6) 131 0 [some (.ref 114), some (.int v1), none] [] (SH, m) (none, (SH, m'))) (hg132 : ∀ (v1 : Int32) (m : mM) (r : Unit) (m' : mM), g 132 v1 m = some (r, m') → m_R X (d + 6) 132 0 [some (.ref 114), some (.int v1), none] [] (SH, m) (none, (SH, m'))) (hg133 : ∀ (v1 : Int32) (m : mM) (r : Unit) (m' : mM), g 133 v1 m = some (r, m') → m_R X (d + 6) 133 0 [some (.ref 114), some (.int v1), none] [] (SH, m) (none, (SH, m'))) (hg135 : ∀ (v1 : Int32) (m : mM) (r : Unit) (m' : mM), g 135 v1 m = some (r, m') → m_R X (d + 6) 135 0 [some (.ref 114), some (.int v1), none, none] [] (SH, m) (none, (SH, m'))) (hg136 : ∀ (v1 : Int32) (m : mM) (r : Unit) (m' : mM), g 136 v1 m = some (r, m') → m_R X (d + 6) 136 0 [some (.ref 114), some (.int v1), none, none] [] (SH, m) (none, (SH, m'))) (hg137 : ∀ (v1 : Int32) (m : mM) (r : Unit) (m' : mM), g 137 v1 m = some (r, m') → m_R X (d + 6) 137 0 [some (.ref 114), some (.int v1), none] [] (SH, m) (none, (SH, m'))) (k7 : Int32 → Int32 → mM → Option (Unit × mM)) (hk7 : ∀ (v1 : Int32) (v2 : Int32) (w3 : Option Value) (m : mM) (r : Unit) (m' : mM), k7 v1 v2 m = some (r, m') → m_R X (d + 7) 136 7 [some (.ref 114), some (.int v1), some (.int v2), w3] [] (SH, m) (none, (SH, m'))) : ∀ (v1 : Int32) (v2 : Int32) (s0 : Int32) (w3 : Option Value) (m : mM) (r : Unit) (m' : mM), f_Reader_readTerm_70 F g k7 v1 v2 s0 m = some (r, m') → m_R X (d + 7) 136 70 [some (.ref 114), some (.int v1), some (.int v2), w3] [.int s0] (SH, m) (none, (SH, m')) := by
  intro v1 v2 s0 w3 m r m' h
  unfold f_Reader_readTerm_70 at h
  refine m_R_sg (by decide) [(.istore_n 3, 1, 0, 3, 0, 0, 0), (.aload_n 0, 1, 0, 0, 0, 0, 0)] (by decide +kernel) (show m_sgl X _ _ _ _ _ = some (72, [some (.ref 114), some (.int v1), some (.int v2), some (.int s0)], [.ref 114], (SH, m.1, m.2)) from rfl) ?_
  obtain ⟨q2, hc2, h⟩ := Option.bind_eq_some_iff.mp h
  refine m_R_cV (v := none) (h1 := (SH, q2.2)) (rest := []) (lo' := [some (.ref 114)]) (ml := 1) (k0 := 114) (by decide) (Or.inl rfl) (m_opb_of (ins := .invokevirtual 31) (len := 3) (tag := 5) (a := 123) (b := 0) (c := 0) (q := 1116) (by decide +kernel)) (by decide +kernel) rfl (show m_isO 123 114 (SH, _) = true from m_isO_of (by decide +kernel)) (Nat.le_of_ble_eq_true rfl) rfl rfl (ok_Reader_nextToken X (d + 0) F _ _ _ hc2) ?_
  refine m_R_sg (by decide) [(.aload_n 0, 1, 0, 0, 0, 0, 0), (.iload_n 1, 1, 0, 1, 0, 0, 0)] (by decide +kernel) (show m_sgl X _ _ _ _ _ = some (77, [some (.ref 114), some (.int v1), some (.int v2), some (.int s0)], [.int v1, .ref 114], (SH, q2.2.1, q2.2.2)) from rfl) ?_
  obtain ⟨q3, hc3, h⟩ := Option.bind_eq_some_iff.mp h
  refine m_R_cV (v := none) (h1 := (SH, q3.2)) (rest := []) (lo' := [some (.ref 114), some (.int v1), none]) (ml := 3) (k0 := 114) (by decide) (Or.inl rfl) (m_opb_of (ins := .invokevirtual 77) (len := 3) (tag := 5) (a := 137) (b := 1) (c := 0) (q := 1218) (by decide +kernel)) (by decide +kernel) rfl (show m_isO 137 114 (SH, _) = true from m_isO_of (by decide +kernel)) (Nat.le_of_ble_eq_true rfl) rfl rfl (hg137 _ _ _ _ hc3) ?_
  refine m_R_sg (by decide) [(.aload_n 0, 1, 0, 0, 0, 0, 0), (.iload_n 3, 1, 0, 3, 0, 0, 0)] (by decide +kernel) (show m_sgl X _ _ _ _ _ = some (82, [some (.ref 114), some (.int v1), some (.int v2), some (.int s0)], [.int s0, .ref 114], (SH, q3.2.1, q3.2.2)) from rfl) ?_
  obtain ⟨q4, hc4, h⟩ := Option.bind_eq_some_iff.mp h
  refine m_R_cV (v := none) (h1 := (SH, q4.2)) (rest := []) (lo' := [some (.ref 114), some (.int s0)]) (ml := 2) (k0 := 114) (by decide) (Or.inl rfl) (m_opb_of (ins := .invokevirtual 61) (len := 3) (tag := 5) (a := 134) (b := 1) (c := 0) (q := 1206) (by decide +kernel)) (by decide +kernel) rfl (show m_isO 134 114 (SH, _) = true from m_isO_of (by decide +kernel)) (Nat.le_of_ble_eq_true rfl) rfl rfl (ok_Reader_addCode X (d + 6) F _ _ _ _ hc4) ?_
  refine m_R_sg (by decide) [(.iinc 2 1, 3, 0, 2, 1, 0, 0), (.goto (-81), 3, 0, 7, 0, 0, 0)] (by decide +kernel) (show m_sgl X _ _ _ _ _ = some (7, [some (.ref 114), some (.int v1), some (.int (v2 + (1 : Int32))), some (.int s0)], [], (SH, q4.2.1, q4.2.2)) from rfl) ?_
  exact hk7 _ _ _ _ _ _ h
def f_Reader_readTerm_40 (F : Nat) (g : Nat → Int32 → mM → Option (Unit × mM)) (k7 : Int32 → Int32 → mM → Option (Unit × mM)) (v1 : Int32) (v2 : Int32) (m : mM) : Option (Unit × mM) := (if (m.1 114 8) = (42 : Int32) then f_Reader_readTerm_70 F g k7 v1 v2 (-20 : Int32) m else (if (m.1 114 8) = (47 : Int32) then f_Reader_readTerm_70 F g k7 v1 v2 (-21 : Int32) m else f_Reader_readTerm_70 F g k7 v1 v2 (-22 : Int32) m))
theorem ok_Reader_readTerm_40 (X : mX) (d F : Nat) (g : Nat → Int32 → mM → Option (Unit × mM)) (hg131 : ∀ (v1 : Int32) (m : mM) (r : Unit) (m' : mM), g 131 v1 m = some (r, m') → m_R X (d + 6) 131 0 [some (.ref 114), some (.int v1), none] [] (SH, m) (none, (SH, m'))) (hg132 : ∀ (v1 : Int32) (m : mM) (r : Unit) (m' : mM), g 132 v1 m = some (r, m') → m_R X (d + 6) 132 0 [some (.ref 114), some (.int v1), none] [] (SH, m) (none, (SH, m'))) (hg133 : ∀ (v1 : Int32) (m : mM) (r : Unit) (m' : mM), g 133 v1 m = some (r, m') → m_R X (d + 6) 133 0 [some (.ref 114), some (.int v1), none] [] (SH, m) (none, (SH, m'))) (hg135 : ∀ (v1 : Int32) (m : mM) (r : Unit) (m' : mM), g 135 v1 m = some (r, m') → m_R X (d + 6) 135 0 [some (.ref 114), some (.int v1), none, none] [] (SH, m) (none, (SH, m'))) (hg136 : ∀ (v1 : Int32) (m : mM) (r : Unit) (m' : mM), g 136 v1 m = some (r, m') → m_R X (d + 6) 136 0 [some (.ref 114), some (.int v1), none, none] [] (SH, m) (none, (SH, m'))) (hg137 : ∀ (v1 : Int32) (m : mM) (r : Unit) (m' : mM), g 137 v1 m = some (r, m') → m_R X (d + 6) 137 0 [some (.ref 114), some (.int v1), none] [] (SH, m) (none, (SH, m'))) (k7 : Int32 → Int32 → mM → Option (Unit × mM)) (hk7 : ∀ (v1 : Int32) (v2 : Int32) (w3 : Option Value) (m : mM) (r : Unit) (m' : mM), k7 v1 v2 m = some (r, m') → m_R X (d + 7) 136 7 [some (.ref 114), some (.int v1), some (.int v2), w3] [] (SH, m) (none, (SH, m'))) : ∀ (v1 : Int32) (v2 : Int32) (w3 : Option Value) (m : mM) (r : Unit) (m' : mM), f_Reader_readTerm_40 F g k7 v1 v2 m = some (r, m') → m_R X (d + 7) 136 40 [some (.ref 114), some (.int v1), some (.int v2), w3] [] (SH, m) (none, (SH, m')) := by
  intro v1 v2 w3 m r m' h
  unfold f_Reader_readTerm_40 at h
  refine m_R_sg (by decide) [(.aload_n 0, 1, 0, 0, 0, 0, 0), (.getfield 34, 3, 0, 5, 8, 0, 604), (.bipush 42, 2, 0, 42, 0, 0, 0)] (by decide +kernel) (show m_sgl X _ _ _ _ _ = some (46, [some (.ref 114), some (.int v1), some (.int v2), w3], [.int (42 : Int32), .int (m.1 114 8)], (SH, m.1, m.2)) from rfl) ?_
  rcases m_ite h with ⟨c1048, h⟩ | ⟨c1048, h⟩
  · refine m_R_1 (by decide) (m_opb_of (ins := .if_icmp .ne 8) (len := 3) (tag := 0) (a := 54) (b := 0) (c := 0) (q := 0) (by decide +kernel)) (if_pos c1048) ?_
    refine m_R_sg (by decide) [(.bipush (-20), 2, 0, 20, 1, 0, 0), (.goto 19, 3, 0, 70, 0, 0, 0)] (by decide +kernel) (show m_sgl X _ _ _ _ _ = some (70, [some (.ref 114), some (.int v1), some (.int v2), w3], [.int (-20 : Int32)], (SH, m.1, m.2)) from rfl) ?_
    exact ok_Reader_readTerm_70 X d F g hg131 hg132 hg133 hg135 hg136 hg137 _ hk7 _ _ _ _ _ _ _ h
  · refine m_R_1 (by decide) (m_opb_of (ins := .if_icmp .ne 8) (len := 3) (tag := 0) (a := 54) (b := 0) (c := 0) (q := 0) (by decide +kernel)) (if_neg c1048) ?_
    refine m_R_sg (by decide) [(.aload_n 0, 1, 0, 0, 0, 0, 0), (.getfield 34, 3, 0, 5, 8, 0, 604), (.bipush 47, 2, 0, 47, 0, 0, 0)] (by decide +kernel) (show m_sgl X _ _ _ _ _ = some (60, [some (.ref 114), some (.int v1), some (.int v2), w3], [.int (47 : Int32), .int (m.1 114 8)], (SH, m.1, m.2)) from rfl) ?_
    rcases m_ite h with ⟨c1049, h⟩ | ⟨c1049, h⟩
    · refine m_R_1 (by decide) (m_opb_of (ins := .if_icmp .ne 8) (len := 3) (tag := 0) (a := 68) (b := 0) (c := 0) (q := 0) (by decide +kernel)) (if_pos c1049) ?_
      refine m_R_sg (by decide) [(.bipush (-21), 2, 0, 21, 1, 0, 0), (.goto 5, 3, 0, 70, 0, 0, 0)] (by decide +kernel) (show m_sgl X _ _ _ _ _ = some (70, [some (.ref 114), some (.int v1), some (.int v2), w3], [.int (-21 : Int32)], (SH, m.1, m.2)) from rfl) ?_
      exact ok_Reader_readTerm_70 X d F g hg131 hg132 hg133 hg135 hg136 hg137 _ hk7 _ _ _ _ _ _ _ h
    · refine m_R_1 (by decide) (m_opb_of (ins := .if_icmp .ne 8) (len := 3) (tag := 0) (a := 68) (b := 0) (c := 0) (q := 0) (by decide +kernel)) (if_neg c1049) ?_
      refine m_R_sg (by decide) [(.bipush (-22), 2, 0, 22, 1, 0, 0)] (by decide +kernel) (show m_sgl X _ _ _ _ _ = some (70, [some (.ref 114), some (.int v1), some (.int v2), w3], [.int (-22 : Int32)], (SH, m.1, m.2)) from rfl) ?_
      exact ok_Reader_readTerm_70 X d F g hg131 hg132 hg133 hg135 hg136 hg137 _ hk7 _ _ _ _ _ _ _ h
def f_Reader_readTerm_91 (F : Nat) (g : Nat → Int32 → mM → Option (Unit × mM))   (m : mM) : Option (Unit × mM) := some ((), m)
theorem ok_Reader_readTerm_91 (X : mX) (d F : Nat) (g : Nat → Int32 → mM → Option (Unit × mM)) (hg131 : ∀ (v1 : Int32) (m : mM) (r : Unit) (m' : mM), g 131 v1 m = some (r, m') → m_R X (d + 6) 131 0 [some (.ref 114), some (.int v1), none] [] (SH, m) (none, (SH, m'))) (hg132 : ∀ (v1 : Int32) (m : mM) (r : Unit) (m' : mM), g 132 v1 m = some (r, m') → m_R X (d + 6) 132 0 [some (.ref 114), some (.int v1), none] [] (SH, m) (none, (SH, m'))) (hg133 : ∀ (v1 : Int32) (m : mM) (r : Unit) (m' : mM), g 133 v1 m = some (r, m') → m_R X (d + 6) 133 0 [some (.ref 114), some (.int v1), none] [] (SH, m) (none, (SH, m'))) (hg135 : ∀ (v1 : Int32) (m : mM) (r : Unit) (m' : mM), g 135 v1 m = some (r, m') → m_R X (d + 6) 135 0 [some (.ref 114), some (.int v1), none, none] [] (SH, m) (none, (SH, m'))) (hg136 : ∀ (v1 : Int32) (m : mM) (r : Unit) (m' : mM), g 136 v1 m = some (r, m') → m_R X (d + 6) 136 0 [some (.ref 114), some (.int v1), none, none] [] (SH, m) (none, (SH, m'))) (hg137 : ∀ (v1 : Int32) (m : mM) (r : Unit) (m' : mM), g 137 v1 m = some (r, m') → m_R X (d + 6) 137 0 [some (.ref 114), some (.int v1), none] [] (SH, m) (none, (SH, m'))) : ∀  (w0 : Option Value) (w1 : Option Value) (w2 : Option Value) (w3 : Option Value) (m : mM) (r : Unit) (m' : mM), f_Reader_readTerm_91 F g  m = some (r, m') → m_R X (d + 7) 136 91 [w0, w1, w2, w3] [] (SH, m) (none, (SH, m')) := by
  intro w0 w1 w2 w3 m r m' h
  unfold f_Reader_readTerm_91 at h
  obtain ⟨rfl, rfl⟩ := m_some h
  exact m_R_vret (by decide) (m_opb_of (ins := .return_) (len := 1) (tag := 3) (a := 0) (b := 0) (c := 0) (q := 0) (by decide +kernel))
def f_Reader_readTerm_7 (F : Nat) (g : Nat → Int32 → mM → Option (Unit × mM))  : Nat → Int32 → Int32 → mM → Option (Unit × mM)
  | 0, _, _, _ => none
  | n + 1, v1, v2, m => (if (120 : Int32) ≤ v2 then f_Reader_readTerm_91 F g m else (if (m.1 114 8) = (42 : Int32) then f_Reader_readTerm_40 F g (f_Reader_readTerm_7 F g n) v1 v2 m else (if (m.1 114 8) = (47 : Int32) then f_Reader_readTerm_40 F g (f_Reader_readTerm_7 F g n) v1 v2 m else (if (m.1 114 8) = (37 : Int32) then f_Reader_readTerm_40 F g (f_Reader_readTerm_7 F g n) v1 v2 m else f_Reader_readTerm_91 F g m))))
theorem ok_Reader_readTerm_7 (X : mX) (d F : Nat) (g : Nat → Int32 → mM → Option (Unit × mM)) (hg131 : ∀ (v1 : Int32) (m : mM) (r : Unit) (m' : mM), g 131 v1 m = some (r, m') → m_R X (d + 6) 131 0 [some (.ref 114), some (.int v1), none] [] (SH, m) (none, (SH, m'))) (hg132 : ∀ (v1 : Int32) (m : mM) (r : Unit) (m' : mM), g 132 v1 m = some (r, m') → m_R X (d + 6) 132 0 [some (.ref 114), some (.int v1), none] [] (SH, m) (none, (SH, m'))) (hg133 : ∀ (v1 : Int32) (m : mM) (r : Unit) (m' : mM), g 133 v1 m = some (r, m') → m_R X (d + 6) 133 0 [some (.ref 114), some (.int v1), none] [] (SH, m) (none, (SH, m'))) (hg135 : ∀ (v1 : Int32) (m : mM) (r : Unit) (m' : mM), g 135 v1 m = some (r, m') → m_R X (d + 6) 135 0 [some (.ref 114), some (.int v1), none, none] [] (SH, m) (none, (SH, m'))) (hg136 : ∀ (v1 : Int32) (m : mM) (r : Unit) (m' : mM), g 136 v1 m = some (r, m') → m_R X (d + 6) 136 0 [some (.ref 114), some (.int v1), none, none] [] (SH, m) (none, (SH, m'))) (hg137 : ∀ (v1 : Int32) (m : mM) (r : Unit) (m' : mM), g 137 v1 m = some (r, m') → m_R X (d + 6) 137 0 [some (.ref 114), some (.int v1), none] [] (SH, m) (none, (SH, m'))) : ∀ (n : Nat) (v1 : Int32) (v2 : Int32) (w3 : Option Value) (m : mM) (r : Unit) (m' : mM), f_Reader_readTerm_7 F g n v1 v2 m = some (r, m') → m_R X (d + 7) 136 7 [some (.ref 114), some (.int v1), some (.int v2), w3] [] (SH, m) (none, (SH, m')) := by
  intro n
  induction n with
  | zero => intro v1 v2 w3 m r m' h; cases h
  | succ n ih =>
    intro v1 v2 w3 m r m' h
    simp only [f_Reader_readTerm_7] at h
    refine m_R_sg (by decide) [(.iload_n 2, 1, 0, 2, 0, 0, 0), (.bipush 120, 2, 0, 120, 0, 0, 0)] (by decide +kernel) (show m_sgl X _ _ _ _ _ = some (10, [some (.ref 114), some (.int v1), some (.int v2), w3], [.int (120 : Int32), .int v2], (SH, m.1, m.2)) from rfl) ?_
    rcases m_ite h with ⟨c1050, h⟩ | ⟨c1050, h⟩
    · refine m_R_1 (by decide) (m_opb_of (ins := .if_icmp .ge 81) (len := 3) (tag := 0) (a := 91) (b := 0) (c := 0) (q := 0) (by decide +kernel)) (if_pos c1050) ?_
      exact ok_Reader_readTerm_91 X d F g hg131 hg132 hg133 hg135 hg136 hg137 _ _ _ _ _ _ _ h
    · refine m_R_1 (by decide) (m_opb_of (ins := .if_icmp .ge 81) (len := 3) (tag := 0) (a := 91) (b := 0) (c := 0) (q := 0) (by decide +kernel)) (if_neg c1050) ?_
      refine m_R_sg (by decide) [(.aload_n 0, 1, 0, 0, 0, 0, 0), (.getfield 34, 3, 0, 5, 8, 0, 604), (.bipush 42, 2, 0, 42, 0, 0, 0)] (by decide +kernel) (show m_sgl X _ _ _ _ _ = some (19, [some (.ref 114), some (.int v1), some (.int v2), w3], [.int (42 : Int32), .int (m.1 114 8)], (SH, m.1, m.2)) from rfl) ?_
      rcases m_ite h with ⟨c1051, h⟩ | ⟨c1051, h⟩
      · refine m_R_1 (by decide) (m_opb_of (ins := .if_icmp .eq 21) (len := 3) (tag := 0) (a := 40) (b := 0) (c := 0) (q := 0) (by decide +kernel)) (if_pos c1051) ?_
        exact ok_Reader_readTerm_40 X d F g hg131 hg132 hg133 hg135 hg136 hg137 _ (fun a0 a1 a2 m r m' h => ih a0 a1 a2 m r m' h) _ _ _ _ _ _ h
      · refine m_R_1 (by decide) (m_opb_of (ins := .if_icmp .eq 21) (len := 3) (tag := 0) (a := 40) (b := 0) (c := 0) (q := 0) (by decide +kernel)) (if_neg c1051) ?_
        refine m_R_sg (by decide) [(.aload_n 0, 1, 0, 0, 0, 0, 0), (.getfield 34, 3, 0, 5, 8, 0, 604), (.bipush 47, 2, 0, 47, 0, 0, 0)] (by decide +kernel) (show m_sgl X _ _ _ _ _ = some (28, [some (.ref 114), some (.int v1), some (.int v2), w3], [.int (47 : Int32), .int (m.1 114 8)], (SH, m.1, m.2)) from rfl) ?_
        rcases m_ite h with ⟨c1052, h⟩ | ⟨c1052, h⟩
        · refine m_R_1 (by decide) (m_opb_of (ins := .if_icmp .eq 12) (len := 3) (tag := 0) (a := 40) (b := 0) (c := 0) (q := 0) (by decide +kernel)) (if_pos c1052) ?_
          exact ok_Reader_readTerm_40 X d F g hg131 hg132 hg133 hg135 hg136 hg137 _ (fun a0 a1 a2 m r m' h => ih a0 a1 a2 m r m' h) _ _ _ _ _ _ h
        · refine m_R_1 (by decide) (m_opb_of (ins := .if_icmp .eq 12) (len := 3) (tag := 0) (a := 40) (b := 0) (c := 0) (q := 0) (by decide +kernel)) (if_neg c1052) ?_
          refine m_R_sg (by decide) [(.aload_n 0, 1, 0, 0, 0, 0, 0), (.getfield 34, 3, 0, 5, 8, 0, 604), (.bipush 37, 2, 0, 37, 0, 0, 0)] (by decide +kernel) (show m_sgl X _ _ _ _ _ = some (37, [some (.ref 114), some (.int v1), some (.int v2), w3], [.int (37 : Int32), .int (m.1 114 8)], (SH, m.1, m.2)) from rfl) ?_
          rcases m_ite h with ⟨c1053, h⟩ | ⟨c1053, h⟩
          · refine m_R_1 (by decide) (m_opb_of (ins := .if_icmp .ne 54) (len := 3) (tag := 0) (a := 91) (b := 0) (c := 0) (q := 0) (by decide +kernel)) (if_pos c1053) ?_
            exact ok_Reader_readTerm_40 X d F g hg131 hg132 hg133 hg135 hg136 hg137 _ (fun a0 a1 a2 m r m' h => ih a0 a1 a2 m r m' h) _ _ _ _ _ _ h
          · refine m_R_1 (by decide) (m_opb_of (ins := .if_icmp .ne 54) (len := 3) (tag := 0) (a := 91) (b := 0) (c := 0) (q := 0) (by decide +kernel)) (if_neg c1053) ?_
            exact ok_Reader_readTerm_91 X d F g hg131 hg132 hg133 hg135 hg136 hg137 _ _ _ _ _ _ _ h
def f_Reader_readTerm (F : Nat) (g : Nat → Int32 → mM → Option (Unit × mM))  (v1 : Int32) (m : mM) : Option (Unit × mM) := ((g 137 v1 m).bind fun q1 => f_Reader_readTerm_7 F g F v1 (0 : Int32) q1.2)
theorem ok_Reader_readTerm (X : mX) (d F : Nat) (g : Nat → Int32 → mM → Option (Unit × mM)) (hg131 : ∀ (v1 : Int32) (m : mM) (r : Unit) (m' : mM), g 131 v1 m = some (r, m') → m_R X (d + 6) 131 0 [some (.ref 114), some (.int v1), none] [] (SH, m) (none, (SH, m'))) (hg132 : ∀ (v1 : Int32) (m : mM) (r : Unit) (m' : mM), g 132 v1 m = some (r, m') → m_R X (d + 6) 132 0 [some (.ref 114), some (.int v1), none] [] (SH, m) (none, (SH, m'))) (hg133 : ∀ (v1 : Int32) (m : mM) (r : Unit) (m' : mM), g 133 v1 m = some (r, m') → m_R X (d + 6) 133 0 [some (.ref 114), some (.int v1), none] [] (SH, m) (none, (SH, m'))) (hg135 : ∀ (v1 : Int32) (m : mM) (r : Unit) (m' : mM), g 135 v1 m = some (r, m') → m_R X (d + 6) 135 0 [some (.ref 114), some (.int v1), none, none] [] (SH, m) (none, (SH, m'))) (hg136 : ∀ (v1 : Int32) (m : mM) (r : Unit) (m' : mM), g 136 v1 m = some (r, m') → m_R X (d + 6) 136 0 [some (.ref 114), some (.int v1), none, none] [] (SH, m) (none, (SH, m'))) (hg137 : ∀ (v1 : Int32) (m : mM) (r : Unit) (m' : mM), g 137 v1 m = some (r, m') → m_R X (d + 6) 137 0 [some (.ref 114), some (.int v1), none] [] (SH, m) (none, (SH, m'))) : ∀ (v1 : Int32)  (m : mM) (r : Unit) (m' : mM), f_Reader_readTerm F g v1 m = some (r, m') → m_R X (d + 7) 136 0 [some (.ref 114), some (.int v1), none, none] [] (SH, m) (none, (SH, m')) := by
  intro v1 m r m' h
  unfold f_Reader_readTerm at h
  refine m_R_sg (by decide) [(.aload_n 0, 1, 0, 0, 0, 0, 0), (.iload_n 1, 1, 0, 1, 0, 0, 0)] (by decide +kernel) (show m_sgl X _ _ _ _ _ = some (2, [some (.ref 114), some (.int v1), none, none], [.int v1, .ref 114], (SH, m.1, m.2)) from rfl) ?_
  obtain ⟨q1, hc1, h⟩ := Option.bind_eq_some_iff.mp h
  refine m_R_cV (v := none) (h1 := (SH, q1.2)) (rest := []) (lo' := [some (.ref 114), some (.int v1), none]) (ml := 3) (k0 := 114) (by decide) (Or.inl rfl) (m_opb_of (ins := .invokevirtual 77) (len := 3) (tag := 5) (a := 137) (b := 1) (c := 0) (q := 1218) (by decide +kernel)) (by decide +kernel) rfl (show m_isO 137 114 (SH, _) = true from m_isO_of (by decide +kernel)) (Nat.le_of_ble_eq_true rfl) rfl rfl (hg137 _ _ _ _ hc1) ?_
  refine m_R_sg (by decide) [(.iconst 0, 1, 0, 0, 0, 0, 0), (.istore_n 2, 1, 0, 2, 0, 0, 0)] (by decide +kernel) (show m_sgl X _ _ _ _ _ = some (7, [some (.ref 114), some (.int v1), some (.int (0 : Int32)), none], [], (SH, q1.2.1, q1.2.2)) from rfl) ?_
  exact ok_Reader_readTerm_7 X d F g hg131 hg132 hg133 hg135 hg136 hg137 F _ _ _ _ _ _ h
def f_Reader_readOne_149 (F : Nat) (g : Nat → Int32 → mM → Option (Unit × mM))   (m : mM) : Option (Unit × mM) := some ((), m)
theorem ok_Reader_readOne_149 (X : mX) (d F : Nat) (g : Nat → Int32 → mM → Option (Unit × mM)) (hg131 : ∀ (v1 : Int32) (m : mM) (r : Unit) (m' : mM), g 131 v1 m = some (r, m') → m_R X (d + 6) 131 0 [some (.ref 114), some (.int v1), none] [] (SH, m) (none, (SH, m'))) (hg132 : ∀ (v1 : Int32) (m : mM) (r : Unit) (m' : mM), g 132 v1 m = some (r, m') → m_R X (d + 6) 132 0 [some (.ref 114), some (.int v1), none] [] (SH, m) (none, (SH, m'))) (hg133 : ∀ (v1 : Int32) (m : mM) (r : Unit) (m' : mM), g 133 v1 m = some (r, m') → m_R X (d + 6) 133 0 [some (.ref 114), some (.int v1), none] [] (SH, m) (none, (SH, m'))) (hg135 : ∀ (v1 : Int32) (m : mM) (r : Unit) (m' : mM), g 135 v1 m = some (r, m') → m_R X (d + 6) 135 0 [some (.ref 114), some (.int v1), none, none] [] (SH, m) (none, (SH, m'))) (hg136 : ∀ (v1 : Int32) (m : mM) (r : Unit) (m' : mM), g 136 v1 m = some (r, m') → m_R X (d + 6) 136 0 [some (.ref 114), some (.int v1), none, none] [] (SH, m) (none, (SH, m'))) (hg137 : ∀ (v1 : Int32) (m : mM) (r : Unit) (m' : mM), g 137 v1 m = some (r, m') → m_R X (d + 6) 137 0 [some (.ref 114), some (.int v1), none] [] (SH, m) (none, (SH, m'))) : ∀  (w0 : Option Value) (w1 : Option Value) (w2 : Option Value) (m : mM) (r : Unit) (m' : mM), f_Reader_readOne_149 F g  m = some (r, m') → m_R X (d + 7) 137 149 [w0, w1, w2] [] (SH, m) (none, (SH, m')) := by
  intro w0 w1 w2 m r m' h
  unfold f_Reader_readOne_149 at h
  obtain ⟨rfl, rfl⟩ := m_some h
  exact m_R_vret (by decide) (m_opb_of (ins := .return_) (len := 1) (tag := 3) (a := 0) (b := 0) (c := 0) (q := 0) (by decide +kernel))
def f_Reader_readOne_82 (F : Nat) (g : Nat → Int32 → mM → Option (Unit × mM))   (m : mM) : Option (Unit × mM) := ((f_Reader_stop F m).bind fun q12 => f_Reader_readOne_149 F g q12.2)
theorem ok_Reader_readOne_82 (X : mX) (d F : Nat) (g : Nat → Int32 → mM → Option (Unit × mM)) (hg131 : ∀ (v1 : Int32) (m : mM) (r : Unit) (m' : mM), g 131 v1 m = some (r, m') → m_R X (d + 6) 131 0 [some (.ref 114), some (.int v1), none] [] (SH, m) (none, (SH, m'))) (hg132 : ∀ (v1 : Int32) (m : mM) (r : Unit) (m' : mM), g 132 v1 m = some (r, m') → m_R X (d + 6) 132 0 [some (.ref 114), some (.int v1), none] [] (SH, m) (none, (SH, m'))) (hg133 : ∀ (v1 : Int32) (m : mM) (r : Unit) (m' : mM), g 133 v1 m = some (r, m') → m_R X (d + 6) 133 0 [some (.ref 114), some (.int v1), none] [] (SH, m) (none, (SH, m'))) (hg135 : ∀ (v1 : Int32) (m : mM) (r : Unit) (m' : mM), g 135 v1 m = some (r, m') → m_R X (d + 6) 135 0 [some (.ref 114), some (.int v1), none, none] [] (SH, m) (none, (SH, m'))) (hg136 : ∀ (v1 : Int32) (m : mM) (r : Unit) (m' : mM), g 136 v1 m = some (r, m') → m_R X (d + 6) 136 0 [some (.ref 114), some (.int v1), none, none] [] (SH, m) (none, (SH, m'))) (hg137 : ∀ (v1 : Int32) (m : mM) (r : Unit) (m' : mM), g 137 v1 m = some (r, m') → m_R X (d + 6) 137 0 [some (.ref 114), some (.int v1), none] [] (SH, m) (none, (SH, m'))) : ∀  (w1 : Option Value) (w2 : Option Value) (m : mM) (r : Unit) (m' : mM), f_Reader_readOne_82 F g  m = some (r, m') → m_R X (d + 7) 137 82 [some (.ref 114), w1, w2] [] (SH, m) (none, (SH, m')) := by
  intro w1 w2 m r m' h
  unfold f_Reader_readOne_82 at h
  refine m_R_sg (by decide) [(.aload_n 0, 1, 0, 0, 0, 0, 0)] (by decide +kernel) (show m_sgl X _ _ _ _ _ = some (83, [some (.ref 114), w1, w2], [.ref 114], (SH, m.1, m.2)) from rfl) ?_
  obtain ⟨q12, hc12, h⟩ := Option.bind_eq_some_iff.mp h
  refine m_R_cV (v := none) (h1 := (SH, q12.2)) (rest := []) (lo' := [some (.ref 114)]) (ml := 1) (k0 := 114) (by decide) (Or.inl rfl) (m_opb_of (ins := .invokevirtual 37) (len := 3) (tag := 5) (a := 130) (b := 0) (c := 0) (q := 1190) (by decide +kernel)) (by decide +kernel) rfl (show m_isO 130 114 (SH, _) = true from m_isO_of (by decide +kernel)) (Nat.le_of_ble_eq_true rfl) rfl rfl (ok_Reader_stop X (d + 6) F _ _ _ hc12) ?_
  refine m_R_sg (by decide) [(.goto 63, 3, 0, 149, 0, 0, 0)] (by decide +kernel) (show m_sgl X _ _ _ _ _ = some (149, [some (.ref 114), w1, w2], [], (SH, q12.2.1, q12.2.2)) from rfl) ?_
  exact ok_Reader_readOne_149 X d F g hg131 hg132 hg133 hg135 hg136 hg137 _ _ _ _ _ _ h
def f_Reader_readOne_23 (F : Nat) (g : Nat → Int32 → mM → Option (Unit × mM))  (v1 : Int32) (s0 : Int32) (m : mM) : Option (Unit × mM) := (if (m.1 114 8) = (2 : Int32) then ((f_Reader_addCode F (m.1 114 10) m).bind fun q1 => ((f_Reader_nextToken F q1.2).bind fun q2 => f_Reader_readOne_149 F g q2.2)) else (if (m.1 114 8) = (4 : Int32) then ((f_Reader_addCode F ((-1 : Int32) - (m.1 114 10)) m).bind fun q3 => ((f_Reader_nextToken F q3.2).bind fun q4 => f_Reader_readOne_149 F g q4.2)) else (if s0 = 0 then f_Reader_readOne_82 F g m else (if v1 < (6 : Int32) then (if (m.1 114 8) = (45 : Int32) then ((f_Reader_nextToken F m).bind fun q5 => ((g 137 (v1 + (1 : Int32)) q5.2).bind fun q6 => ((f_Reader_addCode F (-12 : Int32) q6.2).bind fun q7 => f_Reader_readOne_149 F g q7.2))) else ((f_Reader_nextToken F m).bind fun q8 => ((g 131 (v1 + (1 : Int32)) q8.2).bind fun q9 => (if (q9.2.1 114 8) = (41 : Int32) then ((f_Reader_nextToken F q9.2).bind fun q10 => f_Reader_readOne_149 F g q10.2) else ((f_Reader_stop F q9.2).bind fun q11 => f_Reader_readOne_149 F g q11.2))))) else f_Reader_readOne_82 F g m))))
theorem ok_Reader_readOne_23 (X : mX) (d F : Nat) (g : Nat → Int32 → mM → Option (Unit × mM)) (hg131 : ∀ (v1 : Int32) (m : mM) (r : Unit) (m' : mM), g 131 v1 m = some (r, m') → m_R X (d + 6) 131 0 [some (.ref 114), some (.int v1), none] [] (SH, m) (none, (SH, m'))) (hg132 : ∀ (v1 : Int32) (m : mM) (r : Unit) (m' : mM), g 132 v1 m = some (r, m') → m_R X (d + 6) 132 0 [some (.ref 114), some (.int v1), none] [] (SH, m) (none, (SH, m'))) (hg133 : ∀ (v1 : Int32) (m : mM) (r : Unit) (m' : mM), g 133 v1 m = some (r, m') → m_R X (d + 6) 133 0 [some (.ref 114), some (.int v1), none] [] (SH, m) (none, (SH, m'))) (hg135 : ∀ (v1 : Int32) (m : mM) (r : Unit) (m' : mM), g 135 v1 m = some (r, m') → m_R X (d + 6) 135 0 [some (.ref 114), some (.int v1), none, none] [] (SH, m) (none, (SH, m'))) (hg136 : ∀ (v1 : Int32) (m : mM) (r : Unit) (m' : mM), g 136 v1 m = some (r, m') → m_R X (d + 6) 136 0 [some (.ref 114), some (.int v1), none, none] [] (SH, m) (none, (SH, m'))) (hg137 : ∀ (v1 : Int32) (m : mM) (r : Unit) (m' : mM), g 137 v1 m = some (r, m') → m_R X (d + 6) 137 0 [some (.ref 114), some (.int v1), none] [] (SH, m) (none, (SH, m'))) : ∀ (v1 : Int32) (s0 : Int32) (w2 : Option Value) (m : mM) (r : Unit) (m' : mM), f_Reader_readOne_23 F g v1 s0 m = some (r, m') → m_R X (d + 7) 137 23 [some (.ref 114), some (.int v1), w2] [.int s0] (SH, m) (none, (SH, m')) := by
  intro v1 s0 w2 m r m' h
  unfold f_Reader_readOne_23 at h
  refine m_R_sg (by decide) [(.istore_n 2, 1, 0, 2, 0, 0, 0), (.aload_n 0, 1, 0, 0, 0, 0, 0), (.getfield 34, 3, 0, 5, 8, 0, 604), (.iconst 2, 1, 0, 2, 0, 0, 0)] (by decide +kernel) (show m_sgl X _ _ _ _ _ = some (29, [some (.ref 114), some (.int v1), some (.int s0)], [.int (2 : Int32), .int (m.1 114 8)], (SH, m.1, m.2)) from rfl) ?_
  rcases m_ite h with ⟨c1054, h⟩ | ⟨c1054, h⟩
  · refine m_R_1 (by decide) (m_opb_of (ins := .if_icmp .ne 18) (len := 3) (tag := 0) (a := 47) (b := 0) (c := 0) (q := 0) (by decide +kernel)) (if_pos c1054) ?_
    refine m_R_sg (by decide) [(.aload_n 0, 1, 0, 0, 0, 0, 0), (.aload_n 0, 1, 0, 0, 0, 0, 0), (.getfield 40, 3, 0, 5, 10, 0, 606)] (by decide +kernel) (show m_sgl X _ _ _ _ _ = some (37, [some (.ref 114), some (.int v1), some (.int s0)], [.int (m.1 114 10), .ref 114], (SH, m.1, m.2)) from rfl) ?_
    obtain ⟨q1, hc1, h⟩ := Option.bind_eq_some_iff.mp h
    refine m_R_cV (v := none) (h1 := (SH, q1.2)) (rest := []) (lo' := [some (.ref 114), some (.int (m.1 114 10))]) (ml := 2) (k0 := 114) (by decide) (Or.inl rfl) (m_opb_of (ins := .invokevirtual 61) (len := 3) (tag := 5) (a := 134) (b := 1) (c := 0) (q := 1206) (by decide +kernel)) (by decide +kernel) rfl (show m_isO 134 114 (SH, _) = true from m_isO_of (by decide +kernel)) (Nat.le_of_ble_eq_true rfl) rfl rfl (ok_Reader_addCode X (d + 6) F _ _ _ _ hc1) ?_
    refine m_R_sg (by decide) [(.aload_n 0, 1, 0, 0, 0, 0, 0)] (by decide +kernel) (show m_sgl X _ _ _ _ _ = some (41, [some (.ref 114), some (.int v1), some (.int s0)], [.ref 114], (SH, q1.2.1, q1.2.2)) from rfl) ?_
    obtain ⟨q2, hc2, h⟩ := Option.bind_eq_some_iff.mp h
    refine m_R_cV (v := none) (h1 := (SH, q2.2)) (rest := []) (lo' := [some (.ref 114)]) (ml := 1) (k0 := 114) (by decide) (Or.inl rfl) (m_opb_of (ins := .invokevirtual 31) (len := 3) (tag := 5) (a := 123) (b := 0) (c := 0) (q := 1116) (by decide +kernel)) (by decide +kernel) rfl (show m_isO 123 114 (SH, _) = true from m_isO_of (by decide +kernel)) (Nat.le_of_ble_eq_true rfl) rfl rfl (ok_Reader_nextToken X (d + 0) F _ _ _ hc2) ?_
    refine m_R_sg (by decide) [(.goto 105, 3, 0, 149, 0, 0, 0)] (by decide +kernel) (show m_sgl X _ _ _ _ _ = some (149, [some (.ref 114), some (.int v1), some (.int s0)], [], (SH, q2.2.1, q2.2.2)) from rfl) ?_
    exact ok_Reader_readOne_149 X d F g hg131 hg132 hg133 hg135 hg136 hg137 _ _ _ _ _ _ h
  · refine m_R_1 (by decide) (m_opb_of (ins := .if_icmp .ne 18) (len := 3) (tag := 0) (a := 47) (b := 0) (c := 0) (q := 0) (by decide +kernel)) (if_neg c1054) ?_
    refine m_R_sg (by decide) [(.aload_n 0, 1, 0, 0, 0, 0, 0), (.getfield 34, 3, 0, 5, 8, 0, 604), (.iconst 4, 1, 0, 4, 0, 0, 0)] (by decide +kernel) (show m_sgl X _ _ _ _ _ = some (52, [some (.ref 114), some (.int v1), some (.int s0)], [.int (4 : Int32), .int (m.1 114 8)], (SH, m.1, m.2)) from rfl) ?_
    rcases m_ite h with ⟨c1055, h⟩ | ⟨c1055, h⟩
    · refine m_R_1 (by decide) (m_opb_of (ins := .if_icmp .ne 20) (len := 3) (tag := 0) (a := 72) (b := 0) (c := 0) (q := 0) (by decide +kernel)) (if_pos c1055) ?_
      refine m_R_sg (by decide) [(.aload_n 0, 1, 0, 0, 0, 0, 0), (.iconst (-1), 1, 0, 1, 1, 0, 0), (.aload_n 0, 1, 0, 0, 0, 0, 0), (.getfield 40, 3, 0, 5, 10, 0, 606), (.isub, 1, 0, 0, 0, 0, 0)] (by decide +kernel) (show m_sgl X _ _ _ _ _ = some (62, [some (.ref 114), some (.int v1), some (.int s0)], [.int ((-1 : Int32) - (m.1 114 10)), .ref 114], (SH, m.1, m.2)) from rfl) ?_
      obtain ⟨q3, hc3, h⟩ := Option.bind_eq_some_iff.mp h
      refine m_R_cV (v := none) (h1 := (SH, q3.2)) (rest := []) (lo' := [some (.ref 114), some (.int ((-1 : Int32) - (m.1 114 10)))]) (ml := 2) (k0 := 114) (by decide) (Or.inl rfl) (m_opb_of (ins := .invokevirtual 61) (len := 3) (tag := 5) (a := 134) (b := 1) (c := 0) (q := 1206) (by decide +kernel)) (by decide +kernel) rfl (show m_isO 134 114 (SH, _) = true from m_isO_of (by decide +kernel)) (Nat.le_of_ble_eq_true rfl) rfl rfl (ok_Reader_addCode X (d + 6) F _ _ _ _ hc3) ?_
      refine m_R_sg (by decide) [(.aload_n 0, 1, 0, 0, 0, 0, 0)] (by decide +kernel) (show m_sgl X _ _ _ _ _ = some (66, [some (.ref 114), some (.int v1), some (.int s0)], [.ref 114], (SH, q3.2.1, q3.2.2)) from rfl) ?_
      obtain ⟨q4, hc4, h⟩ := Option.bind_eq_some_iff.mp h
      refine m_R_cV (v := none) (h1 := (SH, q4.2)) (rest := []) (lo' := [some (.ref 114)]) (ml := 1) (k0 := 114) (by decide) (Or.inl rfl) (m_opb_of (ins := .invokevirtual 31) (len := 3) (tag := 5) (a := 123) (b := 0) (c := 0) (q := 1116) (by decide +kernel)) (by decide +kernel) rfl (show m_isO 123 114 (SH, _) = true from m_isO_of (by decide +kernel)) (Nat.le_of_ble_eq_true rfl) rfl rfl (ok_Reader_nextToken X (d + 0) F _ _ _ hc4) ?_
      refine m_R_sg (by decide) [(.goto 80, 3, 0, 149, 0, 0, 0)] (by decide +kernel) (show m_sgl X _ _ _ _ _ = some (149, [some (.ref 114), some (.int v1), some (.int s0)], [], (SH, q4.2.1, q4.2.2)) from rfl) ?_
      exact ok_Reader_readOne_149 X d F g hg131 hg132 hg133 hg135 hg136 hg137 _ _ _ _ _ _ h
    · refine m_R_1 (by decide) (m_opb_of (ins := .if_icmp .ne 20) (len := 3) (tag := 0) (a := 72) (b := 0) (c := 0) (q := 0) (by decide +kernel)) (if_neg c1055) ?_
      refine m_R_sg (by decide) [(.iload_n 2, 1, 0, 2, 0, 0, 0)] (by decide +kernel) (show m_sgl X _ _ _ _ _ = some (73, [some (.ref 114), some (.int v1), some (.int s0)], [.int s0], (SH, m.1, m.2)) from rfl) ?_
      rcases m_ite h with ⟨c1056, h⟩ | ⟨c1056, h⟩
      · refine m_R_1 (by decide) (m_opb_of (ins := .ifCond .eq 9) (len := 3) (tag := 0) (a := 82) (b := 0) (c := 0) (q := 0) (by decide +kernel)) (if_pos c1056) ?_
        exact ok_Reader_readOne_82 X d F g hg131 hg132 hg133 hg135 hg136 hg137 _ _ _ _ _ h
      · refine m_R_1 (by decide) (m_opb_of (ins := .ifCond .eq 9) (len := 3) (tag := 0) (a := 82) (b := 0) (c := 0) (q := 0) (by decide +kernel)) (if_neg c1056) ?_
        refine m_R_sg (by decide) [(.iload_n 1, 1, 0, 1, 0, 0, 0), (.bipush 6, 2, 0, 6, 0, 0, 0)] (by decide +kernel) (show m_sgl X _ _ _ _ _ = some (79, [some (.ref 114), some (.int v1), some (.int s0)], [.int (6 : Int32), .int v1], (SH, m.1, m.2)) from rfl) ?_
        rcases m_ite h with ⟨c1057, h⟩ | ⟨c1057, h⟩
        · refine m_R_1 (by decide) (m_opb_of (ins := .if_icmp .lt 10) (len := 3) (tag := 0) (a := 89) (b := 0) (c := 0) (q := 0) (by decide +kernel)) (if_pos c1057) ?_
          refine m_R_sg (by decide) [(.aload_n 0, 1, 0, 0, 0, 0, 0), (.getfield 34, 3, 0, 5, 8, 0, 604), (.bipush 45, 2, 0, 45, 0, 0, 0)] (by decide +kernel) (show m_sgl X _ _ _ _ _ = some (95, [some (.ref 114), some (.int v1), some (.int s0)], [.int (45 : Int32), .int (m.1 114 8)], (SH, m.1, m.2)) from rfl) ?_
          rcases m_ite h with ⟨c1058, h⟩ | ⟨c1058, h⟩
          · refine m_R_1 (by decide) (m_opb_of (ins := .if_icmp .ne 23) (len := 3) (tag := 0) (a := 118) (b := 0) (c := 0) (q := 0) (by decide +kernel)) (if_pos c1058) ?_
            refine m_R_sg (by decide) [(.aload_n 0, 1, 0, 0, 0, 0, 0)] (by decide +kernel) (show m_sgl X _ _ _ _ _ = some (99, [some (.ref 114), some (.int v1), some (.int s0)], [.ref 114], (SH, m.1, m.2)) from rfl) ?_
            obtain ⟨q5, hc5, h⟩ := Option.bind_eq_some_iff.mp h
            refine m_R_cV (v := none) (h1 := (SH, q5.2)) (rest := []) (lo' := [some (.ref 114)]) (ml := 1) (k0 := 114) (by decide) (Or.inl rfl) (m_opb_of (ins := .invokevirtual 31) (len := 3) (tag := 5) (a := 123) (b := 0) (c := 0) (q := 1116) (by decide +kernel)) (by decide +kernel) rfl (show m_isO 123 114 (SH, _) = true from m_isO_of (by decide +kernel)) (Nat.le_of_ble_eq_true rfl) rfl rfl (ok_Reader_nextToken X (d + 0) F _ _ _ hc5) ?_
            refine m_R_sg (by decide) [(.aload_n 0, 1, 0, 0, 0, 0, 0), (.iload_n 1, 1, 0, 1, 0, 0, 0), (.iconst 1, 1, 0, 1, 0, 0, 0), (.iadd, 1, 0, 0, 0, 0, 0)] (by decide +kernel) (show m_sgl X _ _ _ _ _ = some (106, [some (.ref 114), some (.int v1), some (.int s0)], [.int (v1 + (1 : Int32)), .ref 114], (SH, q5.2.1, q5.2.2)) from rfl) ?_
            obtain ⟨q6, hc6, h⟩ := Option.bind_eq_some_iff.mp h
            refine m_R_cV (v := none) (h1 := (SH, q6.2)) (rest := []) (lo' := [some (.ref 114), some (.int (v1 + (1 : Int32))), none]) (ml := 3) (k0 := 114) (by decide) (Or.inl rfl) (m_opb_of (ins := .invokevirtual 77) (len := 3) (tag := 5) (a := 137) (b := 1) (c := 0) (q := 1218) (by decide +kernel)) (by decide +kernel) rfl (show m_isO 137 114 (SH, _) = true from m_isO_of (by decide +kernel)) (Nat.le_of_ble_eq_true rfl) rfl rfl (hg137 _ _ _ _ hc6) ?_
            refine m_R_sg (by decide) [(.aload_n 0, 1, 0, 0, 0, 0, 0), (.bipush (-12), 2, 0, 12, 1, 0, 0)] (by decide +kernel) (show m_sgl X _ _ _ _ _ = some (112, [some (.ref 114), some (.int v1), some (.int s0)], [.int (-12 : Int32), .ref 114], (SH, q6.2.1, q6.2.2)) from rfl) ?_
            obtain ⟨q7, hc7, h⟩ := Option.bind_eq_some_iff.mp h
            refine m_R_cV (v := none) (h1 := (SH, q7.2)) (rest := []) (lo' := [some (.ref 114), some (.int (-12 : Int32))]) (ml := 2) (k0 := 114) (by decide) (Or.inl rfl) (m_opb_of (ins := .invokevirtual 61) (len := 3) (tag := 5) (a := 134) (b := 1) (c := 0) (q := 1206) (by decide +kernel)) (by decide +kernel) rfl (show m_isO 134 114 (SH, _) = true from m_isO_of (by decide +kernel)) (Nat.le_of_ble_eq_true rfl) rfl rfl (ok_Reader_addCode X (d + 6) F _ _ _ _ hc7) ?_
            refine m_R_sg (by decide) [(.goto 34, 3, 0, 149, 0, 0, 0)] (by decide +kernel) (show m_sgl X _ _ _ _ _ = some (149, [some (.ref 114), some (.int v1), some (.int s0)], [], (SH, q7.2.1, q7.2.2)) from rfl) ?_
            exact ok_Reader_readOne_149 X d F g hg131 hg132 hg133 hg135 hg136 hg137 _ _ _ _ _ _ h
          · refine m_R_1 (by decide) (m_opb_of (ins := .if_icmp .ne 23) (len := 3) (tag := 0) (a := 118) (b := 0) (c := 0) (q := 0) (by decide +kernel)) (if_neg c1058) ?_
            refine m_R_sg (by decide) [(.aload_n 0, 1, 0, 0, 0, 0, 0)] (by decide +kernel) (show m_sgl X _ _ _ _ _ = some (119, [some (.ref 114), some (.int v1), some (.int s0)], [.ref 114], (SH, m.1, m.2)) from rfl) ?_
            obtain ⟨q8, hc8, h⟩ := Option.bind_eq_some_iff.mp h
            refine m_R_cV (v := none) (h1 := (SH, q8.2)) (rest := []) (lo' := [some (.ref 114)]) (ml := 1) (k0 := 114) (by decide) (Or.inl rfl) (m_opb_of (ins := .invokevirtual 31) (len := 3) (tag := 5) (a := 123) (b := 0) (c := 0) (q := 1116) (by decide +kernel)) (by decide +kernel) rfl (show m_isO 123 114 (SH, _) = true from m_isO_of (by decide +kernel)) (Nat.le_of_ble_eq_true rfl) rfl rfl (ok_Reader_nextToken X (d + 0) F _ _ _ hc8) ?_
            refine m_R_sg (by decide) [(.aload_n 0, 1, 0, 0, 0, 0, 0), (.iload_n 1, 1, 0, 1, 0, 0, 0), (.iconst 1, 1, 0, 1, 0, 0, 0), (.iadd, 1, 0, 0, 0, 0, 0)] (by decide +kernel) (show m_sgl X _ _ _ _ _ = some (126, [some (.ref 114), some (.int v1), some (.int s0)], [.int (v1 + (1 : Int32)), .ref 114], (SH, q8.2.1, q8.2.2)) from rfl) ?_
            obtain ⟨q9, hc9, h⟩ := Option.bind_eq_some_iff.mp h
            refine m_R_cV (v := none) (h1 := (SH, q9.2)) (rest := []) (lo' := [some (.ref 114), some (.int (v1 + (1 : Int32))), none]) (ml := 3) (k0 := 114) (by decide) (Or.inl rfl) (m_opb_of (ins := .invokevirtual 46) (len := 3) (tag := 5) (a := 131) (b := 1) (c := 0) (q := 1194) (by decide +kernel)) (by decide +kernel) rfl (show m_isO 131 114 (SH, _) = true from m_isO_of (by decide +kernel)) (Nat.le_of_ble_eq_true rfl) rfl rfl (hg131 _ _ _ _ hc9) ?_
            refine m_R_sg (by decide) [(.aload_n 0, 1, 0, 0, 0, 0, 0), (.getfield 34, 3, 0, 5, 8, 0, 604), (.bipush 41, 2, 0, 41, 0, 0, 0)] (by decide +kernel) (show m_sgl X _ _ _ _ _ = some (135, [some (.ref 114), some (.int v1), some (.int s0)], [.int (41 : Int32), .int (q9.2.1 114 8)], (SH, q9.2.1, q9.2.2)) from rfl) ?_
            rcases m_ite h with ⟨c1059, h⟩ | ⟨c1059, h⟩
            · refine m_R_1 (by decide) (m_opb_of (ins := .if_icmp .ne 10) (len := 3) (tag := 0) (a := 145) (b := 0) (c := 0) (q := 0) (by decide +kernel)) (if_pos c1059) ?_
              refine m_R_sg (by decide) [(.aload_n 0, 1, 0, 0, 0, 0, 0)] (by decide +kernel) (show m_sgl X _ _ _ _ _ = some (139, [some (.ref 114), some (.int v1), some (.int s0)], [.ref 114], (SH, q9.2.1, q9.2.2)) from rfl) ?_
              obtain ⟨q10, hc10, h⟩ := Option.bind_eq_some_iff.mp h
              refine m_R_cV (v := none) (h1 := (SH, q10.2)) (rest := []) (lo' := [some (.ref 114)]) (ml := 1) (k0 := 114) (by decide) (Or.inl rfl) (m_opb_of (ins := .invokevirtual 31) (len := 3) (tag := 5) (a := 123) (b := 0) (c := 0) (q := 1116) (by decide +kernel)) (by decide +kernel) rfl (show m_isO 123 114 (SH, _) = true from m_isO_of (by decide +kernel)) (Nat.le_of_ble_eq_true rfl) rfl rfl (ok_Reader_nextToken X (d + 0) F _ _ _ hc10) ?_
              refine m_R_sg (by decide) [(.goto 7, 3, 0, 149, 0, 0, 0)] (by decide +kernel) (show m_sgl X _ _ _ _ _ = some (149, [some (.ref 114), some (.int v1), some (.int s0)], [], (SH, q10.2.1, q10.2.2)) from rfl) ?_
              exact ok_Reader_readOne_149 X d F g hg131 hg132 hg133 hg135 hg136 hg137 _ _ _ _ _ _ h
            · refine m_R_1 (by decide) (m_opb_of (ins := .if_icmp .ne 10) (len := 3) (tag := 0) (a := 145) (b := 0) (c := 0) (q := 0) (by decide +kernel)) (if_neg c1059) ?_
              refine m_R_sg (by decide) [(.aload_n 0, 1, 0, 0, 0, 0, 0)] (by decide +kernel) (show m_sgl X _ _ _ _ _ = some (146, [some (.ref 114), some (.int v1), some (.int s0)], [.ref 114], (SH, q9.2.1, q9.2.2)) from rfl) ?_
              obtain ⟨q11, hc11, h⟩ := Option.bind_eq_some_iff.mp h
              refine m_R_cV (v := none) (h1 := (SH, q11.2)) (rest := []) (lo' := [some (.ref 114)]) (ml := 1) (k0 := 114) (by decide) (Or.inl rfl) (m_opb_of (ins := .invokevirtual 37) (len := 3) (tag := 5) (a := 130) (b := 0) (c := 0) (q := 1190) (by decide +kernel)) (by decide +kernel) rfl (show m_isO 130 114 (SH, _) = true from m_isO_of (by decide +kernel)) (Nat.le_of_ble_eq_true rfl) rfl rfl (ok_Reader_stop X (d + 6) F _ _ _ hc11) ?_
              exact ok_Reader_readOne_149 X d F g hg131 hg132 hg133 hg135 hg136 hg137 _ _ _ _ _ _ h
        · refine m_R_1 (by decide) (m_opb_of (ins := .if_icmp .lt 10) (len := 3) (tag := 0) (a := 89) (b := 0) (c := 0) (q := 0) (by decide +kernel)) (if_neg c1057) ?_
          exact ok_Reader_readOne_82 X d F g hg131 hg132 hg133 hg135 hg136 hg137 _ _ _ _ _ h
def f_Reader_readOne_18 (F : Nat) (g : Nat → Int32 → mM → Option (Unit × mM))  (v1 : Int32) (m : mM) : Option (Unit × mM) := f_Reader_readOne_23 F g v1 (1 : Int32) m
theorem ok_Reader_readOne_18 (X : mX) (d F : Nat) (g : Nat → Int32 → mM → Option (Unit × mM)) (hg131 : ∀ (v1 : Int32) (m : mM) (r : Unit) (m' : mM), g 131 v1 m = some (r, m') → m_R X (d + 6) 131 0 [some (.ref 114), some (.int v1), none] [] (SH, m) (none, (SH, m'))) (hg132 : ∀ (v1 : Int32) (m : mM) (r : Unit) (m' : mM), g 132 v1 m = some (r, m') → m_R X (d + 6) 132 0 [some (.ref 114), some (.int v1), none] [] (SH, m) (none, (SH, m'))) (hg133 : ∀ (v1 : Int32) (m : mM) (r : Unit) (m' : mM), g 133 v1 m = some (r, m') → m_R X (d + 6) 133 0 [some (.ref 114), some (.int v1), none] [] (SH, m) (none, (SH, m'))) (hg135 : ∀ (v1 : Int32) (m : mM) (r : Unit) (m' : mM), g 135 v1 m = some (r, m') → m_R X (d + 6) 135 0 [some (.ref 114), some (.int v1), none, none] [] (SH, m) (none, (SH, m'))) (hg136 : ∀ (v1 : Int32) (m : mM) (r : Unit) (m' : mM), g 136 v1 m = some (r, m') → m_R X (d + 6) 136 0 [some (.ref 114), some (.int v1), none, none] [] (SH, m) (none, (SH, m'))) (hg137 : ∀ (v1 : Int32) (m : mM) (r : Unit) (m' : mM), g 137 v1 m = some (r, m') → m_R X (d + 6) 137 0 [some (.ref 114), some (.int v1), none] [] (SH, m) (none, (SH, m'))) : ∀ (v1 : Int32) (w2 : Option Value) (m : mM) (r : Unit) (m' : mM), f_Reader_readOne_18 F g v1 m = some (r, m') → m_R X (d + 7) 137 18 [some (.ref 114), some (.int v1), w2] [] (SH, m) (none, (SH, m')) := by
  intro v1 w2 m r m' h
  unfold f_Reader_readOne_18 at h
  refine m_R_sg (by decide) [(.iconst 1, 1, 0, 1, 0, 0, 0), (.goto 4, 3, 0, 23, 0, 0, 0)] (by decide +kernel) (show m_sgl X _ _ _ _ _ = some (23, [some (.ref 114), some (.int v1), w2], [.int (1 : Int32)], (SH, m.1, m.2)) from rfl) ?_
  exact ok_Reader_readOne_23 X d F g hg131 hg132 hg133 hg135 hg136 hg137 _ _ _ _ _ _ h
def f_Reader_readOne (F : Nat) (g : Nat → Int32 → mM → Option (Unit × mM))  (v1 : Int32) (m : mM) : Option (Unit × mM) := (if (m.1 114 8) = (45 : Int32) then f_Reader_readOne_18 F g v1 m else (if (m.1 114 8) = (40 : Int32) then f_Reader_readOne_18 F g v1 m else f_Reader_readOne_23 F g v1 (0 : Int32) m))
theorem ok_Reader_readOne (X : mX) (d F : Nat) (g : Nat → Int32 → mM → Option (Unit × mM)) (hg131 : ∀ (v1 : Int32) (m : mM) (r : Unit) (m' : mM), g 131 v1 m = some (r, m') → m_R X (d + 6) 131 0 [some (.ref 114), some (.int v1), none] [] (SH, m) (none, (SH, m'))) (hg132 : ∀ (v1 : Int32) (m : mM) (r : Unit) (m' : mM), g 132 v1 m = some (r, m') → m_R X (d + 6) 132 0 [some (.ref 114), some (.int v1), none] [] (SH, m) (none, (SH, m'))) (hg133 : ∀ (v1 : Int32) (m : mM) (r : Unit) (m' : mM), g 133 v1 m = some (r, m') → m_R X (d + 6) 133 0 [some (.ref 114), some (.int v1), none] [] (SH, m) (none, (SH, m'))) (hg135 : ∀ (v1 : Int32) (m : mM) (r : Unit) (m' : mM), g 135 v1 m = some (r, m') → m_R X (d + 6) 135 0 [some (.ref 114), some (.int v1), none, none] [] (SH, m) (none, (SH, m'))) (hg136 : ∀ (v1 : Int32) (m : mM) (r : Unit) (m' : mM), g 136 v1 m = some (r, m') → m_R X (d + 6) 136 0 [some (.ref 114), some (.int v1), none, none] [] (SH, m) (none, (SH, m'))) (hg137 : ∀ (v1 : Int32) (m : mM) (r : Unit) (m' : mM), g 137 v1 m = some (r, m') → m_R X (d + 6) 137 0 [some (.ref 114), some (.int v1), none] [] (SH, m) (none, (SH, m'))) : ∀ (v1 : Int32)  (m : mM) (r : Unit) (m' : mM), f_Reader_readOne F g v1 m = some (r, m') → m_R X (d + 7) 137 0 [some (.ref 114), some (.int v1), none] [] (SH, m) (none, (SH, m')) := by
  intro v1 m r m' h
  unfold f_Reader_readOne at h
  refine m_R_sg (by decide) [(.aload_n 0, 1, 0, 0, 0, 0, 0), (.getfield 34, 3, 0, 5, 8, 0, 604), (.bipush 45, 2, 0, 45, 0, 0, 0)] (by decide +kernel) (show m_sgl X _ _ _ _ _ = some (6, [some (.ref 114), some (.int v1), none], [.int (45 : Int32), .int (m.1 114 8)], (SH, m.1, m.2)) from rfl) ?_
  rcases m_ite h with ⟨c1060, h⟩ | ⟨c1060, h⟩
  · refine m_R_1 (by decide) (m_opb_of (ins := .if_icmp .eq 12) (len := 3) (tag := 0) (a := 18) (b := 0) (c := 0) (q := 0) (by decide +kernel)) (if_pos c1060) ?_
    exact ok_Reader_readOne_18 X d F g hg131 hg132 hg133 hg135 hg136 hg137 _ _ _ _ _ h
  · refine m_R_1 (by decide) (m_opb_of (ins := .if_icmp .eq 12) (len := 3) (tag := 0) (a := 18) (b := 0) (c := 0) (q := 0) (by decide +kernel)) (if_neg c1060) ?_
    refine m_R_sg (by decide) [(.aload_n 0, 1, 0, 0, 0, 0, 0), (.getfield 34, 3, 0, 5, 8, 0, 604), (.bipush 40, 2, 0, 40, 0, 0, 0)] (by decide +kernel) (show m_sgl X _ _ _ _ _ = some (15, [some (.ref 114), some (.int v1), none], [.int (40 : Int32), .int (m.1 114 8)], (SH, m.1, m.2)) from rfl) ?_
    rcases m_ite h with ⟨c1061, h⟩ | ⟨c1061, h⟩
    · refine m_R_1 (by decide) (m_opb_of (ins := .if_icmp .ne 7) (len := 3) (tag := 0) (a := 22) (b := 0) (c := 0) (q := 0) (by decide +kernel)) (if_pos c1061) ?_
      exact ok_Reader_readOne_18 X d F g hg131 hg132 hg133 hg135 hg136 hg137 _ _ _ _ _ h
    · refine m_R_1 (by decide) (m_opb_of (ins := .if_icmp .ne 7) (len := 3) (tag := 0) (a := 22) (b := 0) (c := 0) (q := 0) (by decide +kernel)) (if_neg c1061) ?_
      refine m_R_sg (by decide) [(.iconst 0, 1, 0, 0, 0, 0, 0)] (by decide +kernel) (show m_sgl X _ _ _ _ _ = some (23, [some (.ref 114), some (.int v1), none], [.int (0 : Int32)], (SH, m.1, m.2)) from rfl) ?_
      exact ok_Reader_readOne_23 X d F g hg131 hg132 hg133 hg135 hg136 hg137 _ _ _ _ _ _ h
def f_grp_R (F : Nat) : Nat → Nat → Int32 → mM → Option (Unit × mM)
  | 0, _, _, _ => none
  | n + 1, t, v1, m => (if t = 131 then f_Reader_readOrs F (f_grp_R F n) v1 m else (if t = 132 then f_Reader_readAnds F (f_grp_R F n) v1 m else (if t = 133 then f_Reader_readNot F (f_grp_R F n) v1 m else (if t = 135 then f_Reader_readSum F (f_grp_R F n) v1 m else (if t = 136 then f_Reader_readTerm F (f_grp_R F n) v1 m else (if t = 137 then f_Reader_readOne F (f_grp_R F n) v1 m else none))))))
theorem ok_grp_R (X : mX) (F : Nat) : ∀ (n d : Nat), (∀ (v1 : Int32) (m : mM) (r : Unit) (m' : mM), f_grp_R F n 131 v1 m = some (r, m') → m_R X (d + n + 6) 131 0 [some (.ref 114), some (.int v1), none] [] (SH, m) (none, (SH, m'))) ∧ (∀ (v1 : Int32) (m : mM) (r : Unit) (m' : mM), f_grp_R F n 132 v1 m = some (r, m') → m_R X (d + n + 6) 132 0 [some (.ref 114), some (.int v1), none] [] (SH, m) (none, (SH, m'))) ∧ (∀ (v1 : Int32) (m : mM) (r : Unit) (m' : mM), f_grp_R F n 133 v1 m = some (r, m') → m_R X (d + n + 6) 133 0 [some (.ref 114), some (.int v1), none] [] (SH, m) (none, (SH, m'))) ∧ (∀ (v1 : Int32) (m : mM) (r : Unit) (m' : mM), f_grp_R F n 135 v1 m = some (r, m') → m_R X (d + n + 6) 135 0 [some (.ref 114), some (.int v1), none, none] [] (SH, m) (none, (SH, m'))) ∧ (∀ (v1 : Int32) (m : mM) (r : Unit) (m' : mM), f_grp_R F n 136 v1 m = some (r, m') → m_R X (d + n + 6) 136 0 [some (.ref 114), some (.int v1), none, none] [] (SH, m) (none, (SH, m'))) ∧ (∀ (v1 : Int32) (m : mM) (r : Unit) (m' : mM), f_grp_R F n 137 v1 m = some (r, m') → m_R X (d + n + 6) 137 0 [some (.ref 114), some (.int v1), none] [] (SH, m) (none, (SH, m'))) := by
  intro n
  induction n with
  | zero => intro d; exact ⟨(by intro v1 m r m' h; cases h), (by intro v1 m r m' h; cases h), (by intro v1 m r m' h; cases h), (by intro v1 m r m' h; cases h), (by intro v1 m r m' h; cases h), (by intro v1 m r m' h; cases h)⟩
  | succ n ih =>
    intro d
    obtain ⟨i131, i132, i133, i135, i136, i137⟩ := ih d
    refine ⟨?_, ?_, ?_, ?_, ?_, ?_⟩
    · intro v1 m r m' h
      rcases m_ite h with ⟨_, h⟩ | ⟨z, _⟩
      · exact ok_Reader_readOrs X (d + n) F _ i131 i132 i133 i135 i136 i137 v1 m r m' h
      · exact absurd rfl z
    · intro v1 m r m' h
      rcases m_ite h with ⟨z, _⟩ | ⟨_, h⟩; exact absurd z (by decide)
      rcases m_ite h with ⟨_, h⟩ | ⟨z, _⟩
      · exact ok_Reader_readAnds X (d + n) F _ i131 i132 i133 i135 i136 i137 v1 m r m' h
      · exact absurd rfl z
    · intro v1 m r m' h
      rcases m_ite h with ⟨z, _⟩ | ⟨_, h⟩; exact absurd z (by decide)
      rcases m_ite h with ⟨z, _⟩ | ⟨_, h⟩; exact absurd z (by decide)
      rcases m_ite h with ⟨_, h⟩ | ⟨z, _⟩
      · exact ok_Reader_readNot X (d + n) F _ i131 i132 i133 i135 i136 i137 v1 m r m' h
      · exact absurd rfl z
    · intro v1 m r m' h
      rcases m_ite h with ⟨z, _⟩ | ⟨_, h⟩; exact absurd z (by decide)
      rcases m_ite h with ⟨z, _⟩ | ⟨_, h⟩; exact absurd z (by decide)
      rcases m_ite h with ⟨z, _⟩ | ⟨_, h⟩; exact absurd z (by decide)
      rcases m_ite h with ⟨_, h⟩ | ⟨z, _⟩
      · exact ok_Reader_readSum X (d + n) F _ i131 i132 i133 i135 i136 i137 v1 m r m' h
      · exact absurd rfl z
    · intro v1 m r m' h
      rcases m_ite h with ⟨z, _⟩ | ⟨_, h⟩; exact absurd z (by decide)
      rcases m_ite h with ⟨z, _⟩ | ⟨_, h⟩; exact absurd z (by decide)
      rcases m_ite h with ⟨z, _⟩ | ⟨_, h⟩; exact absurd z (by decide)
      rcases m_ite h with ⟨z, _⟩ | ⟨_, h⟩; exact absurd z (by decide)
      rcases m_ite h with ⟨_, h⟩ | ⟨z, _⟩
      · exact ok_Reader_readTerm X (d + n) F _ i131 i132 i133 i135 i136 i137 v1 m r m' h
      · exact absurd rfl z
    · intro v1 m r m' h
      rcases m_ite h with ⟨z, _⟩ | ⟨_, h⟩; exact absurd z (by decide)
      rcases m_ite h with ⟨z, _⟩ | ⟨_, h⟩; exact absurd z (by decide)
      rcases m_ite h with ⟨z, _⟩ | ⟨_, h⟩; exact absurd z (by decide)
      rcases m_ite h with ⟨z, _⟩ | ⟨_, h⟩; exact absurd z (by decide)
      rcases m_ite h with ⟨z, _⟩ | ⟨_, h⟩; exact absurd z (by decide)
      rcases m_ite h with ⟨_, h⟩ | ⟨z, _⟩
      · exact ok_Reader_readOne X (d + n) F _ i131 i132 i133 i135 i136 i137 v1 m r m' h
      · exact absurd rfl z
def f_Reader_readOrs_w (F : Nat) (v1 : Int32) (m : mM) : Option (Unit × mM) := f_grp_R F 60 131 v1 m
theorem ok_Reader_readOrs_w (X : mX) (d F : Nat) : ∀ (v1 : Int32) (m : mM) (r : Unit) (m' : mM), f_Reader_readOrs_w F v1 m = some (r, m') → m_R X (d + 66) 131 0 [some (.ref 114), some (.int v1), none] [] (SH, m) (none, (SH, m')) := by
  obtain ⟨j131, j132, j133, j135, j136, j137⟩ := ok_grp_R X F 60 d
  exact j131
def f_Reader_readAnds_w (F : Nat) (v1 : Int32) (m : mM) : Option (Unit × mM) := f_grp_R F 60 132 v1 m
theorem ok_Reader_readAnds_w (X : mX) (d F : Nat) : ∀ (v1 : Int32) (m : mM) (r : Unit) (m' : mM), f_Reader_readAnds_w F v1 m = some (r, m') → m_R X (d + 66) 132 0 [some (.ref 114), some (.int v1), none] [] (SH, m) (none, (SH, m')) := by
  obtain ⟨j131, j132, j133, j135, j136, j137⟩ := ok_grp_R X F 60 d
  exact j132
def f_Reader_readNot_w (F : Nat) (v1 : Int32) (m : mM) : Option (Unit × mM) := f_grp_R F 60 133 v1 m
theorem ok_Reader_readNot_w (X : mX) (d F : Nat) : ∀ (v1 : Int32) (m : mM) (r : Unit) (m' : mM), f_Reader_readNot_w F v1 m = some (r, m') → m_R X (d + 66) 133 0 [some (.ref 114), some (.int v1), none] [] (SH, m) (none, (SH, m')) := by
  obtain ⟨j131, j132, j133, j135, j136, j137⟩ := ok_grp_R X F 60 d
  exact j133
def f_Reader_readSum_w (F : Nat) (v1 : Int32) (m : mM) : Option (Unit × mM) := f_grp_R F 60 135 v1 m
theorem ok_Reader_readSum_w (X : mX) (d F : Nat) : ∀ (v1 : Int32) (m : mM) (r : Unit) (m' : mM), f_Reader_readSum_w F v1 m = some (r, m') → m_R X (d + 66) 135 0 [some (.ref 114), some (.int v1), none, none] [] (SH, m) (none, (SH, m')) := by
  obtain ⟨j131, j132, j133, j135, j136, j137⟩ := ok_grp_R X F 60 d
  exact j135
def f_Reader_readTerm_w (F : Nat) (v1 : Int32) (m : mM) : Option (Unit × mM) := f_grp_R F 60 136 v1 m
theorem ok_Reader_readTerm_w (X : mX) (d F : Nat) : ∀ (v1 : Int32) (m : mM) (r : Unit) (m' : mM), f_Reader_readTerm_w F v1 m = some (r, m') → m_R X (d + 66) 136 0 [some (.ref 114), some (.int v1), none, none] [] (SH, m) (none, (SH, m')) := by
  obtain ⟨j131, j132, j133, j135, j136, j137⟩ := ok_grp_R X F 60 d
  exact j136
def f_Reader_readOne_w (F : Nat) (v1 : Int32) (m : mM) : Option (Unit × mM) := f_grp_R F 60 137 v1 m
theorem ok_Reader_readOne_w (X : mX) (d F : Nat) : ∀ (v1 : Int32) (m : mM) (r : Unit) (m' : mM), f_Reader_readOne_w F v1 m = some (r, m') → m_R X (d + 66) 137 0 [some (.ref 114), some (.int v1), none] [] (SH, m) (none, (SH, m')) := by
  obtain ⟨j131, j132, j133, j135, j136, j137⟩ := ok_grp_R X F 60 d
  exact j137
def f_Reader_readTape_89 (F : Nat)    (m : mM) : Option (Int32 × mM) := some ((m.1 114 7), m)
theorem ok_Reader_readTape_89 (X : mX) (d F : Nat) : ∀   (m : mM) (r : Int32) (m' : mM), f_Reader_readTape_89 F  m = some (r, m') → m_R X (d + 67) 122 89 [some (.ref 114)] [] (SH, m) (some (.int r), (SH, m')) := by
  intro m r m' h
  unfold f_Reader_readTape_89 at h
  refine m_R_sg (by decide) [(.aload_n 0, 1, 0, 0, 0, 0, 0), (.getfield 28, 3, 0, 5, 7, 0, 603)] (by decide +kernel) (show m_sgl X _ _ _ _ _ = some (93, [some (.ref 114)], [.int (m.1 114 7)], (SH, m.1, m.2)) from rfl) ?_
  obtain ⟨rfl, rfl⟩ := m_some h
  exact m_R_iret (by decide) (m_opb_of (ins := .ireturn) (len := 1) (tag := 1) (a := 0) (b := 0) (c := 0) (q := 0) (by decide +kernel)) (Or.inl rfl)
def f_Reader_readTape_78 (F : Nat)    (m : mM) : Option (Int32 × mM) := (if (m.1 114 8) = 0 then f_Reader_readTape_89 F m else ((f_Reader_stop F m).bind fun q7 => f_Reader_readTape_89 F q7.2))
theorem ok_Reader_readTape_78 (X : mX) (d F : Nat) : ∀   (m : mM) (r : Int32) (m' : mM), f_Reader_readTape_78 F  m = some (r, m') → m_R X (d + 67) 122 78 [some (.ref 114)] [] (SH, m) (some (.int r), (SH, m')) := by
  intro m r m' h
  unfold f_Reader_readTape_78 at h
  refine m_R_sg (by decide) [(.aload_n 0, 1, 0, 0, 0, 0, 0), (.getfield 34, 3, 0, 5, 8, 0, 604)] (by decide +kernel) (show m_sgl X _ _ _ _ _ = some (82, [some (.ref 114)], [.int (m.1 114 8)], (SH, m.1, m.2)) from rfl) ?_
  rcases m_ite h with ⟨c1062, h⟩ | ⟨c1062, h⟩
  · refine m_R_1 (by decide) (m_opb_of (ins := .ifCond .eq 7) (len := 3) (tag := 0) (a := 89) (b := 0) (c := 0) (q := 0) (by decide +kernel)) (if_pos c1062) ?_
    exact ok_Reader_readTape_89 X d F _ _ _ h
  · refine m_R_1 (by decide) (m_opb_of (ins := .ifCond .eq 7) (len := 3) (tag := 0) (a := 89) (b := 0) (c := 0) (q := 0) (by decide +kernel)) (if_neg c1062) ?_
    refine m_R_sg (by decide) [(.aload_n 0, 1, 0, 0, 0, 0, 0)] (by decide +kernel) (show m_sgl X _ _ _ _ _ = some (86, [some (.ref 114)], [.ref 114], (SH, m.1, m.2)) from rfl) ?_
    obtain ⟨q7, hc7, h⟩ := Option.bind_eq_some_iff.mp h
    refine m_R_cV (v := none) (h1 := (SH, q7.2)) (rest := []) (lo' := [some (.ref 114)]) (ml := 1) (k0 := 114) (by decide) (Or.inl rfl) (m_opb_of (ins := .invokevirtual 37) (len := 3) (tag := 5) (a := 130) (b := 0) (c := 0) (q := 1190) (by decide +kernel)) (by decide +kernel) rfl (show m_isO 130 114 (SH, _) = true from m_isO_of (by decide +kernel)) (Nat.le_of_ble_eq_true rfl) rfl rfl (ok_Reader_stop X (d + 66) F _ _ _ hc7) ?_
    exact ok_Reader_readTape_89 X d F _ _ _ h
def f_Reader_readTape (F : Nat)    (m : mM) : Option (Int32 × mM) := ((f_Reader_nextToken F ((m_up (m_up (m_up m.1 114 6 (0 : Int32)) 114 3 (0 : Int32)) 114 7 (-1 : Int32)), m.2)).bind fun q1 => (if (q1.2.1 114 8) = (3 : Int32) then ((f_Reader_nextToken F ((m_up q1.2.1 114 5 (q1.2.1 114 10)), q1.2.2)).bind fun q2 => ((f_Reader_readOrs_w F (0 : Int32) q2.2).bind fun q3 => (if ((m_up q3.2.1 114 4 (q3.2.1 114 3)) 114 8) = (5 : Int32) then ((f_Reader_nextToken F ((m_up q3.2.1 114 4 (q3.2.1 114 3)), q3.2.2)).bind fun q4 => ((f_Reader_readOrs_w F (0 : Int32) q4.2).bind fun q5 => f_Reader_readTape_78 F q5.2)) else f_Reader_readTape_78 F ((m_up q3.2.1 114 4 (q3.2.1 114 3)), q3.2.2)))) else ((f_Reader_stop F q1.2).bind fun q6 => some ((q6.2.1 114 7), q6.2))))
theorem ok_Reader_readTape (X : mX) (d F : Nat) : ∀   (m : mM) (r : Int32) (m' : mM), f_Reader_readTape F  m = some (r, m') → m_R X (d + 67) 122 0 [some (.ref 114)] [] (SH, m) (some (.int r), (SH, m')) := by
  intro m r m' h
  unfold f_Reader_readTape at h
  refine m_R_sg (by decide) [(.aload_n 0, 1, 0, 0, 0, 0, 0), (.iconst 0, 1, 0, 0, 0, 0, 0), (.putfield 22, 3, 0, 5, 6, 0, 602), (.aload_n 0, 1, 0, 0, 0, 0, 0), (.iconst 0, 1, 0, 0, 0, 0, 0), (.putfield 25, 3, 0, 5, 3, 0, 596), (.aload_n 0, 1, 0, 0, 0, 0, 0), (.iconst (-1), 1, 0, 1, 1, 0, 0), (.putfield 28, 3, 0, 5, 7, 0, 603), (.aload_n 0, 1, 0, 0, 0, 0, 0)] (by decide +kernel) (show m_sgl X _ _ _ _ _ = some (16, [some (.ref 114)], [.ref 114], (SH, (m_up (m_up (m_up m.1 114 6 (0 : Int32)) 114 3 (0 : Int32)) 114 7 (-1 : Int32)), m.2)) from rfl) ?_
  obtain ⟨q1, hc1, h⟩ := Option.bind_eq_some_iff.mp h
  refine m_R_cV (v := none) (h1 := (SH, q1.2)) (rest := []) (lo' := [some (.ref 114)]) (ml := 1) (k0 := 114) (by decide) (Or.inl rfl) (m_opb_of (ins := .invokevirtual 31) (len := 3) (tag := 5) (a := 123) (b := 0) (c := 0) (q := 1116) (by decide +kernel)) (by decide +kernel) rfl (show m_isO 123 114 (SH, _) = true from m_isO_of (by decide +kernel)) (Nat.le_of_ble_eq_true rfl) rfl rfl (ok_Reader_nextToken X (d + 60) F _ _ _ hc1) ?_
  refine m_R_sg (by decide) [(.aload_n 0, 1, 0, 0, 0, 0, 0), (.getfield 34, 3, 0, 5, 8, 0, 604), (.iconst 3, 1, 0, 3, 0, 0, 0)] (by decide +kernel) (show m_sgl X _ _ _ _ _ = some (24, [some (.ref 114)], [.int (3 : Int32), .int (q1.2.1 114 8)], (SH, q1.2.1, q1.2.2)) from rfl) ?_
  rcases m_ite h with ⟨c1063, h⟩ | ⟨c1063, h⟩
  · refine m_R_1 (by decide) (m_opb_of (ins := .if_icmp .eq 12) (len := 3) (tag := 0) (a := 36) (b := 0) (c := 0) (q := 0) (by decide +kernel)) (if_pos c1063) ?_
    refine m_R_sg (by decide) [(.aload_n 0, 1, 0, 0, 0, 0, 0), (.aload_n 0, 1, 0, 0, 0, 0, 0), (.getfield 40, 3, 0, 5, 10, 0, 606), (.putfield 43, 3, 0, 5, 5, 0, 601), (.aload_n 0, 1, 0, 0, 0, 0, 0)] (by decide +kernel) (show m_sgl X _ _ _ _ _ = some (45, [some (.ref 114)], [.ref 114], (SH, (m_up q1.2.1 114 5 (q1.2.1 114 10)), q1.2.2)) from rfl) ?_
    obtain ⟨q2, hc2, h⟩ := Option.bind_eq_some_iff.mp h
    refine m_R_cV (v := none) (h1 := (SH, q2.2)) (rest := []) (lo' := [some (.ref 114)]) (ml := 1) (k0 := 114) (by decide) (Or.inl rfl) (m_opb_of (ins := .invokevirtual 31) (len := 3) (tag := 5) (a := 123) (b := 0) (c := 0) (q := 1116) (by decide +kernel)) (by decide +kernel) rfl (show m_isO 123 114 (SH, _) = true from m_isO_of (by decide +kernel)) (Nat.le_of_ble_eq_true rfl) rfl rfl (ok_Reader_nextToken X (d + 60) F _ _ _ hc2) ?_
    refine m_R_sg (by decide) [(.aload_n 0, 1, 0, 0, 0, 0, 0), (.iconst 0, 1, 0, 0, 0, 0, 0)] (by decide +kernel) (show m_sgl X _ _ _ _ _ = some (50, [some (.ref 114)], [.int (0 : Int32), .ref 114], (SH, q2.2.1, q2.2.2)) from rfl) ?_
    obtain ⟨q3, hc3, h⟩ := Option.bind_eq_some_iff.mp h
    refine m_R_cV (v := none) (h1 := (SH, q3.2)) (rest := []) (lo' := [some (.ref 114), some (.int (0 : Int32)), none]) (ml := 3) (k0 := 114) (by decide) (Or.inl rfl) (m_opb_of (ins := .invokevirtual 46) (len := 3) (tag := 5) (a := 131) (b := 1) (c := 0) (q := 1194) (by decide +kernel)) (by decide +kernel) rfl (show m_isO 131 114 (SH, _) = true from m_isO_of (by decide +kernel)) (Nat.le_of_ble_eq_true rfl) rfl rfl (ok_Reader_readOrs_w X (d + 0) F _ _ _ _ hc3) ?_
    refine m_R_sg (by decide) [(.aload_n 0, 1, 0, 0, 0, 0, 0), (.aload_n 0, 1, 0, 0, 0, 0, 0), (.getfield 25, 3, 0, 5, 3, 0, 596), (.putfield 50, 3, 0, 5, 4, 0, 599), (.aload_n 0, 1, 0, 0, 0, 0, 0), (.getfield 34, 3, 0, 5, 8, 0, 604), (.iconst 5, 1, 0, 5, 0, 0, 0)] (by decide +kernel) (show m_sgl X _ _ _ _ _ = some (66, [some (.ref 114)], [.int (5 : Int32), .int ((m_up q3.2.1 114 4 (q3.2.1 114 3)) 114 8)], (SH, (m_up q3.2.1 114 4 (q3.2.1 114 3)), q3.2.2)) from rfl) ?_
    rcases m_ite h with ⟨c1064, h⟩ | ⟨c1064, h⟩
    · refine m_R_1 (by decide) (m_opb_of (ins := .if_icmp .ne 12) (len := 3) (tag := 0) (a := 78) (b := 0) (c := 0) (q := 0) (by decide +kernel)) (if_pos c1064) ?_
      refine m_R_sg (by decide) [(.aload_n 0, 1, 0, 0, 0, 0, 0)] (by decide +kernel) (show m_sgl X _ _ _ _ _ = some (70, [some (.ref 114)], [.ref 114], (SH, (m_up q3.2.1 114 4 (q3.2.1 114 3)), q3.2.2)) from rfl) ?_
      obtain ⟨q4, hc4, h⟩ := Option.bind_eq_some_iff.mp h
      refine m_R_cV (v := none) (h1 := (SH, q4.2)) (rest := []) (lo' := [some (.ref 114)]) (ml := 1) (k0 := 114) (by decide) (Or.inl rfl) (m_opb_of (ins := .invokevirtual 31) (len := 3) (tag := 5) (a := 123) (b := 0) (c := 0) (q := 1116) (by decide +kernel)) (by decide +kernel) rfl (show m_isO 123 114 (SH, _) = true from m_isO_of (by decide +kernel)) (Nat.le_of_ble_eq_true rfl) rfl rfl (ok_Reader_nextToken X (d + 60) F _ _ _ hc4) ?_
      refine m_R_sg (by decide) [(.aload_n 0, 1, 0, 0, 0, 0, 0), (.iconst 0, 1, 0, 0, 0, 0, 0)] (by decide +kernel) (show m_sgl X _ _ _ _ _ = some (75, [some (.ref 114)], [.int (0 : Int32), .ref 114], (SH, q4.2.1, q4.2.2)) from rfl) ?_
      obtain ⟨q5, hc5, h⟩ := Option.bind_eq_some_iff.mp h
      refine m_R_cV (v := none) (h1 := (SH, q5.2)) (rest := []) (lo' := [some (.ref 114), some (.int (0 : Int32)), none]) (ml := 3) (k0 := 114) (by decide) (Or.inl rfl) (m_opb_of (ins := .invokevirtual 46) (len := 3) (tag := 5) (a := 131) (b := 1) (c := 0) (q := 1194) (by decide +kernel)) (by decide +kernel) rfl (show m_isO 131 114 (SH, _) = true from m_isO_of (by decide +kernel)) (Nat.le_of_ble_eq_true rfl) rfl rfl (ok_Reader_readOrs_w X (d + 0) F _ _ _ _ hc5) ?_
      exact ok_Reader_readTape_78 X d F _ _ _ h
    · refine m_R_1 (by decide) (m_opb_of (ins := .if_icmp .ne 12) (len := 3) (tag := 0) (a := 78) (b := 0) (c := 0) (q := 0) (by decide +kernel)) (if_neg c1064) ?_
      exact ok_Reader_readTape_78 X d F _ _ _ h
  · refine m_R_1 (by decide) (m_opb_of (ins := .if_icmp .eq 12) (len := 3) (tag := 0) (a := 36) (b := 0) (c := 0) (q := 0) (by decide +kernel)) (if_neg c1063) ?_
    refine m_R_sg (by decide) [(.aload_n 0, 1, 0, 0, 0, 0, 0)] (by decide +kernel) (show m_sgl X _ _ _ _ _ = some (28, [some (.ref 114)], [.ref 114], (SH, q1.2.1, q1.2.2)) from rfl) ?_
    obtain ⟨q6, hc6, h⟩ := Option.bind_eq_some_iff.mp h
    refine m_R_cV (v := none) (h1 := (SH, q6.2)) (rest := []) (lo' := [some (.ref 114)]) (ml := 1) (k0 := 114) (by decide) (Or.inl rfl) (m_opb_of (ins := .invokevirtual 37) (len := 3) (tag := 5) (a := 130) (b := 0) (c := 0) (q := 1190) (by decide +kernel)) (by decide +kernel) rfl (show m_isO 130 114 (SH, _) = true from m_isO_of (by decide +kernel)) (Nat.le_of_ble_eq_true rfl) rfl rfl (ok_Reader_stop X (d + 66) F _ _ _ hc6) ?_
    refine m_R_sg (by decide) [(.aload_n 0, 1, 0, 0, 0, 0, 0), (.getfield 28, 3, 0, 5, 7, 0, 603)] (by decide +kernel) (show m_sgl X _ _ _ _ _ = some (35, [some (.ref 114)], [.int (q6.2.1 114 7)], (SH, q6.2.1, q6.2.2)) from rfl) ?_
    obtain ⟨rfl, rfl⟩ := m_some h
    exact m_R_iret (by decide) (m_opb_of (ins := .ireturn) (len := 1) (tag := 1) (a := 0) (b := 0) (c := 0) (q := 0) (by decide +kernel)) (Or.inl rfl)
def f_Texts_putText_8_114_65 (F : Nat)    (m : mM) : Option (Unit × mM) := some ((), m)
theorem ok_Texts_putText_8_114_65 (X : mX) (d F : Nat) : ∀  (w0 : Option Value) (w1 : Option Value) (w2 : Option Value) (w3 : Option Value) (w4 : Option Value) (m : mM) (r : Unit) (m' : mM), f_Texts_putText_8_114_65 F  m = some (r, m') → m_R X (d + 1) 139 65 [w0, w1, w2, w3, w4] [] (SH, m) (none, (SH, m')) := by
  intro w0 w1 w2 w3 w4 m r m' h
  unfold f_Texts_putText_8_114_65 at h
  obtain ⟨rfl, rfl⟩ := m_some h
  exact m_R_vret (by decide) (m_opb_of (ins := .return_) (len := 1) (tag := 3) (a := 0) (b := 0) (c := 0) (q := 0) (by decide +kernel))
def f_Texts_putText_8_114_35 (F : Nat)   (v1 : Int32) (m : mM) : Option (Unit × mM) := (if v1 < 0 ∨ 12 ≤ v1.toNatClampNeg then none else (if (0 : Int32) < 0 ∨ (v1 * (120 : Int32)) < 0 ∨ ((m_up m.1 13 v1.toNatClampNeg (m.1 114 3)) 114 3) < 0 ∨ 120 < (0 : Int32).toNatClampNeg + ((m_up m.1 13 v1.toNatClampNeg (m.1 114 3)) 114 3).toNatClampNeg ∨ 1440 < (v1 * (120 : Int32)).toNatClampNeg + ((m_up m.1 13 v1.toNatClampNeg (m.1 114 3)) 114 3).toNatClampNeg then none else f_Texts_putText_8_114_65 F ((m_row (m_up m.1 13 v1.toNatClampNeg (m.1 114 3)) 14 (va_cpy ((m_up m.1 13 v1.toNatClampNeg (m.1 114 3)) 116) ((m_up m.1 13 v1.toNatClampNeg (m.1 114 3)) 14) (0 : Int32).toNatClampNeg (v1 * (120 : Int32)).toNatClampNeg ((m_up m.1 13 v1.toNatClampNeg (m.1 114 3)) 114 3).toNatClampNeg)), m.2)))
theorem ok_Texts_putText_8_114_35 (X : mX) (d F : Nat) : ∀ (v1 : Int32) (w3 : Option Value) (w4 : Option Value) (m : mM) (r : Unit) (m' : mM), f_Texts_putText_8_114_35 F v1 m = some (r, m') → m_R X (d + 1) 139 35 [some (.ref 8), some (.int v1), some (.ref 114), w3, w4] [] (SH, m) (none, (SH, m')) := by
  intro v1 w3 w4 m r m' h
  unfold f_Texts_putText_8_114_35 at h
  refine m_R_sg (by decide) [(.aload_n 0, 1, 0, 0, 0, 0, 0), (.getfield 24, 3, 0, 8, 4, 3, 201), (.iload_n 1, 1, 0, 1, 0, 0, 0), (.aload_n 2, 1, 0, 2, 0, 0, 0), (.getfield 40, 3, 0, 5, 3, 0, 597)] (by decide +kernel) (show m_sgl X _ _ _ _ _ = some (44, [some (.ref 8), some (.int v1), some (.ref 114), w3, w4], [.int (m.1 114 3), .int v1, .ref 13], (SH, m.1, m.2)) from rfl) ?_
  obtain ⟨c1065, h⟩ := m_ite_n h
  refine m_R_1 (by decide) (m_opb_of (ins := .iastore) (len := 1) (tag := 0) (a := 0) (b := 0) (c := 0) (q := 0) (by decide +kernel)) (m_s_iast sh_13 c1065) ?_
  refine m_R_sg (by decide) [(.aload_n 2, 1, 0, 2, 0, 0, 0), (.getfield 42, 3, 0, 5, 1, 3, 593), (.iconst 0, 1, 0, 0, 0, 0, 0), (.aload_n 0, 1, 0, 0, 0, 0, 0), (.getfield 27, 3, 0, 8, 5, 3, 202), (.iload_n 1, 1, 0, 1, 0, 0, 0), (.bipush 120, 2, 0, 120, 0, 0, 0), (.imul, 1, 0, 0, 0, 0, 0), (.aload_n 2, 1, 0, 2, 0, 0, 0), (.getfield 40, 3, 0, 5, 3, 0, 597)] (by decide +kernel) (show m_sgl X _ _ _ _ _ = some (62, [some (.ref 8), some (.int v1), some (.ref 114), w3, w4], [.int ((m_up m.1 13 v1.toNatClampNeg (m.1 114 3)) 114 3), .int (v1 * (120 : Int32)), .ref 14, .int (0 : Int32), .ref 116], (SH, (m_up m.1 13 v1.toNatClampNeg (m.1 114 3)), m.2)) from rfl) ?_
  obtain ⟨c0, h⟩ := m_ite_n h
  refine m_R_cpy (by decide) (m_opb_of (ins := .invokestatic 43) (len := 3) (tag := 8) (a := 0) (b := 0) (c := 0) (q := 1229) (by decide +kernel)) (Nat.le_of_ble_eq_true rfl) (m_cpy_of sh_116 sh_14 c0) ?_
  exact ok_Texts_putText_8_114_65 X d F _ _ _ _ _ _ _ _ h
def f_Texts_putText_8_114 (F : Nat)   (v1 : Int32) (v3 : Int32) (v4 : Int32) (m : mM) : Option (Unit × mM) := (if v1 < 0 ∨ 12 ≤ v1.toNatClampNeg then none else f_Texts_putText_8_114_35 F v1 ((m_up (m_up (m_up (m_up m.1 9 v1.toNatClampNeg (m.1 114 5)) 10 v1.toNatClampNeg v3) 11 v1.toNatClampNeg v4) 12 v1.toNatClampNeg ((m_up (m_up (m_up m.1 9 v1.toNatClampNeg (m.1 114 5)) 10 v1.toNatClampNeg v3) 11 v1.toNatClampNeg v4) 114 4)), m.2))
theorem ok_Texts_putText_8_114 (X : mX) (d F : Nat) : ∀ (v1 : Int32) (v3 : Int32) (v4 : Int32)  (m : mM) (r : Unit) (m' : mM), f_Texts_putText_8_114 F v1 v3 v4 m = some (r, m') → m_R X (d + 1) 139 0 [some (.ref 8), some (.int v1), some (.ref 114), some (.int v3), some (.int v4)] [] (SH, m) (none, (SH, m')) := by
  intro v1 v3 v4 m r m' h
  unfold f_Texts_putText_8_114 at h
  refine m_R_sg (by decide) [(.aload_n 0, 1, 0, 0, 0, 0, 0), (.getfield 9, 3, 0, 8, 0, 3, 197), (.iload_n 1, 1, 0, 1, 0, 0, 0), (.aload_n 2, 1, 0, 2, 0, 0, 0), (.getfield 33, 3, 0, 5, 5, 0, 600)] (by decide +kernel) (show m_sgl X _ _ _ _ _ = some (9, [some (.ref 8), some (.int v1), some (.ref 114), some (.int v3), some (.int v4)], [.int (m.1 114 5), .int v1, .ref 9], (SH, m.1, m.2)) from rfl) ?_
  obtain ⟨c1066, h⟩ := m_ite_n h
  refine m_R_1 (by decide) (m_opb_of (ins := .iastore) (len := 1) (tag := 0) (a := 0) (b := 0) (c := 0) (q := 0) (by decide +kernel)) (m_s_iast sh_9 c1066) ?_
  refine m_R_sg (by decide) [(.aload_n 0, 1, 0, 0, 0, 0, 0), (.getfield 15, 3, 0, 8, 1, 3, 198), (.iload_n 1, 1, 0, 1, 0, 0, 0), (.iload_n 3, 1, 0, 3, 0, 0, 0)] (by decide +kernel) (show m_sgl X _ _ _ _ _ = some (16, [some (.ref 8), some (.int v1), some (.ref 114), some (.int v3), some (.int v4)], [.int v3, .int v1, .ref 10], (SH, (m_up m.1 9 v1.toNatClampNeg (m.1 114 5)), m.2)) from rfl) ?_
  refine m_R_1 (by decide) (m_opb_of (ins := .iastore) (len := 1) (tag := 0) (a := 0) (b := 0) (c := 0) (q := 0) (by decide +kernel)) (m_s_iast sh_10 c1066) ?_
  refine m_R_sg (by decide) [(.aload_n 0, 1, 0, 0, 0, 0, 0), (.getfield 18, 3, 0, 8, 2, 3, 199), (.iload_n 1, 1, 0, 1, 0, 0, 0), (.iload 4, 2, 0, 4, 0, 0, 0)] (by decide +kernel) (show m_sgl X _ _ _ _ _ = some (24, [some (.ref 8), some (.int v1), some (.ref 114), some (.int v3), some (.int v4)], [.int v4, .int v1, .ref 11], (SH, (m_up (m_up m.1 9 v1.toNatClampNeg (m.1 114 5)) 10 v1.toNatClampNeg v3), m.2)) from rfl) ?_
  refine m_R_1 (by decide) (m_opb_of (ins := .iastore) (len := 1) (tag := 0) (a := 0) (b := 0) (c := 0) (q := 0) (by decide +kernel)) (m_s_iast sh_11 c1066) ?_
  refine m_R_sg (by decide) [(.aload_n 0, 1, 0, 0, 0, 0, 0), (.getfield 21, 3, 0, 8, 3, 3, 200), (.iload_n 1, 1, 0, 1, 0, 0, 0), (.aload_n 2, 1, 0, 2, 0, 0, 0), (.getfield 38, 3, 0, 5, 4, 0, 598)] (by decide +kernel) (show m_sgl X _ _ _ _ _ = some (34, [some (.ref 8), some (.int v1), some (.ref 114), some (.int v3), some (.int v4)], [.int ((m_up (m_up (m_up m.1 9 v1.toNatClampNeg (m.1 114 5)) 10 v1.toNatClampNeg v3) 11 v1.toNatClampNeg v4) 114 4), .int v1, .ref 12], (SH, (m_up (m_up (m_up m.1 9 v1.toNatClampNeg (m.1 114 5)) 10 v1.toNatClampNeg v3) 11 v1.toNatClampNeg v4), m.2)) from rfl) ?_
  refine m_R_1 (by decide) (m_opb_of (ins := .iastore) (len := 1) (tag := 0) (a := 0) (b := 0) (c := 0) (q := 0) (by decide +kernel)) (m_s_iast sh_12 c1066) ?_
  exact ok_Texts_putText_8_114_35 X d F _ _ _ _ _ _ h
def f_x_text_16 (F : Nat)    (m : mM) : Option (Int32 × mM) := ((f_x_refuse F (-7 : Int32) m).bind fun q4 => some (q4.1, q4.2))
theorem ok_x_text_16 (X : mX) (d F : Nat) : ∀  (w1 : Option Value) (w2 : Option Value) (w3 : Option Value) (m : mM) (r : Int32) (m' : mM), f_x_text_16 F  m = some (r, m') → m_R X (d + 68) 121 16 [some (.ref 0), w1, w2, w3] [] (SH, m) (some (.int r), (SH, m')) := by
  intro w1 w2 w3 m r m' h
  unfold f_x_text_16 at h
  refine m_R_sg (by decide) [(.aload_n 0, 1, 0, 0, 0, 0, 0), (.bipush (-7), 2, 0, 7, 1, 0, 0)] (by decide +kernel) (show m_sgl X _ _ _ _ _ = some (19, [some (.ref 0), w1, w2, w3], [.int (-7 : Int32), .ref 0], (SH, m.1, m.2)) from rfl) ?_
  obtain ⟨q4, hc4, h⟩ := Option.bind_eq_some_iff.mp h
  refine m_R_cV (v := (some (.int q4.1))) (h1 := (SH, q4.2)) (rest := []) (lo' := [some (.ref 0), some (.int (-7 : Int32))]) (ml := 2) (k0 := 0) (by decide) (Or.inl rfl) (m_opb_of (ins := .invokevirtual 76) (len := 3) (tag := 5) (a := 14) (b := 1) (c := 0) (q := 671) (by decide +kernel)) (by decide +kernel) rfl (show m_isO 14 0 (SH, _) = true from m_isO_of (by decide +kernel)) (Nat.le_of_ble_eq_true rfl) rfl rfl (ok_x_refuse X (d + 67) F _ _ _ _ hc4) ?_
  obtain ⟨rfl, rfl⟩ := m_some h
  exact m_R_iret (by decide) (m_opb_of (ins := .ireturn) (len := 1) (tag := 1) (a := 0) (b := 0) (c := 0) (q := 0) (by decide +kernel)) (Or.inl rfl)
def f_x_text (F : Nat)   (v1 : Int32) (v2 : Int32) (m : mM) : Option (Int32 × mM) := (if v1 < 0 then f_x_text_16 F m else (if (1000 : Int32) < v2 then f_x_text_16 F m else (if v1 < v2 then (if (m.1 16 14) < (12 : Int32) then ((f_Reader_readTape F m).bind fun q1 => (if q1.1 = (-1 : Int32) then ((f_Texts_putText_8_114 F (q1.2.1 16 14) v1 v2 q1.2).bind fun q2 => some ((((m_up (m_up q2.2.1 114 2 (0 : Int32)) 16 14 (((m_up q2.2.1 114 2 (0 : Int32)) 16 14) + (1 : Int32))) 16 14) - (1 : Int32)), ((m_up (m_up q2.2.1 114 2 (0 : Int32)) 16 14 (((m_up q2.2.1 114 2 (0 : Int32)) 16 14) + (1 : Int32))), q2.2.2))) else some (((-10 : Int32) - q1.1), q1.2))) else ((f_x_refuse F (-8 : Int32) m).bind fun q3 => some (q3.1, q3.2))) else f_x_text_16 F m)))
theorem ok_x_text (X : mX) (d F : Nat) : ∀ (v1 : Int32) (v2 : Int32)  (m : mM) (r : Int32) (m' : mM), f_x_text F v1 v2 m = some (r, m') → m_R X (d + 68) 121 0 [some (.ref 0), some (.int v1), some (.int v2), none] [] (SH, m) (some (.int r), (SH, m')) := by
  intro v1 v2 m r m' h
  unfold f_x_text at h
  refine m_R_sg (by decide) [(.iload_n 1, 1, 0, 1, 0, 0, 0)] (by decide +kernel) (show m_sgl X _ _ _ _ _ = some (1, [some (.ref 0), some (.int v1), some (.int v2), none], [.int v1], (SH, m.1, m.2)) from rfl) ?_
  rcases m_ite h with ⟨c1067, h⟩ | ⟨c1067, h⟩
  · refine m_R_1 (by decide) (m_opb_of (ins := .ifCond .lt 15) (len := 3) (tag := 0) (a := 16) (b := 0) (c := 0) (q := 0) (by decide +kernel)) (if_pos c1067) ?_
    exact ok_x_text_16 X d F _ _ _ _ _ _ h
  · refine m_R_1 (by decide) (m_opb_of (ins := .ifCond .lt 15) (len := 3) (tag := 0) (a := 16) (b := 0) (c := 0) (q := 0) (by decide +kernel)) (if_neg c1067) ?_
    refine m_R_sg (by decide) [(.iload_n 2, 1, 0, 2, 0, 0, 0), (.sipush 1000, 3, 0, 1000, 0, 0, 0)] (by decide +kernel) (show m_sgl X _ _ _ _ _ = some (8, [some (.ref 0), some (.int v1), some (.int v2), none], [.int (1000 : Int32), .int v2], (SH, m.1, m.2)) from rfl) ?_
    rcases m_ite h with ⟨c1068, h⟩ | ⟨c1068, h⟩
    · refine m_R_1 (by decide) (m_opb_of (ins := .if_icmp .gt 8) (len := 3) (tag := 0) (a := 16) (b := 0) (c := 0) (q := 0) (by decide +kernel)) (if_pos c1068) ?_
      exact ok_x_text_16 X d F _ _ _ _ _ _ h
    · refine m_R_1 (by decide) (m_opb_of (ins := .if_icmp .gt 8) (len := 3) (tag := 0) (a := 16) (b := 0) (c := 0) (q := 0) (by decide +kernel)) (if_neg c1068) ?_
      refine m_R_sg (by decide) [(.iload_n 1, 1, 0, 1, 0, 0, 0), (.iload_n 2, 1, 0, 2, 0, 0, 0)] (by decide +kernel) (show m_sgl X _ _ _ _ _ = some (13, [some (.ref 0), some (.int v1), some (.int v2), none], [.int v2, .int v1], (SH, m.1, m.2)) from rfl) ?_
      rcases m_ite h with ⟨c1069, h⟩ | ⟨c1069, h⟩
      · refine m_R_1 (by decide) (m_opb_of (ins := .if_icmp .lt 10) (len := 3) (tag := 0) (a := 23) (b := 0) (c := 0) (q := 0) (by decide +kernel)) (if_pos c1069) ?_
        refine m_R_sg (by decide) [(.aload_n 0, 1, 0, 0, 0, 0, 0), (.getfield 28, 3, 0, 11, 2, 3, 632), (.getfield 372, 3, 0, 10, 14, 0, 531), (.bipush 12, 2, 0, 12, 0, 0, 0)] (by decide +kernel) (show m_sgl X _ _ _ _ _ = some (32, [some (.ref 0), some (.int v1), some (.int v2), none], [.int (12 : Int32), .int (m.1 16 14)], (SH, m.1, m.2)) from rfl) ?_
        rcases m_ite h with ⟨c1070, h⟩ | ⟨c1070, h⟩
        · refine m_R_1 (by decide) (m_opb_of (ins := .if_icmp .lt 10) (len := 3) (tag := 0) (a := 42) (b := 0) (c := 0) (q := 0) (by decide +kernel)) (if_pos c1070) ?_
          refine m_R_sg (by decide) [(.aload_n 0, 1, 0, 0, 0, 0, 0), (.getfield 49, 3, 0, 11, 6, 3, 636)] (by decide +kernel) (show m_sgl X _ _ _ _ _ = some (46, [some (.ref 0), some (.int v1), some (.int v2), none], [.ref 114], (SH, m.1, m.2)) from rfl) ?_
          obtain ⟨q1, hc1, h⟩ := Option.bind_eq_some_iff.mp h
          refine m_R_cV (v := (some (.int q1.1))) (h1 := (SH, q1.2)) (rest := []) (lo' := [some (.ref 114)]) (ml := 1) (k0 := 114) (by decide) (Or.inl rfl) (m_opb_of (ins := .invokevirtual 375) (len := 3) (tag := 5) (a := 122) (b := 0) (c := 0) (q := 1112) (by decide +kernel)) (by decide +kernel) rfl (show m_isO 122 114 (SH, _) = true from m_isO_of (by decide +kernel)) (Nat.le_of_ble_eq_true rfl) rfl rfl (ok_Reader_readTape X (d + 0) F _ _ _ hc1) ?_
          refine m_R_sg (by decide) [(.istore_n 3, 1, 0, 3, 0, 0, 0), (.iload_n 3, 1, 0, 3, 0, 0, 0), (.iconst (-1), 1, 0, 1, 1, 0, 0)] (by decide +kernel) (show m_sgl X _ _ _ _ _ = some (52, [some (.ref 0), some (.int v1), some (.int v2), some (.int q1.1)], [.int (-1 : Int32), .int q1.1], (SH, q1.2.1, q1.2.2)) from rfl) ?_
          rcases m_ite h with ⟨c1071, h⟩ | ⟨c1071, h⟩
          · refine m_R_1 (by decide) (m_opb_of (ins := .if_icmp .eq 8) (len := 3) (tag := 0) (a := 60) (b := 0) (c := 0) (q := 0) (by decide +kernel)) (if_pos c1071) ?_
            refine m_R_sg (by decide) [(.aload_n 0, 1, 0, 0, 0, 0, 0), (.getfield 19, 3, 0, 11, 1, 3, 631), (.aload_n 0, 1, 0, 0, 0, 0, 0), (.getfield 28, 3, 0, 11, 2, 3, 632), (.getfield 372, 3, 0, 10, 14, 0, 531), (.aload_n 0, 1, 0, 0, 0, 0, 0), (.getfield 49, 3, 0, 11, 6, 3, 636), (.iload_n 1, 1, 0, 1, 0, 0, 0), (.iload_n 2, 1, 0, 2, 0, 0, 0)] (by decide +kernel) (show m_sgl X _ _ _ _ _ = some (77, [some (.ref 0), some (.int v1), some (.int v2), some (.int q1.1)], [.int v2, .int v1, .ref 114, .int (q1.2.1 16 14), .ref 8], (SH, q1.2.1, q1.2.2)) from rfl) ?_
            obtain ⟨q2, hc2, h⟩ := Option.bind_eq_some_iff.mp h
            refine m_R_cV (v := none) (h1 := (SH, q2.2)) (rest := []) (lo' := [some (.ref 8), some (.int (q1.2.1 16 14)), some (.ref 114), some (.int v1), some (.int v2)]) (ml := 5) (k0 := 8) (by decide) (Or.inl rfl) (m_opb_of (ins := .invokevirtual 379) (len := 3) (tag := 5) (a := 139) (b := 4) (c := 0) (q := 1225) (by decide +kernel)) (by decide +kernel) rfl (show m_isO 139 8 (SH, _) = true from m_isO_of (by decide +kernel)) (Nat.le_of_ble_eq_true rfl) rfl rfl (ok_Texts_putText_8_114 X (d + 66) F _ _ _ _ _ _ hc2) ?_
            refine m_R_sg (by decide) [(.aload_n 0, 1, 0, 0, 0, 0, 0), (.getfield 49, 3, 0, 11, 6, 3, 636), (.iconst 0, 1, 0, 0, 0, 0, 0), (.putfield 365, 3, 0, 5, 2, 0, 595), (.aload_n 0, 1, 0, 0, 0, 0, 0), (.getfield 28, 3, 0, 11, 2, 3, 632), (.dup, 1, 0, 0, 0, 0, 0), (.getfield 372, 3, 0, 10, 14, 0, 531), (.iconst 1, 1, 0, 1, 0, 0, 0), (.iadd, 1, 0, 0, 0, 0, 0), (.putfield 372, 3, 0, 10, 14, 0, 531), (.aload_n 0, 1, 0, 0, 0, 0, 0), (.getfield 28, 3, 0, 11, 2, 3, 632), (.getfield 372, 3, 0, 10, 14, 0, 531), (.iconst 1, 1, 0, 1, 0, 0, 0), (.isub, 1, 0, 0, 0, 0, 0)] (by decide +kernel) (show m_sgl X _ _ _ _ _ = some (110, [some (.ref 0), some (.int v1), some (.int v2), some (.int q1.1)], [.int (((m_up (m_up q2.2.1 114 2 (0 : Int32)) 16 14 (((m_up q2.2.1 114 2 (0 : Int32)) 16 14) + (1 : Int32))) 16 14) - (1 : Int32))], (SH, (m_up (m_up q2.2.1 114 2 (0 : Int32)) 16 14 (((m_up q2.2.1 114 2 (0 : Int32)) 16 14) + (1 : Int32))), q2.2.2)) from rfl) ?_
            obtain ⟨rfl, rfl⟩ := m_some h
            exact m_R_iret (by decide) (m_opb_of (ins := .ireturn) (len := 1) (tag := 1) (a := 0) (b := 0) (c := 0) (q := 0) (by decide +kernel)) (Or.inl rfl)
          · refine m_R_1 (by decide) (m_opb_of (ins := .if_icmp .eq 8) (len := 3) (tag := 0) (a := 60) (b := 0) (c := 0) (q := 0) (by decide +kernel)) (if_neg c1071) ?_
            refine m_R_sg (by decide) [(.bipush (-10), 2, 0, 10, 1, 0, 0), (.iload_n 3, 1, 0, 3, 0, 0, 0), (.isub, 1, 0, 0, 0, 0, 0)] (by decide +kernel) (show m_sgl X _ _ _ _ _ = some (59, [some (.ref 0), some (.int v1), some (.int v2), some (.int q1.1)], [.int ((-10 : Int32) - q1.1)], (SH, q1.2.1, q1.2.2)) from rfl) ?_
            obtain ⟨rfl, rfl⟩ := m_some h
            exact m_R_iret (by decide) (m_opb_of (ins := .ireturn) (len := 1) (tag := 1) (a := 0) (b := 0) (c := 0) (q := 0) (by decide +kernel)) (Or.inl rfl)
        · refine m_R_1 (by decide) (m_opb_of (ins := .if_icmp .lt 10) (len := 3) (tag := 0) (a := 42) (b := 0) (c := 0) (q := 0) (by decide +kernel)) (if_neg c1070) ?_
          refine m_R_sg (by decide) [(.aload_n 0, 1, 0, 0, 0, 0, 0), (.bipush (-8), 2, 0, 8, 1, 0, 0)] (by decide +kernel) (show m_sgl X _ _ _ _ _ = some (38, [some (.ref 0), some (.int v1), some (.int v2), none], [.int (-8 : Int32), .ref 0], (SH, m.1, m.2)) from rfl) ?_
          obtain ⟨q3, hc3, h⟩ := Option.bind_eq_some_iff.mp h
          refine m_R_cV (v := (some (.int q3.1))) (h1 := (SH, q3.2)) (rest := []) (lo' := [some (.ref 0), some (.int (-8 : Int32))]) (ml := 2) (k0 := 0) (by decide) (Or.inl rfl) (m_opb_of (ins := .invokevirtual 76) (len := 3) (tag := 5) (a := 14) (b := 1) (c := 0) (q := 671) (by decide +kernel)) (by decide +kernel) rfl (show m_isO 14 0 (SH, _) = true from m_isO_of (by decide +kernel)) (Nat.le_of_ble_eq_true rfl) rfl rfl (ok_x_refuse X (d + 67) F _ _ _ _ hc3) ?_
          obtain ⟨rfl, rfl⟩ := m_some h
          exact m_R_iret (by decide) (m_opb_of (ins := .ireturn) (len := 1) (tag := 1) (a := 0) (b := 0) (c := 0) (q := 0) (by decide +kernel)) (Or.inl rfl)
      · refine m_R_1 (by decide) (m_opb_of (ins := .if_icmp .lt 10) (len := 3) (tag := 0) (a := 23) (b := 0) (c := 0) (q := 0) (by decide +kernel)) (if_neg c1069) ?_
        exact ok_x_text_16 X d F _ _ _ _ _ _ h
def f_m_text_27 (F : Nat)    (m : mM) : Option (Int32 × mM) := ((f_m_refuse F (-7 : Int32) m).bind fun q4 => some (q4.1, q4.2))
theorem ok_m_text_27 (X : mX) (d F : Nat) : ∀  (w1 : Option Value) (w2 : Option Value) (w3 : Option Value) (w4 : Option Value) (m : mM) (r : Int32) (m' : mM), f_m_text_27 F  m = some (r, m') → m_R X (d + 66) 300 27 [some (.ref 304), w1, w2, w3, w4] [] (SH, m) (some (.int r), (SH, m')) := by
  intro w1 w2 w3 w4 m r m' h
  unfold f_m_text_27 at h
  refine m_R_sg (by decide) [(.aload_n 0, 1, 0, 0, 0, 0, 0), (.bipush (-7), 2, 0, 7, 1, 0, 0)] (by decide +kernel) (show m_sgl X _ _ _ _ _ = some (30, [some (.ref 304), w1, w2, w3, w4], [.int (-7 : Int32), .ref 304], (SH, m.1, m.2)) from rfl) ?_
  obtain ⟨q4, hc4, h⟩ := Option.bind_eq_some_iff.mp h
  refine m_R_cV (v := (some (.int q4.1))) (h1 := (SH, q4.2)) (rest := []) (lo' := [some (.ref 304), some (.int (-7 : Int32))]) (ml := 2) (k0 := 304) (by decide) (Or.inl rfl) (m_opb_of (ins := .invokevirtual 61) (len := 3) (tag := 5) (a := 202) (b := 1) (c := 0) (q := 1593) (by decide +kernel)) (by decide +kernel) rfl (show m_isO 202 304 (SH, _) = true from m_isO_of (by decide +kernel)) (Nat.le_of_ble_eq_true rfl) rfl rfl (ok_m_refuse X (d + 65) F _ _ _ _ hc4) ?_
  obtain ⟨rfl, rfl⟩ := m_some h
  exact m_R_iret (by decide) (m_opb_of (ins := .ireturn) (len := 1) (tag := 1) (a := 0) (b := 0) (c := 0) (q := 0) (by decide +kernel)) (Or.inl rfl)
def f_m_text_165 (F : Nat)   : Nat → Int32 → Int32 → mM → Option (Int32 × mM)
  | 0, _, _, _ => none
  | n + 1, v3, v4, m => (if (m.1 304 9) ≤ v4 then some ((((m_up (m_up m.1 304 9 (0 : Int32)) 305 (5 : Int32).toNatClampNeg (((m_up m.1 304 9 (0 : Int32)) 305 (5 : Int32).toNatClampNeg) + (1 : Int32))) 305 (5 : Int32).toNatClampNeg) - (1 : Int32)), ((m_up (m_up m.1 304 9 (0 : Int32)) 305 (5 : Int32).toNatClampNeg (((m_up m.1 304 9 (0 : Int32)) 305 (5 : Int32).toNatClampNeg) + (1 : Int32))), m.2)) else (if v4 < 0 ∨ 120 ≤ v4.toNatClampNeg then none else (if ((v3 + (4 : Int32)) + v4) < 0 ∨ 9732 ≤ ((v3 + (4 : Int32)) + v4).toNatClampNeg then none else f_m_text_165 F n v3 (v4 + (1 : Int32)) ((m_up m.1 305 ((v3 + (4 : Int32)) + v4).toNatClampNeg (m.1 311 v4.toNatClampNeg)), m.2))))
theorem ok_m_text_165 (X : mX) (d F : Nat) : ∀ (n : Nat) (v3 : Int32) (v4 : Int32) (w1 : Option Value) (w2 : Option Value) (m : mM) (r : Int32) (m' : mM), f_m_text_165 F n v3 v4 m = some (r, m') → m_R X (d + 66) 300 165 [some (.ref 304), w1, w2, some (.int v3), some (.int v4)] [] (SH, m) (some (.int r), (SH, m')) := by
  intro n
  induction n with
  | zero => intro v3 v4 w1 w2 m r m' h; cases h
  | succ n ih =>
    intro v3 v4 w1 w2 m r m' h
    simp only [f_m_text_165] at h
    refine m_R_sg (by decide) [(.iload 4, 2, 0, 4, 0, 0, 0), (.aload_n 0, 1, 0, 0, 0, 0, 0), (.getfield 378, 3, 0, 12, 9, 0, 1501)] (by decide +kernel) (show m_sgl X _ _ _ _ _ = some (171, [some (.ref 304), w1, w2, some (.int v3), some (.int v4)], [.int (m.1 304 9), .int v4], (SH, m.1, m.2)) from rfl) ?_
    rcases m_ite h with ⟨c1072, h⟩ | ⟨c1072, h⟩
    · refine m_R_1 (by decide) (m_opb_of (ins := .if_icmp .ge 27) (len := 3) (tag := 0) (a := 198) (b := 0) (c := 0) (q := 0) (by decide +kernel)) (if_pos c1072) ?_
      refine m_R_sg (by decide) [(.aload_n 0, 1, 0, 0, 0, 0, 0), (.iconst 0, 1, 0, 0, 0, 0, 0), (.putfield 378, 3, 0, 12, 9, 0, 1501), (.aload_n 0, 1, 0, 0, 0, 0, 0), (.getfield 13, 3, 0, 12, 1, 3, 1493), (.iconst 5, 1, 0, 5, 0, 0, 0), (.dup2, 1, 0, 0, 0, 0, 0)] (by decide +kernel) (show m_sgl X _ _ _ _ _ = some (209, [some (.ref 304), w1, w2, some (.int v3), some (.int v4)], [.int (5 : Int32), .ref 305, .int (5 : Int32), .ref 305], (SH, (m_up m.1 304 9 (0 : Int32)), m.2)) from rfl) ?_
      refine m_R_1 (by decide) (m_opb_of (ins := .iaload) (len := 1) (tag := 0) (a := 0) (b := 0) (c := 0) (q := 0) (by decide +kernel)) (m_s_iald sh_305 (by decide) (show ¬ ((5 : Int32) < 0 ∨ 9732 ≤ (5 : Int32).toNatClampNeg) by decide)) ?_
      refine m_R_sg (by decide) [(.iconst 1, 1, 0, 1, 0, 0, 0), (.iadd, 1, 0, 0, 0, 0, 0)] (by decide +kernel) (show m_sgl X _ _ _ _ _ = some (212, [some (.ref 304), w1, w2, some (.int v3), some (.int v4)], [.int (((m_up m.1 304 9 (0 : Int32)) 305 (5 : Int32).toNatClampNeg) + (1 : Int32)), .int (5 : Int32), .ref 305], (SH, (m_up m.1 304 9 (0 : Int32)), m.2)) from rfl) ?_
      refine m_R_1 (by decide) (m_opb_of (ins := .iastore) (len := 1) (tag := 0) (a := 0) (b := 0) (c := 0) (q := 0) (by decide +kernel)) (m_s_iast sh_305 (show ¬ ((5 : Int32) < 0 ∨ 9732 ≤ (5 : Int32).toNatClampNeg) by decide)) ?_
      refine m_R_sg (by decide) [(.aload_n 0, 1, 0, 0, 0, 0, 0), (.getfield 13, 3, 0, 12, 1, 3, 1493), (.iconst 5, 1, 0, 5, 0, 0, 0)] (by decide +kernel) (show m_sgl X _ _ _ _ _ = some (218, [some (.ref 304), w1, w2, some (.int v3), some (.int v4)], [.int (5 : Int32), .ref 305], (SH, (m_up (m_up m.1 304 9 (0 : Int32)) 305 (5 : Int32).toNatClampNeg (((m_up m.1 304 9 (0 : Int32)) 305 (5 : Int32).toNatClampNeg) + (1 : Int32))), m.2)) from rfl) ?_
      refine m_R_1 (by decide) (m_opb_of (ins := .iaload) (len := 1) (tag := 0) (a := 0) (b := 0) (c := 0) (q := 0) (by decide +kernel)) (m_s_iald sh_305 (by decide) (show ¬ ((5 : Int32) < 0 ∨ 9732 ≤ (5 : Int32).toNatClampNeg) by decide)) ?_
      refine m_R_sg (by decide) [(.iconst 1, 1, 0, 1, 0, 0, 0), (.isub, 1, 0, 0, 0, 0, 0)] (by decide +kernel) (show m_sgl X _ _ _ _ _ = some (221, [some (.ref 304), w1, w2, some (.int v3), some (.int v4)], [.int (((m_up (m_up m.1 304 9 (0 : Int32)) 305 (5 : Int32).toNatClampNeg (((m_up m.1 304 9 (0 : Int32)) 305 (5 : Int32).toNatClampNeg) + (1 : Int32))) 305 (5 : Int32).toNatClampNeg) - (1 : Int32))], (SH, (m_up (m_up m.1 304 9 (0 : Int32)) 305 (5 : Int32).toNatClampNeg (((m_up m.1 304 9 (0 : Int32)) 305 (5 : Int32).toNatClampNeg) + (1 : Int32))), m.2)) from rfl) ?_
      obtain ⟨rfl, rfl⟩ := m_some h
      exact m_R_iret (by decide) (m_opb_of (ins := .ireturn) (len := 1) (tag := 1) (a := 0) (b := 0) (c := 0) (q := 0) (by decide +kernel)) (Or.inl rfl)
    · refine m_R_1 (by decide) (m_opb_of (ins := .if_icmp .ge 27) (len := 3) (tag := 0) (a := 198) (b := 0) (c := 0) (q := 0) (by decide +kernel)) (if_neg c1072) ?_
      refine m_R_sg (by decide) [(.aload_n 0, 1, 0, 0, 0, 0, 0), (.getfield 13, 3, 0, 12, 1, 3, 1493), (.iload_n 3, 1, 0, 3, 0, 0, 0), (.iconst 4, 1, 0, 4, 0, 0, 0), (.iadd, 1, 0, 0, 0, 0, 0), (.iload 4, 2, 0, 4, 0, 0, 0), (.iadd, 1, 0, 0, 0, 0, 0), (.aload_n 0, 1, 0, 0, 0, 0, 0), (.getfield 33, 3, 0, 12, 8, 3, 1500), (.iload 4, 2, 0, 4, 0, 0, 0)] (by decide +kernel) (show m_sgl X _ _ _ _ _ = some (190, [some (.ref 304), w1, w2, some (.int v3), some (.int v4)], [.int v4, .ref 311, .int ((v3 + (4 : Int32)) + v4), .ref 305], (SH, m.1, m.2)) from rfl) ?_
      obtain ⟨c1073, h⟩ := m_ite_n h
      refine m_R_1 (by decide) (m_opb_of (ins := .iaload) (len := 1) (tag := 0) (a := 0) (b := 0) (c := 0) (q := 0) (by decide +kernel)) (m_s_iald sh_311 (by decide) c1073) ?_
      obtain ⟨c1074, h⟩ := m_ite_n h
      refine m_R_1 (by decide) (m_opb_of (ins := .iastore) (len := 1) (tag := 0) (a := 0) (b := 0) (c := 0) (q := 0) (by decide +kernel)) (m_s_iast sh_305 c1074) ?_
      refine m_R_sg (by decide) [(.iinc 4 1, 3, 0, 4, 1, 0, 0), (.goto (-30), 3, 0, 165, 0, 0, 0)] (by decide +kernel) (show m_sgl X _ _ _ _ _ = some (165, [some (.ref 304), w1, w2, some (.int v3), some (.int (v4 + (1 : Int32)))], [], (SH, (m_up m.1 305 ((v3 + (4 : Int32)) + v4).toNatClampNeg (m.1 311 v4.toNatClampNeg)), m.2)) from rfl) ?_
      exact ih _ _ _ _ _ _ _ h
def f_m_text_162 (F : Nat)   (v3 : Int32) (m : mM) : Option (Int32 × mM) := f_m_text_165 F F v3 (0 : Int32) m
theorem ok_m_text_162 (X : mX) (d F : Nat) : ∀ (v3 : Int32) (w1 : Option Value) (w2 : Option Value) (w4 : Option Value) (m : mM) (r : Int32) (m' : mM), f_m_text_162 F v3 m = some (r, m') → m_R X (d + 66) 300 162 [some (.ref 304), w1, w2, some (.int v3), w4] [] (SH, m) (some (.int r), (SH, m')) := by
  intro v3 w1 w2 w4 m r m' h
  unfold f_m_text_162 at h
  refine m_R_sg (by decide) [(.iconst 0, 1, 0, 0, 0, 0, 0), (.istore 4, 2, 0, 4, 0, 0, 0)] (by decide +kernel) (show m_sgl X _ _ _ _ _ = some (165, [some (.ref 304), w1, w2, some (.int v3), some (.int (0 : Int32))], [], (SH, m.1, m.2)) from rfl) ?_
  exact ok_m_text_165 X d F F _ _ _ _ _ _ _ h
def f_m_text_132 (F : Nat)   (v1 : Int32) (v2 : Int32) (v3 : Int32) (m : mM) : Option (Int32 × mM) := (if (v3 + (1 : Int32)) < 0 ∨ 9732 ≤ (v3 + (1 : Int32)).toNatClampNeg then none else (if (v3 + (2 : Int32)) < 0 ∨ 9732 ≤ (v3 + (2 : Int32)).toNatClampNeg then none else (if (v3 + (3 : Int32)) < 0 ∨ 9732 ≤ (v3 + (3 : Int32)).toNatClampNeg then none else f_m_text_162 F v3 ((m_up (m_up (m_up m.1 305 (v3 + (1 : Int32)).toNatClampNeg v1) 305 (v3 + (2 : Int32)).toNatClampNeg v2) 305 (v3 + (3 : Int32)).toNatClampNeg ((m_up (m_up m.1 305 (v3 + (1 : Int32)).toNatClampNeg v1) 305 (v3 + (2 : Int32)).toNatClampNeg v2) 304 9)), m.2))))
theorem ok_m_text_132 (X : mX) (d F : Nat) : ∀ (v1 : Int32) (v2 : Int32) (v3 : Int32) (w4 : Option Value) (m : mM) (r : Int32) (m' : mM), f_m_text_132 F v1 v2 v3 m = some (r, m') → m_R X (d + 66) 300 132 [some (.ref 304), some (.int v1), some (.int v2), some (.int v3), w4] [] (SH, m) (some (.int r), (SH, m')) := by
  intro v1 v2 v3 w4 m r m' h
  unfold f_m_text_132 at h
  refine m_R_sg (by decide) [(.aload_n 0, 1, 0, 0, 0, 0, 0), (.getfield 13, 3, 0, 12, 1, 3, 1493), (.iload_n 3, 1, 0, 3, 0, 0, 0), (.iconst 1, 1, 0, 1, 0, 0, 0), (.iadd, 1, 0, 0, 0, 0, 0), (.iload_n 1, 1, 0, 1, 0, 0, 0)] (by decide +kernel) (show m_sgl X _ _ _ _ _ = some (140, [some (.ref 304), some (.int v1), some (.int v2), some (.int v3), w4], [.int v1, .int (v3 + (1 : Int32)), .ref 305], (SH, m.1, m.2)) from rfl) ?_
  obtain ⟨c1075, h⟩ := m_ite_n h
  refine m_R_1 (by decide) (m_opb_of (ins := .iastore) (len := 1) (tag := 0) (a := 0) (b := 0) (c := 0) (q := 0) (by decide +kernel)) (m_s_iast sh_305 c1075) ?_
  refine m_R_sg (by decide) [(.aload_n 0, 1, 0, 0, 0, 0, 0), (.getfield 13, 3, 0, 12, 1, 3, 1493), (.iload_n 3, 1, 0, 3, 0, 0, 0), (.iconst 2, 1, 0, 2, 0, 0, 0), (.iadd, 1, 0, 0, 0, 0, 0), (.iload_n 2, 1, 0, 2, 0, 0, 0)] (by decide +kernel) (show m_sgl X _ _ _ _ _ = some (149, [some (.ref 304), some (.int v1), some (.int v2), some (.int v3), w4], [.int v2, .int (v3 + (2 : Int32)), .ref 305], (SH, (m_up m.1 305 (v3 + (1 : Int32)).toNatClampNeg v1), m.2)) from rfl) ?_
  obtain ⟨c1076, h⟩ := m_ite_n h
  refine m_R_1 (by decide) (m_opb_of (ins := .iastore) (len := 1) (tag := 0) (a := 0) (b := 0) (c := 0) (q := 0) (by decide +kernel)) (m_s_iast sh_305 c1076) ?_
  refine m_R_sg (by decide) [(.aload_n 0, 1, 0, 0, 0, 0, 0), (.getfield 13, 3, 0, 12, 1, 3, 1493), (.iload_n 3, 1, 0, 3, 0, 0, 0), (.iconst 3, 1, 0, 3, 0, 0, 0), (.iadd, 1, 0, 0, 0, 0, 0), (.aload_n 0, 1, 0, 0, 0, 0, 0), (.getfield 378, 3, 0, 12, 9, 0, 1501)] (by decide +kernel) (show m_sgl X _ _ _ _ _ = some (161, [some (.ref 304), some (.int v1), some (.int v2), some (.int v3), w4], [.int ((m_up (m_up m.1 305 (v3 + (1 : Int32)).toNatClampNeg v1) 305 (v3 + (2 : Int32)).toNatClampNeg v2) 304 9), .int (v3 + (3 : Int32)), .ref 305], (SH, (m_up (m_up m.1 305 (v3 + (1 : Int32)).toNatClampNeg v1) 305 (v3 + (2 : Int32)).toNatClampNeg v2), m.2)) from rfl) ?_
  obtain ⟨c1077, h⟩ := m_ite_n h
  refine m_R_1 (by decide) (m_opb_of (ins := .iastore) (len := 1) (tag := 0) (a := 0) (b := 0) (c := 0) (q := 0) (by decide +kernel)) (m_s_iast sh_305 c1077) ?_
  exact ok_m_text_162 X d F _ _ _ _ _ _ _ h
def f_m_text_62 (F : Nat)   : Nat → Int32 → Int32 → Int32 → mM → Option (Int32 × mM)
  | 0, _, _, _, _ => none
  | n + 1, v1, v2, v3, m => (if (m.1 304 9) ≤ v3 then ((f_m_readText F (-1 : Int32) m).bind fun q5 => (if (q5.2.1 304 17) = 0 then (if ((7544 : Int32) + ((124 : Int32) * (q5.2.1 305 (5 : Int32).toNatClampNeg))) < 0 ∨ 9732 ≤ ((7544 : Int32) + ((124 : Int32) * (q5.2.1 305 (5 : Int32).toNatClampNeg))).toNatClampNeg then none else f_m_text_132 F v1 v2 ((7544 : Int32) + ((124 : Int32) * (q5.2.1 305 (5 : Int32).toNatClampNeg))) ((m_up q5.2.1 305 ((7544 : Int32) + ((124 : Int32) * (q5.2.1 305 (5 : Int32).toNatClampNeg))).toNatClampNeg (q5.2.1 304 20)), q5.2.2)) else some (((-10 : Int32) - (q5.2.1 304 18)), q5.2))) else (if v3 < 0 ∨ 120 ≤ v3.toNatClampNeg then none else f_m_text_62 F n v1 v2 (v3 + (1 : Int32)) ((m_up m.1 312 v3.toNatClampNeg (m.1 311 v3.toNatClampNeg)), m.2)))
theorem ok_m_text_62 (X : mX) (d F : Nat) : ∀ (n : Nat) (v1 : Int32) (v2 : Int32) (v3 : Int32) (w4 : Option Value) (m : mM) (r : Int32) (m' : mM), f_m_text_62 F n v1 v2 v3 m = some (r, m') → m_R X (d + 66) 300 62 [some (.ref 304), some (.int v1), some (.int v2), some (.int v3), w4] [] (SH, m) (some (.int r), (SH, m')) := by
  intro n
  induction n with
  | zero => intro v1 v2 v3 w4 m r m' h; cases h
  | succ n ih =>
    intro v1 v2 v3 w4 m r m' h
    simp only [f_m_text_62] at h
    refine m_R_sg (by decide) [(.iload_n 3, 1, 0, 3, 0, 0, 0), (.aload_n 0, 1, 0, 0, 0, 0, 0), (.getfield 378, 3, 0, 12, 9, 0, 1501)] (by decide +kernel) (show m_sgl X _ _ _ _ _ = some (67, [some (.ref 304), some (.int v1), some (.int v2), some (.int v3), w4], [.int (m.1 304 9), .int v3], (SH, m.1, m.2)) from rfl) ?_
    rcases m_ite h with ⟨c1078, h⟩ | ⟨c1078, h⟩
    · refine m_R_1 (by decide) (m_opb_of (ins := .if_icmp .ge 21) (len := 3) (tag := 0) (a := 88) (b := 0) (c := 0) (q := 0) (by decide +kernel)) (if_pos c1078) ?_
      refine m_R_sg (by decide) [(.aload_n 0, 1, 0, 0, 0, 0, 0), (.iconst (-1), 1, 0, 1, 1, 0, 0)] (by decide +kernel) (show m_sgl X _ _ _ _ _ = some (90, [some (.ref 304), some (.int v1), some (.int v2), some (.int v3), w4], [.int (-1 : Int32), .ref 304], (SH, m.1, m.2)) from rfl) ?_
      obtain ⟨q5, hc5, h⟩ := Option.bind_eq_some_iff.mp h
      refine m_R_cV (v := none) (h1 := (SH, q5.2)) (rest := []) (lo' := [some (.ref 304), some (.int (-1 : Int32))]) (ml := 2) (k0 := 304) (by decide) (Or.inl rfl) (m_opb_of (ins := .invokevirtual 372) (len := 3) (tag := 5) (a := 229) (b := 1) (c := 0) (q := 1701) (by decide +kernel)) (by decide +kernel) rfl (show m_isO 229 304 (SH, _) = true from m_isO_of (by decide +kernel)) (Nat.le_of_ble_eq_true rfl) rfl rfl (ok_m_readText X (d + 0) F _ _ _ _ hc5) ?_
      refine m_R_sg (by decide) [(.aload_n 0, 1, 0, 0, 0, 0, 0), (.getfield 256, 3, 0, 12, 17, 1, 1509)] (by decide +kernel) (show m_sgl X _ _ _ _ _ = some (97, [some (.ref 304), some (.int v1), some (.int v2), some (.int v3), w4], [.int (q5.2.1 304 17)], (SH, q5.2.1, q5.2.2)) from rfl) ?_
      rcases m_ite h with ⟨c1079, h⟩ | ⟨c1079, h⟩
      · refine m_R_1 (by decide) (m_opb_of (ins := .ifCond .eq 11) (len := 3) (tag := 0) (a := 108) (b := 0) (c := 0) (q := 0) (by decide +kernel)) (if_pos c1079) ?_
        refine m_R_sg (by decide) [(.sipush 7544, 3, 0, 7544, 0, 0, 0), (.bipush 124, 2, 0, 124, 0, 0, 0), (.aload_n 0, 1, 0, 0, 0, 0, 0), (.getfield 13, 3, 0, 12, 1, 3, 1493), (.iconst 5, 1, 0, 5, 0, 0, 0)] (by decide +kernel) (show m_sgl X _ _ _ _ _ = some (118, [some (.ref 304), some (.int v1), some (.int v2), some (.int v3), w4], [.int (5 : Int32), .ref 305, .int (124 : Int32), .int (7544 : Int32)], (SH, q5.2.1, q5.2.2)) from rfl) ?_
        refine m_R_1 (by decide) (m_opb_of (ins := .iaload) (len := 1) (tag := 0) (a := 0) (b := 0) (c := 0) (q := 0) (by decide +kernel)) (m_s_iald sh_305 (by decide) (show ¬ ((5 : Int32) < 0 ∨ 9732 ≤ (5 : Int32).toNatClampNeg) by decide)) ?_
        refine m_R_sg (by decide) [(.imul, 1, 0, 0, 0, 0, 0), (.iadd, 1, 0, 0, 0, 0, 0), (.istore_n 3, 1, 0, 3, 0, 0, 0), (.aload_n 0, 1, 0, 0, 0, 0, 0), (.getfield 13, 3, 0, 12, 1, 3, 1493), (.iload_n 3, 1, 0, 3, 0, 0, 0), (.aload_n 0, 1, 0, 0, 0, 0, 0), (.getfield 361, 3, 0, 12, 20, 0, 1512)] (by decide +kernel) (show m_sgl X _ _ _ _ _ = some (131, [some (.ref 304), some (.int v1), some (.int v2), some (.int ((7544 : Int32) + ((124 : Int32) * (q5.2.1 305 (5 : Int32).toNatClampNeg)))), w4], [.int (q5.2.1 304 20), .int ((7544 : Int32) + ((124 : Int32) * (q5.2.1 305 (5 : Int32).toNatClampNeg))), .ref 305], (SH, q5.2.1, q5.2.2)) from rfl) ?_
        obtain ⟨c1080, h⟩ := m_ite_n h
        refine m_R_1 (by decide) (m_opb_of (ins := .iastore) (len := 1) (tag := 0) (a := 0) (b := 0) (c := 0) (q := 0) (by decide +kernel)) (m_s_iast sh_305 c1080) ?_
        exact ok_m_text_132 X d F _ _ _ _ _ _ _ h
      · refine m_R_1 (by decide) (m_opb_of (ins := .ifCond .eq 11) (len := 3) (tag := 0) (a := 108) (b := 0) (c := 0) (q := 0) (by decide +kernel)) (if_neg c1079) ?_
        refine m_R_sg (by decide) [(.bipush (-10), 2, 0, 10, 1, 0, 0), (.aload_n 0, 1, 0, 0, 0, 0, 0), (.getfield 260, 3, 0, 12, 18, 0, 1510), (.isub, 1, 0, 0, 0, 0, 0)] (by decide +kernel) (show m_sgl X _ _ _ _ _ = some (107, [some (.ref 304), some (.int v1), some (.int v2), some (.int v3), w4], [.int ((-10 : Int32) - (q5.2.1 304 18))], (SH, q5.2.1, q5.2.2)) from rfl) ?_
        obtain ⟨rfl, rfl⟩ := m_some h
        exact m_R_iret (by decide) (m_opb_of (ins := .ireturn) (len := 1) (tag := 1) (a := 0) (b := 0) (c := 0) (q := 0) (by decide +kernel)) (Or.inl rfl)
    · refine m_R_1 (by decide) (m_opb_of (ins := .if_icmp .ge 21) (len := 3) (tag := 0) (a := 88) (b := 0) (c := 0) (q := 0) (by decide +kernel)) (if_neg c1078) ?_
      refine m_R_sg (by decide) [(.aload_n 0, 1, 0, 0, 0, 0, 0), (.getfield 36, 3, 0, 12, 10, 3, 1502), (.iload_n 3, 1, 0, 3, 0, 0, 0), (.aload_n 0, 1, 0, 0, 0, 0, 0), (.getfield 33, 3, 0, 12, 8, 3, 1500), (.iload_n 3, 1, 0, 3, 0, 0, 0)] (by decide +kernel) (show m_sgl X _ _ _ _ _ = some (80, [some (.ref 304), some (.int v1), some (.int v2), some (.int v3), w4], [.int v3, .ref 311, .int v3, .ref 312], (SH, m.1, m.2)) from rfl) ?_
      obtain ⟨c1081, h⟩ := m_ite_n h
      refine m_R_1 (by decide) (m_opb_of (ins := .iaload) (len := 1) (tag := 0) (a := 0) (b := 0) (c := 0) (q := 0) (by decide +kernel)) (m_s_iald sh_311 (by decide) c1081) ?_
      refine m_R_1 (by decide) (m_opb_of (ins := .iastore) (len := 1) (tag := 0) (a := 0) (b := 0) (c := 0) (q := 0) (by decide +kernel)) (m_s_iast sh_312 c1081) ?_
      refine m_R_sg (by decide) [(.iinc 3 1, 3, 0, 3, 1, 0, 0), (.goto (-23), 3, 0, 62, 0, 0, 0)] (by decide +kernel) (show m_sgl X _ _ _ _ _ = some (62, [some (.ref 304), some (.int v1), some (.int v2), some (.int (v3 + (1 : Int32))), w4], [], (SH, (m_up m.1 312 v3.toNatClampNeg (m.1 311 v3.toNatClampNeg)), m.2)) from rfl) ?_
      exact ih _ _ _ _ _ _ _ h
def f_m_text (F : Nat)   (v1 : Int32) (v2 : Int32) (m : mM) : Option (Int32 × mM) := ((f_m_in F v1 (0 : Int32) (1000 : Int32) m).bind fun q1 => (if q1.1 = 0 then f_m_text_27 F q1.2 else ((f_m_in F v2 (0 : Int32) (1000 : Int32) q1.2).bind fun q2 => (if q2.1 = 0 then f_m_text_27 F q2.2 else (if v1 < v2 then (if (q2.2.1 305 (5 : Int32).toNatClampNeg) = (12 : Int32) then ((f_m_refuse F (-8 : Int32) q2.2).bind fun q3 => some (q3.1, q3.2)) else f_m_text_62 F F v1 v2 (0 : Int32) ((m_up q2.2.1 304 11 (q2.2.1 304 9)), q2.2.2)) else f_m_text_27 F q2.2)))))
theorem ok_m_text (X : mX) (d F : Nat) : ∀ (v1 : Int32) (v2 : Int32)  (m : mM) (r : Int32) (m' : mM), f_m_text F v1 v2 m = some (r, m') → m_R X (d + 66) 300 0 [some (.ref 304), some (.int v1), some (.int v2), none, none] [] (SH, m) (some (.int r), (SH, m')) := by
  intro v1 v2 m r m' h
  unfold f_m_text at h
  refine m_R_sg (by decide) [(.iload_n 1, 1, 0, 1, 0, 0, 0), (.iconst 0, 1, 0, 0, 0, 0, 0), (.sipush 1000, 3, 0, 1000, 0, 0, 0)] (by decide +kernel) (show m_sgl X _ _ _ _ _ = some (5, [some (.ref 304), some (.int v1), some (.int v2), none, none], [.int (1000 : Int32), .int (0 : Int32), .int v1], (SH, m.1, m.2)) from rfl) ?_
  obtain ⟨q1, hc1, h⟩ := Option.bind_eq_some_iff.mp h
  refine m_R_cS (v := (some (.int q1.1))) (h1 := (SH, q1.2)) (rest := []) (lo' := [some (.int v1), some (.int (0 : Int32)), some (.int (1000 : Int32))]) (ml := 3) (by decide) (m_opb_of (ins := .invokestatic 57) (len := 3) (tag := 4) (a := 201) (b := 3) (c := 0) (q := 1590) (by decide +kernel)) (by decide +kernel) (Nat.le_of_ble_eq_true rfl) rfl (Nat.le_of_ble_eq_true rfl) rfl rfl (ok_m_in X (d + 65) F _ _ _ _ _ _ hc1) ?_
  rcases m_ite h with ⟨c1082, h⟩ | ⟨c1082, h⟩
  · refine m_R_1 (by decide) (m_opb_of (ins := .ifCond .eq 19) (len := 3) (tag := 0) (a := 27) (b := 0) (c := 0) (q := 0) (by decide +kernel)) (if_pos c1082) ?_
    exact ok_m_text_27 X d F _ _ _ _ _ _ _ h
  · refine m_R_1 (by decide) (m_opb_of (ins := .ifCond .eq 19) (len := 3) (tag := 0) (a := 27) (b := 0) (c := 0) (q := 0) (by decide +kernel)) (if_neg c1082) ?_
    refine m_R_sg (by decide) [(.iload_n 2, 1, 0, 2, 0, 0, 0), (.iconst 0, 1, 0, 0, 0, 0, 0), (.sipush 1000, 3, 0, 1000, 0, 0, 0)] (by decide +kernel) (show m_sgl X _ _ _ _ _ = some (16, [some (.ref 304), some (.int v1), some (.int v2), none, none], [.int (1000 : Int32), .int (0 : Int32), .int v2], (SH, q1.2.1, q1.2.2)) from rfl) ?_
    obtain ⟨q2, hc2, h⟩ := Option.bind_eq_some_iff.mp h
    refine m_R_cS (v := (some (.int q2.1))) (h1 := (SH, q2.2)) (rest := []) (lo' := [some (.int v2), some (.int (0 : Int32)), some (.int (1000 : Int32))]) (ml := 3) (by decide) (m_opb_of (ins := .invokestatic 57) (len := 3) (tag := 4) (a := 201) (b := 3) (c := 0) (q := 1590) (by decide +kernel)) (by decide +kernel) (Nat.le_of_ble_eq_true rfl) rfl (Nat.le_of_ble_eq_true rfl) rfl rfl (ok_m_in X (d + 65) F _ _ _ _ _ _ hc2) ?_
    rcases m_ite h with ⟨c1083, h⟩ | ⟨c1083, h⟩
    · refine m_R_1 (by decide) (m_opb_of (ins := .ifCond .eq 8) (len := 3) (tag := 0) (a := 27) (b := 0) (c := 0) (q := 0) (by decide +kernel)) (if_pos c1083) ?_
      exact ok_m_text_27 X d F _ _ _ _ _ _ _ h
    · refine m_R_1 (by decide) (m_opb_of (ins := .ifCond .eq 8) (len := 3) (tag := 0) (a := 27) (b := 0) (c := 0) (q := 0) (by decide +kernel)) (if_neg c1083) ?_
      refine m_R_sg (by decide) [(.iload_n 1, 1, 0, 1, 0, 0, 0), (.iload_n 2, 1, 0, 2, 0, 0, 0)] (by decide +kernel) (show m_sgl X _ _ _ _ _ = some (24, [some (.ref 304), some (.int v1), some (.int v2), none, none], [.int v2, .int v1], (SH, q2.2.1, q2.2.2)) from rfl) ?_
      rcases m_ite h with ⟨c1084, h⟩ | ⟨c1084, h⟩
      · refine m_R_1 (by decide) (m_opb_of (ins := .if_icmp .lt 10) (len := 3) (tag := 0) (a := 34) (b := 0) (c := 0) (q := 0) (by decide +kernel)) (if_pos c1084) ?_
        refine m_R_sg (by decide) [(.aload_n 0, 1, 0, 0, 0, 0, 0), (.getfield 13, 3, 0, 12, 1, 3, 1493), (.iconst 5, 1, 0, 5, 0, 0, 0)] (by decide +kernel) (show m_sgl X _ _ _ _ _ = some (39, [some (.ref 304), some (.int v1), some (.int v2), none, none], [.int (5 : Int32), .ref 305], (SH, q2.2.1, q2.2.2)) from rfl) ?_
        refine m_R_1 (by decide) (m_opb_of (ins := .iaload) (len := 1) (tag := 0) (a := 0) (b := 0) (c := 0) (q := 0) (by decide +kernel)) (m_s_iald sh_305 (by decide) (show ¬ ((5 : Int32) < 0 ∨ 9732 ≤ (5 : Int32).toNatClampNeg) by decide)) ?_
        refine m_R_sg (by decide) [(.bipush 12, 2, 0, 12, 0, 0, 0)] (by decide +kernel) (show m_sgl X _ _ _ _ _ = some (42, [some (.ref 304), some (.int v1), some (.int v2), none, none], [.int (12 : Int32), .int (q2.2.1 305 (5 : Int32).toNatClampNeg)], (SH, q2.2.1, q2.2.2)) from rfl) ?_
        rcases m_ite h with ⟨c1085, h⟩ | ⟨c1085, h⟩
        · refine m_R_1 (by decide) (m_opb_of (ins := .if_icmp .ne 10) (len := 3) (tag := 0) (a := 52) (b := 0) (c := 0) (q := 0) (by decide +kernel)) (if_pos c1085) ?_
          refine m_R_sg (by decide) [(.aload_n 0, 1, 0, 0, 0, 0, 0), (.bipush (-8), 2, 0, 8, 1, 0, 0)] (by decide +kernel) (show m_sgl X _ _ _ _ _ = some (48, [some (.ref 304), some (.int v1), some (.int v2), none, none], [.int (-8 : Int32), .ref 304], (SH, q2.2.1, q2.2.2)) from rfl) ?_
          obtain ⟨q3, hc3, h⟩ := Option.bind_eq_some_iff.mp h
          refine m_R_cV (v := (some (.int q3.1))) (h1 := (SH, q3.2)) (rest := []) (lo' := [some (.ref 304), some (.int (-8 : Int32))]) (ml := 2) (k0 := 304) (by decide) (Or.inl rfl) (m_opb_of (ins := .invokevirtual 61) (len := 3) (tag := 5) (a := 202) (b := 1) (c := 0) (q := 1593) (by decide +kernel)) (by decide +kernel) rfl (show m_isO 202 304 (SH, _) = true from m_isO_of (by decide +kernel)) (Nat.le_of_ble_eq_true rfl) rfl rfl (ok_m_refuse X (d + 65) F _ _ _ _ hc3) ?_
          obtain ⟨rfl, rfl⟩ := m_some h
          exact m_R_iret (by decide) (m_opb_of (ins := .ireturn) (len := 1) (tag := 1) (a := 0) (b := 0) (c := 0) (q := 0) (by decide +kernel)) (Or.inl rfl)
        · refine m_R_1 (by decide) (m_opb_of (ins := .if_icmp .ne 10) (len := 3) (tag := 0) (a := 52) (b := 0) (c := 0) (q := 0) (by decide +kernel)) (if_neg c1085) ?_
          refine m_R_sg (by decide) [(.aload_n 0, 1, 0, 0, 0, 0, 0), (.aload_n 0, 1, 0, 0, 0, 0, 0), (.getfield 378, 3, 0, 12, 9, 0, 1501), (.putfield 227, 3, 0, 12, 11, 0, 1503), (.iconst 0, 1, 0, 0, 0, 0, 0), (.istore_n 3, 1, 0, 3, 0, 0, 0)] (by decide +kernel) (show m_sgl X _ _ _ _ _ = some (62, [some (.ref 304), some (.int v1), some (.int v2), some (.int (0 : Int32)), none], [], (SH, (m_up q2.2.1 304 11 (q2.2.1 304 9)), q2.2.2)) from rfl) ?_
          exact ok_m_text_62 X d F F _ _ _ _ _ _ _ h
      · refine m_R_1 (by decide) (m_opb_of (ins := .if_icmp .lt 10) (len := 3) (tag := 0) (a := 34) (b := 0) (c := 0) (q := 0) (by decide +kernel)) (if_neg c1084) ?_
        exact ok_m_text_27 X d F _ _ _ _ _ _ _ h
def f_x_faultOfQuestion_10 (F : Nat)    (m : mM) : Option (Int32 × mM) := some ((-3 : Int32), m)
theorem ok_x_faultOfQuestion_10 (X : mX) (d F : Nat) : ∀  (w0 : Option Value) (w1 : Option Value) (w2 : Option Value) (m : mM) (r : Int32) (m' : mM), f_x_faultOfQuestion_10 F  m = some (r, m') → m_R X (d + 1) 141 10 [w0, w1, w2] [] (SH, m) (some (.int r), (SH, m')) := by
  intro w0 w1 w2 m r m' h
  unfold f_x_faultOfQuestion_10 at h
  refine m_R_sg (by decide) [(.bipush (-3), 2, 0, 3, 1, 0, 0)] (by decide +kernel) (show m_sgl X _ _ _ _ _ = some (12, [w0, w1, w2], [.int (-3 : Int32)], (SH, m.1, m.2)) from rfl) ?_
  obtain ⟨rfl, rfl⟩ := m_some h
  exact m_R_iret (by decide) (m_opb_of (ins := .ireturn) (len := 1) (tag := 1) (a := 0) (b := 0) (c := 0) (q := 0) (by decide +kernel)) (Or.inl rfl)
def f_x_faultOfQuestion_59 (F : Nat)   (s0 : Int32) (m : mM) : Option (Int32 × mM) := some (s0, m)
theorem ok_x_faultOfQuestion_59 (X : mX) (d F : Nat) : ∀ (s0 : Int32) (w0 : Option Value) (w1 : Option Value) (w2 : Option Value) (m : mM) (r : Int32) (m' : mM), f_x_faultOfQuestion_59 F s0 m = some (r, m') → m_R X (d + 1) 141 59 [w0, w1, w2] [.int s0] (SH, m) (some (.int r), (SH, m')) := by
  intro s0 w0 w1 w2 m r m' h
  unfold f_x_faultOfQuestion_59 at h
  obtain ⟨rfl, rfl⟩ := m_some h
  exact m_R_iret (by decide) (m_opb_of (ins := .ireturn) (len := 1) (tag := 1) (a := 0) (b := 0) (c := 0) (q := 0) (by decide +kernel)) (Or.inl rfl)
def f_x_faultOfQuestion (F : Nat)   (v1 : Int32) (v2 : Int32) (m : mM) : Option (Int32 × mM) := (if v1 < 0 then f_x_faultOfQuestion_10 F m else (if v1 ≤ (6 : Int32) then (if v2 = (-1 : Int32) then some ((0 : Int32), m) else ((f_Papers_isPaper F v2 m).bind fun q1 => (if q1.1 = 0 then some ((-3 : Int32), q1.2) else (if v2 < 0 ∨ 60 ≤ v2.toNatClampNeg then none else (if (q1.2.1 32 v2.toNatClampNeg) = (1 : Int32) then f_x_faultOfQuestion_59 F (0 : Int32) q1.2 else f_x_faultOfQuestion_59 F (-5 : Int32) q1.2))))) else f_x_faultOfQuestion_10 F m))
theorem ok_x_faultOfQuestion (X : mX) (d F : Nat) : ∀ (v1 : Int32) (v2 : Int32)  (m : mM) (r : Int32) (m' : mM), f_x_faultOfQuestion F v1 v2 m = some (r, m') → m_R X (d + 1) 141 0 [some (.ref 0), some (.int v1), some (.int v2)] [] (SH, m) (some (.int r), (SH, m')) := by
  intro v1 v2 m r m' h
  unfold f_x_faultOfQuestion at h
  refine m_R_sg (by decide) [(.iload_n 1, 1, 0, 1, 0, 0, 0)] (by decide +kernel) (show m_sgl X _ _ _ _ _ = some (1, [some (.ref 0), some (.int v1), some (.int v2)], [.int v1], (SH, m.1, m.2)) from rfl) ?_
  rcases m_ite h with ⟨c1086, h⟩ | ⟨c1086, h⟩
  · refine m_R_1 (by decide) (m_opb_of (ins := .ifCond .lt 9) (len := 3) (tag := 0) (a := 10) (b := 0) (c := 0) (q := 0) (by decide +kernel)) (if_pos c1086) ?_
    exact ok_x_faultOfQuestion_10 X d F _ _ _ _ _ _ h
  · refine m_R_1 (by decide) (m_opb_of (ins := .ifCond .lt 9) (len := 3) (tag := 0) (a := 10) (b := 0) (c := 0) (q := 0) (by decide +kernel)) (if_neg c1086) ?_
    refine m_R_sg (by decide) [(.iload_n 1, 1, 0, 1, 0, 0, 0), (.bipush 6, 2, 0, 6, 0, 0, 0)] (by decide +kernel) (show m_sgl X _ _ _ _ _ = some (7, [some (.ref 0), some (.int v1), some (.int v2)], [.int (6 : Int32), .int v1], (SH, m.1, m.2)) from rfl) ?_
    rcases m_ite h with ⟨c1087, h⟩ | ⟨c1087, h⟩
    · refine m_R_1 (by decide) (m_opb_of (ins := .if_icmp .le 6) (len := 3) (tag := 0) (a := 13) (b := 0) (c := 0) (q := 0) (by decide +kernel)) (if_pos c1087) ?_
      refine m_R_sg (by decide) [(.iload_n 2, 1, 0, 2, 0, 0, 0), (.iconst (-1), 1, 0, 1, 1, 0, 0)] (by decide +kernel) (show m_sgl X _ _ _ _ _ = some (15, [some (.ref 0), some (.int v1), some (.int v2)], [.int (-1 : Int32), .int v2], (SH, m.1, m.2)) from rfl) ?_
      rcases m_ite h with ⟨c1088, h⟩ | ⟨c1088, h⟩
      · refine m_R_1 (by decide) (m_opb_of (ins := .if_icmp .ne 5) (len := 3) (tag := 0) (a := 20) (b := 0) (c := 0) (q := 0) (by decide +kernel)) (if_pos c1088) ?_
        refine m_R_sg (by decide) [(.iconst 0, 1, 0, 0, 0, 0, 0)] (by decide +kernel) (show m_sgl X _ _ _ _ _ = some (19, [some (.ref 0), some (.int v1), some (.int v2)], [.int (0 : Int32)], (SH, m.1, m.2)) from rfl) ?_
        obtain ⟨rfl, rfl⟩ := m_some h
        exact m_R_iret (by decide) (m_opb_of (ins := .ireturn) (len := 1) (tag := 1) (a := 0) (b := 0) (c := 0) (q := 0) (by decide +kernel)) (Or.inl rfl)
      · refine m_R_1 (by decide) (m_opb_of (ins := .if_icmp .ne 5) (len := 3) (tag := 0) (a := 20) (b := 0) (c := 0) (q := 0) (by decide +kernel)) (if_neg c1088) ?_
        refine m_R_sg (by decide) [(.aload_n 0, 1, 0, 0, 0, 0, 0), (.getfield 28, 3, 0, 11, 2, 3, 632), (.getfield 146, 3, 0, 10, 2, 3, 510), (.iload_n 2, 1, 0, 2, 0, 0, 0)] (by decide +kernel) (show m_sgl X _ _ _ _ _ = some (28, [some (.ref 0), some (.int v1), some (.int v2)], [.int v2, .ref 31], (SH, m.1, m.2)) from rfl) ?_
        obtain ⟨q1, hc1, h⟩ := Option.bind_eq_some_iff.mp h
        refine m_R_cV (v := (some (.int q1.1))) (h1 := (SH, q1.2)) (rest := []) (lo' := [some (.ref 31), some (.int v2)]) (ml := 2) (k0 := 31) (by decide) (Or.inl rfl) (m_opb_of (ins := .invokevirtual 246) (len := 3) (tag := 5) (a := 41) (b := 1) (c := 0) (q := 927) (by decide +kernel)) (by decide +kernel) rfl (show m_isO 41 31 (SH, _) = true from m_isO_of (by decide +kernel)) (Nat.le_of_ble_eq_true rfl) rfl rfl (ok_Papers_isPaper X (d + 0) F _ _ _ _ hc1) ?_
        rcases m_ite h with ⟨c1089, h⟩ | ⟨c1089, h⟩
        · refine m_R_1 (by decide) (m_opb_of (ins := .ifCond .ne 6) (len := 3) (tag := 0) (a := 37) (b := 0) (c := 0) (q := 0) (by decide +kernel)) (if_pos c1089) ?_
          refine m_R_sg (by decide) [(.bipush (-3), 2, 0, 3, 1, 0, 0)] (by decide +kernel) (show m_sgl X _ _ _ _ _ = some (36, [some (.ref 0), some (.int v1), some (.int v2)], [.int (-3 : Int32)], (SH, q1.2.1, q1.2.2)) from rfl) ?_
          obtain ⟨rfl, rfl⟩ := m_some h
          exact m_R_iret (by decide) (m_opb_of (ins := .ireturn) (len := 1) (tag := 1) (a := 0) (b := 0) (c := 0) (q := 0) (by decide +kernel)) (Or.inl rfl)
        · refine m_R_1 (by decide) (m_opb_of (ins := .ifCond .ne 6) (len := 3) (tag := 0) (a := 37) (b := 0) (c := 0) (q := 0) (by decide +kernel)) (if_neg c1089) ?_
          refine m_R_sg (by decide) [(.aload_n 0, 1, 0, 0, 0, 0, 0), (.getfield 28, 3, 0, 11, 2, 3, 632), (.getfield 146, 3, 0, 10, 2, 3, 510), (.getfield 249, 3, 0, 4, 0, 3, 320), (.iload_n 2, 1, 0, 2, 0, 0, 0)] (by decide +kernel) (show m_sgl X _ _ _ _ _ = some (48, [some (.ref 0), some (.int v1), some (.int v2)], [.int v2, .ref 32], (SH, q1.2.1, q1.2.2)) from rfl) ?_
          obtain ⟨c1090, h⟩ := m_ite_n h
          refine m_R_1 (by decide) (m_opb_of (ins := .iaload) (len := 1) (tag := 0) (a := 0) (b := 0) (c := 0) (q := 0) (by decide +kernel)) (m_s_iald sh_32 (by decide) c1090) ?_
          refine m_R_sg (by decide) [(.iconst 1, 1, 0, 1, 0, 0, 0)] (by decide +kernel) (show m_sgl X _ _ _ _ _ = some (50, [some (.ref 0), some (.int v1), some (.int v2)], [.int (1 : Int32), .int (q1.2.1 32 v2.toNatClampNeg)], (SH, q1.2.1, q1.2.2)) from rfl) ?_
          rcases m_ite h with ⟨c1091, h⟩ | ⟨c1091, h⟩
          · refine m_R_1 (by decide) (m_opb_of (ins := .if_icmp .ne 7) (len := 3) (tag := 0) (a := 57) (b := 0) (c := 0) (q := 0) (by decide +kernel)) (if_pos c1091) ?_
            refine m_R_sg (by decide) [(.iconst 0, 1, 0, 0, 0, 0, 0), (.goto 5, 3, 0, 59, 0, 0, 0)] (by decide +kernel) (show m_sgl X _ _ _ _ _ = some (59, [some (.ref 0), some (.int v1), some (.int v2)], [.int (0 : Int32)], (SH, q1.2.1, q1.2.2)) from rfl) ?_
            exact ok_x_faultOfQuestion_59 X d F _ _ _ _ _ _ _ h
          · refine m_R_1 (by decide) (m_opb_of (ins := .if_icmp .ne 7) (len := 3) (tag := 0) (a := 57) (b := 0) (c := 0) (q := 0) (by decide +kernel)) (if_neg c1091) ?_
            refine m_R_sg (by decide) [(.bipush (-5), 2, 0, 5, 1, 0, 0)] (by decide +kernel) (show m_sgl X _ _ _ _ _ = some (59, [some (.ref 0), some (.int v1), some (.int v2)], [.int (-5 : Int32)], (SH, q1.2.1, q1.2.2)) from rfl) ?_
            exact ok_x_faultOfQuestion_59 X d F _ _ _ _ _ _ _ h
    · refine m_R_1 (by decide) (m_opb_of (ins := .if_icmp .le 6) (len := 3) (tag := 0) (a := 13) (b := 0) (c := 0) (q := 0) (by decide +kernel)) (if_neg c1087) ?_
      exact ok_x_faultOfQuestion_10 X d F _ _ _ _ _ _ h
def f_x_says_42 (F : Nat)   (v1 : Int32) (v2 : Int32) (m : mM) : Option (Int32 × mM) := ((f_World_lawSays F v1 v2 m).bind fun q5 => some (q5.1, q5.2))
theorem ok_x_says_42 (X : mX) (d F : Nat) : ∀ (v1 : Int32) (v2 : Int32) (w3 : Option Value) (m : mM) (r : Int32) (m' : mM), f_x_says_42 F v1 v2 m = some (r, m') → m_R X (d + 3) 140 42 [some (.ref 0), some (.int v1), some (.int v2), w3] [] (SH, m) (some (.int r), (SH, m')) := by
  intro v1 v2 w3 m r m' h
  unfold f_x_says_42 at h
  refine m_R_sg (by decide) [(.aload_n 0, 1, 0, 0, 0, 0, 0), (.getfield 28, 3, 0, 11, 2, 3, 632), (.iload_n 1, 1, 0, 1, 0, 0, 0), (.iload_n 2, 1, 0, 2, 0, 0, 0)] (by decide +kernel) (show m_sgl X _ _ _ _ _ = some (48, [some (.ref 0), some (.int v1), some (.int v2), w3], [.int v2, .int v1, .ref 16], (SH, m.1, m.2)) from rfl) ?_
  obtain ⟨q5, hc5, h⟩ := Option.bind_eq_some_iff.mp h
  refine m_R_cV (v := (some (.int q5.1))) (h1 := (SH, q5.2)) (rest := []) (lo' := [some (.ref 16), some (.int v1), some (.int v2), none]) (ml := 4) (k0 := 16) (by decide) (Or.inl rfl) (m_opb_of (ins := .invokevirtual 386) (len := 3) (tag := 5) (a := 39) (b := 2) (c := 0) (q := 1241) (by decide +kernel)) (by decide +kernel) rfl (show m_isO 39 16 (SH, _) = true from m_isO_of (by decide +kernel)) (Nat.le_of_ble_eq_true rfl) rfl rfl (ok_World_lawSays X (d + 0) F _ _ _ _ _ hc5) ?_
  obtain ⟨rfl, rfl⟩ := m_some h
  exact m_R_iret (by decide) (m_opb_of (ins := .ireturn) (len := 1) (tag := 1) (a := 0) (b := 0) (c := 0) (q := 0) (by decide +kernel)) (Or.inl rfl)
def f_x_says (F : Nat)   (v1 : Int32) (v2 : Int32) (m : mM) : Option (Int32 × mM) := ((f_x_faultOfQuestion F v1 v2 m).bind fun q1 => (if q1.1 = 0 then (if v1 = (1 : Int32) then ((f_World_whichSays F v1 v2 q1.2).bind fun q2 => (if q2.1 = (-1 : Int32) then ((f_x_refuseByZero F (-2 : Int32) q2.2).bind fun q3 => some (q3.1, q3.2)) else f_x_says_42 F v1 v2 q2.2)) else f_x_says_42 F v1 v2 q1.2) else ((f_x_refuseByZero F q1.1 q1.2).bind fun q4 => some (q4.1, q4.2))))
theorem ok_x_says (X : mX) (d F : Nat) : ∀ (v1 : Int32) (v2 : Int32)  (m : mM) (r : Int32) (m' : mM), f_x_says F v1 v2 m = some (r, m') → m_R X (d + 3) 140 0 [some (.ref 0), some (.int v1), some (.int v2), none] [] (SH, m) (some (.int r), (SH, m')) := by
  intro v1 v2 m r m' h
  unfold f_x_says at h
  refine m_R_sg (by decide) [(.aload_n 0, 1, 0, 0, 0, 0, 0), (.iload_n 1, 1, 0, 1, 0, 0, 0), (.iload_n 2, 1, 0, 2, 0, 0, 0)] (by decide +kernel) (show m_sgl X _ _ _ _ _ = some (3, [some (.ref 0), some (.int v1), some (.int v2), none], [.int v2, .int v1, .ref 0], (SH, m.1, m.2)) from rfl) ?_
  obtain ⟨q1, hc1, h⟩ := Option.bind_eq_some_iff.mp h
  refine m_R_cV (v := (some (.int q1.1))) (h1 := (SH, q1.2)) (rest := []) (lo' := [some (.ref 0), some (.int v1), some (.int v2)]) (ml := 3) (k0 := 0) (by decide) (Or.inl rfl) (m_opb_of (ins := .invokevirtual 383) (len := 3) (tag := 5) (a := 141) (b := 2) (c := 0) (q := 1237) (by decide +kernel)) (by decide +kernel) rfl (show m_isO 141 0 (SH, _) = true from m_isO_of (by decide +kernel)) (Nat.le_of_ble_eq_true rfl) rfl rfl (ok_x_faultOfQuestion X (d + 1) F _ _ _ _ _ hc1) ?_
  refine m_R_sg (by decide) [(.istore_n 3, 1, 0, 3, 0, 0, 0), (.iload_n 3, 1, 0, 3, 0, 0, 0)] (by decide +kernel) (show m_sgl X _ _ _ _ _ = some (8, [some (.ref 0), some (.int v1), some (.int v2), some (.int q1.1)], [.int q1.1], (SH, q1.2.1, q1.2.2)) from rfl) ?_
  rcases m_ite h with ⟨c1092, h⟩ | ⟨c1092, h⟩
  · refine m_R_1 (by decide) (m_opb_of (ins := .ifCond .eq 9) (len := 3) (tag := 0) (a := 17) (b := 0) (c := 0) (q := 0) (by decide +kernel)) (if_pos c1092) ?_
    refine m_R_sg (by decide) [(.iload_n 1, 1, 0, 1, 0, 0, 0), (.iconst 1, 1, 0, 1, 0, 0, 0)] (by decide +kernel) (show m_sgl X _ _ _ _ _ = some (19, [some (.ref 0), some (.int v1), some (.int v2), some (.int q1.1)], [.int (1 : Int32), .int v1], (SH, q1.2.1, q1.2.2)) from rfl) ?_
    rcases m_ite h with ⟨c1093, h⟩ | ⟨c1093, h⟩
    · refine m_R_1 (by decide) (m_opb_of (ins := .if_icmp .ne 23) (len := 3) (tag := 0) (a := 42) (b := 0) (c := 0) (q := 0) (by decide +kernel)) (if_pos c1093) ?_
      refine m_R_sg (by decide) [(.aload_n 0, 1, 0, 0, 0, 0, 0), (.getfield 28, 3, 0, 11, 2, 3, 632), (.iload_n 1, 1, 0, 1, 0, 0, 0), (.iload_n 2, 1, 0, 2, 0, 0, 0)] (by decide +kernel) (show m_sgl X _ _ _ _ _ = some (28, [some (.ref 0), some (.int v1), some (.int v2), some (.int q1.1)], [.int v2, .int v1, .ref 16], (SH, q1.2.1, q1.2.2)) from rfl) ?_
      obtain ⟨q2, hc2, h⟩ := Option.bind_eq_some_iff.mp h
      refine m_R_cV (v := (some (.int q2.1))) (h1 := (SH, q2.2)) (rest := []) (lo' := [some (.ref 16), some (.int v1), some (.int v2)]) (ml := 3) (k0 := 16) (by decide) (Or.inl rfl) (m_opb_of (ins := .invokevirtual 359) (len := 3) (tag := 5) (a := 117) (b := 2) (c := 0) (q := 1092) (by decide +kernel)) (by decide +kernel) rfl (show m_isO 117 16 (SH, _) = true from m_isO_of (by decide +kernel)) (Nat.le_of_ble_eq_true rfl) rfl rfl (ok_World_whichSays X (d + 0) F _ _ _ _ _ hc2) ?_
      refine m_R_sg (by decide) [(.iconst (-1), 1, 0, 1, 1, 0, 0)] (by decide +kernel) (show m_sgl X _ _ _ _ _ = some (32, [some (.ref 0), some (.int v1), some (.int v2), some (.int q1.1)], [.int (-1 : Int32), .int q2.1], (SH, q2.2.1, q2.2.2)) from rfl) ?_
      rcases m_ite h with ⟨c1094, h⟩ | ⟨c1094, h⟩
      · refine m_R_1 (by decide) (m_opb_of (ins := .if_icmp .ne 10) (len := 3) (tag := 0) (a := 42) (b := 0) (c := 0) (q := 0) (by decide +kernel)) (if_pos c1094) ?_
        refine m_R_sg (by decide) [(.aload_n 0, 1, 0, 0, 0, 0, 0), (.bipush (-2), 2, 0, 2, 1, 0, 0)] (by decide +kernel) (show m_sgl X _ _ _ _ _ = some (38, [some (.ref 0), some (.int v1), some (.int v2), some (.int q1.1)], [.int (-2 : Int32), .ref 0], (SH, q2.2.1, q2.2.2)) from rfl) ?_
        obtain ⟨q3, hc3, h⟩ := Option.bind_eq_some_iff.mp h
        refine m_R_cV (v := (some (.int q3.1))) (h1 := (SH, q3.2)) (rest := []) (lo' := [some (.ref 0), some (.int (-2 : Int32))]) (ml := 2) (k0 := 0) (by decide) (Or.inl rfl) (m_opb_of (ins := .invokevirtual 335) (len := 3) (tag := 5) (a := 107) (b := 1) (c := 0) (q := 1054) (by decide +kernel)) (by decide +kernel) rfl (show m_isO 107 0 (SH, _) = true from m_isO_of (by decide +kernel)) (Nat.le_of_ble_eq_true rfl) rfl rfl (ok_x_refuseByZero X (d + 1) F _ _ _ _ hc3) ?_
        obtain ⟨rfl, rfl⟩ := m_some h
        exact m_R_iret (by decide) (m_opb_of (ins := .ireturn) (len := 1) (tag := 1) (a := 0) (b := 0) (c := 0) (q := 0) (by decide +kernel)) (Or.inl rfl)
      · refine m_R_1 (by decide) (m_opb_of (ins := .if_icmp .ne 10) (len := 3) (tag := 0) (a := 42) (b := 0) (c := 0) (q := 0) (by decide +kernel)) (if_neg c1094) ?_
        exact ok_x_says_42 X d F _ _ _ _ _ _ h
    · refine m_R_1 (by decide) (m_opb_of (ins := .if_icmp .ne 23) (len := 3) (tag := 0) (a := 42) (b := 0) (c := 0) (q := 0) (by decide +kernel)) (if_neg c1093) ?_
      exact ok_x_says_42 X d F _ _ _ _ _ _ h
  · refine m_R_1 (by decide) (m_opb_of (ins := .ifCond .eq 9) (len := 3) (tag := 0) (a := 17) (b := 0) (c := 0) (q := 0) (by decide +kernel)) (if_neg c1092) ?_
    refine m_R_sg (by decide) [(.aload_n 0, 1, 0, 0, 0, 0, 0), (.iload_n 3, 1, 0, 3, 0, 0, 0)] (by decide +kernel) (show m_sgl X _ _ _ _ _ = some (13, [some (.ref 0), some (.int v1), some (.int v2), some (.int q1.1)], [.int q1.1, .ref 0], (SH, q1.2.1, q1.2.2)) from rfl) ?_
    obtain ⟨q4, hc4, h⟩ := Option.bind_eq_some_iff.mp h
    refine m_R_cV (v := (some (.int q4.1))) (h1 := (SH, q4.2)) (rest := []) (lo' := [some (.ref 0), some (.int q1.1)]) (ml := 2) (k0 := 0) (by decide) (Or.inl rfl) (m_opb_of (ins := .invokevirtual 335) (len := 3) (tag := 5) (a := 107) (b := 1) (c := 0) (q := 1054) (by decide +kernel)) (by decide +kernel) rfl (show m_isO 107 0 (SH, _) = true from m_isO_of (by decide +kernel)) (Nat.le_of_ble_eq_true rfl) rfl rfl (ok_x_refuseByZero X (d + 1) F _ _ _ _ hc4) ?_
    obtain ⟨rfl, rfl⟩ := m_some h
    exact m_R_iret (by decide) (m_opb_of (ins := .ireturn) (len := 1) (tag := 1) (a := 0) (b := 0) (c := 0) (q := 0) (by decide +kernel)) (Or.inl rfl)
def f_m_noBill_49 (F : Nat)   (s0 : Int32) (m : mM) : Option (Int32 × mM) := some (s0, m)
theorem ok_m_noBill_49 (X : mX) (d F : Nat) : ∀ (s0 : Int32) (w0 : Option Value) (w1 : Option Value) (w2 : Option Value) (m : mM) (r : Int32) (m' : mM), f_m_noBill_49 F s0 m = some (r, m') → m_R X (d + 2) 302 49 [w0, w1, w2] [.int s0] (SH, m) (some (.int r), (SH, m')) := by
  intro s0 w0 w1 w2 m r m' h
  unfold f_m_noBill_49 at h
  obtain ⟨rfl, rfl⟩ := m_some h
  exact m_R_iret (by decide) (m_opb_of (ins := .ireturn) (len := 1) (tag := 1) (a := 0) (b := 0) (c := 0) (q := 0) (by decide +kernel)) (Or.inl rfl)
def f_m_noBill_23 (F : Nat)    (m : mM) : Option (Int32 × mM) := f_m_noBill_49 F (-3 : Int32) m
theorem ok_m_noBill_23 (X : mX) (d F : Nat) : ∀  (w0 : Option Value) (w1 : Option Value) (w2 : Option Value) (m : mM) (r : Int32) (m' : mM), f_m_noBill_23 F  m = some (r, m') → m_R X (d + 2) 302 23 [w0, w1, w2] [] (SH, m) (some (.int r), (SH, m')) := by
  intro w0 w1 w2 m r m' h
  unfold f_m_noBill_23 at h
  refine m_R_sg (by decide) [(.bipush (-3), 2, 0, 3, 1, 0, 0), (.goto 24, 3, 0, 49, 0, 0, 0)] (by decide +kernel) (show m_sgl X _ _ _ _ _ = some (49, [w0, w1, w2], [.int (-3 : Int32)], (SH, m.1, m.2)) from rfl) ?_
  exact ok_m_noBill_49 X d F _ _ _ _ _ _ _ h
def f_m_noBill_48 (F : Nat)    (m : mM) : Option (Int32 × mM) := f_m_noBill_49 F (0 : Int32) m
theorem ok_m_noBill_48 (X : mX) (d F : Nat) : ∀  (w0 : Option Value) (w1 : Option Value) (w2 : Option Value) (m : mM) (r : Int32) (m' : mM), f_m_noBill_48 F  m = some (r, m') → m_R X (d + 2) 302 48 [w0, w1, w2] [] (SH, m) (some (.int r), (SH, m')) := by
  intro w0 w1 w2 m r m' h
  unfold f_m_noBill_48 at h
  refine m_R_sg (by decide) [(.iconst 0, 1, 0, 0, 0, 0, 0)] (by decide +kernel) (show m_sgl X _ _ _ _ _ = some (49, [w0, w1, w2], [.int (0 : Int32)], (SH, m.1, m.2)) from rfl) ?_
  exact ok_m_noBill_49 X d F _ _ _ _ _ _ _ h
def f_m_noBill_28 (F : Nat)   (v2 : Int32) (m : mM) : Option (Int32 × mM) := (if v2 = (-1 : Int32) then f_m_noBill_48 F m else ((f_m_paper F v2 (1 : Int32) m).bind fun q3 => (if q3.1 = (1 : Int32) then f_m_noBill_48 F q3.2 else f_m_noBill_49 F (-5 : Int32) q3.2)))
theorem ok_m_noBill_28 (X : mX) (d F : Nat) : ∀ (v2 : Int32) (w1 : Option Value) (m : mM) (r : Int32) (m' : mM), f_m_noBill_28 F v2 m = some (r, m') → m_R X (d + 2) 302 28 [some (.ref 304), w1, some (.int v2)] [] (SH, m) (some (.int r), (SH, m')) := by
  intro v2 w1 m r m' h
  unfold f_m_noBill_28 at h
  refine m_R_sg (by decide) [(.iload_n 2, 1, 0, 2, 0, 0, 0), (.iconst (-1), 1, 0, 1, 1, 0, 0)] (by decide +kernel) (show m_sgl X _ _ _ _ _ = some (30, [some (.ref 304), w1, some (.int v2)], [.int (-1 : Int32), .int v2], (SH, m.1, m.2)) from rfl) ?_
  rcases m_ite h with ⟨c1095, h⟩ | ⟨c1095, h⟩
  · refine m_R_1 (by decide) (m_opb_of (ins := .if_icmp .eq 18) (len := 3) (tag := 0) (a := 48) (b := 0) (c := 0) (q := 0) (by decide +kernel)) (if_pos c1095) ?_
    exact ok_m_noBill_48 X d F _ _ _ _ _ _ h
  · refine m_R_1 (by decide) (m_opb_of (ins := .if_icmp .eq 18) (len := 3) (tag := 0) (a := 48) (b := 0) (c := 0) (q := 0) (by decide +kernel)) (if_neg c1095) ?_
    refine m_R_sg (by decide) [(.aload_n 0, 1, 0, 0, 0, 0, 0), (.iload_n 2, 1, 0, 2, 0, 0, 0), (.iconst 1, 1, 0, 1, 0, 0, 0)] (by decide +kernel) (show m_sgl X _ _ _ _ _ = some (36, [some (.ref 304), w1, some (.int v2)], [.int (1 : Int32), .int v2, .ref 304], (SH, m.1, m.2)) from rfl) ?_
    obtain ⟨q3, hc3, h⟩ := Option.bind_eq_some_iff.mp h
    refine m_R_cV (v := (some (.int q3.1))) (h1 := (SH, q3.2)) (rest := []) (lo' := [some (.ref 304), some (.int v2), some (.int (1 : Int32))]) (ml := 3) (k0 := 304) (by decide) (Or.inl rfl) (m_opb_of (ins := .invokevirtual 160) (len := 3) (tag := 5) (a := 246) (b := 2) (c := 0) (q := 1791) (by decide +kernel)) (by decide +kernel) rfl (show m_isO 246 304 (SH, _) = true from m_isO_of (by decide +kernel)) (Nat.le_of_ble_eq_true rfl) rfl rfl (ok_m_paper X (d + 1) F _ _ _ _ _ hc3) ?_
    refine m_R_sg (by decide) [(.iconst 1, 1, 0, 1, 0, 0, 0)] (by decide +kernel) (show m_sgl X _ _ _ _ _ = some (40, [some (.ref 304), w1, some (.int v2)], [.int (1 : Int32), .int q3.1], (SH, q3.2.1, q3.2.2)) from rfl) ?_
    rcases m_ite h with ⟨c1096, h⟩ | ⟨c1096, h⟩
    · refine m_R_1 (by decide) (m_opb_of (ins := .if_icmp .eq 8) (len := 3) (tag := 0) (a := 48) (b := 0) (c := 0) (q := 0) (by decide +kernel)) (if_pos c1096) ?_
      exact ok_m_noBill_48 X d F _ _ _ _ _ _ h
    · refine m_R_1 (by decide) (m_opb_of (ins := .if_icmp .eq 8) (len := 3) (tag := 0) (a := 48) (b := 0) (c := 0) (q := 0) (by decide +kernel)) (if_neg c1096) ?_
      refine m_R_sg (by decide) [(.bipush (-5), 2, 0, 5, 1, 0, 0), (.goto 4, 3, 0, 49, 0, 0, 0)] (by decide +kernel) (show m_sgl X _ _ _ _ _ = some (49, [some (.ref 304), w1, some (.int v2)], [.int (-5 : Int32)], (SH, q3.2.1, q3.2.2)) from rfl) ?_
      exact ok_m_noBill_49 X d F _ _ _ _ _ _ _ h
def f_m_noBill (F : Nat)   (v1 : Int32) (v2 : Int32) (m : mM) : Option (Int32 × mM) := ((f_m_in F v1 (0 : Int32) (6 : Int32) m).bind fun q1 => (if q1.1 = 0 then f_m_noBill_23 F q1.2 else (if v2 = (-1 : Int32) then f_m_noBill_28 F v2 q1.2 else ((f_m_isPaper F v2 q1.2).bind fun q2 => (if q2.1 = 0 then f_m_noBill_23 F q2.2 else f_m_noBill_28 F v2 q2.2)))))
theorem ok_m_noBill (X : mX) (d F : Nat) : ∀ (v1 : Int32) (v2 : Int32)  (m : mM) (r : Int32) (m' : mM), f_m_noBill F v1 v2 m = some (r, m') → m_R X (d + 2) 302 0 [some (.ref 304), some (.int v1), some (.int v2)] [] (SH, m) (some (.int r), (SH, m')) := by
  intro v1 v2 m r m' h
  unfold f_m_noBill at h
  refine m_R_sg (by decide) [(.iload_n 1, 1, 0, 1, 0, 0, 0), (.iconst 0, 1, 0, 0, 0, 0, 0), (.bipush 6, 2, 0, 6, 0, 0, 0)] (by decide +kernel) (show m_sgl X _ _ _ _ _ = some (4, [some (.ref 304), some (.int v1), some (.int v2)], [.int (6 : Int32), .int (0 : Int32), .int v1], (SH, m.1, m.2)) from rfl) ?_
  obtain ⟨q1, hc1, h⟩ := Option.bind_eq_some_iff.mp h
  refine m_R_cS (v := (some (.int q1.1))) (h1 := (SH, q1.2)) (rest := []) (lo' := [some (.int v1), some (.int (0 : Int32)), some (.int (6 : Int32))]) (ml := 3) (by decide) (m_opb_of (ins := .invokestatic 57) (len := 3) (tag := 4) (a := 201) (b := 3) (c := 0) (q := 1590) (by decide +kernel)) (by decide +kernel) (Nat.le_of_ble_eq_true rfl) rfl (Nat.le_of_ble_eq_true rfl) rfl rfl (ok_m_in X (d + 1) F _ _ _ _ _ _ hc1) ?_
  rcases m_ite h with ⟨c1097, h⟩ | ⟨c1097, h⟩
  · refine m_R_1 (by decide) (m_opb_of (ins := .ifCond .eq 16) (len := 3) (tag := 0) (a := 23) (b := 0) (c := 0) (q := 0) (by decide +kernel)) (if_pos c1097) ?_
    exact ok_m_noBill_23 X d F _ _ _ _ _ _ h
  · refine m_R_1 (by decide) (m_opb_of (ins := .ifCond .eq 16) (len := 3) (tag := 0) (a := 23) (b := 0) (c := 0) (q := 0) (by decide +kernel)) (if_neg c1097) ?_
    refine m_R_sg (by decide) [(.iload_n 2, 1, 0, 2, 0, 0, 0), (.iconst (-1), 1, 0, 1, 1, 0, 0)] (by decide +kernel) (show m_sgl X _ _ _ _ _ = some (12, [some (.ref 304), some (.int v1), some (.int v2)], [.int (-1 : Int32), .int v2], (SH, q1.2.1, q1.2.2)) from rfl) ?_
    rcases m_ite h with ⟨c1098, h⟩ | ⟨c1098, h⟩
    · refine m_R_1 (by decide) (m_opb_of (ins := .if_icmp .eq 16) (len := 3) (tag := 0) (a := 28) (b := 0) (c := 0) (q := 0) (by decide +kernel)) (if_pos c1098) ?_
      exact ok_m_noBill_28 X d F _ _ _ _ _ h
    · refine m_R_1 (by decide) (m_opb_of (ins := .if_icmp .eq 16) (len := 3) (tag := 0) (a := 28) (b := 0) (c := 0) (q := 0) (by decide +kernel)) (if_neg c1098) ?_
      refine m_R_sg (by decide) [(.aload_n 0, 1, 0, 0, 0, 0, 0), (.iload_n 2, 1, 0, 2, 0, 0, 0)] (by decide +kernel) (show m_sgl X _ _ _ _ _ = some (17, [some (.ref 304), some (.int v1), some (.int v2)], [.int v2, .ref 304], (SH, q1.2.1, q1.2.2)) from rfl) ?_
      obtain ⟨q2, hc2, h⟩ := Option.bind_eq_some_iff.mp h
      refine m_R_cV (v := (some (.int q2.1))) (h1 := (SH, q2.2)) (rest := []) (lo' := [some (.ref 304), some (.int v2)]) (ml := 2) (k0 := 304) (by decide) (Or.inl rfl) (m_opb_of (ins := .invokevirtual 173) (len := 3) (tag := 5) (a := 272) (b := 1) (c := 0) (q := 1905) (by decide +kernel)) (by decide +kernel) rfl (show m_isO 272 304 (SH, _) = true from m_isO_of (by decide +kernel)) (Nat.le_of_ble_eq_true rfl) rfl rfl (ok_m_isPaper X (d + 0) F _ _ _ _ hc2) ?_
      rcases m_ite h with ⟨c1099, h⟩ | ⟨c1099, h⟩
      · refine m_R_1 (by decide) (m_opb_of (ins := .ifCond .ne 8) (len := 3) (tag := 0) (a := 28) (b := 0) (c := 0) (q := 0) (by decide +kernel)) (if_pos c1099) ?_
        exact ok_m_noBill_23 X d F _ _ _ _ _ _ h
      · refine m_R_1 (by decide) (m_opb_of (ins := .ifCond .ne 8) (len := 3) (tag := 0) (a := 28) (b := 0) (c := 0) (q := 0) (by decide +kernel)) (if_neg c1099) ?_
        exact ok_m_noBill_28 X d F _ _ _ _ _ h
def f_m_defaultOf_33 (F : Nat)   (s0 : Int32) (m : mM) : Option (Int32 × mM) := some (s0, m)
theorem ok_m_defaultOf_33 (X : mX) (d F : Nat) : ∀ (s0 : Int32) (w0 : Option Value) (w1 : Option Value) (m : mM) (r : Int32) (m' : mM), f_m_defaultOf_33 F s0 m = some (r, m') → m_R X (d + 1) 303 33 [w0, w1] [.int s0] (SH, m) (some (.int r), (SH, m')) := by
  intro s0 w0 w1 m r m' h
  unfold f_m_defaultOf_33 at h
  obtain ⟨rfl, rfl⟩ := m_some h
  exact m_R_iret (by decide) (m_opb_of (ins := .ireturn) (len := 1) (tag := 1) (a := 0) (b := 0) (c := 0) (q := 0) (by decide +kernel)) (Or.inl rfl)
def f_m_defaultOf (F : Nat)   (v1 : Int32) (m : mM) : Option (Int32 × mM) := (if v1 = 0 then ((f_m_hs F (0 : Int32) (2 : Int32) m).bind fun q1 => f_m_defaultOf_33 F q1.1 q1.2) else (if v1 = (2 : Int32) then f_m_defaultOf_33 F (1 : Int32) m else (if v1 = (5 : Int32) then f_m_defaultOf_33 F (63 : Int32) m else f_m_defaultOf_33 F (0 : Int32) m)))
theorem ok_m_defaultOf (X : mX) (d F : Nat) : ∀ (v1 : Int32)  (m : mM) (r : Int32) (m' : mM), f_m_defaultOf F v1 m = some (r, m') → m_R X (d + 1) 303 0 [some (.ref 304), some (.int v1)] [] (SH, m) (some (.int r), (SH, m')) := by
  intro v1 m r m' h
  unfold f_m_defaultOf at h
  refine m_R_sg (by decide) [(.iload_n 1, 1, 0, 1, 0, 0, 0)] (by decide +kernel) (show m_sgl X _ _ _ _ _ = some (1, [some (.ref 304), some (.int v1)], [.int v1], (SH, m.1, m.2)) from rfl) ?_
  rcases m_ite h with ⟨c1100, h⟩ | ⟨c1100, h⟩
  · refine m_R_1 (by decide) (m_opb_of (ins := .ifCond .ne 12) (len := 3) (tag := 0) (a := 13) (b := 0) (c := 0) (q := 0) (by decide +kernel)) (if_pos c1100) ?_
    refine m_R_sg (by decide) [(.aload_n 0, 1, 0, 0, 0, 0, 0), (.iconst 0, 1, 0, 0, 0, 0, 0), (.iconst 2, 1, 0, 2, 0, 0, 0)] (by decide +kernel) (show m_sgl X _ _ _ _ _ = some (7, [some (.ref 304), some (.int v1)], [.int (2 : Int32), .int (0 : Int32), .ref 304], (SH, m.1, m.2)) from rfl) ?_
    obtain ⟨q1, hc1, h⟩ := Option.bind_eq_some_iff.mp h
    refine m_R_cV (v := (some (.int q1.1))) (h1 := (SH, q1.2)) (rest := []) (lo' := [some (.ref 304), some (.int (0 : Int32)), some (.int (2 : Int32))]) (ml := 3) (k0 := 304) (by decide) (Or.inl rfl) (m_opb_of (ins := .invokevirtual 65) (len := 3) (tag := 5) (a := 212) (b := 2) (c := 0) (q := 1633) (by decide +kernel)) (by decide +kernel) rfl (show m_isO 212 304 (SH, _) = true from m_isO_of (by decide +kernel)) (Nat.le_of_ble_eq_true rfl) rfl rfl (ok_m_hs X (d + 0) F _ _ _ _ _ hc1) ?_
    refine m_R_sg (by decide) [(.goto 23, 3, 0, 33, 0, 0, 0)] (by decide +kernel) (show m_sgl X _ _ _ _ _ = some (33, [some (.ref 304), some (.int v1)], [.int q1.1], (SH, q1.2.1, q1.2.2)) from rfl) ?_
    exact ok_m_defaultOf_33 X d F _ _ _ _ _ _ h
  · refine m_R_1 (by decide) (m_opb_of (ins := .ifCond .ne 12) (len := 3) (tag := 0) (a := 13) (b := 0) (c := 0) (q := 0) (by decide +kernel)) (if_neg c1100) ?_
    refine m_R_sg (by decide) [(.iload_n 1, 1, 0, 1, 0, 0, 0), (.iconst 2, 1, 0, 2, 0, 0, 0)] (by decide +kernel) (show m_sgl X _ _ _ _ _ = some (15, [some (.ref 304), some (.int v1)], [.int (2 : Int32), .int v1], (SH, m.1, m.2)) from rfl) ?_
    rcases m_ite h with ⟨c1101, h⟩ | ⟨c1101, h⟩
    · refine m_R_1 (by decide) (m_opb_of (ins := .if_icmp .ne 7) (len := 3) (tag := 0) (a := 22) (b := 0) (c := 0) (q := 0) (by decide +kernel)) (if_pos c1101) ?_
      refine m_R_sg (by decide) [(.iconst 1, 1, 0, 1, 0, 0, 0), (.goto 14, 3, 0, 33, 0, 0, 0)] (by decide +kernel) (show m_sgl X _ _ _ _ _ = some (33, [some (.ref 304), some (.int v1)], [.int (1 : Int32)], (SH, m.1, m.2)) from rfl) ?_
      exact ok_m_defaultOf_33 X d F _ _ _ _ _ _ h
    · refine m_R_1 (by decide) (m_opb_of (ins := .if_icmp .ne 7) (len := 3) (tag := 0) (a := 22) (b := 0) (c := 0) (q := 0) (by decide +kernel)) (if_neg c1101) ?_
      refine m_R_sg (by decide) [(.iload_n 1, 1, 0, 1, 0, 0, 0), (.iconst 5, 1, 0, 5, 0, 0, 0)] (by decide +kernel) (show m_sgl X _ _ _ _ _ = some (24, [some (.ref 304), some (.int v1)], [.int (5 : Int32), .int v1], (SH, m.1, m.2)) from rfl) ?_
      rcases m_ite h with ⟨c1102, h⟩ | ⟨c1102, h⟩
      · refine m_R_1 (by decide) (m_opb_of (ins := .if_icmp .ne 8) (len := 3) (tag := 0) (a := 32) (b := 0) (c := 0) (q := 0) (by decide +kernel)) (if_pos c1102) ?_
        refine m_R_sg (by decide) [(.bipush 63, 2, 0, 63, 0, 0, 0), (.goto 4, 3, 0, 33, 0, 0, 0)] (by decide +kernel) (show m_sgl X _ _ _ _ _ = some (33, [some (.ref 304), some (.int v1)], [.int (63 : Int32)], (SH, m.1, m.2)) from rfl) ?_
        exact ok_m_defaultOf_33 X d F _ _ _ _ _ _ h
      · refine m_R_1 (by decide) (m_opb_of (ins := .if_icmp .ne 8) (len := 3) (tag := 0) (a := 32) (b := 0) (c := 0) (q := 0) (by decide +kernel)) (if_neg c1102) ?_
        refine m_R_sg (by decide) [(.iconst 0, 1, 0, 0, 0, 0, 0)] (by decide +kernel) (show m_sgl X _ _ _ _ _ = some (33, [some (.ref 304), some (.int v1)], [.int (0 : Int32)], (SH, m.1, m.2)) from rfl) ?_
        exact ok_m_defaultOf_33 X d F _ _ _ _ _ _ h
def f_m_says_50 (F : Nat)   (s0 : Int32) (m : mM) : Option (Int32 × mM) := some (s0, m)
theorem ok_m_says_50 (X : mX) (d F : Nat) : ∀ (s0 : Int32) (w0 : Option Value) (w1 : Option Value) (w2 : Option Value) (w3 : Option Value) (m : mM) (r : Int32) (m' : mM), f_m_says_50 F s0 m = some (r, m') → m_R X (d + 68) 301 50 [w0, w1, w2, w3] [.int s0] (SH, m) (some (.int r), (SH, m')) := by
  intro s0 w0 w1 w2 w3 m r m' h
  unfold f_m_says_50 at h
  obtain ⟨rfl, rfl⟩ := m_some h
  exact m_R_iret (by decide) (m_opb_of (ins := .ireturn) (len := 1) (tag := 1) (a := 0) (b := 0) (c := 0) (q := 0) (by decide +kernel)) (Or.inl rfl)
def f_m_says (F : Nat)   (v1 : Int32) (v2 : Int32) (m : mM) : Option (Int32 × mM) := ((f_m_noBill F v1 v2 m).bind fun q1 => (if 0 ≤ q1.1 then ((f_m_rules F v1 v2 q1.2).bind fun q2 => (if q2.1 = 0 then (if v1 = (1 : Int32) then ((f_m_hush F (-2 : Int32) q2.2).bind fun q3 => f_m_says_50 F q3.1 q3.2) else ((f_m_defaultOf F v1 q2.2).bind fun q4 => f_m_says_50 F q4.1 q4.2)) else some ((q2.2.1 304 21), q2.2))) else ((f_m_hush F q1.1 q1.2).bind fun q5 => some (q5.1, q5.2))))
theorem ok_m_says (X : mX) (d F : Nat) : ∀ (v1 : Int32) (v2 : Int32)  (m : mM) (r : Int32) (m' : mM), f_m_says F v1 v2 m = some (r, m') → m_R X (d + 68) 301 0 [some (.ref 304), some (.int v1), some (.int v2), none] [] (SH, m) (some (.int r), (SH, m')) := by
  intro v1 v2 m r m' h
  unfold f_m_says at h
  refine m_R_sg (by decide) [(.aload_n 0, 1, 0, 0, 0, 0, 0), (.iload_n 1, 1, 0, 1, 0, 0, 0), (.iload_n 2, 1, 0, 2, 0, 0, 0)] (by decide +kernel) (show m_sgl X _ _ _ _ _ = some (3, [some (.ref 304), some (.int v1), some (.int v2), none], [.int v2, .int v1, .ref 304], (SH, m.1, m.2)) from rfl) ?_
  obtain ⟨q1, hc1, h⟩ := Option.bind_eq_some_iff.mp h
  refine m_R_cV (v := (some (.int q1.1))) (h1 := (SH, q1.2)) (rest := []) (lo' := [some (.ref 304), some (.int v1), some (.int v2)]) (ml := 3) (k0 := 304) (by decide) (Or.inl rfl) (m_opb_of (ins := .invokevirtual 381) (len := 3) (tag := 5) (a := 302) (b := 2) (c := 0) (q := 2025) (by decide +kernel)) (by decide +kernel) rfl (show m_isO 302 304 (SH, _) = true from m_isO_of (by decide +kernel)) (Nat.le_of_ble_eq_true rfl) rfl rfl (ok_m_noBill X (d + 65) F _ _ _ _ _ hc1) ?_
  refine m_R_sg (by decide) [(.istore_n 3, 1, 0, 3, 0, 0, 0), (.iload_n 3, 1, 0, 3, 0, 0, 0)] (by decide +kernel) (show m_sgl X _ _ _ _ _ = some (8, [some (.ref 304), some (.int v1), some (.int v2), some (.int q1.1)], [.int q1.1], (SH, q1.2.1, q1.2.2)) from rfl) ?_
  rcases m_ite h with ⟨c1103, h⟩ | ⟨c1103, h⟩
  · refine m_R_1 (by decide) (m_opb_of (ins := .ifCond .ge 9) (len := 3) (tag := 0) (a := 17) (b := 0) (c := 0) (q := 0) (by decide +kernel)) (if_pos c1103) ?_
    refine m_R_sg (by decide) [(.aload_n 0, 1, 0, 0, 0, 0, 0), (.iload_n 1, 1, 0, 1, 0, 0, 0), (.iload_n 2, 1, 0, 2, 0, 0, 0)] (by decide +kernel) (show m_sgl X _ _ _ _ _ = some (20, [some (.ref 304), some (.int v1), some (.int v2), some (.int q1.1)], [.int v2, .int v1, .ref 304], (SH, q1.2.1, q1.2.2)) from rfl) ?_
    obtain ⟨q2, hc2, h⟩ := Option.bind_eq_some_iff.mp h
    refine m_R_cV (v := (some (.int q2.1))) (h1 := (SH, q2.2)) (rest := []) (lo' := [some (.ref 304), some (.int v1), some (.int v2)]) (ml := 3) (k0 := 304) (by decide) (Or.inl rfl) (m_opb_of (ins := .invokevirtual 224) (len := 3) (tag := 5) (a := 227) (b := 2) (c := 0) (q := 1693) (by decide +kernel)) (by decide +kernel) rfl (show m_isO 227 304 (SH, _) = true from m_isO_of (by decide +kernel)) (Nat.le_of_ble_eq_true rfl) rfl rfl (ok_m_rules X (d + 0) F _ _ _ _ _ hc2) ?_
    rcases m_ite h with ⟨c1104, h⟩ | ⟨c1104, h⟩
    · refine m_R_1 (by decide) (m_opb_of (ins := .ifCond .eq 8) (len := 3) (tag := 0) (a := 31) (b := 0) (c := 0) (q := 0) (by decide +kernel)) (if_pos c1104) ?_
      refine m_R_sg (by decide) [(.iload_n 1, 1, 0, 1, 0, 0, 0), (.iconst 1, 1, 0, 1, 0, 0, 0)] (by decide +kernel) (show m_sgl X _ _ _ _ _ = some (33, [some (.ref 304), some (.int v1), some (.int v2), some (.int q1.1)], [.int (1 : Int32), .int v1], (SH, q2.2.1, q2.2.2)) from rfl) ?_
      rcases m_ite h with ⟨c1105, h⟩ | ⟨c1105, h⟩
      · refine m_R_1 (by decide) (m_opb_of (ins := .if_icmp .ne 12) (len := 3) (tag := 0) (a := 45) (b := 0) (c := 0) (q := 0) (by decide +kernel)) (if_pos c1105) ?_
        refine m_R_sg (by decide) [(.aload_n 0, 1, 0, 0, 0, 0, 0), (.bipush (-2), 2, 0, 2, 1, 0, 0)] (by decide +kernel) (show m_sgl X _ _ _ _ _ = some (39, [some (.ref 304), some (.int v1), some (.int v2), some (.int q1.1)], [.int (-2 : Int32), .ref 304], (SH, q2.2.1, q2.2.2)) from rfl) ?_
        obtain ⟨q3, hc3, h⟩ := Option.bind_eq_some_iff.mp h
        refine m_R_cV (v := (some (.int q3.1))) (h1 := (SH, q3.2)) (rest := []) (lo' := [some (.ref 304), some (.int (-2 : Int32))]) (ml := 2) (k0 := 304) (by decide) (Or.inl rfl) (m_opb_of (ins := .invokevirtual 215) (len := 3) (tag := 5) (a := 292) (b := 1) (c := 0) (q := 1986) (by decide +kernel)) (by decide +kernel) rfl (show m_isO 292 304 (SH, _) = true from m_isO_of (by decide +kernel)) (Nat.le_of_ble_eq_true rfl) rfl rfl (ok_m_hush X (d + 67) F _ _ _ _ hc3) ?_
        refine m_R_sg (by decide) [(.goto 8, 3, 0, 50, 0, 0, 0)] (by decide +kernel) (show m_sgl X _ _ _ _ _ = some (50, [some (.ref 304), some (.int v1), some (.int v2), some (.int q1.1)], [.int q3.1], (SH, q3.2.1, q3.2.2)) from rfl) ?_
        exact ok_m_says_50 X d F _ _ _ _ _ _ _ _ h
      · refine m_R_1 (by decide) (m_opb_of (ins := .if_icmp .ne 12) (len := 3) (tag := 0) (a := 45) (b := 0) (c := 0) (q := 0) (by decide +kernel)) (if_neg c1105) ?_
        refine m_R_sg (by decide) [(.aload_n 0, 1, 0, 0, 0, 0, 0), (.iload_n 1, 1, 0, 1, 0, 0, 0)] (by decide +kernel) (show m_sgl X _ _ _ _ _ = some (47, [some (.ref 304), some (.int v1), some (.int v2), some (.int q1.1)], [.int v1, .ref 304], (SH, q2.2.1, q2.2.2)) from rfl) ?_
        obtain ⟨q4, hc4, h⟩ := Option.bind_eq_some_iff.mp h
        refine m_R_cV (v := (some (.int q4.1))) (h1 := (SH, q4.2)) (rest := []) (lo' := [some (.ref 304), some (.int v1)]) (ml := 2) (k0 := 304) (by decide) (Or.inl rfl) (m_opb_of (ins := .invokevirtual 384) (len := 3) (tag := 5) (a := 303) (b := 1) (c := 0) (q := 2029) (by decide +kernel)) (by decide +kernel) rfl (show m_isO 303 304 (SH, _) = true from m_isO_of (by decide +kernel)) (Nat.le_of_ble_eq_true rfl) rfl rfl (ok_m_defaultOf X (d + 66) F _ _ _ _ hc4) ?_
        exact ok_m_says_50 X d F _ _ _ _ _ _ _ _ h
    · refine m_R_1 (by decide) (m_opb_of (ins := .ifCond .eq 8) (len := 3) (tag := 0) (a := 31) (b := 0) (c := 0) (q := 0) (by decide +kernel)) (if_neg c1104) ?_
      refine m_R_sg (by decide) [(.aload_n 0, 1, 0, 0, 0, 0, 0), (.getfield 364, 3, 0, 12, 21, 0, 1513)] (by decide +kernel) (show m_sgl X _ _ _ _ _ = some (30, [some (.ref 304), some (.int v1), some (.int v2), some (.int q1.1)], [.int (q2.2.1 304 21)], (SH, q2.2.1, q2.2.2)) from rfl) ?_
      obtain ⟨rfl, rfl⟩ := m_some h
      exact m_R_iret (by decide) (m_opb_of (ins := .ireturn) (len := 1) (tag := 1) (a := 0) (b := 0) (c := 0) (q := 0) (by decide +kernel)) (Or.inl rfl)
  · refine m_R_1 (by decide) (m_opb_of (ins := .ifCond .ge 9) (len := 3) (tag := 0) (a := 17) (b := 0) (c := 0) (q := 0) (by decide +kernel)) (if_neg c1103) ?_
    refine m_R_sg (by decide) [(.aload_n 0, 1, 0, 0, 0, 0, 0), (.iload_n 3, 1, 0, 3, 0, 0, 0)] (by decide +kernel) (show m_sgl X _ _ _ _ _ = some (13, [some (.ref 304), some (.int v1), some (.int v2), some (.int q1.1)], [.int q1.1, .ref 304], (SH, q1.2.1, q1.2.2)) from rfl) ?_
    obtain ⟨q5, hc5, h⟩ := Option.bind_eq_some_iff.mp h
    refine m_R_cV (v := (some (.int q5.1))) (h1 := (SH, q5.2)) (rest := []) (lo' := [some (.ref 304), some (.int q1.1)]) (ml := 2) (k0 := 304) (by decide) (Or.inl rfl) (m_opb_of (ins := .invokevirtual 215) (len := 3) (tag := 5) (a := 292) (b := 1) (c := 0) (q := 1986) (by decide +kernel)) (by decide +kernel) rfl (show m_isO 292 304 (SH, _) = true from m_isO_of (by decide +kernel)) (Nat.le_of_ble_eq_true rfl) rfl rfl (ok_m_hush X (d + 67) F _ _ _ _ hc5) ?_
    obtain ⟨rfl, rfl⟩ := m_some h
    exact m_R_iret (by decide) (m_opb_of (ins := .ireturn) (len := 1) (tag := 1) (a := 0) (b := 0) (c := 0) (q := 0) (by decide +kernel)) (Or.inl rfl)
def f_x_why (F : Nat)   (v1 : Int32) (v2 : Int32) (m : mM) : Option (Int32 × mM) := ((f_x_faultOfQuestion F v1 v2 m).bind fun q1 => (if q1.1 = 0 then ((f_World_whichSays F v1 v2 q1.2).bind fun q2 => some (q2.1, q2.2)) else ((f_x_refuse F q1.1 q1.2).bind fun q3 => some (q3.1, q3.2))))
theorem ok_x_why (X : mX) (d F : Nat) : ∀ (v1 : Int32) (v2 : Int32)  (m : mM) (r : Int32) (m' : mM), f_x_why F v1 v2 m = some (r, m') → m_R X (d + 3) 142 0 [some (.ref 0), some (.int v1), some (.int v2), none] [] (SH, m) (some (.int r), (SH, m')) := by
  intro v1 v2 m r m' h
  unfold f_x_why at h
  refine m_R_sg (by decide) [(.aload_n 0, 1, 0, 0, 0, 0, 0), (.iload_n 1, 1, 0, 1, 0, 0, 0), (.iload_n 2, 1, 0, 2, 0, 0, 0)] (by decide +kernel) (show m_sgl X _ _ _ _ _ = some (3, [some (.ref 0), some (.int v1), some (.int v2), none], [.int v2, .int v1, .ref 0], (SH, m.1, m.2)) from rfl) ?_
  obtain ⟨q1, hc1, h⟩ := Option.bind_eq_some_iff.mp h
  refine m_R_cV (v := (some (.int q1.1))) (h1 := (SH, q1.2)) (rest := []) (lo' := [some (.ref 0), some (.int v1), some (.int v2)]) (ml := 3) (k0 := 0) (by decide) (Or.inl rfl) (m_opb_of (ins := .invokevirtual 383) (len := 3) (tag := 5) (a := 141) (b := 2) (c := 0) (q := 1237) (by decide +kernel)) (by decide +kernel) rfl (show m_isO 141 0 (SH, _) = true from m_isO_of (by decide +kernel)) (Nat.le_of_ble_eq_true rfl) rfl rfl (ok_x_faultOfQuestion X (d + 1) F _ _ _ _ _ hc1) ?_
  refine m_R_sg (by decide) [(.istore_n 3, 1, 0, 3, 0, 0, 0), (.iload_n 3, 1, 0, 3, 0, 0, 0)] (by decide +kernel) (show m_sgl X _ _ _ _ _ = some (8, [some (.ref 0), some (.int v1), some (.int v2), some (.int q1.1)], [.int q1.1], (SH, q1.2.1, q1.2.2)) from rfl) ?_
  rcases m_ite h with ⟨c1106, h⟩ | ⟨c1106, h⟩
  · refine m_R_1 (by decide) (m_opb_of (ins := .ifCond .eq 9) (len := 3) (tag := 0) (a := 17) (b := 0) (c := 0) (q := 0) (by decide +kernel)) (if_pos c1106) ?_
    refine m_R_sg (by decide) [(.aload_n 0, 1, 0, 0, 0, 0, 0), (.getfield 28, 3, 0, 11, 2, 3, 632), (.iload_n 1, 1, 0, 1, 0, 0, 0), (.iload_n 2, 1, 0, 2, 0, 0, 0)] (by decide +kernel) (show m_sgl X _ _ _ _ _ = some (23, [some (.ref 0), some (.int v1), some (.int v2), some (.int q1.1)], [.int v2, .int v1, .ref 16], (SH, q1.2.1, q1.2.2)) from rfl) ?_
    obtain ⟨q2, hc2, h⟩ := Option.bind_eq_some_iff.mp h
    refine m_R_cV (v := (some (.int q2.1))) (h1 := (SH, q2.2)) (rest := []) (lo' := [some (.ref 16), some (.int v1), some (.int v2)]) (ml := 3) (k0 := 16) (by decide) (Or.inl rfl) (m_opb_of (ins := .invokevirtual 359) (len := 3) (tag := 5) (a := 117) (b := 2) (c := 0) (q := 1092) (by decide +kernel)) (by decide +kernel) rfl (show m_isO 117 16 (SH, _) = true from m_isO_of (by decide +kernel)) (Nat.le_of_ble_eq_true rfl) rfl rfl (ok_World_whichSays X (d + 0) F _ _ _ _ _ hc2) ?_
    obtain ⟨rfl, rfl⟩ := m_some h
    exact m_R_iret (by decide) (m_opb_of (ins := .ireturn) (len := 1) (tag := 1) (a := 0) (b := 0) (c := 0) (q := 0) (by decide +kernel)) (Or.inl rfl)
  · refine m_R_1 (by decide) (m_opb_of (ins := .ifCond .eq 9) (len := 3) (tag := 0) (a := 17) (b := 0) (c := 0) (q := 0) (by decide +kernel)) (if_neg c1106) ?_
    refine m_R_sg (by decide) [(.aload_n 0, 1, 0, 0, 0, 0, 0), (.iload_n 3, 1, 0, 3, 0, 0, 0)] (by decide +kernel) (show m_sgl X _ _ _ _ _ = some (13, [some (.ref 0), some (.int v1), some (.int v2), some (.int q1.1)], [.int q1.1, .ref 0], (SH, q1.2.1, q1.2.2)) from rfl) ?_
    obtain ⟨q3, hc3, h⟩ := Option.bind_eq_some_iff.mp h
    refine m_R_cV (v := (some (.int q3.1))) (h1 := (SH, q3.2)) (rest := []) (lo' := [some (.ref 0), some (.int q1.1)]) (ml := 2) (k0 := 0) (by decide) (Or.inl rfl) (m_opb_of (ins := .invokevirtual 76) (len := 3) (tag := 5) (a := 14) (b := 1) (c := 0) (q := 671) (by decide +kernel)) (by decide +kernel) rfl (show m_isO 14 0 (SH, _) = true from m_isO_of (by decide +kernel)) (Nat.le_of_ble_eq_true rfl) rfl rfl (ok_x_refuse X (d + 2) F _ _ _ _ hc3) ?_
    obtain ⟨rfl, rfl⟩ := m_some h
    exact m_R_iret (by decide) (m_opb_of (ins := .ireturn) (len := 1) (tag := 1) (a := 0) (b := 0) (c := 0) (q := 0) (by decide +kernel)) (Or.inl rfl)
def f_m_why_25 (F : Nat)   (s0 : Int32) (m : mM) : Option (Int32 × mM) := some (s0, m)
theorem ok_m_why_25 (X : mX) (d F : Nat) : ∀ (s0 : Int32) (w0 : Option Value) (w1 : Option Value) (w2 : Option Value) (w3 : Option Value) (m : mM) (r : Int32) (m' : mM), f_m_why_25 F s0 m = some (r, m') → m_R X (d + 67) 304 25 [w0, w1, w2, w3] [.int s0] (SH, m) (some (.int r), (SH, m')) := by
  intro s0 w0 w1 w2 w3 m r m' h
  unfold f_m_why_25 at h
  obtain ⟨rfl, rfl⟩ := m_some h
  exact m_R_iret (by decide) (m_opb_of (ins := .ireturn) (len := 1) (tag := 1) (a := 0) (b := 0) (c := 0) (q := 0) (by decide +kernel)) (Or.inl rfl)
def f_m_why (F : Nat)   (v1 : Int32) (v2 : Int32) (m : mM) : Option (Int32 × mM) := ((f_m_noBill F v1 v2 m).bind fun q1 => (if 0 ≤ q1.1 then ((f_m_rules1 F v1 v2 q1.2).bind fun q2 => f_m_why_25 F q2.1 q2.2) else ((f_m_refuse F q1.1 q1.2).bind fun q3 => f_m_why_25 F q3.1 q3.2)))
theorem ok_m_why (X : mX) (d F : Nat) : ∀ (v1 : Int32) (v2 : Int32)  (m : mM) (r : Int32) (m' : mM), f_m_why F v1 v2 m = some (r, m') → m_R X (d + 67) 304 0 [some (.ref 304), some (.int v1), some (.int v2), none] [] (SH, m) (some (.int r), (SH, m')) := by
  intro v1 v2 m r m' h
  unfold f_m_why at h
  refine m_R_sg (by decide) [(.aload_n 0, 1, 0, 0, 0, 0, 0), (.iload_n 1, 1, 0, 1, 0, 0, 0), (.iload_n 2, 1, 0, 2, 0, 0, 0)] (by decide +kernel) (show m_sgl X _ _ _ _ _ = some (3, [some (.ref 304), some (.int v1), some (.int v2), none], [.int v2, .int v1, .ref 304], (SH, m.1, m.2)) from rfl) ?_
  obtain ⟨q1, hc1, h⟩ := Option.bind_eq_some_iff.mp h
  refine m_R_cV (v := (some (.int q1.1))) (h1 := (SH, q1.2)) (rest := []) (lo' := [some (.ref 304), some (.int v1), some (.int v2)]) (ml := 3) (k0 := 304) (by decide) (Or.inl rfl) (m_opb_of (ins := .invokevirtual 381) (len := 3) (tag := 5) (a := 302) (b := 2) (c := 0) (q := 2025) (by decide +kernel)) (by decide +kernel) rfl (show m_isO 302 304 (SH, _) = true from m_isO_of (by decide +kernel)) (Nat.le_of_ble_eq_true rfl) rfl rfl (ok_m_noBill X (d + 64) F _ _ _ _ _ hc1) ?_
  refine m_R_sg (by decide) [(.istore_n 3, 1, 0, 3, 0, 0, 0), (.iload_n 3, 1, 0, 3, 0, 0, 0)] (by decide +kernel) (show m_sgl X _ _ _ _ _ = some (8, [some (.ref 304), some (.int v1), some (.int v2), some (.int q1.1)], [.int q1.1], (SH, q1.2.1, q1.2.2)) from rfl) ?_
  rcases m_ite h with ⟨c1107, h⟩ | ⟨c1107, h⟩
  · refine m_R_1 (by decide) (m_opb_of (ins := .ifCond .ge 11) (len := 3) (tag := 0) (a := 19) (b := 0) (c := 0) (q := 0) (by decide +kernel)) (if_pos c1107) ?_
    refine m_R_sg (by decide) [(.aload_n 0, 1, 0, 0, 0, 0, 0), (.iload_n 1, 1, 0, 1, 0, 0, 0), (.iload_n 2, 1, 0, 2, 0, 0, 0)] (by decide +kernel) (show m_sgl X _ _ _ _ _ = some (22, [some (.ref 304), some (.int v1), some (.int v2), some (.int q1.1)], [.int v2, .int v1, .ref 304], (SH, q1.2.1, q1.2.2)) from rfl) ?_
    obtain ⟨q2, hc2, h⟩ := Option.bind_eq_some_iff.mp h
    refine m_R_cV (v := (some (.int q2.1))) (h1 := (SH, q2.2)) (rest := []) (lo' := [some (.ref 304), some (.int v1), some (.int v2), none, none, none]) (ml := 6) (k0 := 304) (by decide) (Or.inl rfl) (m_opb_of (ins := .invokevirtual 375) (len := 3) (tag := 5) (a := 228) (b := 2) (c := 0) (q := 1697) (by decide +kernel)) (by decide +kernel) rfl (show m_isO 228 304 (SH, _) = true from m_isO_of (by decide +kernel)) (Nat.le_of_ble_eq_true rfl) rfl rfl (ok_m_rules1 X (d + 0) F _ _ _ _ _ hc2) ?_
    exact ok_m_why_25 X d F _ _ _ _ _ _ _ _ h
  · refine m_R_1 (by decide) (m_opb_of (ins := .ifCond .ge 11) (len := 3) (tag := 0) (a := 19) (b := 0) (c := 0) (q := 0) (by decide +kernel)) (if_neg c1107) ?_
    refine m_R_sg (by decide) [(.aload_n 0, 1, 0, 0, 0, 0, 0), (.iload_n 3, 1, 0, 3, 0, 0, 0)] (by decide +kernel) (show m_sgl X _ _ _ _ _ = some (13, [some (.ref 304), some (.int v1), some (.int v2), some (.int q1.1)], [.int q1.1, .ref 304], (SH, q1.2.1, q1.2.2)) from rfl) ?_
    obtain ⟨q3, hc3, h⟩ := Option.bind_eq_some_iff.mp h
    refine m_R_cV (v := (some (.int q3.1))) (h1 := (SH, q3.2)) (rest := []) (lo' := [some (.ref 304), some (.int q1.1)]) (ml := 2) (k0 := 304) (by decide) (Or.inl rfl) (m_opb_of (ins := .invokevirtual 61) (len := 3) (tag := 5) (a := 202) (b := 1) (c := 0) (q := 1593) (by decide +kernel)) (by decide +kernel) rfl (show m_isO 202 304 (SH, _) = true from m_isO_of (by decide +kernel)) (Nat.le_of_ble_eq_true rfl) rfl rfl (ok_m_refuse X (d + 66) F _ _ _ _ hc3) ?_
    refine m_R_sg (by decide) [(.goto 9, 3, 0, 25, 0, 0, 0)] (by decide +kernel) (show m_sgl X _ _ _ _ _ = some (25, [some (.ref 304), some (.int v1), some (.int v2), some (.int q1.1)], [.int q3.1], (SH, q3.2.1, q3.2.2)) from rfl) ?_
    exact ok_m_why_25 X d F _ _ _ _ _ _ _ _ h
def f_World_drawTrades_152 (F : Nat)  (k2 : Int32 → mM → Option (Unit × mM)) (v1 : Int32) (m : mM) : Option (Unit × mM) := k2 (v1 + (1 : Int32)) m
theorem ok_World_drawTrades_152 (X : mX) (d F : Nat) (k2 : Int32 → mM → Option (Unit × mM)) (hk2 : ∀ (v1 : Int32) (w2 : Option Value) (w3 : Option Value) (w4 : Option Value) (w5 : Option Value) (m : mM) (r : Unit) (m' : mM), k2 v1 m = some (r, m') → m_R X (d + 2) 145 2 [some (.ref 16), some (.int v1), w2, w3, w4, w5] [] (SH, m) (none, (SH, m'))) : ∀ (v1 : Int32) (w2 : Option Value) (w3 : Option Value) (w4 : Option Value) (w5 : Option Value) (m : mM) (r : Unit) (m' : mM), f_World_drawTrades_152 F k2 v1 m = some (r, m') → m_R X (d + 2) 145 152 [some (.ref 16), some (.int v1), w2, w3, w4, w5] [] (SH, m) (none, (SH, m')) := by
  intro v1 w2 w3 w4 w5 m r m' h
  unfold f_World_drawTrades_152 at h
  refine m_R_sg (by decide) [(.iinc 1 1, 3, 0, 1, 1, 0, 0), (.goto (-153), 3, 0, 2, 0, 0, 0)] (by decide +kernel) (show m_sgl X _ _ _ _ _ = some (2, [some (.ref 16), some (.int (v1 + (1 : Int32))), w2, w3, w4, w5], [], (SH, m.1, m.2)) from rfl) ?_
  exact hk2 _ _ _ _ _ _ _ _ h
def f_World_drawTrades_158 (F : Nat)    (m : mM) : Option (Unit × mM) := some ((), m)
theorem ok_World_drawTrades_158 (X : mX) (d F : Nat) : ∀  (w0 : Option Value) (w1 : Option Value) (w2 : Option Value) (w3 : Option Value) (w4 : Option Value) (w5 : Option Value) (m : mM) (r : Unit) (m' : mM), f_World_drawTrades_158 F  m = some (r, m') → m_R X (d + 2) 145 158 [w0, w1, w2, w3, w4, w5] [] (SH, m) (none, (SH, m')) := by
  intro w0 w1 w2 w3 w4 w5 m r m' h
  unfold f_World_drawTrades_158 at h
  obtain ⟨rfl, rfl⟩ := m_some h
  exact m_R_vret (by decide) (m_opb_of (ins := .return_) (len := 1) (tag := 3) (a := 0) (b := 0) (c := 0) (q := 0) (by decide +kernel))
def f_World_drawTrades_2 (F : Nat)   : Nat → Int32 → mM → Option (Unit × mM)
  | 0, _, _ => none
  | n + 1, v1, m => (if (m.1 46 5) ≤ v1 then f_World_drawTrades_158 F m else ((f_Papers_isFull F m).bind fun q1 => (if q1.1 = 0 then (if v1 < 0 ∨ 8 ≤ v1.toNatClampNeg then none else (if (q1.2.1 51 v1.toNatClampNeg) = (1 : Int32) then ((f_Houses_isUp F (q1.2.1 47 v1.toNatClampNeg) q1.2).bind fun q2 => (if q2.1 = 0 then f_World_drawTrades_152 F (f_World_drawTrades_2 F n) v1 q2.2 else ((f_Houses_isUp F (q1.2.1 48 v1.toNatClampNeg) q2.2).bind fun q3 => (if q3.1 = 0 then f_World_drawTrades_152 F (f_World_drawTrades_2 F n) v1 q3.2 else (if (((q1.2.1 49 v1.toNatClampNeg) * ((100 : Int32) - ((2 : Int32) * (q1.2.1 16 10)))) / (100 : Int32)) ≤ 0 then f_World_drawTrades_152 F (f_World_drawTrades_2 F n) v1 q3.2 else ((f_Papers_addPaper F (1 : Int32) (q1.2.1 47 v1.toNatClampNeg) (q1.2.1 48 v1.toNatClampNeg) (((q1.2.1 49 v1.toNatClampNeg) * ((100 : Int32) - ((2 : Int32) * (q1.2.1 16 10)))) / (100 : Int32)) ((q3.2.1 16 9) + (q3.2.1 50 v1.toNatClampNeg)) q3.2).bind fun q4 => (if q4.1 = (-1 : Int32) then f_World_drawTrades_152 F (f_World_drawTrades_2 F n) v1 q4.2 else (if q4.1 < 0 ∨ 60 ≤ q4.1.toNatClampNeg then none else f_World_drawTrades_152 F (f_World_drawTrades_2 F n) v1 ((m_up q4.2.1 43 q4.1.toNatClampNeg (1 : Int32)), q4.2.2))))))))) else f_World_drawTrades_152 F (f_World_drawTrades_2 F n) v1 q1.2)) else f_World_drawTrades_158 F q1.2)))
theorem ok_World_drawTrades_2 (X : mX) (d F : Nat) : ∀ (n : Nat) (v1 : Int32) (w2 : Option Value) (w3 : Option Value) (w4 : Option Value) (w5 : Option Value) (m : mM) (r : Unit) (m' : mM), f_World_drawTrades_2 F n v1 m = some (r, m') → m_R X (d + 2) 145 2 [some (.ref 16), some (.int v1), w2, w3, w4, w5] [] (SH, m) (none, (SH, m')) := by
  intro n
  induction n with
  | zero => intro v1 w2 w3 w4 w5 m r m' h; cases h
  | succ n ih =>
    intro v1 w2 w3 w4 w5 m r m' h
    simp only [f_World_drawTrades_2] at h
    refine m_R_sg (by decide) [(.iload_n 1, 1, 0, 1, 0, 0, 0), (.aload_n 0, 1, 0, 0, 0, 0, 0), (.getfield 35, 3, 0, 10, 3, 3, 511), (.getfield 333, 3, 0, 9, 5, 0, 418)] (by decide +kernel) (show m_sgl X _ _ _ _ _ = some (10, [some (.ref 16), some (.int v1), w2, w3, w4, w5], [.int (m.1 46 5), .int v1], (SH, m.1, m.2)) from rfl) ?_
    rcases m_ite h with ⟨c1108, h⟩ | ⟨c1108, h⟩
    · refine m_R_1 (by decide) (m_opb_of (ins := .if_icmp .ge 148) (len := 3) (tag := 0) (a := 158) (b := 0) (c := 0) (q := 0) (by decide +kernel)) (if_pos c1108) ?_
      exact ok_World_drawTrades_158 X d F _ _ _ _ _ _ _ _ _ h
    · refine m_R_1 (by decide) (m_opb_of (ins := .if_icmp .ge 148) (len := 3) (tag := 0) (a := 158) (b := 0) (c := 0) (q := 0) (by decide +kernel)) (if_neg c1108) ?_
      refine m_R_sg (by decide) [(.aload_n 0, 1, 0, 0, 0, 0, 0), (.getfield 28, 3, 0, 10, 2, 3, 508)] (by decide +kernel) (show m_sgl X _ _ _ _ _ = some (17, [some (.ref 16), some (.int v1), w2, w3, w4, w5], [.ref 31], (SH, m.1, m.2)) from rfl) ?_
      obtain ⟨q1, hc1, h⟩ := Option.bind_eq_some_iff.mp h
      refine m_R_cV (v := (some (.int q1.1))) (h1 := (SH, q1.2)) (rest := []) (lo' := [some (.ref 31)]) (ml := 1) (k0 := 31) (by decide) (Or.inl rfl) (m_opb_of (ins := .invokevirtual 334) (len := 3) (tag := 5) (a := 73) (b := 0) (c := 0) (q := 1258) (by decide +kernel)) (by decide +kernel) rfl (show m_isO 73 31 (SH, _) = true from m_isO_of (by decide +kernel)) (Nat.le_of_ble_eq_true rfl) rfl rfl (ok_Papers_isFull X (d + 1) F _ _ _ hc1) ?_
      rcases m_ite h with ⟨c1109, h⟩ | ⟨c1109, h⟩
      · refine m_R_1 (by decide) (m_opb_of (ins := .ifCond .ne 138) (len := 3) (tag := 0) (a := 158) (b := 0) (c := 0) (q := 0) (by decide +kernel)) (if_pos c1109) ?_
        refine m_R_sg (by decide) [(.aload_n 0, 1, 0, 0, 0, 0, 0), (.getfield 35, 3, 0, 10, 3, 3, 511), (.getfield 338, 3, 0, 9, 0, 3, 407), (.iload_n 1, 1, 0, 1, 0, 0, 0)] (by decide +kernel) (show m_sgl X _ _ _ _ _ = some (31, [some (.ref 16), some (.int v1), w2, w3, w4, w5], [.int v1, .ref 47], (SH, q1.2.1, q1.2.2)) from rfl) ?_
        obtain ⟨c1110, h⟩ := m_ite_n h
        refine m_R_1 (by decide) (m_opb_of (ins := .iaload) (len := 1) (tag := 0) (a := 0) (b := 0) (c := 0) (q := 0) (by decide +kernel)) (m_s_iald sh_47 (by decide) c1110) ?_
        refine m_R_sg (by decide) [(.istore_n 2, 1, 0, 2, 0, 0, 0), (.aload_n 0, 1, 0, 0, 0, 0, 0), (.getfield 35, 3, 0, 10, 3, 3, 511), (.getfield 341, 3, 0, 9, 1, 3, 409), (.iload_n 1, 1, 0, 1, 0, 0, 0)] (by decide +kernel) (show m_sgl X _ _ _ _ _ = some (41, [some (.ref 16), some (.int v1), some (.int (q1.2.1 47 v1.toNatClampNeg)), w3, w4, w5], [.int v1, .ref 48], (SH, q1.2.1, q1.2.2)) from rfl) ?_
        refine m_R_1 (by decide) (m_opb_of (ins := .iaload) (len := 1) (tag := 0) (a := 0) (b := 0) (c := 0) (q := 0) (by decide +kernel)) (m_s_iald sh_48 (by decide) c1110) ?_
        refine m_R_sg (by decide) [(.istore_n 3, 1, 0, 3, 0, 0, 0), (.aload_n 0, 1, 0, 0, 0, 0, 0), (.getfield 35, 3, 0, 10, 3, 3, 511), (.getfield 344, 3, 0, 9, 2, 3, 411), (.iload_n 1, 1, 0, 1, 0, 0, 0)] (by decide +kernel) (show m_sgl X _ _ _ _ _ = some (51, [some (.ref 16), some (.int v1), some (.int (q1.2.1 47 v1.toNatClampNeg)), some (.int (q1.2.1 48 v1.toNatClampNeg)), w4, w5], [.int v1, .ref 49], (SH, q1.2.1, q1.2.2)) from rfl) ?_
        refine m_R_1 (by decide) (m_opb_of (ins := .iaload) (len := 1) (tag := 0) (a := 0) (b := 0) (c := 0) (q := 0) (by decide +kernel)) (m_s_iald sh_49 (by decide) c1110) ?_
        refine m_R_sg (by decide) [(.bipush 100, 2, 0, 100, 0, 0, 0), (.iconst 2, 1, 0, 2, 0, 0, 0), (.aload_n 0, 1, 0, 0, 0, 0, 0), (.getfield 52, 3, 0, 10, 10, 0, 522), (.imul, 1, 0, 0, 0, 0, 0), (.isub, 1, 0, 0, 0, 0, 0), (.imul, 1, 0, 0, 0, 0, 0), (.bipush 100, 2, 0, 100, 0, 0, 0)] (by decide +kernel) (show m_sgl X _ _ _ _ _ = some (64, [some (.ref 16), some (.int v1), some (.int (q1.2.1 47 v1.toNatClampNeg)), some (.int (q1.2.1 48 v1.toNatClampNeg)), w4, w5], [.int (100 : Int32), .int ((q1.2.1 49 v1.toNatClampNeg) * ((100 : Int32) - ((2 : Int32) * (q1.2.1 16 10))))], (SH, q1.2.1, q1.2.2)) from rfl) ?_
        refine m_R_1 (by decide) (m_opb_of (ins := .idiv) (len := 1) (tag := 0) (a := 0) (b := 0) (c := 0) (q := 0) (by decide +kernel)) (m_s_idiv (by decide)) ?_
        refine m_R_sg (by decide) [(.istore 4, 2, 0, 4, 0, 0, 0), (.aload_n 0, 1, 0, 0, 0, 0, 0), (.getfield 35, 3, 0, 10, 3, 3, 511), (.getfield 347, 3, 0, 9, 4, 3, 415), (.iload_n 1, 1, 0, 1, 0, 0, 0)] (by decide +kernel) (show m_sgl X _ _ _ _ _ = some (75, [some (.ref 16), some (.int v1), some (.int (q1.2.1 47 v1.toNatClampNeg)), some (.int (q1.2.1 48 v1.toNatClampNeg)), some (.int (((q1.2.1 49 v1.toNatClampNeg) * ((100 : Int32) - ((2 : Int32) * (q1.2.1 16 10)))) / (100 : Int32))), w5], [.int v1, .ref 51], (SH, q1.2.1, q1.2.2)) from rfl) ?_
        refine m_R_1 (by decide) (m_opb_of (ins := .iaload) (len := 1) (tag := 0) (a := 0) (b := 0) (c := 0) (q := 0) (by decide +kernel)) (m_s_iald sh_51 (by decide) c1110) ?_
        refine m_R_sg (by decide) [(.iconst 1, 1, 0, 1, 0, 0, 0)] (by decide +kernel) (show m_sgl X _ _ _ _ _ = some (77, [some (.ref 16), some (.int v1), some (.int (q1.2.1 47 v1.toNatClampNeg)), some (.int (q1.2.1 48 v1.toNatClampNeg)), some (.int (((q1.2.1 49 v1.toNatClampNeg) * ((100 : Int32) - ((2 : Int32) * (q1.2.1 16 10)))) / (100 : Int32))), w5], [.int (1 : Int32), .int (q1.2.1 51 v1.toNatClampNeg)], (SH, q1.2.1, q1.2.2)) from rfl) ?_
        rcases m_ite h with ⟨c1111, h⟩ | ⟨c1111, h⟩
        · refine m_R_1 (by decide) (m_opb_of (ins := .if_icmp .ne 75) (len := 3) (tag := 0) (a := 152) (b := 0) (c := 0) (q := 0) (by decide +kernel)) (if_pos c1111) ?_
          refine m_R_sg (by decide) [(.aload_n 0, 1, 0, 0, 0, 0, 0), (.getfield 21, 3, 0, 10, 1, 3, 505), (.iload_n 2, 1, 0, 2, 0, 0, 0)] (by decide +kernel) (show m_sgl X _ _ _ _ _ = some (85, [some (.ref 16), some (.int v1), some (.int (q1.2.1 47 v1.toNatClampNeg)), some (.int (q1.2.1 48 v1.toNatClampNeg)), some (.int (((q1.2.1 49 v1.toNatClampNeg) * ((100 : Int32) - ((2 : Int32) * (q1.2.1 16 10)))) / (100 : Int32))), w5], [.int (q1.2.1 47 v1.toNatClampNeg), .ref 19], (SH, q1.2.1, q1.2.2)) from rfl) ?_
          obtain ⟨q2, hc2, h⟩ := Option.bind_eq_some_iff.mp h
          refine m_R_cV (v := (some (.int q2.1))) (h1 := (SH, q2.2)) (rest := []) (lo' := [some (.ref 19), some (.int (q1.2.1 47 v1.toNatClampNeg))]) (ml := 2) (k0 := 19) (by decide) (Or.inl rfl) (m_opb_of (ins := .invokevirtual 250) (len := 3) (tag := 5) (a := 25) (b := 1) (c := 0) (q := 965) (by decide +kernel)) (by decide +kernel) rfl (show m_isO 25 19 (SH, _) = true from m_isO_of (by decide +kernel)) (Nat.le_of_ble_eq_true rfl) rfl rfl (ok_Houses_isUp X (d + 0) F _ _ _ _ hc2) ?_
          rcases m_ite h with ⟨c1112, h⟩ | ⟨c1112, h⟩
          · refine m_R_1 (by decide) (m_opb_of (ins := .ifCond .eq 64) (len := 3) (tag := 0) (a := 152) (b := 0) (c := 0) (q := 0) (by decide +kernel)) (if_pos c1112) ?_
            exact ok_World_drawTrades_152 X d F _ (fun a0 a1 a2 a3 a4 m r m' h => ih a0 a1 a2 a3 a4 m r m' h) _ _ _ _ _ _ _ _ h
          · refine m_R_1 (by decide) (m_opb_of (ins := .ifCond .eq 64) (len := 3) (tag := 0) (a := 152) (b := 0) (c := 0) (q := 0) (by decide +kernel)) (if_neg c1112) ?_
            refine m_R_sg (by decide) [(.aload_n 0, 1, 0, 0, 0, 0, 0), (.getfield 21, 3, 0, 10, 1, 3, 505), (.iload_n 3, 1, 0, 3, 0, 0, 0)] (by decide +kernel) (show m_sgl X _ _ _ _ _ = some (96, [some (.ref 16), some (.int v1), some (.int (q1.2.1 47 v1.toNatClampNeg)), some (.int (q1.2.1 48 v1.toNatClampNeg)), some (.int (((q1.2.1 49 v1.toNatClampNeg) * ((100 : Int32) - ((2 : Int32) * (q1.2.1 16 10)))) / (100 : Int32))), w5], [.int (q1.2.1 48 v1.toNatClampNeg), .ref 19], (SH, q2.2.1, q2.2.2)) from rfl) ?_
            obtain ⟨q3, hc3, h⟩ := Option.bind_eq_some_iff.mp h
            refine m_R_cV (v := (some (.int q3.1))) (h1 := (SH, q3.2)) (rest := []) (lo' := [some (.ref 19), some (.int (q1.2.1 48 v1.toNatClampNeg))]) (ml := 2) (k0 := 19) (by decide) (Or.inl rfl) (m_opb_of (ins := .invokevirtual 250) (len := 3) (tag := 5) (a := 25) (b := 1) (c := 0) (q := 965) (by decide +kernel)) (by decide +kernel) rfl (show m_isO 25 19 (SH, _) = true from m_isO_of (by decide +kernel)) (Nat.le_of_ble_eq_true rfl) rfl rfl (ok_Houses_isUp X (d + 0) F _ _ _ _ hc3) ?_
            rcases m_ite h with ⟨c1113, h⟩ | ⟨c1113, h⟩
            · refine m_R_1 (by decide) (m_opb_of (ins := .ifCond .eq 53) (len := 3) (tag := 0) (a := 152) (b := 0) (c := 0) (q := 0) (by decide +kernel)) (if_pos c1113) ?_
              exact ok_World_drawTrades_152 X d F _ (fun a0 a1 a2 a3 a4 m r m' h => ih a0 a1 a2 a3 a4 m r m' h) _ _ _ _ _ _ _ _ h
            · refine m_R_1 (by decide) (m_opb_of (ins := .ifCond .eq 53) (len := 3) (tag := 0) (a := 152) (b := 0) (c := 0) (q := 0) (by decide +kernel)) (if_neg c1113) ?_
              refine m_R_sg (by decide) [(.iload 4, 2, 0, 4, 0, 0, 0)] (by decide +kernel) (show m_sgl X _ _ _ _ _ = some (104, [some (.ref 16), some (.int v1), some (.int (q1.2.1 47 v1.toNatClampNeg)), some (.int (q1.2.1 48 v1.toNatClampNeg)), some (.int (((q1.2.1 49 v1.toNatClampNeg) * ((100 : Int32) - ((2 : Int32) * (q1.2.1 16 10)))) / (100 : Int32))), w5], [.int (((q1.2.1 49 v1.toNatClampNeg) * ((100 : Int32) - ((2 : Int32) * (q1.2.1 16 10)))) / (100 : Int32))], (SH, q3.2.1, q3.2.2)) from rfl) ?_
              rcases m_ite h with ⟨c1114, h⟩ | ⟨c1114, h⟩
              · refine m_R_1 (by decide) (m_opb_of (ins := .ifCond .le 48) (len := 3) (tag := 0) (a := 152) (b := 0) (c := 0) (q := 0) (by decide +kernel)) (if_pos c1114) ?_
                exact ok_World_drawTrades_152 X d F _ (fun a0 a1 a2 a3 a4 m r m' h => ih a0 a1 a2 a3 a4 m r m' h) _ _ _ _ _ _ _ _ h
              · refine m_R_1 (by decide) (m_opb_of (ins := .ifCond .le 48) (len := 3) (tag := 0) (a := 152) (b := 0) (c := 0) (q := 0) (by decide +kernel)) (if_neg c1114) ?_
                refine m_R_sg (by decide) [(.aload_n 0, 1, 0, 0, 0, 0, 0), (.getfield 28, 3, 0, 10, 2, 3, 508), (.iconst 1, 1, 0, 1, 0, 0, 0), (.iload_n 2, 1, 0, 2, 0, 0, 0), (.iload_n 3, 1, 0, 3, 0, 0, 0), (.iload 4, 2, 0, 4, 0, 0, 0), (.aload_n 0, 1, 0, 0, 0, 0, 0), (.getfield 95, 3, 0, 10, 9, 0, 520), (.aload_n 0, 1, 0, 0, 0, 0, 0), (.getfield 35, 3, 0, 10, 3, 3, 511), (.getfield 350, 3, 0, 9, 3, 3, 413), (.iload_n 1, 1, 0, 1, 0, 0, 0)] (by decide +kernel) (show m_sgl X _ _ _ _ _ = some (128, [some (.ref 16), some (.int v1), some (.int (q1.2.1 47 v1.toNatClampNeg)), some (.int (q1.2.1 48 v1.toNatClampNeg)), some (.int (((q1.2.1 49 v1.toNatClampNeg) * ((100 : Int32) - ((2 : Int32) * (q1.2.1 16 10)))) / (100 : Int32))), w5], [.int v1, .ref 50, .int (q3.2.1 16 9), .int (((q1.2.1 49 v1.toNatClampNeg) * ((100 : Int32) - ((2 : Int32) * (q1.2.1 16 10)))) / (100 : Int32)), .int (q1.2.1 48 v1.toNatClampNeg), .int (q1.2.1 47 v1.toNatClampNeg), .int (1 : Int32), .ref 31], (SH, q3.2.1, q3.2.2)) from rfl) ?_
                refine m_R_1 (by decide) (m_opb_of (ins := .iaload) (len := 1) (tag := 0) (a := 0) (b := 0) (c := 0) (q := 0) (by decide +kernel)) (m_s_iald sh_50 (by decide) c1110) ?_
                refine m_R_sg (by decide) [(.iadd, 1, 0, 0, 0, 0, 0)] (by decide +kernel) (show m_sgl X _ _ _ _ _ = some (130, [some (.ref 16), some (.int v1), some (.int (q1.2.1 47 v1.toNatClampNeg)), some (.int (q1.2.1 48 v1.toNatClampNeg)), some (.int (((q1.2.1 49 v1.toNatClampNeg) * ((100 : Int32) - ((2 : Int32) * (q1.2.1 16 10)))) / (100 : Int32))), w5], [.int ((q3.2.1 16 9) + (q3.2.1 50 v1.toNatClampNeg)), .int (((q1.2.1 49 v1.toNatClampNeg) * ((100 : Int32) - ((2 : Int32) * (q1.2.1 16 10)))) / (100 : Int32)), .int (q1.2.1 48 v1.toNatClampNeg), .int (q1.2.1 47 v1.toNatClampNeg), .int (1 : Int32), .ref 31], (SH, q3.2.1, q3.2.2)) from rfl) ?_
                obtain ⟨q4, hc4, h⟩ := Option.bind_eq_some_iff.mp h
                refine m_R_cV (v := (some (.int q4.1))) (h1 := (SH, q4.2)) (rest := []) (lo' := [some (.ref 31), some (.int (1 : Int32)), some (.int (q1.2.1 47 v1.toNatClampNeg)), some (.int (q1.2.1 48 v1.toNatClampNeg)), some (.int (((q1.2.1 49 v1.toNatClampNeg) * ((100 : Int32) - ((2 : Int32) * (q1.2.1 16 10)))) / (100 : Int32))), some (.int ((q3.2.1 16 9) + (q3.2.1 50 v1.toNatClampNeg))), none]) (ml := 7) (k0 := 31) (by decide) (Or.inl rfl) (m_opb_of (ins := .invokevirtual 228) (len := 3) (tag := 5) (a := 74) (b := 5) (c := 0) (q := 943) (by decide +kernel)) (by decide +kernel) rfl (show m_isO 74 31 (SH, _) = true from m_isO_of (by decide +kernel)) (Nat.le_of_ble_eq_true rfl) rfl rfl (ok_Papers_addPaper X (d + 0) F _ _ _ _ _ _ _ _ hc4) ?_
                refine m_R_sg (by decide) [(.istore 5, 2, 0, 5, 0, 0, 0), (.iload 5, 2, 0, 5, 0, 0, 0), (.iconst (-1), 1, 0, 1, 1, 0, 0)] (by decide +kernel) (show m_sgl X _ _ _ _ _ = some (138, [some (.ref 16), some (.int v1), some (.int (q1.2.1 47 v1.toNatClampNeg)), some (.int (q1.2.1 48 v1.toNatClampNeg)), some (.int (((q1.2.1 49 v1.toNatClampNeg) * ((100 : Int32) - ((2 : Int32) * (q1.2.1 16 10)))) / (100 : Int32))), some (.int q4.1)], [.int (-1 : Int32), .int q4.1], (SH, q4.2.1, q4.2.2)) from rfl) ?_
                rcases m_ite h with ⟨c1115, h⟩ | ⟨c1115, h⟩
                · refine m_R_1 (by decide) (m_opb_of (ins := .if_icmp .eq 14) (len := 3) (tag := 0) (a := 152) (b := 0) (c := 0) (q := 0) (by decide +kernel)) (if_pos c1115) ?_
                  exact ok_World_drawTrades_152 X d F _ (fun a0 a1 a2 a3 a4 m r m' h => ih a0 a1 a2 a3 a4 m r m' h) _ _ _ _ _ _ _ _ h
                · refine m_R_1 (by decide) (m_opb_of (ins := .if_icmp .eq 14) (len := 3) (tag := 0) (a := 152) (b := 0) (c := 0) (q := 0) (by decide +kernel)) (if_neg c1115) ?_
                  refine m_R_sg (by decide) [(.aload_n 0, 1, 0, 0, 0, 0, 0), (.getfield 28, 3, 0, 10, 2, 3, 508), (.getfield 264, 3, 0, 4, 11, 3, 355), (.iload 5, 2, 0, 5, 0, 0, 0), (.iconst 1, 1, 0, 1, 0, 0, 0)] (by decide +kernel) (show m_sgl X _ _ _ _ _ = some (151, [some (.ref 16), some (.int v1), some (.int (q1.2.1 47 v1.toNatClampNeg)), some (.int (q1.2.1 48 v1.toNatClampNeg)), some (.int (((q1.2.1 49 v1.toNatClampNeg) * ((100 : Int32) - ((2 : Int32) * (q1.2.1 16 10)))) / (100 : Int32))), some (.int q4.1)], [.int (1 : Int32), .int q4.1, .ref 43], (SH, q4.2.1, q4.2.2)) from rfl) ?_
                  obtain ⟨c1116, h⟩ := m_ite_n h
                  refine m_R_1 (by decide) (m_opb_of (ins := .iastore) (len := 1) (tag := 0) (a := 0) (b := 0) (c := 0) (q := 0) (by decide +kernel)) (m_s_iast sh_43 c1116) ?_
                  exact ok_World_drawTrades_152 X d F _ (fun a0 a1 a2 a3 a4 m r m' h => ih a0 a1 a2 a3 a4 m r m' h) _ _ _ _ _ _ _ _ h
        · refine m_R_1 (by decide) (m_opb_of (ins := .if_icmp .ne 75) (len := 3) (tag := 0) (a := 152) (b := 0) (c := 0) (q := 0) (by decide +kernel)) (if_neg c1111) ?_
          exact ok_World_drawTrades_152 X d F _ (fun a0 a1 a2 a3 a4 m r m' h => ih a0 a1 a2 a3 a4 m r m' h) _ _ _ _ _ _ _ _ h
      · refine m_R_1 (by decide) (m_opb_of (ins := .ifCond .ne 138) (len := 3) (tag := 0) (a := 158) (b := 0) (c := 0) (q := 0) (by decide +kernel)) (if_neg c1109) ?_
        exact ok_World_drawTrades_158 X d F _ _ _ _ _ _ _ _ _ h
def f_World_drawTrades (F : Nat)    (m : mM) : Option (Unit × mM) := f_World_drawTrades_2 F F (0 : Int32) m
theorem ok_World_drawTrades (X : mX) (d F : Nat) : ∀   (m : mM) (r : Unit) (m' : mM), f_World_drawTrades F  m = some (r, m') → m_R X (d + 2) 145 0 [some (.ref 16), none, none, none, none, none] [] (SH, m) (none, (SH, m')) := by
  intro m r m' h
  unfold f_World_drawTrades at h
  refine m_R_sg (by decide) [(.iconst 0, 1, 0, 0, 0, 0, 0), (.istore_n 1, 1, 0, 1, 0, 0, 0)] (by decide +kernel) (show m_sgl X _ _ _ _ _ = some (2, [some (.ref 16), some (.int (0 : Int32)), none, none, none, none], [], (SH, m.1, m.2)) from rfl) ?_
  exact ok_World_drawTrades_2 X d F F _ _ _ _ _ _ _ _ h
def f_Papers_strikeHolder_39 (F : Nat)  (k2 : Int32 → Int32 → mM → Option (Unit × mM)) (v1 : Int32) (v2 : Int32) (m : mM) : Option (Unit × mM) := k2 v1 (v2 + (1 : Int32)) m
theorem ok_Papers_strikeHolder_39 (X : mX) (d F : Nat) (k2 : Int32 → Int32 → mM → Option (Unit × mM)) (hk2 : ∀ (v1 : Int32) (v2 : Int32) (m : mM) (r : Unit) (m' : mM), k2 v1 v2 m = some (r, m') → m_R X (d + 0) 148 2 [some (.ref 31), some (.int v1), some (.int v2)] [] (SH, m) (none, (SH, m'))) : ∀ (v1 : Int32) (v2 : Int32)  (m : mM) (r : Unit) (m' : mM), f_Papers_strikeHolder_39 F k2 v1 v2 m = some (r, m') → m_R X (d + 0) 148 39 [some (.ref 31), some (.int v1), some (.int v2)] [] (SH, m) (none, (SH, m')) := by
  intro v1 v2 m r m' h
  unfold f_Papers_strikeHolder_39 at h
  refine m_R_sg (by decide) [(.iinc 2 1, 3, 0, 2, 1, 0, 0), (.goto (-40), 3, 0, 2, 0, 0, 0)] (by decide +kernel) (show m_sgl X _ _ _ _ _ = some (2, [some (.ref 31), some (.int v1), some (.int (v2 + (1 : Int32)))], [], (SH, m.1, m.2)) from rfl) ?_
  exact hk2 _ _ _ _ _ h
def f_Papers_strikeHolder_2 (F : Nat)   : Nat → Int32 → Int32 → mM → Option (Unit × mM)
  | 0, _, _, _ => none
  | n + 1, v1, v2, m => (if v1 < 0 ∨ 60 ≤ v1.toNatClampNeg then none else (if (m.1 39 v1.toNatClampNeg) ≤ v2 then some ((), m) else (if ((v1 * (6 : Int32)) + v2) < 0 ∨ 360 ≤ ((v1 * (6 : Int32)) + v2).toNatClampNeg then none else (if (m.1 38 ((v1 * (6 : Int32)) + v2).toNatClampNeg) = (m.1 35 v1.toNatClampNeg) then f_Papers_strikeHolder_39 F (f_Papers_strikeHolder_2 F n) v1 v2 ((m_up m.1 39 v1.toNatClampNeg v2), m.2) else f_Papers_strikeHolder_39 F (f_Papers_strikeHolder_2 F n) v1 v2 m))))
theorem ok_Papers_strikeHolder_2 (X : mX) (d F : Nat) : ∀ (n : Nat) (v1 : Int32) (v2 : Int32)  (m : mM) (r : Unit) (m' : mM), f_Papers_strikeHolder_2 F n v1 v2 m = some (r, m') → m_R X (d + 0) 148 2 [some (.ref 31), some (.int v1), some (.int v2)] [] (SH, m) (none, (SH, m')) := by
  intro n
  induction n with
  | zero => intro v1 v2 m r m' h; cases h
  | succ n ih =>
    intro v1 v2 m r m' h
    simp only [f_Papers_strikeHolder_2] at h
    refine m_R_sg (by decide) [(.iload_n 2, 1, 0, 2, 0, 0, 0), (.aload_n 0, 1, 0, 0, 0, 0, 0), (.getfield 33, 3, 0, 4, 7, 3, 342), (.iload_n 1, 1, 0, 1, 0, 0, 0)] (by decide +kernel) (show m_sgl X _ _ _ _ _ = some (8, [some (.ref 31), some (.int v1), some (.int v2)], [.int v1, .ref 39, .int v2], (SH, m.1, m.2)) from rfl) ?_
    obtain ⟨c1117, h⟩ := m_ite_n h
    refine m_R_1 (by decide) (m_opb_of (ins := .iaload) (len := 1) (tag := 0) (a := 0) (b := 0) (c := 0) (q := 0) (by decide +kernel)) (m_s_iald sh_39 (by decide) c1117) ?_
    rcases m_ite h with ⟨c1118, h⟩ | ⟨c1118, h⟩
    · refine m_R_1 (by decide) (m_opb_of (ins := .if_icmp .ge 36) (len := 3) (tag := 0) (a := 45) (b := 0) (c := 0) (q := 0) (by decide +kernel)) (if_pos c1118) ?_
      obtain ⟨rfl, rfl⟩ := m_some h
      exact m_R_vret (by decide) (m_opb_of (ins := .return_) (len := 1) (tag := 3) (a := 0) (b := 0) (c := 0) (q := 0) (by decide +kernel))
    · refine m_R_1 (by decide) (m_opb_of (ins := .if_icmp .ge 36) (len := 3) (tag := 0) (a := 45) (b := 0) (c := 0) (q := 0) (by decide +kernel)) (if_neg c1118) ?_
      refine m_R_sg (by decide) [(.aload_n 0, 1, 0, 0, 0, 0, 0), (.getfield 30, 3, 0, 4, 6, 3, 339), (.iload_n 1, 1, 0, 1, 0, 0, 0), (.bipush 6, 2, 0, 6, 0, 0, 0), (.imul, 1, 0, 0, 0, 0, 0), (.iload_n 2, 1, 0, 2, 0, 0, 0), (.iadd, 1, 0, 0, 0, 0, 0)] (by decide +kernel) (show m_sgl X _ _ _ _ _ = some (22, [some (.ref 31), some (.int v1), some (.int v2)], [.int ((v1 * (6 : Int32)) + v2), .ref 38], (SH, m.1, m.2)) from rfl) ?_
      obtain ⟨c1119, h⟩ := m_ite_n h
      refine m_R_1 (by decide) (m_opb_of (ins := .iaload) (len := 1) (tag := 0) (a := 0) (b := 0) (c := 0) (q := 0) (by decide +kernel)) (m_s_iald sh_38 (by decide) c1119) ?_
      refine m_R_sg (by decide) [(.aload_n 0, 1, 0, 0, 0, 0, 0), (.getfield 21, 3, 0, 4, 3, 3, 329), (.iload_n 1, 1, 0, 1, 0, 0, 0)] (by decide +kernel) (show m_sgl X _ _ _ _ _ = some (28, [some (.ref 31), some (.int v1), some (.int v2)], [.int v1, .ref 35, .int (m.1 38 ((v1 * (6 : Int32)) + v2).toNatClampNeg)], (SH, m.1, m.2)) from rfl) ?_
      refine m_R_1 (by decide) (m_opb_of (ins := .iaload) (len := 1) (tag := 0) (a := 0) (b := 0) (c := 0) (q := 0) (by decide +kernel)) (m_s_iald sh_35 (by decide) c1117) ?_
      rcases m_ite h with ⟨c1120, h⟩ | ⟨c1120, h⟩
      · refine m_R_1 (by decide) (m_opb_of (ins := .if_icmp .ne 10) (len := 3) (tag := 0) (a := 39) (b := 0) (c := 0) (q := 0) (by decide +kernel)) (if_pos c1120) ?_
        refine m_R_sg (by decide) [(.aload_n 0, 1, 0, 0, 0, 0, 0), (.getfield 33, 3, 0, 4, 7, 3, 342), (.iload_n 1, 1, 0, 1, 0, 0, 0), (.iload_n 2, 1, 0, 2, 0, 0, 0)] (by decide +kernel) (show m_sgl X _ _ _ _ _ = some (38, [some (.ref 31), some (.int v1), some (.int v2)], [.int v2, .int v1, .ref 39], (SH, m.1, m.2)) from rfl) ?_
        refine m_R_1 (by decide) (m_opb_of (ins := .iastore) (len := 1) (tag := 0) (a := 0) (b := 0) (c := 0) (q := 0) (by decide +kernel)) (m_s_iast sh_39 c1117) ?_
        exact ok_Papers_strikeHolder_39 X d F _ (fun a0 a1 m r m' h => ih a0 a1 m r m' h) _ _ _ _ _ h
      · refine m_R_1 (by decide) (m_opb_of (ins := .if_icmp .ne 10) (len := 3) (tag := 0) (a := 39) (b := 0) (c := 0) (q := 0) (by decide +kernel)) (if_neg c1120) ?_
        exact ok_Papers_strikeHolder_39 X d F _ (fun a0 a1 m r m' h => ih a0 a1 m r m' h) _ _ _ _ _ h
def f_Papers_strikeHolder (F : Nat)   (v1 : Int32) (m : mM) : Option (Unit × mM) := f_Papers_strikeHolder_2 F F v1 (1 : Int32) m
theorem ok_Papers_strikeHolder (X : mX) (d F : Nat) : ∀ (v1 : Int32)  (m : mM) (r : Unit) (m' : mM), f_Papers_strikeHolder F v1 m = some (r, m') → m_R X (d + 0) 148 0 [some (.ref 31), some (.int v1), none] [] (SH, m) (none, (SH, m')) := by
  intro v1 m r m' h
  unfold f_Papers_strikeHolder at h
  refine m_R_sg (by decide) [(.iconst 1, 1, 0, 1, 0, 0, 0), (.istore_n 2, 1, 0, 2, 0, 0, 0)] (by decide +kernel) (show m_sgl X _ _ _ _ _ = some (2, [some (.ref 31), some (.int v1), some (.int (1 : Int32))], [], (SH, m.1, m.2)) from rfl) ?_
  exact ok_Papers_strikeHolder_2 X d F F _ _ _ _ _ h
def f_Papers_nameThatAnswers_47 (F : Nat)  (k9 : Int32 → Int32 → mM → Option (Int32 × mM)) (v1 : Int32) (v2 : Int32) (m : mM) : Option (Int32 × mM) := k9 v1 (v2 + (-1 : Int32)) m
theorem ok_Papers_nameThatAnswers_47 (X : mX) (d F : Nat) (k9 : Int32 → Int32 → mM → Option (Int32 × mM)) (hk9 : ∀ (v1 : Int32) (v2 : Int32) (w3 : Option Value) (m : mM) (r : Int32) (m' : mM), k9 v1 v2 m = some (r, m') → m_R X (d + 0) 150 9 [some (.ref 31), some (.int v1), some (.int v2), w3] [] (SH, m) (some (.int r), (SH, m'))) : ∀ (v1 : Int32) (v2 : Int32) (w3 : Option Value) (m : mM) (r : Int32) (m' : mM), f_Papers_nameThatAnswers_47 F k9 v1 v2 m = some (r, m') → m_R X (d + 0) 150 47 [some (.ref 31), some (.int v1), some (.int v2), w3] [] (SH, m) (some (.int r), (SH, m')) := by
  intro v1 v2 w3 m r m' h
  unfold f_Papers_nameThatAnswers_47 at h
  refine m_R_sg (by decide) [(.iinc 2 (-1), 3, 0, 2, 1, 1, 0), (.goto (-41), 3, 0, 9, 0, 0, 0)] (by decide +kernel) (show m_sgl X _ _ _ _ _ = some (9, [some (.ref 31), some (.int v1), some (.int (v2 + (-1 : Int32))), w3], [], (SH, m.1, m.2)) from rfl) ?_
  exact hk9 _ _ _ _ _ _ h
def f_Papers_nameThatAnswers_9 (F : Nat)   : Nat → Int32 → Int32 → mM → Option (Int32 × mM)
  | 0, _, _, _ => none
  | n + 1, v1, v2, m => (if v2 ≤ 0 then some ((-1 : Int32), m) else (if ((v1 * (6 : Int32)) + v2) < 0 ∨ 360 ≤ ((v1 * (6 : Int32)) + v2).toNatClampNeg then none else (if v1 < 0 ∨ 60 ≤ v1.toNatClampNeg then none else (if (m.1 38 ((v1 * (6 : Int32)) + v2).toNatClampNeg) = (m.1 35 v1.toNatClampNeg) then f_Papers_nameThatAnswers_47 F (f_Papers_nameThatAnswers_9 F n) v1 v2 m else (if (m.1 38 ((v1 * (6 : Int32)) + v2).toNatClampNeg) = (m.1 34 v1.toNatClampNeg) then f_Papers_nameThatAnswers_47 F (f_Papers_nameThatAnswers_9 F n) v1 v2 m else some (v2, m))))))
theorem ok_Papers_nameThatAnswers_9 (X : mX) (d F : Nat) : ∀ (n : Nat) (v1 : Int32) (v2 : Int32) (w3 : Option Value) (m : mM) (r : Int32) (m' : mM), f_Papers_nameThatAnswers_9 F n v1 v2 m = some (r, m') → m_R X (d + 0) 150 9 [some (.ref 31), some (.int v1), some (.int v2), w3] [] (SH, m) (some (.int r), (SH, m')) := by
  intro n
  induction n with
  | zero => intro v1 v2 w3 m r m' h; cases h
  | succ n ih =>
    intro v1 v2 w3 m r m' h
    simp only [f_Papers_nameThatAnswers_9] at h
    refine m_R_sg (by decide) [(.iload_n 2, 1, 0, 2, 0, 0, 0)] (by decide +kernel) (show m_sgl X _ _ _ _ _ = some (10, [some (.ref 31), some (.int v1), some (.int v2), w3], [.int v2], (SH, m.1, m.2)) from rfl) ?_
    rcases m_ite h with ⟨c1121, h⟩ | ⟨c1121, h⟩
    · refine m_R_1 (by decide) (m_opb_of (ins := .ifCond .le 43) (len := 3) (tag := 0) (a := 53) (b := 0) (c := 0) (q := 0) (by decide +kernel)) (if_pos c1121) ?_
      refine m_R_sg (by decide) [(.iconst (-1), 1, 0, 1, 1, 0, 0)] (by decide +kernel) (show m_sgl X _ _ _ _ _ = some (54, [some (.ref 31), some (.int v1), some (.int v2), w3], [.int (-1 : Int32)], (SH, m.1, m.2)) from rfl) ?_
      obtain ⟨rfl, rfl⟩ := m_some h
      exact m_R_iret (by decide) (m_opb_of (ins := .ireturn) (len := 1) (tag := 1) (a := 0) (b := 0) (c := 0) (q := 0) (by decide +kernel)) (Or.inl rfl)
    · refine m_R_1 (by decide) (m_opb_of (ins := .ifCond .le 43) (len := 3) (tag := 0) (a := 53) (b := 0) (c := 0) (q := 0) (by decide +kernel)) (if_neg c1121) ?_
      refine m_R_sg (by decide) [(.aload_n 0, 1, 0, 0, 0, 0, 0), (.getfield 30, 3, 0, 4, 6, 3, 339), (.iload_n 1, 1, 0, 1, 0, 0, 0), (.bipush 6, 2, 0, 6, 0, 0, 0), (.imul, 1, 0, 0, 0, 0, 0), (.iload_n 2, 1, 0, 2, 0, 0, 0), (.iadd, 1, 0, 0, 0, 0, 0)] (by decide +kernel) (show m_sgl X _ _ _ _ _ = some (23, [some (.ref 31), some (.int v1), some (.int v2), w3], [.int ((v1 * (6 : Int32)) + v2), .ref 38], (SH, m.1, m.2)) from rfl) ?_
      obtain ⟨c1122, h⟩ := m_ite_n h
      refine m_R_1 (by decide) (m_opb_of (ins := .iaload) (len := 1) (tag := 0) (a := 0) (b := 0) (c := 0) (q := 0) (by decide +kernel)) (m_s_iald sh_38 (by decide) c1122) ?_
      refine m_R_sg (by decide) [(.istore_n 3, 1, 0, 3, 0, 0, 0), (.iload_n 3, 1, 0, 3, 0, 0, 0), (.aload_n 0, 1, 0, 0, 0, 0, 0), (.getfield 21, 3, 0, 4, 3, 3, 329), (.iload_n 1, 1, 0, 1, 0, 0, 0)] (by decide +kernel) (show m_sgl X _ _ _ _ _ = some (31, [some (.ref 31), some (.int v1), some (.int v2), some (.int (m.1 38 ((v1 * (6 : Int32)) + v2).toNatClampNeg))], [.int v1, .ref 35, .int (m.1 38 ((v1 * (6 : Int32)) + v2).toNatClampNeg)], (SH, m.1, m.2)) from rfl) ?_
      obtain ⟨c1123, h⟩ := m_ite_n h
      refine m_R_1 (by decide) (m_opb_of (ins := .iaload) (len := 1) (tag := 0) (a := 0) (b := 0) (c := 0) (q := 0) (by decide +kernel)) (m_s_iald sh_35 (by decide) c1123) ?_
      rcases m_ite h with ⟨c1124, h⟩ | ⟨c1124, h⟩
      · refine m_R_1 (by decide) (m_opb_of (ins := .if_icmp .eq 15) (len := 3) (tag := 0) (a := 47) (b := 0) (c := 0) (q := 0) (by decide +kernel)) (if_pos c1124) ?_
        exact ok_Papers_nameThatAnswers_47 X d F _ (fun a0 a1 a2 m r m' h => ih a0 a1 a2 m r m' h) _ _ _ _ _ _ h
      · refine m_R_1 (by decide) (m_opb_of (ins := .if_icmp .eq 15) (len := 3) (tag := 0) (a := 47) (b := 0) (c := 0) (q := 0) (by decide +kernel)) (if_neg c1124) ?_
        refine m_R_sg (by decide) [(.iload_n 3, 1, 0, 3, 0, 0, 0), (.aload_n 0, 1, 0, 0, 0, 0, 0), (.getfield 18, 3, 0, 4, 2, 3, 325), (.iload_n 1, 1, 0, 1, 0, 0, 0)] (by decide +kernel) (show m_sgl X _ _ _ _ _ = some (41, [some (.ref 31), some (.int v1), some (.int v2), some (.int (m.1 38 ((v1 * (6 : Int32)) + v2).toNatClampNeg))], [.int v1, .ref 34, .int (m.1 38 ((v1 * (6 : Int32)) + v2).toNatClampNeg)], (SH, m.1, m.2)) from rfl) ?_
        refine m_R_1 (by decide) (m_opb_of (ins := .iaload) (len := 1) (tag := 0) (a := 0) (b := 0) (c := 0) (q := 0) (by decide +kernel)) (m_s_iald sh_34 (by decide) c1123) ?_
        rcases m_ite h with ⟨c1125, h⟩ | ⟨c1125, h⟩
        · refine m_R_1 (by decide) (m_opb_of (ins := .if_icmp .eq 5) (len := 3) (tag := 0) (a := 47) (b := 0) (c := 0) (q := 0) (by decide +kernel)) (if_pos c1125) ?_
          exact ok_Papers_nameThatAnswers_47 X d F _ (fun a0 a1 a2 m r m' h => ih a0 a1 a2 m r m' h) _ _ _ _ _ _ h
        · refine m_R_1 (by decide) (m_opb_of (ins := .if_icmp .eq 5) (len := 3) (tag := 0) (a := 47) (b := 0) (c := 0) (q := 0) (by decide +kernel)) (if_neg c1125) ?_
          refine m_R_sg (by decide) [(.iload_n 2, 1, 0, 2, 0, 0, 0)] (by decide +kernel) (show m_sgl X _ _ _ _ _ = some (46, [some (.ref 31), some (.int v1), some (.int v2), some (.int (m.1 38 ((v1 * (6 : Int32)) + v2).toNatClampNeg))], [.int v2], (SH, m.1, m.2)) from rfl) ?_
          obtain ⟨rfl, rfl⟩ := m_some h
          exact m_R_iret (by decide) (m_opb_of (ins := .ireturn) (len := 1) (tag := 1) (a := 0) (b := 0) (c := 0) (q := 0) (by decide +kernel)) (Or.inl rfl)
def f_Papers_nameThatAnswers (F : Nat)   (v1 : Int32) (m : mM) : Option (Int32 × mM) := (if v1 < 0 ∨ 60 ≤ v1.toNatClampNeg then none else f_Papers_nameThatAnswers_9 F F v1 ((m.1 39 v1.toNatClampNeg) - (1 : Int32)) m)
theorem ok_Papers_nameThatAnswers (X : mX) (d F : Nat) : ∀ (v1 : Int32)  (m : mM) (r : Int32) (m' : mM), f_Papers_nameThatAnswers F v1 m = some (r, m') → m_R X (d + 0) 150 0 [some (.ref 31), some (.int v1), none, none] [] (SH, m) (some (.int r), (SH, m')) := by
  intro v1 m r m' h
  unfold f_Papers_nameThatAnswers at h
  refine m_R_sg (by decide) [(.aload_n 0, 1, 0, 0, 0, 0, 0), (.getfield 33, 3, 0, 4, 7, 3, 342), (.iload_n 1, 1, 0, 1, 0, 0, 0)] (by decide +kernel) (show m_sgl X _ _ _ _ _ = some (5, [some (.ref 31), some (.int v1), none, none], [.int v1, .ref 39], (SH, m.1, m.2)) from rfl) ?_
  obtain ⟨c1126, h⟩ := m_ite_n h
  refine m_R_1 (by decide) (m_opb_of (ins := .iaload) (len := 1) (tag := 0) (a := 0) (b := 0) (c := 0) (q := 0) (by decide +kernel)) (m_s_iald sh_39 (by decide) c1126) ?_
  refine m_R_sg (by decide) [(.iconst 1, 1, 0, 1, 0, 0, 0), (.isub, 1, 0, 0, 0, 0, 0), (.istore_n 2, 1, 0, 2, 0, 0, 0)] (by decide +kernel) (show m_sgl X _ _ _ _ _ = some (9, [some (.ref 31), some (.int v1), some (.int ((m.1 39 v1.toNatClampNeg) - (1 : Int32))), none], [], (SH, m.1, m.2)) from rfl) ?_
  exact ok_Papers_nameThatAnswers_9 X d F F _ _ _ _ _ _ h
def f_World_farFrom (F : Nat)   (v1 : Int32) (v2 : Int32) (m : mM) : Option (Int32 × mM) := (if v1 < 0 ∨ 16 ≤ v1.toNatClampNeg then none else ((f_Land_between F v2 (m.1 21 v1.toNatClampNeg) m).bind fun q1 => some (q1.1, q1.2)))
theorem ok_World_farFrom (X : mX) (d F : Nat) : ∀ (v1 : Int32) (v2 : Int32)  (m : mM) (r : Int32) (m' : mM), f_World_farFrom F v1 v2 m = some (r, m') → m_R X (d + 2) 151 0 [some (.ref 16), some (.int v1), some (.int v2)] [] (SH, m) (some (.int r), (SH, m')) := by
  intro v1 v2 m r m' h
  unfold f_World_farFrom at h
  refine m_R_sg (by decide) [(.aload_n 0, 1, 0, 0, 0, 0, 0), (.getfield 12, 3, 0, 10, 0, 3, 503), (.iload_n 2, 1, 0, 2, 0, 0, 0), (.aload_n 0, 1, 0, 0, 0, 0, 0), (.getfield 21, 3, 0, 10, 1, 3, 505), (.getfield 113, 3, 0, 1, 1, 3, 252), (.iload_n 1, 1, 0, 1, 0, 0, 0)] (by decide +kernel) (show m_sgl X _ _ _ _ _ = some (13, [some (.ref 16), some (.int v1), some (.int v2)], [.int v1, .ref 21, .int v2, .ref 17], (SH, m.1, m.2)) from rfl) ?_
  obtain ⟨c1127, h⟩ := m_ite_n h
  refine m_R_1 (by decide) (m_opb_of (ins := .iaload) (len := 1) (tag := 0) (a := 0) (b := 0) (c := 0) (q := 0) (by decide +kernel)) (m_s_iald sh_21 (by decide) c1127) ?_
  obtain ⟨q1, hc1, h⟩ := Option.bind_eq_some_iff.mp h
  refine m_R_cV (v := (some (.int q1.1))) (h1 := (SH, q1.2)) (rest := []) (lo' := [some (.ref 17), some (.int v2), some (.int (m.1 21 v1.toNatClampNeg))]) (ml := 3) (k0 := 17) (by decide) (Or.inl rfl) (m_opb_of (ins := .invokevirtual 116) (len := 3) (tag := 5) (a := 20) (b := 2) (c := 0) (q := 1284) (by decide +kernel)) (by decide +kernel) rfl (show m_isO 20 17 (SH, _) = true from m_isO_of (by decide +kernel)) (Nat.le_of_ble_eq_true rfl) rfl rfl (ok_Land_between X (d + 0) F _ _ _ _ _ hc1) ?_
  obtain ⟨rfl, rfl⟩ := m_some h
  exact m_R_iret (by decide) (m_opb_of (ins := .ireturn) (len := 1) (tag := 1) (a := 0) (b := 0) (c := 0) (q := 0) (by decide +kernel)) (Or.inl rfl)
def f_World_setAskDay_103 (F : Nat)   (s1 : Int32) (s2 : Int32) (s3 : Int32) (m : mM) : Option (Unit × mM) := (if s1 < 0 ∨ 60 ≤ s1.toNatClampNeg then none else some ((), ((m_up m.1 42 s1.toNatClampNeg (s2 + s3)), m.2)))
theorem ok_World_setAskDay_103 (X : mX) (d F : Nat) : ∀ (s1 : Int32) (s2 : Int32) (s3 : Int32) (w0 : Option Value) (w1 : Option Value) (w2 : Option Value) (w3 : Option Value) (w4 : Option Value) (m : mM) (r : Unit) (m' : mM), f_World_setAskDay_103 F s1 s2 s3 m = some (r, m') → m_R X (d + 3) 149 103 [w0, w1, w2, w3, w4] [.int s3, .int s2, .int s1, .ref 42] (SH, m) (none, (SH, m')) := by
  intro s1 s2 s3 w0 w1 w2 w3 w4 m r m' h
  unfold f_World_setAskDay_103 at h
  refine m_R_sg (by decide) [(.iadd, 1, 0, 0, 0, 0, 0)] (by decide +kernel) (show m_sgl X _ _ _ _ _ = some (104, [w0, w1, w2, w3, w4], [.int (s2 + s3), .int s1, .ref 42], (SH, m.1, m.2)) from rfl) ?_
  obtain ⟨c1128, h⟩ := m_ite_n h
  refine m_R_1 (by decide) (m_opb_of (ins := .iastore) (len := 1) (tag := 0) (a := 0) (b := 0) (c := 0) (q := 0) (by decide +kernel)) (m_s_iast sh_42 c1128) ?_
  obtain ⟨rfl, rfl⟩ := m_some h
  exact m_R_vret (by decide) (m_opb_of (ins := .return_) (len := 1) (tag := 3) (a := 0) (b := 0) (c := 0) (q := 0) (by decide +kernel))
def f_World_setAskDay (F : Nat)   (v1 : Int32) (m : mM) : Option (Unit × mM) := ((f_Papers_nameThatAnswers F v1 m).bind fun q1 => (if q1.1 = (-1 : Int32) then (if v1 < 0 ∨ 60 ≤ v1.toNatClampNeg then none else some ((), ((m_up (m_up q1.2.1 37 v1.toNatClampNeg (2 : Int32)) 42 v1.toNatClampNeg (-1 : Int32)), q1.2.2))) else (if v1 < 0 ∨ 60 ≤ v1.toNatClampNeg then none else (if (q1.2.1 35 v1.toNatClampNeg) < 0 ∨ 16 ≤ (q1.2.1 35 v1.toNatClampNeg).toNatClampNeg then none else (if ((v1 * (6 : Int32)) + q1.1) < 0 ∨ 360 ≤ ((v1 * (6 : Int32)) + q1.1).toNatClampNeg then none else ((f_World_farFrom F (q1.2.1 38 ((v1 * (6 : Int32)) + q1.1).toNatClampNeg) (q1.2.1 21 (q1.2.1 35 v1.toNatClampNeg).toNatClampNeg) q1.2).bind fun q2 => (if q2.1 = (-1 : Int32) then f_World_setAskDay_103 F v1 (q2.2.1 16 9) (30 : Int32) q2.2 else ((f_Math_max F (1 : Int32) q2.1 q2.2).bind fun q3 => f_World_setAskDay_103 F v1 (q2.2.1 16 9) q3.1 q3.2))))))))
theorem ok_World_setAskDay (X : mX) (d F : Nat) : ∀ (v1 : Int32)  (m : mM) (r : Unit) (m' : mM), f_World_setAskDay F v1 m = some (r, m') → m_R X (d + 3) 149 0 [some (.ref 16), some (.int v1), none, none, none] [] (SH, m) (none, (SH, m')) := by
  intro v1 m r m' h
  unfold f_World_setAskDay at h
  refine m_R_sg (by decide) [(.aload_n 0, 1, 0, 0, 0, 0, 0), (.getfield 28, 3, 0, 10, 2, 3, 508), (.iload_n 1, 1, 0, 1, 0, 0, 0)] (by decide +kernel) (show m_sgl X _ _ _ _ _ = some (5, [some (.ref 16), some (.int v1), none, none, none], [.int v1, .ref 31], (SH, m.1, m.2)) from rfl) ?_
  obtain ⟨q1, hc1, h⟩ := Option.bind_eq_some_iff.mp h
  refine m_R_cV (v := (some (.int q1.1))) (h1 := (SH, q1.2)) (rest := []) (lo' := [some (.ref 31), some (.int v1), none, none]) (ml := 4) (k0 := 31) (by decide) (Or.inl rfl) (m_opb_of (ins := .invokevirtual 282) (len := 3) (tag := 5) (a := 150) (b := 1) (c := 0) (q := 1276) (by decide +kernel)) (by decide +kernel) rfl (show m_isO 150 31 (SH, _) = true from m_isO_of (by decide +kernel)) (Nat.le_of_ble_eq_true rfl) rfl rfl (ok_Papers_nameThatAnswers X (d + 2) F _ _ _ _ hc1) ?_
  refine m_R_sg (by decide) [(.istore_n 2, 1, 0, 2, 0, 0, 0), (.iload_n 2, 1, 0, 2, 0, 0, 0), (.iconst (-1), 1, 0, 1, 1, 0, 0)] (by decide +kernel) (show m_sgl X _ _ _ _ _ = some (11, [some (.ref 16), some (.int v1), some (.int q1.1), none, none], [.int (-1 : Int32), .int q1.1], (SH, q1.2.1, q1.2.2)) from rfl) ?_
  rcases m_ite h with ⟨c1129, h⟩ | ⟨c1129, h⟩
  · refine m_R_1 (by decide) (m_opb_of (ins := .if_icmp .ne 24) (len := 3) (tag := 0) (a := 35) (b := 0) (c := 0) (q := 0) (by decide +kernel)) (if_pos c1129) ?_
    refine m_R_sg (by decide) [(.aload_n 0, 1, 0, 0, 0, 0, 0), (.getfield 28, 3, 0, 10, 2, 3, 508), (.getfield 273, 3, 0, 4, 5, 3, 337), (.iload_n 1, 1, 0, 1, 0, 0, 0), (.iconst 2, 1, 0, 2, 0, 0, 0)] (by decide +kernel) (show m_sgl X _ _ _ _ _ = some (23, [some (.ref 16), some (.int v1), some (.int q1.1), none, none], [.int (2 : Int32), .int v1, .ref 37], (SH, q1.2.1, q1.2.2)) from rfl) ?_
    obtain ⟨c1130, h⟩ := m_ite_n h
    refine m_R_1 (by decide) (m_opb_of (ins := .iastore) (len := 1) (tag := 0) (a := 0) (b := 0) (c := 0) (q := 0) (by decide +kernel)) (m_s_iast sh_37 c1130) ?_
    refine m_R_sg (by decide) [(.aload_n 0, 1, 0, 0, 0, 0, 0), (.getfield 28, 3, 0, 10, 2, 3, 508), (.getfield 288, 3, 0, 4, 10, 3, 352), (.iload_n 1, 1, 0, 1, 0, 0, 0), (.iconst (-1), 1, 0, 1, 1, 0, 0)] (by decide +kernel) (show m_sgl X _ _ _ _ _ = some (33, [some (.ref 16), some (.int v1), some (.int q1.1), none, none], [.int (-1 : Int32), .int v1, .ref 42], (SH, (m_up q1.2.1 37 v1.toNatClampNeg (2 : Int32)), q1.2.2)) from rfl) ?_
    refine m_R_1 (by decide) (m_opb_of (ins := .iastore) (len := 1) (tag := 0) (a := 0) (b := 0) (c := 0) (q := 0) (by decide +kernel)) (m_s_iast sh_42 c1130) ?_
    obtain ⟨rfl, rfl⟩ := m_some h
    exact m_R_vret (by decide) (m_opb_of (ins := .return_) (len := 1) (tag := 3) (a := 0) (b := 0) (c := 0) (q := 0) (by decide +kernel))
  · refine m_R_1 (by decide) (m_opb_of (ins := .if_icmp .ne 24) (len := 3) (tag := 0) (a := 35) (b := 0) (c := 0) (q := 0) (by decide +kernel)) (if_neg c1129) ?_
    refine m_R_sg (by decide) [(.aload_n 0, 1, 0, 0, 0, 0, 0), (.getfield 21, 3, 0, 10, 1, 3, 505), (.getfield 113, 3, 0, 1, 1, 3, 252), (.aload_n 0, 1, 0, 0, 0, 0, 0), (.getfield 28, 3, 0, 10, 2, 3, 508), (.getfield 212, 3, 0, 4, 3, 3, 331), (.iload_n 1, 1, 0, 1, 0, 0, 0)] (by decide +kernel) (show m_sgl X _ _ _ _ _ = some (50, [some (.ref 16), some (.int v1), some (.int q1.1), none, none], [.int v1, .ref 35, .ref 21], (SH, q1.2.1, q1.2.2)) from rfl) ?_
    obtain ⟨c1131, h⟩ := m_ite_n h
    refine m_R_1 (by decide) (m_opb_of (ins := .iaload) (len := 1) (tag := 0) (a := 0) (b := 0) (c := 0) (q := 0) (by decide +kernel)) (m_s_iald sh_35 (by decide) c1131) ?_
    obtain ⟨c1132, h⟩ := m_ite_n h
    refine m_R_1 (by decide) (m_opb_of (ins := .iaload) (len := 1) (tag := 0) (a := 0) (b := 0) (c := 0) (q := 0) (by decide +kernel)) (m_s_iald sh_21 (by decide) c1132) ?_
    refine m_R_sg (by decide) [(.istore_n 3, 1, 0, 3, 0, 0, 0), (.aload_n 0, 1, 0, 0, 0, 0, 0), (.aload_n 0, 1, 0, 0, 0, 0, 0), (.getfield 28, 3, 0, 10, 2, 3, 508), (.getfield 285, 3, 0, 4, 6, 3, 340), (.iload_n 1, 1, 0, 1, 0, 0, 0), (.bipush 6, 2, 0, 6, 0, 0, 0), (.imul, 1, 0, 0, 0, 0, 0), (.iload_n 2, 1, 0, 2, 0, 0, 0), (.iadd, 1, 0, 0, 0, 0, 0)] (by decide +kernel) (show m_sgl X _ _ _ _ _ = some (67, [some (.ref 16), some (.int v1), some (.int q1.1), some (.int (q1.2.1 21 (q1.2.1 35 v1.toNatClampNeg).toNatClampNeg)), none], [.int ((v1 * (6 : Int32)) + q1.1), .ref 38, .ref 16], (SH, q1.2.1, q1.2.2)) from rfl) ?_
    obtain ⟨c1133, h⟩ := m_ite_n h
    refine m_R_1 (by decide) (m_opb_of (ins := .iaload) (len := 1) (tag := 0) (a := 0) (b := 0) (c := 0) (q := 0) (by decide +kernel)) (m_s_iald sh_38 (by decide) c1133) ?_
    refine m_R_sg (by decide) [(.iload_n 3, 1, 0, 3, 0, 0, 0)] (by decide +kernel) (show m_sgl X _ _ _ _ _ = some (69, [some (.ref 16), some (.int v1), some (.int q1.1), some (.int (q1.2.1 21 (q1.2.1 35 v1.toNatClampNeg).toNatClampNeg)), none], [.int (q1.2.1 21 (q1.2.1 35 v1.toNatClampNeg).toNatClampNeg), .int (q1.2.1 38 ((v1 * (6 : Int32)) + q1.1).toNatClampNeg), .ref 16], (SH, q1.2.1, q1.2.2)) from rfl) ?_
    obtain ⟨q2, hc2, h⟩ := Option.bind_eq_some_iff.mp h
    refine m_R_cV (v := (some (.int q2.1))) (h1 := (SH, q2.2)) (rest := []) (lo' := [some (.ref 16), some (.int (q1.2.1 38 ((v1 * (6 : Int32)) + q1.1).toNatClampNeg)), some (.int (q1.2.1 21 (q1.2.1 35 v1.toNatClampNeg).toNatClampNeg))]) (ml := 3) (k0 := 16) (by decide) (Or.inl rfl) (m_opb_of (ins := .invokevirtual 291) (len := 3) (tag := 5) (a := 151) (b := 2) (c := 0) (q := 1280) (by decide +kernel)) (by decide +kernel) rfl (show m_isO 151 16 (SH, _) = true from m_isO_of (by decide +kernel)) (Nat.le_of_ble_eq_true rfl) rfl rfl (ok_World_farFrom X (d + 0) F _ _ _ _ _ hc2) ?_
    refine m_R_sg (by decide) [(.istore 4, 2, 0, 4, 0, 0, 0), (.aload_n 0, 1, 0, 0, 0, 0, 0), (.getfield 28, 3, 0, 10, 2, 3, 508), (.getfield 288, 3, 0, 4, 10, 3, 352), (.iload_n 1, 1, 0, 1, 0, 0, 0), (.aload_n 0, 1, 0, 0, 0, 0, 0), (.getfield 95, 3, 0, 10, 9, 0, 520), (.iload 4, 2, 0, 4, 0, 0, 0), (.iconst (-1), 1, 0, 1, 1, 0, 0)] (by decide +kernel) (show m_sgl X _ _ _ _ _ = some (89, [some (.ref 16), some (.int v1), some (.int q1.1), some (.int (q1.2.1 21 (q1.2.1 35 v1.toNatClampNeg).toNatClampNeg)), some (.int q2.1)], [.int (-1 : Int32), .int q2.1, .int (q2.2.1 16 9), .int v1, .ref 42], (SH, q2.2.1, q2.2.2)) from rfl) ?_
    rcases m_ite h with ⟨c1134, h⟩ | ⟨c1134, h⟩
    · refine m_R_1 (by decide) (m_opb_of (ins := .if_icmp .ne 8) (len := 3) (tag := 0) (a := 97) (b := 0) (c := 0) (q := 0) (by decide +kernel)) (if_pos c1134) ?_
      refine m_R_sg (by decide) [(.bipush 30, 2, 0, 30, 0, 0, 0), (.goto 9, 3, 0, 103, 0, 0, 0)] (by decide +kernel) (show m_sgl X _ _ _ _ _ = some (103, [some (.ref 16), some (.int v1), some (.int q1.1), some (.int (q1.2.1 21 (q1.2.1 35 v1.toNatClampNeg).toNatClampNeg)), some (.int q2.1)], [.int (30 : Int32), .int (q2.2.1 16 9), .int v1, .ref 42], (SH, q2.2.1, q2.2.2)) from rfl) ?_
      exact ok_World_setAskDay_103 X d F _ _ _ _ _ _ _ _ _ _ _ h
    · refine m_R_1 (by decide) (m_opb_of (ins := .if_icmp .ne 8) (len := 3) (tag := 0) (a := 97) (b := 0) (c := 0) (q := 0) (by decide +kernel)) (if_neg c1134) ?_
      refine m_R_sg (by decide) [(.iconst 1, 1, 0, 1, 0, 0, 0), (.iload 4, 2, 0, 4, 0, 0, 0)] (by decide +kernel) (show m_sgl X _ _ _ _ _ = some (100, [some (.ref 16), some (.int v1), some (.int q1.1), some (.int (q1.2.1 21 (q1.2.1 35 v1.toNatClampNeg).toNatClampNeg)), some (.int q2.1)], [.int q2.1, .int (1 : Int32), .int (q2.2.1 16 9), .int v1, .ref 42], (SH, q2.2.1, q2.2.2)) from rfl) ?_
      obtain ⟨q3, hc3, h⟩ := Option.bind_eq_some_iff.mp h
      refine m_R_cS (v := (some (.int q3.1))) (h1 := (SH, q3.2)) (rest := [.int (q2.2.1 16 9), .int v1, .ref 42]) (lo' := [some (.int (1 : Int32)), some (.int q2.1)]) (ml := 2) (by decide) (m_opb_of (ins := .invokestatic 294) (len := 3) (tag := 4) (a := 38) (b := 2) (c := 0) (q := 1285) (by decide +kernel)) (by decide +kernel) (Nat.le_of_ble_eq_true rfl) rfl (Nat.le_of_ble_eq_true rfl) rfl rfl (ok_Math_max X (d + 2) F _ _ _ _ _ hc3) ?_
      exact ok_World_setAskDay_103 X d F _ _ _ _ _ _ _ _ _ _ _ h
def f_World_settle_113 (F : Nat)   (v1 : Int32) (v2 : Int32) (v3 : Int32) (v4 : Int32) (m : mM) : Option (Unit × mM) := ((f_World_transfer F v2 v3 v4 m).bind fun q4 => ((f_Papers_payOff F v1 q4.2).bind fun q5 => some ((), q5.2)))
theorem ok_World_settle_113 (X : mX) (d F : Nat) : ∀ (v1 : Int32) (v2 : Int32) (v3 : Int32) (v4 : Int32) (w5 : Option Value) (m : mM) (r : Unit) (m' : mM), f_World_settle_113 F v1 v2 v3 v4 m = some (r, m') → m_R X (d + 4) 147 113 [some (.ref 16), some (.int v1), some (.int v2), some (.int v3), some (.int v4), w5] [] (SH, m) (none, (SH, m')) := by
  intro v1 v2 v3 v4 w5 m r m' h
  unfold f_World_settle_113 at h
  refine m_R_sg (by decide) [(.aload_n 0, 1, 0, 0, 0, 0, 0), (.iload_n 2, 1, 0, 2, 0, 0, 0), (.iload_n 3, 1, 0, 3, 0, 0, 0), (.iload 4, 2, 0, 4, 0, 0, 0)] (by decide +kernel) (show m_sgl X _ _ _ _ _ = some (118, [some (.ref 16), some (.int v1), some (.int v2), some (.int v3), some (.int v4), w5], [.int v4, .int v3, .int v2, .ref 16], (SH, m.1, m.2)) from rfl) ?_
  obtain ⟨q4, hc4, h⟩ := Option.bind_eq_some_iff.mp h
  refine m_R_cV (v := none) (h1 := (SH, q4.2)) (rest := []) (lo' := [some (.ref 16), some (.int v2), some (.int v3), some (.int v4), none]) (ml := 5) (k0 := 16) (by decide) (Or.inl rfl) (m_opb_of (ins := .invokevirtual 225) (len := 3) (tag := 5) (a := 51) (b := 3) (c := 0) (q := 942) (by decide +kernel)) (by decide +kernel) rfl (show m_isO 51 16 (SH, _) = true from m_isO_of (by decide +kernel)) (Nat.le_of_ble_eq_true rfl) rfl rfl (ok_World_transfer X (d + 1) F _ _ _ _ _ _ hc4) ?_
  refine m_R_sg (by decide) [(.aload_n 0, 1, 0, 0, 0, 0, 0), (.getfield 28, 3, 0, 10, 2, 3, 508), (.iload_n 1, 1, 0, 1, 0, 0, 0)] (by decide +kernel) (show m_sgl X _ _ _ _ _ = some (126, [some (.ref 16), some (.int v1), some (.int v2), some (.int v3), some (.int v4), w5], [.int v1, .ref 31], (SH, q4.2.1, q4.2.2)) from rfl) ?_
  obtain ⟨q5, hc5, h⟩ := Option.bind_eq_some_iff.mp h
  refine m_R_cV (v := none) (h1 := (SH, q5.2)) (rest := []) (lo' := [some (.ref 31), some (.int v1)]) (ml := 2) (k0 := 31) (by decide) (Or.inl rfl) (m_opb_of (ins := .invokevirtual 258) (len := 3) (tag := 5) (a := 88) (b := 1) (c := 0) (q := 975) (by decide +kernel)) (by decide +kernel) rfl (show m_isO 88 31 (SH, _) = true from m_isO_of (by decide +kernel)) (Nat.le_of_ble_eq_true rfl) rfl rfl (ok_Papers_payOff X (d + 2) F _ _ _ _ hc5) ?_
  obtain ⟨rfl, rfl⟩ := m_some h
  exact m_R_vret (by decide) (m_opb_of (ins := .return_) (len := 1) (tag := 3) (a := 0) (b := 0) (c := 0) (q := 0) (by decide +kernel))
def f_World_settle_178 (F : Nat)    (m : mM) : Option (Unit × mM) := some ((), m)
theorem ok_World_settle_178 (X : mX) (d F : Nat) : ∀  (w0 : Option Value) (w1 : Option Value) (w2 : Option Value) (w3 : Option Value) (w4 : Option Value) (w5 : Option Value) (m : mM) (r : Unit) (m' : mM), f_World_settle_178 F  m = some (r, m') → m_R X (d + 4) 147 178 [w0, w1, w2, w3, w4, w5] [] (SH, m) (none, (SH, m')) := by
  intro w0 w1 w2 w3 w4 w5 m r m' h
  unfold f_World_settle_178 at h
  obtain ⟨rfl, rfl⟩ := m_some h
  exact m_R_vret (by decide) (m_opb_of (ins := .return_) (len := 1) (tag := 3) (a := 0) (b := 0) (c := 0) (q := 0) (by decide +kernel))
def f_World_settle_142 (F : Nat)   (v1 : Int32) (m : mM) : Option (Unit × mM) := (if v1 < 0 ∨ 60 ≤ v1.toNatClampNeg then none else (if (m.1 32 v1.toNatClampNeg) = (1 : Int32) then ((f_Papers_strikeHolder F v1 ((m_up m.1 37 v1.toNatClampNeg (1 : Int32)), m.2)).bind fun q7 => ((f_World_setAskDay F v1 q7.2).bind fun q8 => f_World_settle_178 F q8.2)) else f_World_settle_178 F m))
theorem ok_World_settle_142 (X : mX) (d F : Nat) : ∀ (v1 : Int32) (w2 : Option Value) (w3 : Option Value) (w4 : Option Value) (w5 : Option Value) (m : mM) (r : Unit) (m' : mM), f_World_settle_142 F v1 m = some (r, m') → m_R X (d + 4) 147 142 [some (.ref 16), some (.int v1), w2, w3, w4, w5] [] (SH, m) (none, (SH, m')) := by
  intro v1 w2 w3 w4 w5 m r m' h
  unfold f_World_settle_142 at h
  refine m_R_sg (by decide) [(.aload_n 0, 1, 0, 0, 0, 0, 0), (.getfield 28, 3, 0, 10, 2, 3, 508), (.getfield 270, 3, 0, 4, 0, 3, 319), (.iload_n 1, 1, 0, 1, 0, 0, 0)] (by decide +kernel) (show m_sgl X _ _ _ _ _ = some (150, [some (.ref 16), some (.int v1), w2, w3, w4, w5], [.int v1, .ref 32], (SH, m.1, m.2)) from rfl) ?_
  obtain ⟨c1135, h⟩ := m_ite_n h
  refine m_R_1 (by decide) (m_opb_of (ins := .iaload) (len := 1) (tag := 0) (a := 0) (b := 0) (c := 0) (q := 0) (by decide +kernel)) (m_s_iald sh_32 (by decide) c1135) ?_
  refine m_R_sg (by decide) [(.iconst 1, 1, 0, 1, 0, 0, 0)] (by decide +kernel) (show m_sgl X _ _ _ _ _ = some (152, [some (.ref 16), some (.int v1), w2, w3, w4, w5], [.int (1 : Int32), .int (m.1 32 v1.toNatClampNeg)], (SH, m.1, m.2)) from rfl) ?_
  rcases m_ite h with ⟨c1136, h⟩ | ⟨c1136, h⟩
  · refine m_R_1 (by decide) (m_opb_of (ins := .if_icmp .ne 26) (len := 3) (tag := 0) (a := 178) (b := 0) (c := 0) (q := 0) (by decide +kernel)) (if_pos c1136) ?_
    refine m_R_sg (by decide) [(.aload_n 0, 1, 0, 0, 0, 0, 0), (.getfield 28, 3, 0, 10, 2, 3, 508), (.getfield 273, 3, 0, 4, 5, 3, 337), (.iload_n 1, 1, 0, 1, 0, 0, 0), (.iconst 1, 1, 0, 1, 0, 0, 0)] (by decide +kernel) (show m_sgl X _ _ _ _ _ = some (164, [some (.ref 16), some (.int v1), w2, w3, w4, w5], [.int (1 : Int32), .int v1, .ref 37], (SH, m.1, m.2)) from rfl) ?_
    refine m_R_1 (by decide) (m_opb_of (ins := .iastore) (len := 1) (tag := 0) (a := 0) (b := 0) (c := 0) (q := 0) (by decide +kernel)) (m_s_iast sh_37 c1135) ?_
    refine m_R_sg (by decide) [(.aload_n 0, 1, 0, 0, 0, 0, 0), (.getfield 28, 3, 0, 10, 2, 3, 508), (.iload_n 1, 1, 0, 1, 0, 0, 0)] (by decide +kernel) (show m_sgl X _ _ _ _ _ = some (170, [some (.ref 16), some (.int v1), w2, w3, w4, w5], [.int v1, .ref 31], (SH, (m_up m.1 37 v1.toNatClampNeg (1 : Int32)), m.2)) from rfl) ?_
    obtain ⟨q7, hc7, h⟩ := Option.bind_eq_some_iff.mp h
    refine m_R_cV (v := none) (h1 := (SH, q7.2)) (rest := []) (lo' := [some (.ref 31), some (.int v1), none]) (ml := 3) (k0 := 31) (by decide) (Or.inl rfl) (m_opb_of (ins := .invokevirtual 276) (len := 3) (tag := 5) (a := 148) (b := 1) (c := 0) (q := 1268) (by decide +kernel)) (by decide +kernel) rfl (show m_isO 148 31 (SH, _) = true from m_isO_of (by decide +kernel)) (Nat.le_of_ble_eq_true rfl) rfl rfl (ok_Papers_strikeHolder X (d + 3) F _ _ _ _ hc7) ?_
    refine m_R_sg (by decide) [(.aload_n 0, 1, 0, 0, 0, 0, 0), (.iload_n 1, 1, 0, 1, 0, 0, 0)] (by decide +kernel) (show m_sgl X _ _ _ _ _ = some (175, [some (.ref 16), some (.int v1), w2, w3, w4, w5], [.int v1, .ref 16], (SH, q7.2.1, q7.2.2)) from rfl) ?_
    obtain ⟨q8, hc8, h⟩ := Option.bind_eq_some_iff.mp h
    refine m_R_cV (v := none) (h1 := (SH, q8.2)) (rest := []) (lo' := [some (.ref 16), some (.int v1), none, none, none]) (ml := 5) (k0 := 16) (by decide) (Or.inl rfl) (m_opb_of (ins := .invokevirtual 279) (len := 3) (tag := 5) (a := 149) (b := 1) (c := 0) (q := 1272) (by decide +kernel)) (by decide +kernel) rfl (show m_isO 149 16 (SH, _) = true from m_isO_of (by decide +kernel)) (Nat.le_of_ble_eq_true rfl) rfl rfl (ok_World_setAskDay X (d + 0) F _ _ _ _ hc8) ?_
    exact ok_World_settle_178 X d F _ _ _ _ _ _ _ _ _ h
  · refine m_R_1 (by decide) (m_opb_of (ins := .if_icmp .ne 26) (len := 3) (tag := 0) (a := 178) (b := 0) (c := 0) (q := 0) (by decide +kernel)) (if_neg c1136) ?_
    exact ok_World_settle_178 X d F _ _ _ _ _ _ _ _ _ h
def f_World_settle_130 (F : Nat)   (v1 : Int32) (v2 : Int32) (v5 : Int32) (m : mM) : Option (Unit × mM) := (if v5 = 0 then f_World_settle_142 F v1 m else ((f_World_fail F v1 v2 (0 : Int32) m).bind fun q6 => f_World_settle_142 F v1 q6.2))
theorem ok_World_settle_130 (X : mX) (d F : Nat) : ∀ (v1 : Int32) (v2 : Int32) (v5 : Int32) (w3 : Option Value) (w4 : Option Value) (m : mM) (r : Unit) (m' : mM), f_World_settle_130 F v1 v2 v5 m = some (r, m') → m_R X (d + 4) 147 130 [some (.ref 16), some (.int v1), some (.int v2), w3, w4, some (.int v5)] [] (SH, m) (none, (SH, m')) := by
  intro v1 v2 v5 w3 w4 m r m' h
  unfold f_World_settle_130 at h
  refine m_R_sg (by decide) [(.iload 5, 2, 0, 5, 0, 0, 0)] (by decide +kernel) (show m_sgl X _ _ _ _ _ = some (132, [some (.ref 16), some (.int v1), some (.int v2), w3, w4, some (.int v5)], [.int v5], (SH, m.1, m.2)) from rfl) ?_
  rcases m_ite h with ⟨c1137, h⟩ | ⟨c1137, h⟩
  · refine m_R_1 (by decide) (m_opb_of (ins := .ifCond .eq 10) (len := 3) (tag := 0) (a := 142) (b := 0) (c := 0) (q := 0) (by decide +kernel)) (if_pos c1137) ?_
    exact ok_World_settle_142 X d F _ _ _ _ _ _ _ _ h
  · refine m_R_1 (by decide) (m_opb_of (ins := .ifCond .eq 10) (len := 3) (tag := 0) (a := 142) (b := 0) (c := 0) (q := 0) (by decide +kernel)) (if_neg c1137) ?_
    refine m_R_sg (by decide) [(.aload_n 0, 1, 0, 0, 0, 0, 0), (.iload_n 1, 1, 0, 1, 0, 0, 0), (.iload_n 2, 1, 0, 2, 0, 0, 0), (.iconst 0, 1, 0, 0, 0, 0, 0)] (by decide +kernel) (show m_sgl X _ _ _ _ _ = some (139, [some (.ref 16), some (.int v1), some (.int v2), w3, w4, some (.int v5)], [.int (0 : Int32), .int v2, .int v1, .ref 16], (SH, m.1, m.2)) from rfl) ?_
    obtain ⟨q6, hc6, h⟩ := Option.bind_eq_some_iff.mp h
    refine m_R_cV (v := none) (h1 := (SH, q6.2)) (rest := []) (lo' := [some (.ref 16), some (.int v1), some (.int v2), some (.int (0 : Int32))]) (ml := 4) (k0 := 16) (by decide) (Or.inl rfl) (m_opb_of (ins := .invokevirtual 261) (len := 3) (tag := 5) (a := 90) (b := 3) (c := 0) (q := 983) (by decide +kernel)) (by decide +kernel) rfl (show m_isO 90 16 (SH, _) = true from m_isO_of (by decide +kernel)) (Nat.le_of_ble_eq_true rfl) rfl rfl (ok_World_fail X (d + 1) F _ _ _ _ _ _ hc6) ?_
    exact ok_World_settle_142 X d F _ _ _ _ _ _ _ _ h
def f_World_settle_92 (F : Nat)   (v1 : Int32) (v2 : Int32) (v3 : Int32) (v4 : Int32) (v5 : Int32) (m : mM) : Option (Unit × mM) := (if v3 = v2 then f_World_settle_113 F v1 v2 v3 v4 m else (if v5 = 0 then f_World_settle_130 F v1 v2 v5 m else ((f_World_houseCan F v2 v3 v4 m).bind fun q3 => (if q3.1 = 0 then f_World_settle_130 F v1 v2 v5 q3.2 else f_World_settle_113 F v1 v2 v3 v4 q3.2))))
theorem ok_World_settle_92 (X : mX) (d F : Nat) : ∀ (v1 : Int32) (v2 : Int32) (v3 : Int32) (v4 : Int32) (v5 : Int32)  (m : mM) (r : Unit) (m' : mM), f_World_settle_92 F v1 v2 v3 v4 v5 m = some (r, m') → m_R X (d + 4) 147 92 [some (.ref 16), some (.int v1), some (.int v2), some (.int v3), some (.int v4), some (.int v5)] [] (SH, m) (none, (SH, m')) := by
  intro v1 v2 v3 v4 v5 m r m' h
  unfold f_World_settle_92 at h
  refine m_R_sg (by decide) [(.iload_n 3, 1, 0, 3, 0, 0, 0), (.iload_n 2, 1, 0, 2, 0, 0, 0)] (by decide +kernel) (show m_sgl X _ _ _ _ _ = some (94, [some (.ref 16), some (.int v1), some (.int v2), some (.int v3), some (.int v4), some (.int v5)], [.int v2, .int v3], (SH, m.1, m.2)) from rfl) ?_
  rcases m_ite h with ⟨c1138, h⟩ | ⟨c1138, h⟩
  · refine m_R_1 (by decide) (m_opb_of (ins := .if_icmp .eq 19) (len := 3) (tag := 0) (a := 113) (b := 0) (c := 0) (q := 0) (by decide +kernel)) (if_pos c1138) ?_
    exact ok_World_settle_113 X d F _ _ _ _ _ _ _ _ h
  · refine m_R_1 (by decide) (m_opb_of (ins := .if_icmp .eq 19) (len := 3) (tag := 0) (a := 113) (b := 0) (c := 0) (q := 0) (by decide +kernel)) (if_neg c1138) ?_
    refine m_R_sg (by decide) [(.iload 5, 2, 0, 5, 0, 0, 0)] (by decide +kernel) (show m_sgl X _ _ _ _ _ = some (99, [some (.ref 16), some (.int v1), some (.int v2), some (.int v3), some (.int v4), some (.int v5)], [.int v5], (SH, m.1, m.2)) from rfl) ?_
    rcases m_ite h with ⟨c1139, h⟩ | ⟨c1139, h⟩
    · refine m_R_1 (by decide) (m_opb_of (ins := .ifCond .eq 31) (len := 3) (tag := 0) (a := 130) (b := 0) (c := 0) (q := 0) (by decide +kernel)) (if_pos c1139) ?_
      exact ok_World_settle_130 X d F _ _ _ _ _ _ _ _ h
    · refine m_R_1 (by decide) (m_opb_of (ins := .ifCond .eq 31) (len := 3) (tag := 0) (a := 130) (b := 0) (c := 0) (q := 0) (by decide +kernel)) (if_neg c1139) ?_
      refine m_R_sg (by decide) [(.aload_n 0, 1, 0, 0, 0, 0, 0), (.iload_n 2, 1, 0, 2, 0, 0, 0), (.iload_n 3, 1, 0, 3, 0, 0, 0), (.iload 4, 2, 0, 4, 0, 0, 0)] (by decide +kernel) (show m_sgl X _ _ _ _ _ = some (107, [some (.ref 16), some (.int v1), some (.int v2), some (.int v3), some (.int v4), some (.int v5)], [.int v4, .int v3, .int v2, .ref 16], (SH, m.1, m.2)) from rfl) ?_
      obtain ⟨q3, hc3, h⟩ := Option.bind_eq_some_iff.mp h
      refine m_R_cV (v := (some (.int q3.1))) (h1 := (SH, q3.2)) (rest := []) (lo' := [some (.ref 16), some (.int v2), some (.int v3), some (.int v4), none]) (ml := 5) (k0 := 16) (by decide) (Or.inl rfl) (m_opb_of (ins := .invokevirtual 169) (len := 3) (tag := 5) (a := 48) (b := 3) (c := 0) (q := 805) (by decide +kernel)) (by decide +kernel) rfl (show m_isO 48 16 (SH, _) = true from m_isO_of (by decide +kernel)) (Nat.le_of_ble_eq_true rfl) rfl rfl (ok_World_houseCan X (d + 2) F _ _ _ _ _ _ hc3) ?_
      rcases m_ite h with ⟨c1140, h⟩ | ⟨c1140, h⟩
      · refine m_R_1 (by decide) (m_opb_of (ins := .ifCond .eq 20) (len := 3) (tag := 0) (a := 130) (b := 0) (c := 0) (q := 0) (by decide +kernel)) (if_pos c1140) ?_
        exact ok_World_settle_130 X d F _ _ _ _ _ _ _ _ h
      · refine m_R_1 (by decide) (m_opb_of (ins := .ifCond .eq 20) (len := 3) (tag := 0) (a := 130) (b := 0) (c := 0) (q := 0) (by decide +kernel)) (if_neg c1140) ?_
        exact ok_World_settle_113 X d F _ _ _ _ _ _ _ _ h
def f_World_settle (F : Nat)   (v1 : Int32) (m : mM) : Option (Unit × mM) := (if v1 < 0 ∨ 60 ≤ v1.toNatClampNeg then none else ((f_Houses_isUp F (m.1 34 v1.toNatClampNeg) m).bind fun q1 => (if q1.1 = 0 then f_World_settle_92 F v1 (m.1 34 v1.toNatClampNeg) (m.1 35 v1.toNatClampNeg) (m.1 33 v1.toNatClampNeg) q1.1 q1.2 else (if (q1.2.1 43 v1.toNatClampNeg) = (1 : Int32) then (if (m.1 34 v1.toNatClampNeg) < 0 ∨ 16 ≤ (m.1 34 v1.toNatClampNeg).toNatClampNeg then none else ((f_Seasons_filled F (0 : Int32) ((q1.2.1 16 9) / (7 : Int32)) q1.2).bind fun q2 => f_World_settle_92 F v1 (m.1 34 v1.toNatClampNeg) (m.1 35 v1.toNatClampNeg) (m.1 33 v1.toNatClampNeg) q1.1 ((m_up q2.2.1 22 (m.1 34 v1.toNatClampNeg).toNatClampNeg ((q1.2.1 22 (m.1 34 v1.toNatClampNeg).toNatClampNeg) + (((m.1 33 v1.toNatClampNeg) * q2.1) / (100 : Int32)))), q2.2.2))) else f_World_settle_92 F v1 (m.1 34 v1.toNatClampNeg) (m.1 35 v1.toNatClampNeg) (m.1 33 v1.toNatClampNeg) q1.1 q1.2))))
theorem ok_World_settle (X : mX) (d F : Nat) : ∀ (v1 : Int32)  (m : mM) (r : Unit) (m' : mM), f_World_settle F v1 m = some (r, m') → m_R X (d + 4) 147 0 [some (.ref 16), some (.int v1), none, none, none, none] [] (SH, m) (none, (SH, m')) := by
  intro v1 m r m' h
  unfold f_World_settle at h
  refine m_R_sg (by decide) [(.aload_n 0, 1, 0, 0, 0, 0, 0), (.getfield 28, 3, 0, 10, 2, 3, 508), (.getfield 144, 3, 0, 4, 2, 3, 327), (.iload_n 1, 1, 0, 1, 0, 0, 0)] (by decide +kernel) (show m_sgl X _ _ _ _ _ = some (8, [some (.ref 16), some (.int v1), none, none, none, none], [.int v1, .ref 34], (SH, m.1, m.2)) from rfl) ?_
  obtain ⟨c1141, h⟩ := m_ite_n h
  refine m_R_1 (by decide) (m_opb_of (ins := .iaload) (len := 1) (tag := 0) (a := 0) (b := 0) (c := 0) (q := 0) (by decide +kernel)) (m_s_iald sh_34 (by decide) c1141) ?_
  refine m_R_sg (by decide) [(.istore_n 2, 1, 0, 2, 0, 0, 0), (.aload_n 0, 1, 0, 0, 0, 0, 0), (.getfield 28, 3, 0, 10, 2, 3, 508), (.getfield 212, 3, 0, 4, 3, 3, 331), (.iload_n 1, 1, 0, 1, 0, 0, 0)] (by decide +kernel) (show m_sgl X _ _ _ _ _ = some (18, [some (.ref 16), some (.int v1), some (.int (m.1 34 v1.toNatClampNeg)), none, none, none], [.int v1, .ref 35], (SH, m.1, m.2)) from rfl) ?_
  refine m_R_1 (by decide) (m_opb_of (ins := .iaload) (len := 1) (tag := 0) (a := 0) (b := 0) (c := 0) (q := 0) (by decide +kernel)) (m_s_iald sh_35 (by decide) c1141) ?_
  refine m_R_sg (by decide) [(.istore_n 3, 1, 0, 3, 0, 0, 0), (.aload_n 0, 1, 0, 0, 0, 0, 0), (.getfield 28, 3, 0, 10, 2, 3, 508), (.getfield 135, 3, 0, 4, 1, 3, 323), (.iload_n 1, 1, 0, 1, 0, 0, 0)] (by decide +kernel) (show m_sgl X _ _ _ _ _ = some (28, [some (.ref 16), some (.int v1), some (.int (m.1 34 v1.toNatClampNeg)), some (.int (m.1 35 v1.toNatClampNeg)), none, none], [.int v1, .ref 33], (SH, m.1, m.2)) from rfl) ?_
  refine m_R_1 (by decide) (m_opb_of (ins := .iaload) (len := 1) (tag := 0) (a := 0) (b := 0) (c := 0) (q := 0) (by decide +kernel)) (m_s_iald sh_33 (by decide) c1141) ?_
  refine m_R_sg (by decide) [(.istore 4, 2, 0, 4, 0, 0, 0), (.aload_n 0, 1, 0, 0, 0, 0, 0), (.getfield 21, 3, 0, 10, 1, 3, 505), (.iload_n 2, 1, 0, 2, 0, 0, 0)] (by decide +kernel) (show m_sgl X _ _ _ _ _ = some (36, [some (.ref 16), some (.int v1), some (.int (m.1 34 v1.toNatClampNeg)), some (.int (m.1 35 v1.toNatClampNeg)), some (.int (m.1 33 v1.toNatClampNeg)), none], [.int (m.1 34 v1.toNatClampNeg), .ref 19], (SH, m.1, m.2)) from rfl) ?_
  obtain ⟨q1, hc1, h⟩ := Option.bind_eq_some_iff.mp h
  refine m_R_cV (v := (some (.int q1.1))) (h1 := (SH, q1.2)) (rest := []) (lo' := [some (.ref 19), some (.int (m.1 34 v1.toNatClampNeg))]) (ml := 2) (k0 := 19) (by decide) (Or.inl rfl) (m_opb_of (ins := .invokevirtual 250) (len := 3) (tag := 5) (a := 25) (b := 1) (c := 0) (q := 965) (by decide +kernel)) (by decide +kernel) rfl (show m_isO 25 19 (SH, _) = true from m_isO_of (by decide +kernel)) (Nat.le_of_ble_eq_true rfl) rfl rfl (ok_Houses_isUp X (d + 2) F _ _ _ _ hc1) ?_
  refine m_R_sg (by decide) [(.istore 5, 2, 0, 5, 0, 0, 0), (.iload 5, 2, 0, 5, 0, 0, 0)] (by decide +kernel) (show m_sgl X _ _ _ _ _ = some (43, [some (.ref 16), some (.int v1), some (.int (m.1 34 v1.toNatClampNeg)), some (.int (m.1 35 v1.toNatClampNeg)), some (.int (m.1 33 v1.toNatClampNeg)), some (.int q1.1)], [.int q1.1], (SH, q1.2.1, q1.2.2)) from rfl) ?_
  rcases m_ite h with ⟨c1142, h⟩ | ⟨c1142, h⟩
  · refine m_R_1 (by decide) (m_opb_of (ins := .ifCond .eq 49) (len := 3) (tag := 0) (a := 92) (b := 0) (c := 0) (q := 0) (by decide +kernel)) (if_pos c1142) ?_
    exact ok_World_settle_92 X d F _ _ _ _ _ _ _ _ h
  · refine m_R_1 (by decide) (m_opb_of (ins := .ifCond .eq 49) (len := 3) (tag := 0) (a := 92) (b := 0) (c := 0) (q := 0) (by decide +kernel)) (if_neg c1142) ?_
    refine m_R_sg (by decide) [(.aload_n 0, 1, 0, 0, 0, 0, 0), (.getfield 28, 3, 0, 10, 2, 3, 508), (.getfield 264, 3, 0, 4, 11, 3, 355), (.iload_n 1, 1, 0, 1, 0, 0, 0)] (by decide +kernel) (show m_sgl X _ _ _ _ _ = some (54, [some (.ref 16), some (.int v1), some (.int (m.1 34 v1.toNatClampNeg)), some (.int (m.1 35 v1.toNatClampNeg)), some (.int (m.1 33 v1.toNatClampNeg)), some (.int q1.1)], [.int v1, .ref 43], (SH, q1.2.1, q1.2.2)) from rfl) ?_
    refine m_R_1 (by decide) (m_opb_of (ins := .iaload) (len := 1) (tag := 0) (a := 0) (b := 0) (c := 0) (q := 0) (by decide +kernel)) (m_s_iald sh_43 (by decide) c1141) ?_
    refine m_R_sg (by decide) [(.iconst 1, 1, 0, 1, 0, 0, 0)] (by decide +kernel) (show m_sgl X _ _ _ _ _ = some (56, [some (.ref 16), some (.int v1), some (.int (m.1 34 v1.toNatClampNeg)), some (.int (m.1 35 v1.toNatClampNeg)), some (.int (m.1 33 v1.toNatClampNeg)), some (.int q1.1)], [.int (1 : Int32), .int (q1.2.1 43 v1.toNatClampNeg)], (SH, q1.2.1, q1.2.2)) from rfl) ?_
    rcases m_ite h with ⟨c1143, h⟩ | ⟨c1143, h⟩
    · refine m_R_1 (by decide) (m_opb_of (ins := .if_icmp .ne 36) (len := 3) (tag := 0) (a := 92) (b := 0) (c := 0) (q := 0) (by decide +kernel)) (if_pos c1143) ?_
      refine m_R_sg (by decide) [(.aload_n 0, 1, 0, 0, 0, 0, 0), (.getfield 21, 3, 0, 10, 1, 3, 505), (.getfield 107, 3, 0, 1, 2, 3, 255), (.iload_n 2, 1, 0, 2, 0, 0, 0), (.dup2, 1, 0, 0, 0, 0, 0)] (by decide +kernel) (show m_sgl X _ _ _ _ _ = some (68, [some (.ref 16), some (.int v1), some (.int (m.1 34 v1.toNatClampNeg)), some (.int (m.1 35 v1.toNatClampNeg)), some (.int (m.1 33 v1.toNatClampNeg)), some (.int q1.1)], [.int (m.1 34 v1.toNatClampNeg), .ref 22, .int (m.1 34 v1.toNatClampNeg), .ref 22], (SH, q1.2.1, q1.2.2)) from rfl) ?_
      obtain ⟨c1144, h⟩ := m_ite_n h
      refine m_R_1 (by decide) (m_opb_of (ins := .iaload) (len := 1) (tag := 0) (a := 0) (b := 0) (c := 0) (q := 0) (by decide +kernel)) (m_s_iald sh_22 (by decide) c1144) ?_
      refine m_R_sg (by decide) [(.iload 4, 2, 0, 4, 0, 0, 0), (.aload_n 0, 1, 0, 0, 0, 0, 0), (.getfield 42, 3, 0, 10, 4, 3, 513), (.iconst 0, 1, 0, 0, 0, 0, 0), (.aload_n 0, 1, 0, 0, 0, 0, 0), (.getfield 95, 3, 0, 10, 9, 0, 520), (.bipush 7, 2, 0, 7, 0, 0, 0)] (by decide +kernel) (show m_sgl X _ _ _ _ _ = some (82, [some (.ref 16), some (.int v1), some (.int (m.1 34 v1.toNatClampNeg)), some (.int (m.1 35 v1.toNatClampNeg)), some (.int (m.1 33 v1.toNatClampNeg)), some (.int q1.1)], [.int (7 : Int32), .int (q1.2.1 16 9), .int (0 : Int32), .ref 52, .int (m.1 33 v1.toNatClampNeg), .int (q1.2.1 22 (m.1 34 v1.toNatClampNeg).toNatClampNeg), .int (m.1 34 v1.toNatClampNeg), .ref 22], (SH, q1.2.1, q1.2.2)) from rfl) ?_
      refine m_R_1 (by decide) (m_opb_of (ins := .idiv) (len := 1) (tag := 0) (a := 0) (b := 0) (c := 0) (q := 0) (by decide +kernel)) (m_s_idiv (by decide)) ?_
      obtain ⟨q2, hc2, h⟩ := Option.bind_eq_some_iff.mp h
      refine m_R_cV (v := (some (.int q2.1))) (h1 := (SH, q2.2)) (rest := [.int (m.1 33 v1.toNatClampNeg), .int (q1.2.1 22 (m.1 34 v1.toNatClampNeg).toNatClampNeg), .int (m.1 34 v1.toNatClampNeg), .ref 22]) (lo' := [some (.ref 52), some (.int (0 : Int32)), some (.int ((q1.2.1 16 9) / (7 : Int32))), none, none, none]) (ml := 6) (k0 := 52) (by decide) (Or.inl rfl) (m_opb_of (ins := .invokevirtual 267) (len := 3) (tag := 5) (a := 112) (b := 2) (c := 0) (q := 1267) (by decide +kernel)) (by decide +kernel) rfl (show m_isO 112 52 (SH, _) = true from m_isO_of (by decide +kernel)) (Nat.le_of_ble_eq_true rfl) rfl rfl (ok_Seasons_filled X (d + 2) F _ _ _ _ _ hc2) ?_
      refine m_R_sg (by decide) [(.imul, 1, 0, 0, 0, 0, 0), (.bipush 100, 2, 0, 100, 0, 0, 0)] (by decide +kernel) (show m_sgl X _ _ _ _ _ = some (89, [some (.ref 16), some (.int v1), some (.int (m.1 34 v1.toNatClampNeg)), some (.int (m.1 35 v1.toNatClampNeg)), some (.int (m.1 33 v1.toNatClampNeg)), some (.int q1.1)], [.int (100 : Int32), .int ((m.1 33 v1.toNatClampNeg) * q2.1), .int (q1.2.1 22 (m.1 34 v1.toNatClampNeg).toNatClampNeg), .int (m.1 34 v1.toNatClampNeg), .ref 22], (SH, q2.2.1, q2.2.2)) from rfl) ?_
      refine m_R_1 (by decide) (m_opb_of (ins := .idiv) (len := 1) (tag := 0) (a := 0) (b := 0) (c := 0) (q := 0) (by decide +kernel)) (m_s_idiv (by decide)) ?_
      refine m_R_sg (by decide) [(.iadd, 1, 0, 0, 0, 0, 0)] (by decide +kernel) (show m_sgl X _ _ _ _ _ = some (91, [some (.ref 16), some (.int v1), some (.int (m.1 34 v1.toNatClampNeg)), some (.int (m.1 35 v1.toNatClampNeg)), some (.int (m.1 33 v1.toNatClampNeg)), some (.int q1.1)], [.int ((q1.2.1 22 (m.1 34 v1.toNatClampNeg).toNatClampNeg) + (((m.1 33 v1.toNatClampNeg) * q2.1) / (100 : Int32))), .int (m.1 34 v1.toNatClampNeg), .ref 22], (SH, q2.2.1, q2.2.2)) from rfl) ?_
      refine m_R_1 (by decide) (m_opb_of (ins := .iastore) (len := 1) (tag := 0) (a := 0) (b := 0) (c := 0) (q := 0) (by decide +kernel)) (m_s_iast sh_22 c1144) ?_
      exact ok_World_settle_92 X d F _ _ _ _ _ _ _ _ h
    · refine m_R_1 (by decide) (m_opb_of (ins := .if_icmp .ne 36) (len := 3) (tag := 0) (a := 92) (b := 0) (c := 0) (q := 0) (by decide +kernel)) (if_neg c1143) ?_
      exact ok_World_settle_92 X d F _ _ _ _ _ _ _ _ h
def f_World_payDue_46 (F : Nat)  (k2 : Int32 → mM → Option (Unit × mM)) (v1 : Int32) (m : mM) : Option (Unit × mM) := k2 (v1 + (1 : Int32)) m
theorem ok_World_payDue_46 (X : mX) (d F : Nat) (k2 : Int32 → mM → Option (Unit × mM)) (hk2 : ∀ (v1 : Int32) (m : mM) (r : Unit) (m' : mM), k2 v1 m = some (r, m') → m_R X (d + 5) 146 2 [some (.ref 16), some (.int v1)] [] (SH, m) (none, (SH, m'))) : ∀ (v1 : Int32)  (m : mM) (r : Unit) (m' : mM), f_World_payDue_46 F k2 v1 m = some (r, m') → m_R X (d + 5) 146 46 [some (.ref 16), some (.int v1)] [] (SH, m) (none, (SH, m')) := by
  intro v1 m r m' h
  unfold f_World_payDue_46 at h
  refine m_R_sg (by decide) [(.iinc 1 1, 3, 0, 1, 1, 0, 0), (.goto (-47), 3, 0, 2, 0, 0, 0)] (by decide +kernel) (show m_sgl X _ _ _ _ _ = some (2, [some (.ref 16), some (.int (v1 + (1 : Int32)))], [], (SH, m.1, m.2)) from rfl) ?_
  exact hk2 _ _ _ _ h
def f_World_payDue_2 (F : Nat)   : Nat → Int32 → mM → Option (Unit × mM)
  | 0, _, _ => none
  | n + 1, v1, m => (if (m.1 31 15) ≤ v1 then some ((), m) else (if v1 < 0 ∨ 60 ≤ v1.toNatClampNeg then none else (if (m.1 37 v1.toNatClampNeg) = 0 then (if (m.1 36 v1.toNatClampNeg) = (m.1 16 9) then ((f_World_settle F v1 m).bind fun q1 => f_World_payDue_46 F (f_World_payDue_2 F n) v1 q1.2) else f_World_payDue_46 F (f_World_payDue_2 F n) v1 m) else f_World_payDue_46 F (f_World_payDue_2 F n) v1 m)))
theorem ok_World_payDue_2 (X : mX) (d F : Nat) : ∀ (n : Nat) (v1 : Int32)  (m : mM) (r : Unit) (m' : mM), f_World_payDue_2 F n v1 m = some (r, m') → m_R X (d + 5) 146 2 [some (.ref 16), some (.int v1)] [] (SH, m) (none, (SH, m')) := by
  intro n
  induction n with
  | zero => intro v1 m r m' h; cases h
  | succ n ih =>
    intro v1 m r m' h
    simp only [f_World_payDue_2] at h
    refine m_R_sg (by decide) [(.iload_n 1, 1, 0, 1, 0, 0, 0), (.aload_n 0, 1, 0, 0, 0, 0, 0), (.getfield 28, 3, 0, 10, 2, 3, 508), (.getfield 353, 3, 0, 4, 15, 0, 365)] (by decide +kernel) (show m_sgl X _ _ _ _ _ = some (10, [some (.ref 16), some (.int v1)], [.int (m.1 31 15), .int v1], (SH, m.1, m.2)) from rfl) ?_
    rcases m_ite h with ⟨c1145, h⟩ | ⟨c1145, h⟩
    · refine m_R_1 (by decide) (m_opb_of (ins := .if_icmp .ge 42) (len := 3) (tag := 0) (a := 52) (b := 0) (c := 0) (q := 0) (by decide +kernel)) (if_pos c1145) ?_
      obtain ⟨rfl, rfl⟩ := m_some h
      exact m_R_vret (by decide) (m_opb_of (ins := .return_) (len := 1) (tag := 3) (a := 0) (b := 0) (c := 0) (q := 0) (by decide +kernel))
    · refine m_R_1 (by decide) (m_opb_of (ins := .if_icmp .ge 42) (len := 3) (tag := 0) (a := 52) (b := 0) (c := 0) (q := 0) (by decide +kernel)) (if_neg c1145) ?_
      refine m_R_sg (by decide) [(.aload_n 0, 1, 0, 0, 0, 0, 0), (.getfield 28, 3, 0, 10, 2, 3, 508), (.getfield 273, 3, 0, 4, 5, 3, 337), (.iload_n 1, 1, 0, 1, 0, 0, 0)] (by decide +kernel) (show m_sgl X _ _ _ _ _ = some (21, [some (.ref 16), some (.int v1)], [.int v1, .ref 37], (SH, m.1, m.2)) from rfl) ?_
      obtain ⟨c1146, h⟩ := m_ite_n h
      refine m_R_1 (by decide) (m_opb_of (ins := .iaload) (len := 1) (tag := 0) (a := 0) (b := 0) (c := 0) (q := 0) (by decide +kernel)) (m_s_iald sh_37 (by decide) c1146) ?_
      rcases m_ite h with ⟨c1147, h⟩ | ⟨c1147, h⟩
      · refine m_R_1 (by decide) (m_opb_of (ins := .ifCond .ne 24) (len := 3) (tag := 0) (a := 46) (b := 0) (c := 0) (q := 0) (by decide +kernel)) (if_pos c1147) ?_
        refine m_R_sg (by decide) [(.aload_n 0, 1, 0, 0, 0, 0, 0), (.getfield 28, 3, 0, 10, 2, 3, 508), (.getfield 138, 3, 0, 4, 4, 3, 334), (.iload_n 1, 1, 0, 1, 0, 0, 0)] (by decide +kernel) (show m_sgl X _ _ _ _ _ = some (33, [some (.ref 16), some (.int v1)], [.int v1, .ref 36], (SH, m.1, m.2)) from rfl) ?_
        refine m_R_1 (by decide) (m_opb_of (ins := .iaload) (len := 1) (tag := 0) (a := 0) (b := 0) (c := 0) (q := 0) (by decide +kernel)) (m_s_iald sh_36 (by decide) c1146) ?_
        refine m_R_sg (by decide) [(.aload_n 0, 1, 0, 0, 0, 0, 0), (.getfield 95, 3, 0, 10, 9, 0, 520)] (by decide +kernel) (show m_sgl X _ _ _ _ _ = some (38, [some (.ref 16), some (.int v1)], [.int (m.1 16 9), .int (m.1 36 v1.toNatClampNeg)], (SH, m.1, m.2)) from rfl) ?_
        rcases m_ite h with ⟨c1148, h⟩ | ⟨c1148, h⟩
        · refine m_R_1 (by decide) (m_opb_of (ins := .if_icmp .ne 8) (len := 3) (tag := 0) (a := 46) (b := 0) (c := 0) (q := 0) (by decide +kernel)) (if_pos c1148) ?_
          refine m_R_sg (by decide) [(.aload_n 0, 1, 0, 0, 0, 0, 0), (.iload_n 1, 1, 0, 1, 0, 0, 0)] (by decide +kernel) (show m_sgl X _ _ _ _ _ = some (43, [some (.ref 16), some (.int v1)], [.int v1, .ref 16], (SH, m.1, m.2)) from rfl) ?_
          obtain ⟨q1, hc1, h⟩ := Option.bind_eq_some_iff.mp h
          refine m_R_cV (v := none) (h1 := (SH, q1.2)) (rest := []) (lo' := [some (.ref 16), some (.int v1), none, none, none, none]) (ml := 6) (k0 := 16) (by decide) (Or.inl rfl) (m_opb_of (ins := .invokevirtual 356) (len := 3) (tag := 5) (a := 147) (b := 1) (c := 0) (q := 1263) (by decide +kernel)) (by decide +kernel) rfl (show m_isO 147 16 (SH, _) = true from m_isO_of (by decide +kernel)) (Nat.le_of_ble_eq_true rfl) rfl rfl (ok_World_settle X (d + 0) F _ _ _ _ hc1) ?_
          exact ok_World_payDue_46 X d F _ (fun a0 m r m' h => ih a0 m r m' h) _ _ _ _ h
        · refine m_R_1 (by decide) (m_opb_of (ins := .if_icmp .ne 8) (len := 3) (tag := 0) (a := 46) (b := 0) (c := 0) (q := 0) (by decide +kernel)) (if_neg c1148) ?_
          exact ok_World_payDue_46 X d F _ (fun a0 m r m' h => ih a0 m r m' h) _ _ _ _ h
      · refine m_R_1 (by decide) (m_opb_of (ins := .ifCond .ne 24) (len := 3) (tag := 0) (a := 46) (b := 0) (c := 0) (q := 0) (by decide +kernel)) (if_neg c1147) ?_
        exact ok_World_payDue_46 X d F _ (fun a0 m r m' h => ih a0 m r m' h) _ _ _ _ h
def f_World_payDue (F : Nat)    (m : mM) : Option (Unit × mM) := f_World_payDue_2 F F (0 : Int32) m
theorem ok_World_payDue (X : mX) (d F : Nat) : ∀   (m : mM) (r : Unit) (m' : mM), f_World_payDue F  m = some (r, m') → m_R X (d + 5) 146 0 [some (.ref 16), none] [] (SH, m) (none, (SH, m')) := by
  intro m r m' h
  unfold f_World_payDue at h
  refine m_R_sg (by decide) [(.iconst 0, 1, 0, 0, 0, 0, 0), (.istore_n 1, 1, 0, 1, 0, 0, 0)] (by decide +kernel) (show m_sgl X _ _ _ _ _ = some (2, [some (.ref 16), some (.int (0 : Int32))], [], (SH, m.1, m.2)) from rfl) ?_
  exact ok_World_payDue_2 X d F F _ _ _ _ h
def f_World_askName_117 (F : Nat)   (v1 : Int32) (m : mM) : Option (Unit × mM) := ((f_World_setAskDay F v1 m).bind fun q6 => some ((), q6.2))
theorem ok_World_askName_117 (X : mX) (d F : Nat) : ∀ (v1 : Int32) (w2 : Option Value) (w3 : Option Value) (w4 : Option Value) (m : mM) (r : Unit) (m' : mM), f_World_askName_117 F v1 m = some (r, m') → m_R X (d + 4) 153 117 [some (.ref 16), some (.int v1), w2, w3, w4] [] (SH, m) (none, (SH, m')) := by
  intro v1 w2 w3 w4 m r m' h
  unfold f_World_askName_117 at h
  refine m_R_sg (by decide) [(.aload_n 0, 1, 0, 0, 0, 0, 0), (.iload_n 1, 1, 0, 1, 0, 0, 0)] (by decide +kernel) (show m_sgl X _ _ _ _ _ = some (119, [some (.ref 16), some (.int v1), w2, w3, w4], [.int v1, .ref 16], (SH, m.1, m.2)) from rfl) ?_
  obtain ⟨q6, hc6, h⟩ := Option.bind_eq_some_iff.mp h
  refine m_R_cV (v := none) (h1 := (SH, q6.2)) (rest := []) (lo' := [some (.ref 16), some (.int v1), none, none, none]) (ml := 5) (k0 := 16) (by decide) (Or.inl rfl) (m_opb_of (ins := .invokevirtual 279) (len := 3) (tag := 5) (a := 149) (b := 1) (c := 0) (q := 1272) (by decide +kernel)) (by decide +kernel) rfl (show m_isO 149 16 (SH, _) = true from m_isO_of (by decide +kernel)) (Nat.le_of_ble_eq_true rfl) rfl rfl (ok_World_setAskDay X (d + 0) F _ _ _ _ hc6) ?_
  obtain ⟨rfl, rfl⟩ := m_some h
  exact m_R_vret (by decide) (m_opb_of (ins := .return_) (len := 1) (tag := 3) (a := 0) (b := 0) (c := 0) (q := 0) (by decide +kernel))
def f_World_askName (F : Nat)   (v1 : Int32) (m : mM) : Option (Unit × mM) := ((f_Papers_nameThatAnswers F v1 m).bind fun q1 => (if q1.1 = (-1 : Int32) then some ((), q1.2) else (if ((v1 * (6 : Int32)) + q1.1) < 0 ∨ 360 ≤ ((v1 * (6 : Int32)) + q1.1).toNatClampNeg then none else (if v1 < 0 ∨ 60 ≤ v1.toNatClampNeg then none else ((f_Houses_isUp F (q1.2.1 38 ((v1 * (6 : Int32)) + q1.1).toNatClampNeg) ((m_up q1.2.1 39 v1.toNatClampNeg q1.1), q1.2.2)).bind fun q2 => (if q2.1 = 0 then f_World_askName_117 F v1 q2.2 else ((f_World_houseCan F (q1.2.1 38 ((v1 * (6 : Int32)) + q1.1).toNatClampNeg) (q2.2.1 35 v1.toNatClampNeg) (q2.2.1 33 v1.toNatClampNeg) q2.2).bind fun q3 => (if q3.1 = 0 then ((f_World_fail F v1 (q1.2.1 38 ((v1 * (6 : Int32)) + q1.1).toNatClampNeg) (1 : Int32) q3.2).bind fun q4 => f_World_askName_117 F v1 q4.2) else ((f_World_transfer F (q1.2.1 38 ((v1 * (6 : Int32)) + q1.1).toNatClampNeg) (q2.2.1 35 v1.toNatClampNeg) (q3.2.1 33 v1.toNatClampNeg) q3.2).bind fun q5 => f_World_askName_117 F v1 ((m_up q5.2.1 35 v1.toNatClampNeg (q1.2.1 38 ((v1 * (6 : Int32)) + q1.1).toNatClampNeg)), q5.2.2))))))))))
theorem ok_World_askName (X : mX) (d F : Nat) : ∀ (v1 : Int32)  (m : mM) (r : Unit) (m' : mM), f_World_askName F v1 m = some (r, m') → m_R X (d + 4) 153 0 [some (.ref 16), some (.int v1), none, none, none] [] (SH, m) (none, (SH, m')) := by
  intro v1 m r m' h
  unfold f_World_askName at h
  refine m_R_sg (by decide) [(.aload_n 0, 1, 0, 0, 0, 0, 0), (.getfield 28, 3, 0, 10, 2, 3, 508), (.iload_n 1, 1, 0, 1, 0, 0, 0)] (by decide +kernel) (show m_sgl X _ _ _ _ _ = some (5, [some (.ref 16), some (.int v1), none, none, none], [.int v1, .ref 31], (SH, m.1, m.2)) from rfl) ?_
  obtain ⟨q1, hc1, h⟩ := Option.bind_eq_some_iff.mp h
  refine m_R_cV (v := (some (.int q1.1))) (h1 := (SH, q1.2)) (rest := []) (lo' := [some (.ref 31), some (.int v1), none, none]) (ml := 4) (k0 := 31) (by decide) (Or.inl rfl) (m_opb_of (ins := .invokevirtual 282) (len := 3) (tag := 5) (a := 150) (b := 1) (c := 0) (q := 1276) (by decide +kernel)) (by decide +kernel) rfl (show m_isO 150 31 (SH, _) = true from m_isO_of (by decide +kernel)) (Nat.le_of_ble_eq_true rfl) rfl rfl (ok_Papers_nameThatAnswers X (d + 3) F _ _ _ _ hc1) ?_
  refine m_R_sg (by decide) [(.istore_n 2, 1, 0, 2, 0, 0, 0), (.iload_n 2, 1, 0, 2, 0, 0, 0), (.iconst (-1), 1, 0, 1, 1, 0, 0)] (by decide +kernel) (show m_sgl X _ _ _ _ _ = some (11, [some (.ref 16), some (.int v1), some (.int q1.1), none, none], [.int (-1 : Int32), .int q1.1], (SH, q1.2.1, q1.2.2)) from rfl) ?_
  rcases m_ite h with ⟨c1149, h⟩ | ⟨c1149, h⟩
  · refine m_R_1 (by decide) (m_opb_of (ins := .if_icmp .ne 4) (len := 3) (tag := 0) (a := 15) (b := 0) (c := 0) (q := 0) (by decide +kernel)) (if_pos c1149) ?_
    obtain ⟨rfl, rfl⟩ := m_some h
    exact m_R_vret (by decide) (m_opb_of (ins := .return_) (len := 1) (tag := 3) (a := 0) (b := 0) (c := 0) (q := 0) (by decide +kernel))
  · refine m_R_1 (by decide) (m_opb_of (ins := .if_icmp .ne 4) (len := 3) (tag := 0) (a := 15) (b := 0) (c := 0) (q := 0) (by decide +kernel)) (if_neg c1149) ?_
    refine m_R_sg (by decide) [(.aload_n 0, 1, 0, 0, 0, 0, 0), (.getfield 28, 3, 0, 10, 2, 3, 508), (.getfield 285, 3, 0, 4, 6, 3, 340), (.iload_n 1, 1, 0, 1, 0, 0, 0), (.bipush 6, 2, 0, 6, 0, 0, 0), (.imul, 1, 0, 0, 0, 0, 0), (.iload_n 2, 1, 0, 2, 0, 0, 0), (.iadd, 1, 0, 0, 0, 0, 0)] (by decide +kernel) (show m_sgl X _ _ _ _ _ = some (28, [some (.ref 16), some (.int v1), some (.int q1.1), none, none], [.int ((v1 * (6 : Int32)) + q1.1), .ref 38], (SH, q1.2.1, q1.2.2)) from rfl) ?_
    obtain ⟨c1150, h⟩ := m_ite_n h
    refine m_R_1 (by decide) (m_opb_of (ins := .iaload) (len := 1) (tag := 0) (a := 0) (b := 0) (c := 0) (q := 0) (by decide +kernel)) (m_s_iald sh_38 (by decide) c1150) ?_
    refine m_R_sg (by decide) [(.istore_n 3, 1, 0, 3, 0, 0, 0), (.aload_n 0, 1, 0, 0, 0, 0, 0), (.getfield 28, 3, 0, 10, 2, 3, 508), (.getfield 141, 3, 0, 4, 7, 3, 343), (.iload_n 1, 1, 0, 1, 0, 0, 0), (.iload_n 2, 1, 0, 2, 0, 0, 0)] (by decide +kernel) (show m_sgl X _ _ _ _ _ = some (39, [some (.ref 16), some (.int v1), some (.int q1.1), some (.int (q1.2.1 38 ((v1 * (6 : Int32)) + q1.1).toNatClampNeg)), none], [.int q1.1, .int v1, .ref 39], (SH, q1.2.1, q1.2.2)) from rfl) ?_
    obtain ⟨c1151, h⟩ := m_ite_n h
    refine m_R_1 (by decide) (m_opb_of (ins := .iastore) (len := 1) (tag := 0) (a := 0) (b := 0) (c := 0) (q := 0) (by decide +kernel)) (m_s_iast sh_39 c1151) ?_
    refine m_R_sg (by decide) [(.aload_n 0, 1, 0, 0, 0, 0, 0), (.getfield 21, 3, 0, 10, 1, 3, 505), (.iload_n 3, 1, 0, 3, 0, 0, 0)] (by decide +kernel) (show m_sgl X _ _ _ _ _ = some (45, [some (.ref 16), some (.int v1), some (.int q1.1), some (.int (q1.2.1 38 ((v1 * (6 : Int32)) + q1.1).toNatClampNeg)), none], [.int (q1.2.1 38 ((v1 * (6 : Int32)) + q1.1).toNatClampNeg), .ref 19], (SH, (m_up q1.2.1 39 v1.toNatClampNeg q1.1), q1.2.2)) from rfl) ?_
    obtain ⟨q2, hc2, h⟩ := Option.bind_eq_some_iff.mp h
    refine m_R_cV (v := (some (.int q2.1))) (h1 := (SH, q2.2)) (rest := []) (lo' := [some (.ref 19), some (.int (q1.2.1 38 ((v1 * (6 : Int32)) + q1.1).toNatClampNeg))]) (ml := 2) (k0 := 19) (by decide) (Or.inl rfl) (m_opb_of (ins := .invokevirtual 250) (len := 3) (tag := 5) (a := 25) (b := 1) (c := 0) (q := 965) (by decide +kernel)) (by decide +kernel) rfl (show m_isO 25 19 (SH, _) = true from m_isO_of (by decide +kernel)) (Nat.le_of_ble_eq_true rfl) rfl rfl (ok_Houses_isUp X (d + 2) F _ _ _ _ hc2) ?_
    rcases m_ite h with ⟨c1152, h⟩ | ⟨c1152, h⟩
    · refine m_R_1 (by decide) (m_opb_of (ins := .ifCond .eq 69) (len := 3) (tag := 0) (a := 117) (b := 0) (c := 0) (q := 0) (by decide +kernel)) (if_pos c1152) ?_
      exact ok_World_askName_117 X d F _ _ _ _ _ _ _ h
    · refine m_R_1 (by decide) (m_opb_of (ins := .ifCond .eq 69) (len := 3) (tag := 0) (a := 117) (b := 0) (c := 0) (q := 0) (by decide +kernel)) (if_neg c1152) ?_
      refine m_R_sg (by decide) [(.aload_n 0, 1, 0, 0, 0, 0, 0), (.getfield 28, 3, 0, 10, 2, 3, 508), (.getfield 212, 3, 0, 4, 3, 3, 331), (.iload_n 1, 1, 0, 1, 0, 0, 0)] (by decide +kernel) (show m_sgl X _ _ _ _ _ = some (59, [some (.ref 16), some (.int v1), some (.int q1.1), some (.int (q1.2.1 38 ((v1 * (6 : Int32)) + q1.1).toNatClampNeg)), none], [.int v1, .ref 35], (SH, q2.2.1, q2.2.2)) from rfl) ?_
      refine m_R_1 (by decide) (m_opb_of (ins := .iaload) (len := 1) (tag := 0) (a := 0) (b := 0) (c := 0) (q := 0) (by decide +kernel)) (m_s_iald sh_35 (by decide) c1151) ?_
      refine m_R_sg (by decide) [(.istore 4, 2, 0, 4, 0, 0, 0), (.aload_n 0, 1, 0, 0, 0, 0, 0), (.iload_n 3, 1, 0, 3, 0, 0, 0), (.iload 4, 2, 0, 4, 0, 0, 0), (.aload_n 0, 1, 0, 0, 0, 0, 0), (.getfield 28, 3, 0, 10, 2, 3, 508), (.getfield 135, 3, 0, 4, 1, 3, 323), (.iload_n 1, 1, 0, 1, 0, 0, 0)] (by decide +kernel) (show m_sgl X _ _ _ _ _ = some (74, [some (.ref 16), some (.int v1), some (.int q1.1), some (.int (q1.2.1 38 ((v1 * (6 : Int32)) + q1.1).toNatClampNeg)), some (.int (q2.2.1 35 v1.toNatClampNeg))], [.int v1, .ref 33, .int (q2.2.1 35 v1.toNatClampNeg), .int (q1.2.1 38 ((v1 * (6 : Int32)) + q1.1).toNatClampNeg), .ref 16], (SH, q2.2.1, q2.2.2)) from rfl) ?_
      refine m_R_1 (by decide) (m_opb_of (ins := .iaload) (len := 1) (tag := 0) (a := 0) (b := 0) (c := 0) (q := 0) (by decide +kernel)) (m_s_iald sh_33 (by decide) c1151) ?_
      obtain ⟨q3, hc3, h⟩ := Option.bind_eq_some_iff.mp h
      refine m_R_cV (v := (some (.int q3.1))) (h1 := (SH, q3.2)) (rest := []) (lo' := [some (.ref 16), some (.int (q1.2.1 38 ((v1 * (6 : Int32)) + q1.1).toNatClampNeg)), some (.int (q2.2.1 35 v1.toNatClampNeg)), some (.int (q2.2.1 33 v1.toNatClampNeg)), none]) (ml := 5) (k0 := 16) (by decide) (Or.inl rfl) (m_opb_of (ins := .invokevirtual 169) (len := 3) (tag := 5) (a := 48) (b := 3) (c := 0) (q := 805) (by decide +kernel)) (by decide +kernel) rfl (show m_isO 48 16 (SH, _) = true from m_isO_of (by decide +kernel)) (Nat.le_of_ble_eq_true rfl) rfl rfl (ok_World_houseCan X (d + 2) F _ _ _ _ _ _ hc3) ?_
      rcases m_ite h with ⟨c1153, h⟩ | ⟨c1153, h⟩
      · refine m_R_1 (by decide) (m_opb_of (ins := .ifCond .eq 32) (len := 3) (tag := 0) (a := 110) (b := 0) (c := 0) (q := 0) (by decide +kernel)) (if_pos c1153) ?_
        refine m_R_sg (by decide) [(.aload_n 0, 1, 0, 0, 0, 0, 0), (.iload_n 1, 1, 0, 1, 0, 0, 0), (.iload_n 3, 1, 0, 3, 0, 0, 0), (.iconst 1, 1, 0, 1, 0, 0, 0)] (by decide +kernel) (show m_sgl X _ _ _ _ _ = some (114, [some (.ref 16), some (.int v1), some (.int q1.1), some (.int (q1.2.1 38 ((v1 * (6 : Int32)) + q1.1).toNatClampNeg)), some (.int (q2.2.1 35 v1.toNatClampNeg))], [.int (1 : Int32), .int (q1.2.1 38 ((v1 * (6 : Int32)) + q1.1).toNatClampNeg), .int v1, .ref 16], (SH, q3.2.1, q3.2.2)) from rfl) ?_
        obtain ⟨q4, hc4, h⟩ := Option.bind_eq_some_iff.mp h
        refine m_R_cV (v := none) (h1 := (SH, q4.2)) (rest := []) (lo' := [some (.ref 16), some (.int v1), some (.int (q1.2.1 38 ((v1 * (6 : Int32)) + q1.1).toNatClampNeg)), some (.int (1 : Int32))]) (ml := 4) (k0 := 16) (by decide) (Or.inl rfl) (m_opb_of (ins := .invokevirtual 261) (len := 3) (tag := 5) (a := 90) (b := 3) (c := 0) (q := 983) (by decide +kernel)) (by decide +kernel) rfl (show m_isO 90 16 (SH, _) = true from m_isO_of (by decide +kernel)) (Nat.le_of_ble_eq_true rfl) rfl rfl (ok_World_fail X (d + 1) F _ _ _ _ _ _ hc4) ?_
        exact ok_World_askName_117 X d F _ _ _ _ _ _ _ h
      · refine m_R_1 (by decide) (m_opb_of (ins := .ifCond .eq 32) (len := 3) (tag := 0) (a := 110) (b := 0) (c := 0) (q := 0) (by decide +kernel)) (if_neg c1153) ?_
        refine m_R_sg (by decide) [(.aload_n 0, 1, 0, 0, 0, 0, 0), (.iload_n 3, 1, 0, 3, 0, 0, 0), (.iload 4, 2, 0, 4, 0, 0, 0), (.aload_n 0, 1, 0, 0, 0, 0, 0), (.getfield 28, 3, 0, 10, 2, 3, 508), (.getfield 135, 3, 0, 4, 1, 3, 323), (.iload_n 1, 1, 0, 1, 0, 0, 0)] (by decide +kernel) (show m_sgl X _ _ _ _ _ = some (93, [some (.ref 16), some (.int v1), some (.int q1.1), some (.int (q1.2.1 38 ((v1 * (6 : Int32)) + q1.1).toNatClampNeg)), some (.int (q2.2.1 35 v1.toNatClampNeg))], [.int v1, .ref 33, .int (q2.2.1 35 v1.toNatClampNeg), .int (q1.2.1 38 ((v1 * (6 : Int32)) + q1.1).toNatClampNeg), .ref 16], (SH, q3.2.1, q3.2.2)) from rfl) ?_
        refine m_R_1 (by decide) (m_opb_of (ins := .iaload) (len := 1) (tag := 0) (a := 0) (b := 0) (c := 0) (q := 0) (by decide +kernel)) (m_s_iald sh_33 (by decide) c1151) ?_
        obtain ⟨q5, hc5, h⟩ := Option.bind_eq_some_iff.mp h
        refine m_R_cV (v := none) (h1 := (SH, q5.2)) (rest := []) (lo' := [some (.ref 16), some (.int (q1.2.1 38 ((v1 * (6 : Int32)) + q1.1).toNatClampNeg)), some (.int (q2.2.1 35 v1.toNatClampNeg)), some (.int (q3.2.1 33 v1.toNatClampNeg)), none]) (ml := 5) (k0 := 16) (by decide) (Or.inl rfl) (m_opb_of (ins := .invokevirtual 225) (len := 3) (tag := 5) (a := 51) (b := 3) (c := 0) (q := 942) (by decide +kernel)) (by decide +kernel) rfl (show m_isO 51 16 (SH, _) = true from m_isO_of (by decide +kernel)) (Nat.le_of_ble_eq_true rfl) rfl rfl (ok_World_transfer X (d + 1) F _ _ _ _ _ _ hc5) ?_
        refine m_R_sg (by decide) [(.aload_n 0, 1, 0, 0, 0, 0, 0), (.getfield 28, 3, 0, 10, 2, 3, 508), (.getfield 212, 3, 0, 4, 3, 3, 331), (.iload_n 1, 1, 0, 1, 0, 0, 0), (.iload_n 3, 1, 0, 3, 0, 0, 0)] (by decide +kernel) (show m_sgl X _ _ _ _ _ = some (106, [some (.ref 16), some (.int v1), some (.int q1.1), some (.int (q1.2.1 38 ((v1 * (6 : Int32)) + q1.1).toNatClampNeg)), some (.int (q2.2.1 35 v1.toNatClampNeg))], [.int (q1.2.1 38 ((v1 * (6 : Int32)) + q1.1).toNatClampNeg), .int v1, .ref 35], (SH, q5.2.1, q5.2.2)) from rfl) ?_
        refine m_R_1 (by decide) (m_opb_of (ins := .iastore) (len := 1) (tag := 0) (a := 0) (b := 0) (c := 0) (q := 0) (by decide +kernel)) (m_s_iast sh_35 c1151) ?_
        refine m_R_sg (by decide) [(.goto 10, 3, 0, 117, 0, 0, 0)] (by decide +kernel) (show m_sgl X _ _ _ _ _ = some (117, [some (.ref 16), some (.int v1), some (.int q1.1), some (.int (q1.2.1 38 ((v1 * (6 : Int32)) + q1.1).toNatClampNeg)), some (.int (q2.2.1 35 v1.toNatClampNeg))], [], (SH, (m_up q5.2.1 35 v1.toNatClampNeg (q1.2.1 38 ((v1 * (6 : Int32)) + q1.1).toNatClampNeg)), q5.2.2)) from rfl) ?_
        exact ok_World_askName_117 X d F _ _ _ _ _ _ _ h
def f_World_askNames_47 (F : Nat)  (k2 : Int32 → mM → Option (Unit × mM)) (v1 : Int32) (m : mM) : Option (Unit × mM) := k2 (v1 + (1 : Int32)) m
theorem ok_World_askNames_47 (X : mX) (d F : Nat) (k2 : Int32 → mM → Option (Unit × mM)) (hk2 : ∀ (v1 : Int32) (m : mM) (r : Unit) (m' : mM), k2 v1 m = some (r, m') → m_R X (d + 5) 152 2 [some (.ref 16), some (.int v1)] [] (SH, m) (none, (SH, m'))) : ∀ (v1 : Int32)  (m : mM) (r : Unit) (m' : mM), f_World_askNames_47 F k2 v1 m = some (r, m') → m_R X (d + 5) 152 47 [some (.ref 16), some (.int v1)] [] (SH, m) (none, (SH, m')) := by
  intro v1 m r m' h
  unfold f_World_askNames_47 at h
  refine m_R_sg (by decide) [(.iinc 1 1, 3, 0, 1, 1, 0, 0), (.goto (-48), 3, 0, 2, 0, 0, 0)] (by decide +kernel) (show m_sgl X _ _ _ _ _ = some (2, [some (.ref 16), some (.int (v1 + (1 : Int32)))], [], (SH, m.1, m.2)) from rfl) ?_
  exact hk2 _ _ _ _ h
def f_World_askNames_2 (F : Nat)   : Nat → Int32 → mM → Option (Unit × mM)
  | 0, _, _ => none
  | n + 1, v1, m => (if (m.1 31 15) ≤ v1 then some ((), m) else (if v1 < 0 ∨ 60 ≤ v1.toNatClampNeg then none else (if (m.1 37 v1.toNatClampNeg) = (1 : Int32) then (if (m.1 42 v1.toNatClampNeg) = (m.1 16 9) then ((f_World_askName F v1 m).bind fun q1 => f_World_askNames_47 F (f_World_askNames_2 F n) v1 q1.2) else f_World_askNames_47 F (f_World_askNames_2 F n) v1 m) else f_World_askNames_47 F (f_World_askNames_2 F n) v1 m)))
theorem ok_World_askNames_2 (X : mX) (d F : Nat) : ∀ (n : Nat) (v1 : Int32)  (m : mM) (r : Unit) (m' : mM), f_World_askNames_2 F n v1 m = some (r, m') → m_R X (d + 5) 152 2 [some (.ref 16), some (.int v1)] [] (SH, m) (none, (SH, m')) := by
  intro n
  induction n with
  | zero => intro v1 m r m' h; cases h
  | succ n ih =>
    intro v1 m r m' h
    simp only [f_World_askNames_2] at h
    refine m_R_sg (by decide) [(.iload_n 1, 1, 0, 1, 0, 0, 0), (.aload_n 0, 1, 0, 0, 0, 0, 0), (.getfield 28, 3, 0, 10, 2, 3, 508), (.getfield 353, 3, 0, 4, 15, 0, 365)] (by decide +kernel) (show m_sgl X _ _ _ _ _ = some (10, [some (.ref 16), some (.int v1)], [.int (m.1 31 15), .int v1], (SH, m.1, m.2)) from rfl) ?_
    rcases m_ite h with ⟨c1154, h⟩ | ⟨c1154, h⟩
    · refine m_R_1 (by decide) (m_opb_of (ins := .if_icmp .ge 43) (len := 3) (tag := 0) (a := 53) (b := 0) (c := 0) (q := 0) (by decide +kernel)) (if_pos c1154) ?_
      obtain ⟨rfl, rfl⟩ := m_some h
      exact m_R_vret (by decide) (m_opb_of (ins := .return_) (len := 1) (tag := 3) (a := 0) (b := 0) (c := 0) (q := 0) (by decide +kernel))
    · refine m_R_1 (by decide) (m_opb_of (ins := .if_icmp .ge 43) (len := 3) (tag := 0) (a := 53) (b := 0) (c := 0) (q := 0) (by decide +kernel)) (if_neg c1154) ?_
      refine m_R_sg (by decide) [(.aload_n 0, 1, 0, 0, 0, 0, 0), (.getfield 28, 3, 0, 10, 2, 3, 508), (.getfield 273, 3, 0, 4, 5, 3, 337), (.iload_n 1, 1, 0, 1, 0, 0, 0)] (by decide +kernel) (show m_sgl X _ _ _ _ _ = some (21, [some (.ref 16), some (.int v1)], [.int v1, .ref 37], (SH, m.1, m.2)) from rfl) ?_
      obtain ⟨c1155, h⟩ := m_ite_n h
      refine m_R_1 (by decide) (m_opb_of (ins := .iaload) (len := 1) (tag := 0) (a := 0) (b := 0) (c := 0) (q := 0) (by decide +kernel)) (m_s_iald sh_37 (by decide) c1155) ?_
      refine m_R_sg (by decide) [(.iconst 1, 1, 0, 1, 0, 0, 0)] (by decide +kernel) (show m_sgl X _ _ _ _ _ = some (23, [some (.ref 16), some (.int v1)], [.int (1 : Int32), .int (m.1 37 v1.toNatClampNeg)], (SH, m.1, m.2)) from rfl) ?_
      rcases m_ite h with ⟨c1156, h⟩ | ⟨c1156, h⟩
      · refine m_R_1 (by decide) (m_opb_of (ins := .if_icmp .ne 24) (len := 3) (tag := 0) (a := 47) (b := 0) (c := 0) (q := 0) (by decide +kernel)) (if_pos c1156) ?_
        refine m_R_sg (by decide) [(.aload_n 0, 1, 0, 0, 0, 0, 0), (.getfield 28, 3, 0, 10, 2, 3, 508), (.getfield 288, 3, 0, 4, 10, 3, 352), (.iload_n 1, 1, 0, 1, 0, 0, 0)] (by decide +kernel) (show m_sgl X _ _ _ _ _ = some (34, [some (.ref 16), some (.int v1)], [.int v1, .ref 42], (SH, m.1, m.2)) from rfl) ?_
        refine m_R_1 (by decide) (m_opb_of (ins := .iaload) (len := 1) (tag := 0) (a := 0) (b := 0) (c := 0) (q := 0) (by decide +kernel)) (m_s_iald sh_42 (by decide) c1155) ?_
        refine m_R_sg (by decide) [(.aload_n 0, 1, 0, 0, 0, 0, 0), (.getfield 95, 3, 0, 10, 9, 0, 520)] (by decide +kernel) (show m_sgl X _ _ _ _ _ = some (39, [some (.ref 16), some (.int v1)], [.int (m.1 16 9), .int (m.1 42 v1.toNatClampNeg)], (SH, m.1, m.2)) from rfl) ?_
        rcases m_ite h with ⟨c1157, h⟩ | ⟨c1157, h⟩
        · refine m_R_1 (by decide) (m_opb_of (ins := .if_icmp .ne 8) (len := 3) (tag := 0) (a := 47) (b := 0) (c := 0) (q := 0) (by decide +kernel)) (if_pos c1157) ?_
          refine m_R_sg (by decide) [(.aload_n 0, 1, 0, 0, 0, 0, 0), (.iload_n 1, 1, 0, 1, 0, 0, 0)] (by decide +kernel) (show m_sgl X _ _ _ _ _ = some (44, [some (.ref 16), some (.int v1)], [.int v1, .ref 16], (SH, m.1, m.2)) from rfl) ?_
          obtain ⟨q1, hc1, h⟩ := Option.bind_eq_some_iff.mp h
          refine m_R_cV (v := none) (h1 := (SH, q1.2)) (rest := []) (lo' := [some (.ref 16), some (.int v1), none, none, none]) (ml := 5) (k0 := 16) (by decide) (Or.inl rfl) (m_opb_of (ins := .invokevirtual 359) (len := 3) (tag := 5) (a := 153) (b := 1) (c := 0) (q := 1290) (by decide +kernel)) (by decide +kernel) rfl (show m_isO 153 16 (SH, _) = true from m_isO_of (by decide +kernel)) (Nat.le_of_ble_eq_true rfl) rfl rfl (ok_World_askName X (d + 0) F _ _ _ _ hc1) ?_
          exact ok_World_askNames_47 X d F _ (fun a0 m r m' h => ih a0 m r m' h) _ _ _ _ h
        · refine m_R_1 (by decide) (m_opb_of (ins := .if_icmp .ne 8) (len := 3) (tag := 0) (a := 47) (b := 0) (c := 0) (q := 0) (by decide +kernel)) (if_neg c1157) ?_
          exact ok_World_askNames_47 X d F _ (fun a0 m r m' h => ih a0 m r m' h) _ _ _ _ h
      · refine m_R_1 (by decide) (m_opb_of (ins := .if_icmp .ne 24) (len := 3) (tag := 0) (a := 47) (b := 0) (c := 0) (q := 0) (by decide +kernel)) (if_neg c1156) ?_
        exact ok_World_askNames_47 X d F _ (fun a0 m r m' h => ih a0 m r m' h) _ _ _ _ h
def f_World_askNames (F : Nat)    (m : mM) : Option (Unit × mM) := f_World_askNames_2 F F (0 : Int32) m
theorem ok_World_askNames (X : mX) (d F : Nat) : ∀   (m : mM) (r : Unit) (m' : mM), f_World_askNames F  m = some (r, m') → m_R X (d + 5) 152 0 [some (.ref 16), none] [] (SH, m) (none, (SH, m')) := by
  intro m r m' h
  unfold f_World_askNames at h
  refine m_R_sg (by decide) [(.iconst 0, 1, 0, 0, 0, 0, 0), (.istore_n 1, 1, 0, 1, 0, 0, 0)] (by decide +kernel) (show m_sgl X _ _ _ _ _ = some (2, [some (.ref 16), some (.int (0 : Int32))], [], (SH, m.1, m.2)) from rfl) ?_
  exact ok_World_askNames_2 X d F F _ _ _ _ h
def f_Papers_forgetTurnedAway_2 (F : Nat)   : Nat → Int32 → mM → Option (Unit × mM)
  | 0, _, _ => none
  | n + 1, v1, m => (if (m.1 31 15) ≤ v1 then some ((), m) else (if v1 < 0 ∨ 60 ≤ v1.toNatClampNeg then none else f_Papers_forgetTurnedAway_2 F n (v1 + (1 : Int32)) ((m_up m.1 45 v1.toNatClampNeg (0 : Int32)), m.2)))
theorem ok_Papers_forgetTurnedAway_2 (X : mX) (d F : Nat) : ∀ (n : Nat) (v1 : Int32)  (m : mM) (r : Unit) (m' : mM), f_Papers_forgetTurnedAway_2 F n v1 m = some (r, m') → m_R X (d + 0) 155 2 [some (.ref 31), some (.int v1)] [] (SH, m) (none, (SH, m')) := by
  intro n
  induction n with
  | zero => intro v1 m r m' h; cases h
  | succ n ih =>
    intro v1 m r m' h
    simp only [f_Papers_forgetTurnedAway_2] at h
    refine m_R_sg (by decide) [(.iload_n 1, 1, 0, 1, 0, 0, 0), (.aload_n 0, 1, 0, 0, 0, 0, 0), (.getfield 63, 3, 0, 4, 15, 0, 363)] (by decide +kernel) (show m_sgl X _ _ _ _ _ = some (7, [some (.ref 31), some (.int v1)], [.int (m.1 31 15), .int v1], (SH, m.1, m.2)) from rfl) ?_
    rcases m_ite h with ⟨c1158, h⟩ | ⟨c1158, h⟩
    · refine m_R_1 (by decide) (m_opb_of (ins := .if_icmp .ge 16) (len := 3) (tag := 0) (a := 23) (b := 0) (c := 0) (q := 0) (by decide +kernel)) (if_pos c1158) ?_
      obtain ⟨rfl, rfl⟩ := m_some h
      exact m_R_vret (by decide) (m_opb_of (ins := .return_) (len := 1) (tag := 3) (a := 0) (b := 0) (c := 0) (q := 0) (by decide +kernel))
    · refine m_R_1 (by decide) (m_opb_of (ins := .if_icmp .ge 16) (len := 3) (tag := 0) (a := 23) (b := 0) (c := 0) (q := 0) (by decide +kernel)) (if_neg c1158) ?_
      refine m_R_sg (by decide) [(.aload_n 0, 1, 0, 0, 0, 0, 0), (.getfield 51, 3, 0, 4, 13, 3, 359), (.iload_n 1, 1, 0, 1, 0, 0, 0), (.iconst 0, 1, 0, 0, 0, 0, 0)] (by decide +kernel) (show m_sgl X _ _ _ _ _ = some (16, [some (.ref 31), some (.int v1)], [.int (0 : Int32), .int v1, .ref 45], (SH, m.1, m.2)) from rfl) ?_
      obtain ⟨c1159, h⟩ := m_ite_n h
      refine m_R_1 (by decide) (m_opb_of (ins := .bastore) (len := 1) (tag := 0) (a := 0) (b := 0) (c := 0) (q := 0) (by decide +kernel)) (m_s_bast sh_45 c1159 (Or.inl rfl)) ?_
      refine m_R_sg (by decide) [(.iinc 1 1, 3, 0, 1, 1, 0, 0), (.goto (-18), 3, 0, 2, 0, 0, 0)] (by decide +kernel) (show m_sgl X _ _ _ _ _ = some (2, [some (.ref 31), some (.int (v1 + (1 : Int32)))], [], (SH, (m_up m.1 45 v1.toNatClampNeg (0 : Int32)), m.2)) from rfl) ?_
      exact ih _ _ _ _ h
def f_Papers_forgetTurnedAway (F : Nat)    (m : mM) : Option (Unit × mM) := f_Papers_forgetTurnedAway_2 F F (0 : Int32) m
theorem ok_Papers_forgetTurnedAway (X : mX) (d F : Nat) : ∀   (m : mM) (r : Unit) (m' : mM), f_Papers_forgetTurnedAway F  m = some (r, m') → m_R X (d + 0) 155 0 [some (.ref 31), none] [] (SH, m) (none, (SH, m')) := by
  intro m r m' h
  unfold f_Papers_forgetTurnedAway at h
  refine m_R_sg (by decide) [(.iconst 0, 1, 0, 0, 0, 0, 0), (.istore_n 1, 1, 0, 1, 0, 0, 0)] (by decide +kernel) (show m_sgl X _ _ _ _ _ = some (2, [some (.ref 31), some (.int (0 : Int32))], [], (SH, m.1, m.2)) from rfl) ?_
  exact ok_Papers_forgetTurnedAway_2 X d F F _ _ _ _ h
def f_Papers_nextToSell_69 (F : Nat)  (k5 : Int32 → Int32 → Int32 → Int32 → mM → Option (Int32 × mM)) (v1 : Int32) (v2 : Int32) (v3 : Int32) (v4 : Int32) (m : mM) : Option (Int32 × mM) := k5 v1 v2 v3 (v4 + (1 : Int32)) m
theorem ok_Papers_nextToSell_69 (X : mX) (d F : Nat) (k5 : Int32 → Int32 → Int32 → Int32 → mM → Option (Int32 × mM)) (hk5 : ∀ (v1 : Int32) (v2 : Int32) (v3 : Int32) (v4 : Int32) (m : mM) (r : Int32) (m' : mM), k5 v1 v2 v3 v4 m = some (r, m') → m_R X (d + 1) 156 5 [some (.ref 31), some (.int v1), some (.int v2), some (.int v3), some (.int v4)] [] (SH, m) (some (.int r), (SH, m'))) : ∀ (v1 : Int32) (v2 : Int32) (v3 : Int32) (v4 : Int32)  (m : mM) (r : Int32) (m' : mM), f_Papers_nextToSell_69 F k5 v1 v2 v3 v4 m = some (r, m') → m_R X (d + 1) 156 69 [some (.ref 31), some (.int v1), some (.int v2), some (.int v3), some (.int v4)] [] (SH, m) (some (.int r), (SH, m')) := by
  intro v1 v2 v3 v4 m r m' h
  unfold f_Papers_nextToSell_69 at h
  refine m_R_sg (by decide) [(.iinc 4 1, 3, 0, 4, 1, 0, 0), (.goto (-67), 3, 0, 5, 0, 0, 0)] (by decide +kernel) (show m_sgl X _ _ _ _ _ = some (5, [some (.ref 31), some (.int v1), some (.int v2), some (.int v3), some (.int (v4 + (1 : Int32)))], [], (SH, m.1, m.2)) from rfl) ?_
  exact hk5 _ _ _ _ _ _ _ h
def f_Papers_nextToSell_66 (F : Nat)  (k5 : Int32 → Int32 → Int32 → Int32 → mM → Option (Int32 × mM)) (v1 : Int32) (v2 : Int32) (v4 : Int32) (m : mM) : Option (Int32 × mM) := f_Papers_nextToSell_69 F k5 v1 v2 v4 v4 m
theorem ok_Papers_nextToSell_66 (X : mX) (d F : Nat) (k5 : Int32 → Int32 → Int32 → Int32 → mM → Option (Int32 × mM)) (hk5 : ∀ (v1 : Int32) (v2 : Int32) (v3 : Int32) (v4 : Int32) (m : mM) (r : Int32) (m' : mM), k5 v1 v2 v3 v4 m = some (r, m') → m_R X (d + 1) 156 5 [some (.ref 31), some (.int v1), some (.int v2), some (.int v3), some (.int v4)] [] (SH, m) (some (.int r), (SH, m'))) : ∀ (v1 : Int32) (v2 : Int32) (v4 : Int32) (w3 : Option Value) (m : mM) (r : Int32) (m' : mM), f_Papers_nextToSell_66 F k5 v1 v2 v4 m = some (r, m') → m_R X (d + 1) 156 66 [some (.ref 31), some (.int v1), some (.int v2), w3, some (.int v4)] [] (SH, m) (some (.int r), (SH, m')) := by
  intro v1 v2 v4 w3 m r m' h
  unfold f_Papers_nextToSell_66 at h
  refine m_R_sg (by decide) [(.iload 4, 2, 0, 4, 0, 0, 0), (.istore_n 3, 1, 0, 3, 0, 0, 0)] (by decide +kernel) (show m_sgl X _ _ _ _ _ = some (69, [some (.ref 31), some (.int v1), some (.int v2), some (.int v4), some (.int v4)], [], (SH, m.1, m.2)) from rfl) ?_
  exact ok_Papers_nextToSell_69 X d F _ hk5 _ _ _ _ _ _ _ h
def f_Papers_nextToSell_5 (F : Nat)   : Nat → Int32 → Int32 → Int32 → Int32 → mM → Option (Int32 × mM)
  | 0, _, _, _, _, _ => none
  | n + 1, v1, v2, v3, v4, m => (if (m.1 31 15) ≤ v4 then some (v3, m) else (if v4 < 0 ∨ 60 ≤ v4.toNatClampNeg then none else (if (m.1 35 v4.toNatClampNeg) = v1 then (if (m.1 45 v4.toNatClampNeg) = 0 then ((f_Papers_maySell F v4 v2 m).bind fun q1 => (if q1.1 = 0 then f_Papers_nextToSell_69 F (f_Papers_nextToSell_5 F n) v1 v2 v3 v4 q1.2 else (if v3 = (-1 : Int32) then f_Papers_nextToSell_66 F (f_Papers_nextToSell_5 F n) v1 v2 v4 q1.2 else (if v3 < 0 ∨ 60 ≤ v3.toNatClampNeg then none else (if (q1.2.1 36 v3.toNatClampNeg) ≤ (q1.2.1 36 v4.toNatClampNeg) then f_Papers_nextToSell_69 F (f_Papers_nextToSell_5 F n) v1 v2 v3 v4 q1.2 else f_Papers_nextToSell_66 F (f_Papers_nextToSell_5 F n) v1 v2 v4 q1.2))))) else f_Papers_nextToSell_69 F (f_Papers_nextToSell_5 F n) v1 v2 v3 v4 m) else f_Papers_nextToSell_69 F (f_Papers_nextToSell_5 F n) v1 v2 v3 v4 m)))
theorem ok_Papers_nextToSell_5 (X : mX) (d F : Nat) : ∀ (n : Nat) (v1 : Int32) (v2 : Int32) (v3 : Int32) (v4 : Int32)  (m : mM) (r : Int32) (m' : mM), f_Papers_nextToSell_5 F n v1 v2 v3 v4 m = some (r, m') → m_R X (d + 1) 156 5 [some (.ref 31), some (.int v1), some (.int v2), some (.int v3), some (.int v4)] [] (SH, m) (some (.int r), (SH, m')) := by
  intro n
  induction n with
  | zero => intro v1 v2 v3 v4 m r m' h; cases h
  | succ n ih =>
    intro v1 v2 v3 v4 m r m' h
    simp only [f_Papers_nextToSell_5] at h
    refine m_R_sg (by decide) [(.iload 4, 2, 0, 4, 0, 0, 0), (.aload_n 0, 1, 0, 0, 0, 0, 0), (.getfield 63, 3, 0, 4, 15, 0, 363)] (by decide +kernel) (show m_sgl X _ _ _ _ _ = some (11, [some (.ref 31), some (.int v1), some (.int v2), some (.int v3), some (.int v4)], [.int (m.1 31 15), .int v4], (SH, m.1, m.2)) from rfl) ?_
    rcases m_ite h with ⟨c1160, h⟩ | ⟨c1160, h⟩
    · refine m_R_1 (by decide) (m_opb_of (ins := .if_icmp .ge 64) (len := 3) (tag := 0) (a := 75) (b := 0) (c := 0) (q := 0) (by decide +kernel)) (if_pos c1160) ?_
      refine m_R_sg (by decide) [(.iload_n 3, 1, 0, 3, 0, 0, 0)] (by decide +kernel) (show m_sgl X _ _ _ _ _ = some (76, [some (.ref 31), some (.int v1), some (.int v2), some (.int v3), some (.int v4)], [.int v3], (SH, m.1, m.2)) from rfl) ?_
      obtain ⟨rfl, rfl⟩ := m_some h
      exact m_R_iret (by decide) (m_opb_of (ins := .ireturn) (len := 1) (tag := 1) (a := 0) (b := 0) (c := 0) (q := 0) (by decide +kernel)) (Or.inl rfl)
    · refine m_R_1 (by decide) (m_opb_of (ins := .if_icmp .ge 64) (len := 3) (tag := 0) (a := 75) (b := 0) (c := 0) (q := 0) (by decide +kernel)) (if_neg c1160) ?_
      refine m_R_sg (by decide) [(.aload_n 0, 1, 0, 0, 0, 0, 0), (.getfield 21, 3, 0, 4, 3, 3, 329), (.iload 4, 2, 0, 4, 0, 0, 0)] (by decide +kernel) (show m_sgl X _ _ _ _ _ = some (20, [some (.ref 31), some (.int v1), some (.int v2), some (.int v3), some (.int v4)], [.int v4, .ref 35], (SH, m.1, m.2)) from rfl) ?_
      obtain ⟨c1161, h⟩ := m_ite_n h
      refine m_R_1 (by decide) (m_opb_of (ins := .iaload) (len := 1) (tag := 0) (a := 0) (b := 0) (c := 0) (q := 0) (by decide +kernel)) (m_s_iald sh_35 (by decide) c1161) ?_
      refine m_R_sg (by decide) [(.iload_n 1, 1, 0, 1, 0, 0, 0)] (by decide +kernel) (show m_sgl X _ _ _ _ _ = some (22, [some (.ref 31), some (.int v1), some (.int v2), some (.int v3), some (.int v4)], [.int v1, .int (m.1 35 v4.toNatClampNeg)], (SH, m.1, m.2)) from rfl) ?_
      rcases m_ite h with ⟨c1162, h⟩ | ⟨c1162, h⟩
      · refine m_R_1 (by decide) (m_opb_of (ins := .if_icmp .ne 47) (len := 3) (tag := 0) (a := 69) (b := 0) (c := 0) (q := 0) (by decide +kernel)) (if_pos c1162) ?_
        refine m_R_sg (by decide) [(.aload_n 0, 1, 0, 0, 0, 0, 0), (.getfield 51, 3, 0, 4, 13, 3, 359), (.iload 4, 2, 0, 4, 0, 0, 0)] (by decide +kernel) (show m_sgl X _ _ _ _ _ = some (31, [some (.ref 31), some (.int v1), some (.int v2), some (.int v3), some (.int v4)], [.int v4, .ref 45], (SH, m.1, m.2)) from rfl) ?_
        refine m_R_1 (by decide) (m_opb_of (ins := .baload) (len := 1) (tag := 0) (a := 0) (b := 0) (c := 0) (q := 0) (by decide +kernel)) (m_s_bald sh_45 c1161) ?_
        rcases m_ite h with ⟨c1163, h⟩ | ⟨c1163, h⟩
        · refine m_R_1 (by decide) (m_opb_of (ins := .ifCond .ne 37) (len := 3) (tag := 0) (a := 69) (b := 0) (c := 0) (q := 0) (by decide +kernel)) (if_pos c1163) ?_
          refine m_R_sg (by decide) [(.aload_n 0, 1, 0, 0, 0, 0, 0), (.iload 4, 2, 0, 4, 0, 0, 0), (.iload_n 2, 1, 0, 2, 0, 0, 0)] (by decide +kernel) (show m_sgl X _ _ _ _ _ = some (39, [some (.ref 31), some (.int v1), some (.int v2), some (.int v3), some (.int v4)], [.int v2, .int v4, .ref 31], (SH, m.1, m.2)) from rfl) ?_
          obtain ⟨q1, hc1, h⟩ := Option.bind_eq_some_iff.mp h
          refine m_R_cV (v := (some (.int q1.1))) (h1 := (SH, q1.2)) (rest := []) (lo' := [some (.ref 31), some (.int v4), some (.int v2)]) (ml := 3) (k0 := 31) (by decide) (Or.inl rfl) (m_opb_of (ins := .invokevirtual 77) (len := 3) (tag := 5) (a := 82) (b := 2) (c := 0) (q := 1306) (by decide +kernel)) (by decide +kernel) rfl (show m_isO 82 31 (SH, _) = true from m_isO_of (by decide +kernel)) (Nat.le_of_ble_eq_true rfl) rfl rfl (ok_Papers_maySell X (d + 0) F _ _ _ _ _ hc1) ?_
          rcases m_ite h with ⟨c1164, h⟩ | ⟨c1164, h⟩
          · refine m_R_1 (by decide) (m_opb_of (ins := .ifCond .eq 27) (len := 3) (tag := 0) (a := 69) (b := 0) (c := 0) (q := 0) (by decide +kernel)) (if_pos c1164) ?_
            exact ok_Papers_nextToSell_69 X d F _ (fun a0 a1 a2 a3 m r m' h => ih a0 a1 a2 a3 m r m' h) _ _ _ _ _ _ _ h
          · refine m_R_1 (by decide) (m_opb_of (ins := .ifCond .eq 27) (len := 3) (tag := 0) (a := 69) (b := 0) (c := 0) (q := 0) (by decide +kernel)) (if_neg c1164) ?_
            refine m_R_sg (by decide) [(.iload_n 3, 1, 0, 3, 0, 0, 0), (.iconst (-1), 1, 0, 1, 1, 0, 0)] (by decide +kernel) (show m_sgl X _ _ _ _ _ = some (47, [some (.ref 31), some (.int v1), some (.int v2), some (.int v3), some (.int v4)], [.int (-1 : Int32), .int v3], (SH, q1.2.1, q1.2.2)) from rfl) ?_
            rcases m_ite h with ⟨c1165, h⟩ | ⟨c1165, h⟩
            · refine m_R_1 (by decide) (m_opb_of (ins := .if_icmp .eq 19) (len := 3) (tag := 0) (a := 66) (b := 0) (c := 0) (q := 0) (by decide +kernel)) (if_pos c1165) ?_
              exact ok_Papers_nextToSell_66 X d F _ (fun a0 a1 a2 a3 m r m' h => ih a0 a1 a2 a3 m r m' h) _ _ _ _ _ _ _ h
            · refine m_R_1 (by decide) (m_opb_of (ins := .if_icmp .eq 19) (len := 3) (tag := 0) (a := 66) (b := 0) (c := 0) (q := 0) (by decide +kernel)) (if_neg c1165) ?_
              refine m_R_sg (by decide) [(.aload_n 0, 1, 0, 0, 0, 0, 0), (.getfield 24, 3, 0, 4, 4, 3, 333), (.iload 4, 2, 0, 4, 0, 0, 0)] (by decide +kernel) (show m_sgl X _ _ _ _ _ = some (56, [some (.ref 31), some (.int v1), some (.int v2), some (.int v3), some (.int v4)], [.int v4, .ref 36], (SH, q1.2.1, q1.2.2)) from rfl) ?_
              refine m_R_1 (by decide) (m_opb_of (ins := .iaload) (len := 1) (tag := 0) (a := 0) (b := 0) (c := 0) (q := 0) (by decide +kernel)) (m_s_iald sh_36 (by decide) c1161) ?_
              refine m_R_sg (by decide) [(.aload_n 0, 1, 0, 0, 0, 0, 0), (.getfield 24, 3, 0, 4, 4, 3, 333), (.iload_n 3, 1, 0, 3, 0, 0, 0)] (by decide +kernel) (show m_sgl X _ _ _ _ _ = some (62, [some (.ref 31), some (.int v1), some (.int v2), some (.int v3), some (.int v4)], [.int v3, .ref 36, .int (q1.2.1 36 v4.toNatClampNeg)], (SH, q1.2.1, q1.2.2)) from rfl) ?_
              obtain ⟨c1166, h⟩ := m_ite_n h
              refine m_R_1 (by decide) (m_opb_of (ins := .iaload) (len := 1) (tag := 0) (a := 0) (b := 0) (c := 0) (q := 0) (by decide +kernel)) (m_s_iald sh_36 (by decide) c1166) ?_
              rcases m_ite h with ⟨c1167, h⟩ | ⟨c1167, h⟩
              · refine m_R_1 (by decide) (m_opb_of (ins := .if_icmp .ge 6) (len := 3) (tag := 0) (a := 69) (b := 0) (c := 0) (q := 0) (by decide +kernel)) (if_pos c1167) ?_
                exact ok_Papers_nextToSell_69 X d F _ (fun a0 a1 a2 a3 m r m' h => ih a0 a1 a2 a3 m r m' h) _ _ _ _ _ _ _ h
              · refine m_R_1 (by decide) (m_opb_of (ins := .if_icmp .ge 6) (len := 3) (tag := 0) (a := 69) (b := 0) (c := 0) (q := 0) (by decide +kernel)) (if_neg c1167) ?_
                exact ok_Papers_nextToSell_66 X d F _ (fun a0 a1 a2 a3 m r m' h => ih a0 a1 a2 a3 m r m' h) _ _ _ _ _ _ _ h
        · refine m_R_1 (by decide) (m_opb_of (ins := .ifCond .ne 37) (len := 3) (tag := 0) (a := 69) (b := 0) (c := 0) (q := 0) (by decide +kernel)) (if_neg c1163) ?_
          exact ok_Papers_nextToSell_69 X d F _ (fun a0 a1 a2 a3 m r m' h => ih a0 a1 a2 a3 m r m' h) _ _ _ _ _ _ _ h
      · refine m_R_1 (by decide) (m_opb_of (ins := .if_icmp .ne 47) (len := 3) (tag := 0) (a := 69) (b := 0) (c := 0) (q := 0) (by decide +kernel)) (if_neg c1162) ?_
        exact ok_Papers_nextToSell_69 X d F _ (fun a0 a1 a2 a3 m r m' h => ih a0 a1 a2 a3 m r m' h) _ _ _ _ _ _ _ h
def f_Papers_nextToSell (F : Nat)   (v1 : Int32) (v2 : Int32) (m : mM) : Option (Int32 × mM) := f_Papers_nextToSell_5 F F v1 v2 (-1 : Int32) (0 : Int32) m
theorem ok_Papers_nextToSell (X : mX) (d F : Nat) : ∀ (v1 : Int32) (v2 : Int32)  (m : mM) (r : Int32) (m' : mM), f_Papers_nextToSell F v1 v2 m = some (r, m') → m_R X (d + 1) 156 0 [some (.ref 31), some (.int v1), some (.int v2), none, none] [] (SH, m) (some (.int r), (SH, m')) := by
  intro v1 v2 m r m' h
  unfold f_Papers_nextToSell at h
  refine m_R_sg (by decide) [(.iconst (-1), 1, 0, 1, 1, 0, 0), (.istore_n 3, 1, 0, 3, 0, 0, 0), (.iconst 0, 1, 0, 0, 0, 0, 0), (.istore 4, 2, 0, 4, 0, 0, 0)] (by decide +kernel) (show m_sgl X _ _ _ _ _ = some (5, [some (.ref 31), some (.int v1), some (.int v2), some (.int (-1 : Int32)), some (.int (0 : Int32))], [], (SH, m.1, m.2)) from rfl) ?_
  exact ok_Papers_nextToSell_5 X d F F _ _ _ _ _ _ _ h
def f_World_sellBills_137 (F : Nat)  (k2 : Int32 → mM → Option (Unit × mM)) (k66 : Int32 → Int32 → Int32 → mM → Option (Unit × mM)) (v1 : Int32) (v3 : Int32) (s0 : Int32) (m : mM) : Option (Unit × mM) := k66 v1 s0 (v3 + (1 : Int32)) m
theorem ok_World_sellBills_137 (X : mX) (d F : Nat) (k2 : Int32 → mM → Option (Unit × mM)) (hk2 : ∀ (v1 : Int32) (w2 : Option Value) (w3 : Option Value) (m : mM) (r : Unit) (m' : mM), k2 v1 m = some (r, m') → m_R X (d + 5) 154 2 [some (.ref 16), some (.int v1), w2, w3] [] (SH, m) (none, (SH, m'))) (k66 : Int32 → Int32 → Int32 → mM → Option (Unit × mM)) (hk66 : ∀ (v1 : Int32) (v2 : Int32) (v3 : Int32) (m : mM) (r : Unit) (m' : mM), k66 v1 v2 v3 m = some (r, m') → m_R X (d + 5) 154 66 [some (.ref 16), some (.int v1), some (.int v2), some (.int v3)] [] (SH, m) (none, (SH, m'))) : ∀ (v1 : Int32) (v3 : Int32) (s0 : Int32) (w2 : Option Value) (m : mM) (r : Unit) (m' : mM), f_World_sellBills_137 F k2 k66 v1 v3 s0 m = some (r, m') → m_R X (d + 5) 154 137 [some (.ref 16), some (.int v1), w2, some (.int v3)] [.int s0] (SH, m) (none, (SH, m')) := by
  intro v1 v3 s0 w2 m r m' h
  unfold f_World_sellBills_137 at h
  refine m_R_sg (by decide) [(.istore_n 2, 1, 0, 2, 0, 0, 0), (.iinc 3 1, 3, 0, 3, 1, 0, 0), (.goto (-75), 3, 0, 66, 0, 0, 0)] (by decide +kernel) (show m_sgl X _ _ _ _ _ = some (66, [some (.ref 16), some (.int v1), some (.int s0), some (.int (v3 + (1 : Int32)))], [], (SH, m.1, m.2)) from rfl) ?_
  exact hk66 _ _ _ _ _ _ h
def f_World_sellBills_103 (F : Nat)  (k2 : Int32 → mM → Option (Unit × mM)) (k66 : Int32 → Int32 → Int32 → mM → Option (Unit × mM)) (v1 : Int32) (v3 : Int32) (s1 : Int32) (s2 : Int32) (m : mM) : Option (Unit × mM) := (if s1 < 0 ∨ 60 ≤ s1.toNatClampNeg then none else (if s2 = 0 ∨ s2 = 1 then ((f_World_coin F v1 ((m_up m.1 45 s1.toNatClampNeg s2), m.2)).bind fun q6 => (if v1 < 0 ∨ 16 ≤ v1.toNatClampNeg then none else (if (q6.2.1 23 v1.toNatClampNeg) ≤ q6.1 then f_World_sellBills_137 F k2 k66 v1 v3 (-1 : Int32) q6.2 else ((f_Papers_nextToSell F v1 (q6.2.1 16 9) q6.2).bind fun q7 => f_World_sellBills_137 F k2 k66 v1 v3 q7.1 q7.2)))) else none))
theorem ok_World_sellBills_103 (X : mX) (d F : Nat) (k2 : Int32 → mM → Option (Unit × mM)) (hk2 : ∀ (v1 : Int32) (w2 : Option Value) (w3 : Option Value) (m : mM) (r : Unit) (m' : mM), k2 v1 m = some (r, m') → m_R X (d + 5) 154 2 [some (.ref 16), some (.int v1), w2, w3] [] (SH, m) (none, (SH, m'))) (k66 : Int32 → Int32 → Int32 → mM → Option (Unit × mM)) (hk66 : ∀ (v1 : Int32) (v2 : Int32) (v3 : Int32) (m : mM) (r : Unit) (m' : mM), k66 v1 v2 v3 m = some (r, m') → m_R X (d + 5) 154 66 [some (.ref 16), some (.int v1), some (.int v2), some (.int v3)] [] (SH, m) (none, (SH, m'))) : ∀ (v1 : Int32) (v3 : Int32) (s1 : Int32) (s2 : Int32) (w2 : Option Value) (m : mM) (r : Unit) (m' : mM), f_World_sellBills_103 F k2 k66 v1 v3 s1 s2 m = some (r, m') → m_R X (d + 5) 154 103 [some (.ref 16), some (.int v1), w2, some (.int v3)] [.int s2, .int s1, .ref 45] (SH, m) (none, (SH, m')) := by
  intro v1 v3 s1 s2 w2 m r m' h
  unfold f_World_sellBills_103 at h
  obtain ⟨c1168, h⟩ := m_ite_n h
  obtain ⟨c1169, h⟩ := m_ite_p h
  refine m_R_1 (by decide) (m_opb_of (ins := .bastore) (len := 1) (tag := 0) (a := 0) (b := 0) (c := 0) (q := 0) (by decide +kernel)) (m_s_bast sh_45 c1168 c1169) ?_
  refine m_R_sg (by decide) [(.aload_n 0, 1, 0, 0, 0, 0, 0), (.iload_n 1, 1, 0, 1, 0, 0, 0)] (by decide +kernel) (show m_sgl X _ _ _ _ _ = some (106, [some (.ref 16), some (.int v1), w2, some (.int v3)], [.int v1, .ref 16], (SH, (m_up m.1 45 s1.toNatClampNeg s2), m.2)) from rfl) ?_
  obtain ⟨q6, hc6, h⟩ := Option.bind_eq_some_iff.mp h
  refine m_R_cV (v := (some (.int q6.1))) (h1 := (SH, q6.2)) (rest := []) (lo' := [some (.ref 16), some (.int v1)]) (ml := 2) (k0 := 16) (by decide) (Or.inl rfl) (m_opb_of (ins := .invokevirtual 253) (len := 3) (tag := 5) (a := 29) (b := 1) (c := 0) (q := 966) (by decide +kernel)) (by decide +kernel) rfl (show m_isO 29 16 (SH, _) = true from m_isO_of (by decide +kernel)) (Nat.le_of_ble_eq_true rfl) rfl rfl (ok_World_coin X (d + 4) F _ _ _ _ hc6) ?_
  refine m_R_sg (by decide) [(.aload_n 0, 1, 0, 0, 0, 0, 0), (.getfield 21, 3, 0, 10, 1, 3, 505), (.getfield 256, 3, 0, 1, 3, 3, 259), (.iload_n 1, 1, 0, 1, 0, 0, 0)] (by decide +kernel) (show m_sgl X _ _ _ _ _ = some (117, [some (.ref 16), some (.int v1), w2, some (.int v3)], [.int v1, .ref 23, .int q6.1], (SH, q6.2.1, q6.2.2)) from rfl) ?_
  obtain ⟨c1170, h⟩ := m_ite_n h
  refine m_R_1 (by decide) (m_opb_of (ins := .iaload) (len := 1) (tag := 0) (a := 0) (b := 0) (c := 0) (q := 0) (by decide +kernel)) (m_s_iald sh_23 (by decide) c1170) ?_
  rcases m_ite h with ⟨c1171, h⟩ | ⟨c1171, h⟩
  · refine m_R_1 (by decide) (m_opb_of (ins := .if_icmp .ge 18) (len := 3) (tag := 0) (a := 136) (b := 0) (c := 0) (q := 0) (by decide +kernel)) (if_pos c1171) ?_
    refine m_R_sg (by decide) [(.iconst (-1), 1, 0, 1, 1, 0, 0)] (by decide +kernel) (show m_sgl X _ _ _ _ _ = some (137, [some (.ref 16), some (.int v1), w2, some (.int v3)], [.int (-1 : Int32)], (SH, q6.2.1, q6.2.2)) from rfl) ?_
    exact ok_World_sellBills_137 X d F _ hk2 _ hk66 _ _ _ _ _ _ _ h
  · refine m_R_1 (by decide) (m_opb_of (ins := .if_icmp .ge 18) (len := 3) (tag := 0) (a := 136) (b := 0) (c := 0) (q := 0) (by decide +kernel)) (if_neg c1171) ?_
    refine m_R_sg (by decide) [(.aload_n 0, 1, 0, 0, 0, 0, 0), (.getfield 28, 3, 0, 10, 2, 3, 508), (.iload_n 1, 1, 0, 1, 0, 0, 0), (.aload_n 0, 1, 0, 0, 0, 0, 0), (.getfield 95, 3, 0, 10, 9, 0, 520)] (by decide +kernel) (show m_sgl X _ _ _ _ _ = some (130, [some (.ref 16), some (.int v1), w2, some (.int v3)], [.int (q6.2.1 16 9), .int v1, .ref 31], (SH, q6.2.1, q6.2.2)) from rfl) ?_
    obtain ⟨q7, hc7, h⟩ := Option.bind_eq_some_iff.mp h
    refine m_R_cV (v := (some (.int q7.1))) (h1 := (SH, q7.2)) (rest := []) (lo' := [some (.ref 31), some (.int v1), some (.int (q6.2.1 16 9)), none, none]) (ml := 5) (k0 := 31) (by decide) (Or.inl rfl) (m_opb_of (ins := .invokevirtual 365) (len := 3) (tag := 5) (a := 156) (b := 2) (c := 0) (q := 1302) (by decide +kernel)) (by decide +kernel) rfl (show m_isO 156 31 (SH, _) = true from m_isO_of (by decide +kernel)) (Nat.le_of_ble_eq_true rfl) rfl rfl (ok_Papers_nextToSell X (d + 3) F _ _ _ _ _ hc7) ?_
    refine m_R_sg (by decide) [(.goto 4, 3, 0, 137, 0, 0, 0)] (by decide +kernel) (show m_sgl X _ _ _ _ _ = some (137, [some (.ref 16), some (.int v1), w2, some (.int v3)], [.int q7.1], (SH, q7.2.1, q7.2.2)) from rfl) ?_
    exact ok_World_sellBills_137 X d F _ hk2 _ hk66 _ _ _ _ _ _ _ h
def f_World_sellBills_144 (F : Nat)  (k2 : Int32 → mM → Option (Unit × mM)) (v1 : Int32) (m : mM) : Option (Unit × mM) := k2 (v1 + (1 : Int32)) m
theorem ok_World_sellBills_144 (X : mX) (d F : Nat) (k2 : Int32 → mM → Option (Unit × mM)) (hk2 : ∀ (v1 : Int32) (w2 : Option Value) (w3 : Option Value) (m : mM) (r : Unit) (m' : mM), k2 v1 m = some (r, m') → m_R X (d + 5) 154 2 [some (.ref 16), some (.int v1), w2, w3] [] (SH, m) (none, (SH, m'))) : ∀ (v1 : Int32) (w2 : Option Value) (w3 : Option Value) (m : mM) (r : Unit) (m' : mM), f_World_sellBills_144 F k2 v1 m = some (r, m') → m_R X (d + 5) 154 144 [some (.ref 16), some (.int v1), w2, w3] [] (SH, m) (none, (SH, m')) := by
  intro v1 w2 w3 m r m' h
  unfold f_World_sellBills_144 at h
  refine m_R_sg (by decide) [(.iinc 1 1, 3, 0, 1, 1, 0, 0), (.goto (-145), 3, 0, 2, 0, 0, 0)] (by decide +kernel) (show m_sgl X _ _ _ _ _ = some (2, [some (.ref 16), some (.int (v1 + (1 : Int32))), w2, w3], [], (SH, m.1, m.2)) from rfl) ?_
  exact hk2 _ _ _ _ _ _ h
def f_World_sellBills_66 (F : Nat)  (k2 : Int32 → mM → Option (Unit × mM)) : Nat → Int32 → Int32 → Int32 → mM → Option (Unit × mM)
  | 0, _, _, _, _ => none
  | n + 1, v1, v2, v3, m => (if (m.1 31 15) ≤ v3 then f_World_sellBills_144 F k2 v1 m else (if v2 = (-1 : Int32) then f_World_sellBills_144 F k2 v1 m else ((f_World_offer F v2 m).bind fun q5 => (if q5.1 = 0 then f_World_sellBills_103 F k2 (f_World_sellBills_66 F k2 n) v1 v3 v2 (1 : Int32) q5.2 else f_World_sellBills_103 F k2 (f_World_sellBills_66 F k2 n) v1 v3 v2 (0 : Int32) q5.2))))
theorem ok_World_sellBills_66 (X : mX) (d F : Nat) (k2 : Int32 → mM → Option (Unit × mM)) (hk2 : ∀ (v1 : Int32) (w2 : Option Value) (w3 : Option Value) (m : mM) (r : Unit) (m' : mM), k2 v1 m = some (r, m') → m_R X (d + 5) 154 2 [some (.ref 16), some (.int v1), w2, w3] [] (SH, m) (none, (SH, m'))) : ∀ (n : Nat) (v1 : Int32) (v2 : Int32) (v3 : Int32)  (m : mM) (r : Unit) (m' : mM), f_World_sellBills_66 F k2 n v1 v2 v3 m = some (r, m') → m_R X (d + 5) 154 66 [some (.ref 16), some (.int v1), some (.int v2), some (.int v3)] [] (SH, m) (none, (SH, m')) := by
  intro n
  induction n with
  | zero => intro v1 v2 v3 m r m' h; cases h
  | succ n ih =>
    intro v1 v2 v3 m r m' h
    simp only [f_World_sellBills_66] at h
    refine m_R_sg (by decide) [(.iload_n 3, 1, 0, 3, 0, 0, 0), (.aload_n 0, 1, 0, 0, 0, 0, 0), (.getfield 28, 3, 0, 10, 2, 3, 508), (.getfield 353, 3, 0, 4, 15, 0, 365)] (by decide +kernel) (show m_sgl X _ _ _ _ _ = some (74, [some (.ref 16), some (.int v1), some (.int v2), some (.int v3)], [.int (m.1 31 15), .int v3], (SH, m.1, m.2)) from rfl) ?_
    rcases m_ite h with ⟨c1172, h⟩ | ⟨c1172, h⟩
    · refine m_R_1 (by decide) (m_opb_of (ins := .if_icmp .ge 70) (len := 3) (tag := 0) (a := 144) (b := 0) (c := 0) (q := 0) (by decide +kernel)) (if_pos c1172) ?_
      exact ok_World_sellBills_144 X d F _ hk2 _ _ _ _ _ _ h
    · refine m_R_1 (by decide) (m_opb_of (ins := .if_icmp .ge 70) (len := 3) (tag := 0) (a := 144) (b := 0) (c := 0) (q := 0) (by decide +kernel)) (if_neg c1172) ?_
      refine m_R_sg (by decide) [(.iload_n 2, 1, 0, 2, 0, 0, 0), (.iconst (-1), 1, 0, 1, 1, 0, 0)] (by decide +kernel) (show m_sgl X _ _ _ _ _ = some (79, [some (.ref 16), some (.int v1), some (.int v2), some (.int v3)], [.int (-1 : Int32), .int v2], (SH, m.1, m.2)) from rfl) ?_
      rcases m_ite h with ⟨c1173, h⟩ | ⟨c1173, h⟩
      · refine m_R_1 (by decide) (m_opb_of (ins := .if_icmp .eq 65) (len := 3) (tag := 0) (a := 144) (b := 0) (c := 0) (q := 0) (by decide +kernel)) (if_pos c1173) ?_
        exact ok_World_sellBills_144 X d F _ hk2 _ _ _ _ _ _ h
      · refine m_R_1 (by decide) (m_opb_of (ins := .if_icmp .eq 65) (len := 3) (tag := 0) (a := 144) (b := 0) (c := 0) (q := 0) (by decide +kernel)) (if_neg c1173) ?_
        refine m_R_sg (by decide) [(.aload_n 0, 1, 0, 0, 0, 0, 0), (.getfield 28, 3, 0, 10, 2, 3, 508), (.getfield 368, 3, 0, 4, 13, 3, 360), (.iload_n 2, 1, 0, 2, 0, 0, 0), (.aload_n 0, 1, 0, 0, 0, 0, 0), (.iload_n 2, 1, 0, 2, 0, 0, 0)] (by decide +kernel) (show m_sgl X _ _ _ _ _ = some (92, [some (.ref 16), some (.int v1), some (.int v2), some (.int v3)], [.int v2, .ref 16, .int v2, .ref 45], (SH, m.1, m.2)) from rfl) ?_
        obtain ⟨q5, hc5, h⟩ := Option.bind_eq_some_iff.mp h
        refine m_R_cV (v := (some (.int q5.1))) (h1 := (SH, q5.2)) (rest := [.int v2, .ref 45]) (lo' := [some (.ref 16), some (.int v2), none, none, none]) (ml := 5) (k0 := 16) (by decide) (Or.inl rfl) (m_opb_of (ins := .invokevirtual 372) (len := 3) (tag := 5) (a := 83) (b := 1) (c := 0) (q := 1307) (by decide +kernel)) (by decide +kernel) rfl (show m_isO 83 16 (SH, _) = true from m_isO_of (by decide +kernel)) (Nat.le_of_ble_eq_true rfl) rfl rfl (ok_World_offer X (d + 0) F _ _ _ _ hc5) ?_
        rcases m_ite h with ⟨c1174, h⟩ | ⟨c1174, h⟩
        · refine m_R_1 (by decide) (m_opb_of (ins := .ifCond .ne 7) (len := 3) (tag := 0) (a := 102) (b := 0) (c := 0) (q := 0) (by decide +kernel)) (if_pos c1174) ?_
          refine m_R_sg (by decide) [(.iconst 1, 1, 0, 1, 0, 0, 0), (.goto 4, 3, 0, 103, 0, 0, 0)] (by decide +kernel) (show m_sgl X _ _ _ _ _ = some (103, [some (.ref 16), some (.int v1), some (.int v2), some (.int v3)], [.int (1 : Int32), .int v2, .ref 45], (SH, q5.2.1, q5.2.2)) from rfl) ?_
          exact ok_World_sellBills_103 X d F _ hk2 _ (fun a0 a1 a2 m r m' h => ih a0 a1 a2 m r m' h) _ _ _ _ _ _ _ _ h
        · refine m_R_1 (by decide) (m_opb_of (ins := .ifCond .ne 7) (len := 3) (tag := 0) (a := 102) (b := 0) (c := 0) (q := 0) (by decide +kernel)) (if_neg c1174) ?_
          refine m_R_sg (by decide) [(.iconst 0, 1, 0, 0, 0, 0, 0)] (by decide +kernel) (show m_sgl X _ _ _ _ _ = some (103, [some (.ref 16), some (.int v1), some (.int v2), some (.int v3)], [.int (0 : Int32), .int v2, .ref 45], (SH, q5.2.1, q5.2.2)) from rfl) ?_
          exact ok_World_sellBills_103 X d F _ hk2 _ (fun a0 a1 a2 m r m' h => ih a0 a1 a2 m r m' h) _ _ _ _ _ _ _ _ h
def f_World_sellBills_2 (F : Nat)   : Nat → Int32 → mM → Option (Unit × mM)
  | 0, _, _ => none
  | n + 1, v1, m => (if (m.1 19 11) ≤ v1 then some ((), m) else ((f_Houses_isUp F v1 m).bind fun q1 => (if q1.1 = 0 then f_World_sellBills_144 F (f_World_sellBills_2 F n) v1 q1.2 else ((f_World_coin F v1 q1.2).bind fun q2 => (if v1 < 0 ∨ 16 ≤ v1.toNatClampNeg then none else (if q2.1 < (q2.2.1 23 v1.toNatClampNeg) then ((f_Papers_forgetTurnedAway F q2.2).bind fun q3 => ((f_Papers_nextToSell F v1 (q3.2.1 16 9) q3.2).bind fun q4 => f_World_sellBills_66 F (f_World_sellBills_2 F n) F v1 q4.1 (0 : Int32) q4.2)) else f_World_sellBills_144 F (f_World_sellBills_2 F n) v1 q2.2))))))
theorem ok_World_sellBills_2 (X : mX) (d F : Nat) : ∀ (n : Nat) (v1 : Int32) (w2 : Option Value) (w3 : Option Value) (m : mM) (r : Unit) (m' : mM), f_World_sellBills_2 F n v1 m = some (r, m') → m_R X (d + 5) 154 2 [some (.ref 16), some (.int v1), w2, w3] [] (SH, m) (none, (SH, m')) := by
  intro n
  induction n with
  | zero => intro v1 w2 w3 m r m' h; cases h
  | succ n ih =>
    intro v1 w2 w3 m r m' h
    simp only [f_World_sellBills_2] at h
    refine m_R_sg (by decide) [(.iload_n 1, 1, 0, 1, 0, 0, 0), (.aload_n 0, 1, 0, 0, 0, 0, 0), (.getfield 21, 3, 0, 10, 1, 3, 505), (.getfield 297, 3, 0, 1, 11, 0, 280)] (by decide +kernel) (show m_sgl X _ _ _ _ _ = some (10, [some (.ref 16), some (.int v1), w2, w3], [.int (m.1 19 11), .int v1], (SH, m.1, m.2)) from rfl) ?_
    rcases m_ite h with ⟨c1175, h⟩ | ⟨c1175, h⟩
    · refine m_R_1 (by decide) (m_opb_of (ins := .if_icmp .ge 140) (len := 3) (tag := 0) (a := 150) (b := 0) (c := 0) (q := 0) (by decide +kernel)) (if_pos c1175) ?_
      obtain ⟨rfl, rfl⟩ := m_some h
      exact m_R_vret (by decide) (m_opb_of (ins := .return_) (len := 1) (tag := 3) (a := 0) (b := 0) (c := 0) (q := 0) (by decide +kernel))
    · refine m_R_1 (by decide) (m_opb_of (ins := .if_icmp .ge 140) (len := 3) (tag := 0) (a := 150) (b := 0) (c := 0) (q := 0) (by decide +kernel)) (if_neg c1175) ?_
      refine m_R_sg (by decide) [(.aload_n 0, 1, 0, 0, 0, 0, 0), (.getfield 21, 3, 0, 10, 1, 3, 505), (.iload_n 1, 1, 0, 1, 0, 0, 0)] (by decide +kernel) (show m_sgl X _ _ _ _ _ = some (18, [some (.ref 16), some (.int v1), w2, w3], [.int v1, .ref 19], (SH, m.1, m.2)) from rfl) ?_
      obtain ⟨q1, hc1, h⟩ := Option.bind_eq_some_iff.mp h
      refine m_R_cV (v := (some (.int q1.1))) (h1 := (SH, q1.2)) (rest := []) (lo' := [some (.ref 19), some (.int v1)]) (ml := 2) (k0 := 19) (by decide) (Or.inl rfl) (m_opb_of (ins := .invokevirtual 250) (len := 3) (tag := 5) (a := 25) (b := 1) (c := 0) (q := 965) (by decide +kernel)) (by decide +kernel) rfl (show m_isO 25 19 (SH, _) = true from m_isO_of (by decide +kernel)) (Nat.le_of_ble_eq_true rfl) rfl rfl (ok_Houses_isUp X (d + 3) F _ _ _ _ hc1) ?_
      rcases m_ite h with ⟨c1176, h⟩ | ⟨c1176, h⟩
      · refine m_R_1 (by decide) (m_opb_of (ins := .ifCond .eq 123) (len := 3) (tag := 0) (a := 144) (b := 0) (c := 0) (q := 0) (by decide +kernel)) (if_pos c1176) ?_
        exact ok_World_sellBills_144 X d F _ (fun a0 a1 a2 m r m' h => ih a0 a1 a2 m r m' h) _ _ _ _ _ _ h
      · refine m_R_1 (by decide) (m_opb_of (ins := .ifCond .eq 123) (len := 3) (tag := 0) (a := 144) (b := 0) (c := 0) (q := 0) (by decide +kernel)) (if_neg c1176) ?_
        refine m_R_sg (by decide) [(.aload_n 0, 1, 0, 0, 0, 0, 0), (.iload_n 1, 1, 0, 1, 0, 0, 0)] (by decide +kernel) (show m_sgl X _ _ _ _ _ = some (26, [some (.ref 16), some (.int v1), w2, w3], [.int v1, .ref 16], (SH, q1.2.1, q1.2.2)) from rfl) ?_
        obtain ⟨q2, hc2, h⟩ := Option.bind_eq_some_iff.mp h
        refine m_R_cV (v := (some (.int q2.1))) (h1 := (SH, q2.2)) (rest := []) (lo' := [some (.ref 16), some (.int v1)]) (ml := 2) (k0 := 16) (by decide) (Or.inl rfl) (m_opb_of (ins := .invokevirtual 253) (len := 3) (tag := 5) (a := 29) (b := 1) (c := 0) (q := 966) (by decide +kernel)) (by decide +kernel) rfl (show m_isO 29 16 (SH, _) = true from m_isO_of (by decide +kernel)) (Nat.le_of_ble_eq_true rfl) rfl rfl (ok_World_coin X (d + 4) F _ _ _ _ hc2) ?_
        refine m_R_sg (by decide) [(.aload_n 0, 1, 0, 0, 0, 0, 0), (.getfield 21, 3, 0, 10, 1, 3, 505), (.getfield 256, 3, 0, 1, 3, 3, 259), (.iload_n 1, 1, 0, 1, 0, 0, 0)] (by decide +kernel) (show m_sgl X _ _ _ _ _ = some (37, [some (.ref 16), some (.int v1), w2, w3], [.int v1, .ref 23, .int q2.1], (SH, q2.2.1, q2.2.2)) from rfl) ?_
        obtain ⟨c1177, h⟩ := m_ite_n h
        refine m_R_1 (by decide) (m_opb_of (ins := .iaload) (len := 1) (tag := 0) (a := 0) (b := 0) (c := 0) (q := 0) (by decide +kernel)) (m_s_iald sh_23 (by decide) c1177) ?_
        rcases m_ite h with ⟨c1178, h⟩ | ⟨c1178, h⟩
        · refine m_R_1 (by decide) (m_opb_of (ins := .if_icmp .lt 6) (len := 3) (tag := 0) (a := 44) (b := 0) (c := 0) (q := 0) (by decide +kernel)) (if_pos c1178) ?_
          refine m_R_sg (by decide) [(.aload_n 0, 1, 0, 0, 0, 0, 0), (.getfield 28, 3, 0, 10, 2, 3, 508)] (by decide +kernel) (show m_sgl X _ _ _ _ _ = some (48, [some (.ref 16), some (.int v1), w2, w3], [.ref 31], (SH, q2.2.1, q2.2.2)) from rfl) ?_
          obtain ⟨q3, hc3, h⟩ := Option.bind_eq_some_iff.mp h
          refine m_R_cV (v := none) (h1 := (SH, q3.2)) (rest := []) (lo' := [some (.ref 31), none]) (ml := 2) (k0 := 31) (by decide) (Or.inl rfl) (m_opb_of (ins := .invokevirtual 362) (len := 3) (tag := 5) (a := 155) (b := 0) (c := 0) (q := 1298) (by decide +kernel)) (by decide +kernel) rfl (show m_isO 155 31 (SH, _) = true from m_isO_of (by decide +kernel)) (Nat.le_of_ble_eq_true rfl) rfl rfl (ok_Papers_forgetTurnedAway X (d + 4) F _ _ _ hc3) ?_
          refine m_R_sg (by decide) [(.aload_n 0, 1, 0, 0, 0, 0, 0), (.getfield 28, 3, 0, 10, 2, 3, 508), (.iload_n 1, 1, 0, 1, 0, 0, 0), (.aload_n 0, 1, 0, 0, 0, 0, 0), (.getfield 95, 3, 0, 10, 9, 0, 520)] (by decide +kernel) (show m_sgl X _ _ _ _ _ = some (60, [some (.ref 16), some (.int v1), w2, w3], [.int (q3.2.1 16 9), .int v1, .ref 31], (SH, q3.2.1, q3.2.2)) from rfl) ?_
          obtain ⟨q4, hc4, h⟩ := Option.bind_eq_some_iff.mp h
          refine m_R_cV (v := (some (.int q4.1))) (h1 := (SH, q4.2)) (rest := []) (lo' := [some (.ref 31), some (.int v1), some (.int (q3.2.1 16 9)), none, none]) (ml := 5) (k0 := 31) (by decide) (Or.inl rfl) (m_opb_of (ins := .invokevirtual 365) (len := 3) (tag := 5) (a := 156) (b := 2) (c := 0) (q := 1302) (by decide +kernel)) (by decide +kernel) rfl (show m_isO 156 31 (SH, _) = true from m_isO_of (by decide +kernel)) (Nat.le_of_ble_eq_true rfl) rfl rfl (ok_Papers_nextToSell X (d + 3) F _ _ _ _ _ hc4) ?_
          refine m_R_sg (by decide) [(.istore_n 2, 1, 0, 2, 0, 0, 0), (.iconst 0, 1, 0, 0, 0, 0, 0), (.istore_n 3, 1, 0, 3, 0, 0, 0)] (by decide +kernel) (show m_sgl X _ _ _ _ _ = some (66, [some (.ref 16), some (.int v1), some (.int q4.1), some (.int (0 : Int32))], [], (SH, q4.2.1, q4.2.2)) from rfl) ?_
          exact ok_World_sellBills_66 X d F _ (fun a0 a1 a2 m r m' h => ih a0 a1 a2 m r m' h) F _ _ _ _ _ _ h
        · refine m_R_1 (by decide) (m_opb_of (ins := .if_icmp .lt 6) (len := 3) (tag := 0) (a := 44) (b := 0) (c := 0) (q := 0) (by decide +kernel)) (if_neg c1178) ?_
          refine m_R_sg (by decide) [(.goto 103, 3, 0, 144, 0, 0, 0)] (by decide +kernel) (show m_sgl X _ _ _ _ _ = some (144, [some (.ref 16), some (.int v1), w2, w3], [], (SH, q2.2.1, q2.2.2)) from rfl) ?_
          exact ok_World_sellBills_144 X d F _ (fun a0 a1 a2 m r m' h => ih a0 a1 a2 m r m' h) _ _ _ _ _ _ h
def f_World_sellBills (F : Nat)    (m : mM) : Option (Unit × mM) := f_World_sellBills_2 F F (1 : Int32) m
theorem ok_World_sellBills (X : mX) (d F : Nat) : ∀   (m : mM) (r : Unit) (m' : mM), f_World_sellBills F  m = some (r, m') → m_R X (d + 5) 154 0 [some (.ref 16), none, none, none] [] (SH, m) (none, (SH, m')) := by
  intro m r m' h
  unfold f_World_sellBills at h
  refine m_R_sg (by decide) [(.iconst 1, 1, 0, 1, 0, 0, 0), (.istore_n 1, 1, 0, 1, 0, 0, 0)] (by decide +kernel) (show m_sgl X _ _ _ _ _ = some (2, [some (.ref 16), some (.int (1 : Int32)), none, none], [], (SH, m.1, m.2)) from rfl) ?_
  exact ok_World_sellBills_2 X d F F _ _ _ _ _ _ h
def f_World_heardFailures_84 (F : Nat)  (k5 : Int32 → Int32 → Int32 → Int32 → mM → Option (Int32 × mM)) (v1 : Int32) (v2 : Int32) (v3 : Int32) (v4 : Int32) (m : mM) : Option (Int32 × mM) := k5 v1 v2 v3 (v4 + (1 : Int32)) m
theorem ok_World_heardFailures_84 (X : mX) (d F : Nat) (k5 : Int32 → Int32 → Int32 → Int32 → mM → Option (Int32 × mM)) (hk5 : ∀ (v1 : Int32) (v2 : Int32) (v3 : Int32) (v4 : Int32) (w5 : Option Value) (w6 : Option Value) (m : mM) (r : Int32) (m' : mM), k5 v1 v2 v3 v4 m = some (r, m') → m_R X (d + 3) 158 5 [some (.ref 16), some (.int v1), some (.int v2), some (.int v3), some (.int v4), w5, w6] [] (SH, m) (some (.int r), (SH, m'))) : ∀ (v1 : Int32) (v2 : Int32) (v3 : Int32) (v4 : Int32) (w5 : Option Value) (w6 : Option Value) (m : mM) (r : Int32) (m' : mM), f_World_heardFailures_84 F k5 v1 v2 v3 v4 m = some (r, m') → m_R X (d + 3) 158 84 [some (.ref 16), some (.int v1), some (.int v2), some (.int v3), some (.int v4), w5, w6] [] (SH, m) (some (.int r), (SH, m')) := by
  intro v1 v2 v3 v4 w5 w6 m r m' h
  unfold f_World_heardFailures_84 at h
  refine m_R_sg (by decide) [(.iinc 4 1, 3, 0, 4, 1, 0, 0), (.goto (-82), 3, 0, 5, 0, 0, 0)] (by decide +kernel) (show m_sgl X _ _ _ _ _ = some (5, [some (.ref 16), some (.int v1), some (.int v2), some (.int v3), some (.int (v4 + (1 : Int32))), w5, w6], [], (SH, m.1, m.2)) from rfl) ?_
  exact hk5 _ _ _ _ _ _ _ _ _ h
def f_World_heardFailures_82 (F : Nat)  (k5 : Int32 → Int32 → Int32 → Int32 → mM → Option (Int32 × mM)) (v1 : Int32) (v2 : Int32) (v4 : Int32) (s0 : Int32) (s1 : Int32) (m : mM) : Option (Int32 × mM) := f_World_heardFailures_84 F k5 v1 v2 (s0 + s1) v4 m
theorem ok_World_heardFailures_82 (X : mX) (d F : Nat) (k5 : Int32 → Int32 → Int32 → Int32 → mM → Option (Int32 × mM)) (hk5 : ∀ (v1 : Int32) (v2 : Int32) (v3 : Int32) (v4 : Int32) (w5 : Option Value) (w6 : Option Value) (m : mM) (r : Int32) (m' : mM), k5 v1 v2 v3 v4 m = some (r, m') → m_R X (d + 3) 158 5 [some (.ref 16), some (.int v1), some (.int v2), some (.int v3), some (.int v4), w5, w6] [] (SH, m) (some (.int r), (SH, m'))) : ∀ (v1 : Int32) (v2 : Int32) (v4 : Int32) (s0 : Int32) (s1 : Int32) (w3 : Option Value) (w5 : Option Value) (w6 : Option Value) (m : mM) (r : Int32) (m' : mM), f_World_heardFailures_82 F k5 v1 v2 v4 s0 s1 m = some (r, m') → m_R X (d + 3) 158 82 [some (.ref 16), some (.int v1), some (.int v2), w3, some (.int v4), w5, w6] [.int s1, .int s0] (SH, m) (some (.int r), (SH, m')) := by
  intro v1 v2 v4 s0 s1 w3 w5 w6 m r m' h
  unfold f_World_heardFailures_82 at h
  refine m_R_sg (by decide) [(.iadd, 1, 0, 0, 0, 0, 0), (.istore_n 3, 1, 0, 3, 0, 0, 0)] (by decide +kernel) (show m_sgl X _ _ _ _ _ = some (84, [some (.ref 16), some (.int v1), some (.int v2), some (.int (s0 + s1)), some (.int v4), w5, w6], [], (SH, m.1, m.2)) from rfl) ?_
  exact ok_World_heardFailures_84 X d F _ hk5 _ _ _ _ _ _ _ _ _ h
def f_World_heardFailures_81 (F : Nat)  (k5 : Int32 → Int32 → Int32 → Int32 → mM → Option (Int32 × mM)) (v1 : Int32) (v2 : Int32) (v4 : Int32) (s0 : Int32) (m : mM) : Option (Int32 × mM) := f_World_heardFailures_82 F k5 v1 v2 v4 s0 (0 : Int32) m
theorem ok_World_heardFailures_81 (X : mX) (d F : Nat) (k5 : Int32 → Int32 → Int32 → Int32 → mM → Option (Int32 × mM)) (hk5 : ∀ (v1 : Int32) (v2 : Int32) (v3 : Int32) (v4 : Int32) (w5 : Option Value) (w6 : Option Value) (m : mM) (r : Int32) (m' : mM), k5 v1 v2 v3 v4 m = some (r, m') → m_R X (d + 3) 158 5 [some (.ref 16), some (.int v1), some (.int v2), some (.int v3), some (.int v4), w5, w6] [] (SH, m) (some (.int r), (SH, m'))) : ∀ (v1 : Int32) (v2 : Int32) (v4 : Int32) (s0 : Int32) (w3 : Option Value) (w5 : Option Value) (w6 : Option Value) (m : mM) (r : Int32) (m' : mM), f_World_heardFailures_81 F k5 v1 v2 v4 s0 m = some (r, m') → m_R X (d + 3) 158 81 [some (.ref 16), some (.int v1), some (.int v2), w3, some (.int v4), w5, w6] [.int s0] (SH, m) (some (.int r), (SH, m')) := by
  intro v1 v2 v4 s0 w3 w5 w6 m r m' h
  unfold f_World_heardFailures_81 at h
  refine m_R_sg (by decide) [(.iconst 0, 1, 0, 0, 0, 0, 0)] (by decide +kernel) (show m_sgl X _ _ _ _ _ = some (82, [some (.ref 16), some (.int v1), some (.int v2), w3, some (.int v4), w5, w6], [.int (0 : Int32), .int s0], (SH, m.1, m.2)) from rfl) ?_
  exact ok_World_heardFailures_82 X d F _ hk5 _ _ _ _ _ _ _ _ _ _ _ h
def f_World_heardFailures_5 (F : Nat)   : Nat → Int32 → Int32 → Int32 → Int32 → mM → Option (Int32 × mM)
  | 0, _, _, _, _, _ => none
  | n + 1, v1, v2, v3, v4, m => (if (m.1 19 11) ≤ v4 then some (v3, m) else (if v4 < 0 ∨ 16 ≤ v4.toNatClampNeg then none else (if (m.1 27 v4.toNatClampNeg) = (-1 : Int32) then f_World_heardFailures_84 F (f_World_heardFailures_5 F n) v1 v2 v3 v4 m else (if (m.1 27 v4.toNatClampNeg) < (v2 - (29 : Int32)) then f_World_heardFailures_84 F (f_World_heardFailures_5 F n) v1 v2 v3 v4 m else ((f_World_farFrom F v1 (m.1 21 v4.toNatClampNeg) m).bind fun q1 => (if q1.1 = (-1 : Int32) then f_World_heardFailures_81 F (f_World_heardFailures_5 F n) v1 v2 v4 v3 q1.2 else (if v2 < ((m.1 27 v4.toNatClampNeg) + q1.1) then f_World_heardFailures_81 F (f_World_heardFailures_5 F n) v1 v2 v4 v3 q1.2 else f_World_heardFailures_82 F (f_World_heardFailures_5 F n) v1 v2 v4 v3 (1 : Int32) q1.2)))))))
theorem ok_World_heardFailures_5 (X : mX) (d F : Nat) : ∀ (n : Nat) (v1 : Int32) (v2 : Int32) (v3 : Int32) (v4 : Int32) (w5 : Option Value) (w6 : Option Value) (m : mM) (r : Int32) (m' : mM), f_World_heardFailures_5 F n v1 v2 v3 v4 m = some (r, m') → m_R X (d + 3) 158 5 [some (.ref 16), some (.int v1), some (.int v2), some (.int v3), some (.int v4), w5, w6] [] (SH, m) (some (.int r), (SH, m')) := by
  intro n
  induction n with
  | zero => intro v1 v2 v3 v4 w5 w6 m r m' h; cases h
  | succ n ih =>
    intro v1 v2 v3 v4 w5 w6 m r m' h
    simp only [f_World_heardFailures_5] at h
    refine m_R_sg (by decide) [(.iload 4, 2, 0, 4, 0, 0, 0), (.aload_n 0, 1, 0, 0, 0, 0, 0), (.getfield 21, 3, 0, 10, 1, 3, 505), (.getfield 297, 3, 0, 1, 11, 0, 280)] (by decide +kernel) (show m_sgl X _ _ _ _ _ = some (14, [some (.ref 16), some (.int v1), some (.int v2), some (.int v3), some (.int v4), w5, w6], [.int (m.1 19 11), .int v4], (SH, m.1, m.2)) from rfl) ?_
    rcases m_ite h with ⟨c1179, h⟩ | ⟨c1179, h⟩
    · refine m_R_1 (by decide) (m_opb_of (ins := .if_icmp .ge 76) (len := 3) (tag := 0) (a := 90) (b := 0) (c := 0) (q := 0) (by decide +kernel)) (if_pos c1179) ?_
      refine m_R_sg (by decide) [(.iload_n 3, 1, 0, 3, 0, 0, 0)] (by decide +kernel) (show m_sgl X _ _ _ _ _ = some (91, [some (.ref 16), some (.int v1), some (.int v2), some (.int v3), some (.int v4), w5, w6], [.int v3], (SH, m.1, m.2)) from rfl) ?_
      obtain ⟨rfl, rfl⟩ := m_some h
      exact m_R_iret (by decide) (m_opb_of (ins := .ireturn) (len := 1) (tag := 1) (a := 0) (b := 0) (c := 0) (q := 0) (by decide +kernel)) (Or.inl rfl)
    · refine m_R_1 (by decide) (m_opb_of (ins := .if_icmp .ge 76) (len := 3) (tag := 0) (a := 90) (b := 0) (c := 0) (q := 0) (by decide +kernel)) (if_neg c1179) ?_
      refine m_R_sg (by decide) [(.aload_n 0, 1, 0, 0, 0, 0, 0), (.getfield 21, 3, 0, 10, 1, 3, 505), (.getfield 300, 3, 0, 1, 7, 3, 271), (.iload 4, 2, 0, 4, 0, 0, 0)] (by decide +kernel) (show m_sgl X _ _ _ _ _ = some (26, [some (.ref 16), some (.int v1), some (.int v2), some (.int v3), some (.int v4), w5, w6], [.int v4, .ref 27], (SH, m.1, m.2)) from rfl) ?_
      obtain ⟨c1180, h⟩ := m_ite_n h
      refine m_R_1 (by decide) (m_opb_of (ins := .iaload) (len := 1) (tag := 0) (a := 0) (b := 0) (c := 0) (q := 0) (by decide +kernel)) (m_s_iald sh_27 (by decide) c1180) ?_
      refine m_R_sg (by decide) [(.istore 5, 2, 0, 5, 0, 0, 0), (.iload 5, 2, 0, 5, 0, 0, 0), (.iconst (-1), 1, 0, 1, 1, 0, 0)] (by decide +kernel) (show m_sgl X _ _ _ _ _ = some (32, [some (.ref 16), some (.int v1), some (.int v2), some (.int v3), some (.int v4), some (.int (m.1 27 v4.toNatClampNeg)), w6], [.int (-1 : Int32), .int (m.1 27 v4.toNatClampNeg)], (SH, m.1, m.2)) from rfl) ?_
      rcases m_ite h with ⟨c1181, h⟩ | ⟨c1181, h⟩
      · refine m_R_1 (by decide) (m_opb_of (ins := .if_icmp .eq 52) (len := 3) (tag := 0) (a := 84) (b := 0) (c := 0) (q := 0) (by decide +kernel)) (if_pos c1181) ?_
        exact ok_World_heardFailures_84 X d F _ (fun a0 a1 a2 a3 a4 a5 m r m' h => ih a0 a1 a2 a3 a4 a5 m r m' h) _ _ _ _ _ _ _ _ _ h
      · refine m_R_1 (by decide) (m_opb_of (ins := .if_icmp .eq 52) (len := 3) (tag := 0) (a := 84) (b := 0) (c := 0) (q := 0) (by decide +kernel)) (if_neg c1181) ?_
        refine m_R_sg (by decide) [(.iload 5, 2, 0, 5, 0, 0, 0), (.iload_n 2, 1, 0, 2, 0, 0, 0), (.bipush 29, 2, 0, 29, 0, 0, 0), (.isub, 1, 0, 0, 0, 0, 0)] (by decide +kernel) (show m_sgl X _ _ _ _ _ = some (41, [some (.ref 16), some (.int v1), some (.int v2), some (.int v3), some (.int v4), some (.int (m.1 27 v4.toNatClampNeg)), w6], [.int (v2 - (29 : Int32)), .int (m.1 27 v4.toNatClampNeg)], (SH, m.1, m.2)) from rfl) ?_
        rcases m_ite h with ⟨c1182, h⟩ | ⟨c1182, h⟩
        · refine m_R_1 (by decide) (m_opb_of (ins := .if_icmp .lt 43) (len := 3) (tag := 0) (a := 84) (b := 0) (c := 0) (q := 0) (by decide +kernel)) (if_pos c1182) ?_
          exact ok_World_heardFailures_84 X d F _ (fun a0 a1 a2 a3 a4 a5 m r m' h => ih a0 a1 a2 a3 a4 a5 m r m' h) _ _ _ _ _ _ _ _ _ h
        · refine m_R_1 (by decide) (m_opb_of (ins := .if_icmp .lt 43) (len := 3) (tag := 0) (a := 84) (b := 0) (c := 0) (q := 0) (by decide +kernel)) (if_neg c1182) ?_
          refine m_R_sg (by decide) [(.aload_n 0, 1, 0, 0, 0, 0, 0), (.iload_n 1, 1, 0, 1, 0, 0, 0), (.aload_n 0, 1, 0, 0, 0, 0, 0), (.getfield 21, 3, 0, 10, 1, 3, 505), (.getfield 113, 3, 0, 1, 1, 3, 252), (.iload 4, 2, 0, 4, 0, 0, 0)] (by decide +kernel) (show m_sgl X _ _ _ _ _ = some (55, [some (.ref 16), some (.int v1), some (.int v2), some (.int v3), some (.int v4), some (.int (m.1 27 v4.toNatClampNeg)), w6], [.int v4, .ref 21, .int v1, .ref 16], (SH, m.1, m.2)) from rfl) ?_
          refine m_R_1 (by decide) (m_opb_of (ins := .iaload) (len := 1) (tag := 0) (a := 0) (b := 0) (c := 0) (q := 0) (by decide +kernel)) (m_s_iald sh_21 (by decide) c1180) ?_
          obtain ⟨q1, hc1, h⟩ := Option.bind_eq_some_iff.mp h
          refine m_R_cV (v := (some (.int q1.1))) (h1 := (SH, q1.2)) (rest := []) (lo' := [some (.ref 16), some (.int v1), some (.int (m.1 21 v4.toNatClampNeg))]) (ml := 3) (k0 := 16) (by decide) (Or.inl rfl) (m_opb_of (ins := .invokevirtual 291) (len := 3) (tag := 5) (a := 151) (b := 2) (c := 0) (q := 1280) (by decide +kernel)) (by decide +kernel) rfl (show m_isO 151 16 (SH, _) = true from m_isO_of (by decide +kernel)) (Nat.le_of_ble_eq_true rfl) rfl rfl (ok_World_farFrom X (d + 0) F _ _ _ _ _ hc1) ?_
          refine m_R_sg (by decide) [(.istore 6, 2, 0, 6, 0, 0, 0), (.iload_n 3, 1, 0, 3, 0, 0, 0), (.iload 6, 2, 0, 6, 0, 0, 0), (.iconst (-1), 1, 0, 1, 1, 0, 0)] (by decide +kernel) (show m_sgl X _ _ _ _ _ = some (65, [some (.ref 16), some (.int v1), some (.int v2), some (.int v3), some (.int v4), some (.int (m.1 27 v4.toNatClampNeg)), some (.int q1.1)], [.int (-1 : Int32), .int q1.1, .int v3], (SH, q1.2.1, q1.2.2)) from rfl) ?_
          rcases m_ite h with ⟨c1183, h⟩ | ⟨c1183, h⟩
          · refine m_R_1 (by decide) (m_opb_of (ins := .if_icmp .eq 16) (len := 3) (tag := 0) (a := 81) (b := 0) (c := 0) (q := 0) (by decide +kernel)) (if_pos c1183) ?_
            exact ok_World_heardFailures_81 X d F _ (fun a0 a1 a2 a3 a4 a5 m r m' h => ih a0 a1 a2 a3 a4 a5 m r m' h) _ _ _ _ _ _ _ _ _ _ h
          · refine m_R_1 (by decide) (m_opb_of (ins := .if_icmp .eq 16) (len := 3) (tag := 0) (a := 81) (b := 0) (c := 0) (q := 0) (by decide +kernel)) (if_neg c1183) ?_
            refine m_R_sg (by decide) [(.iload 5, 2, 0, 5, 0, 0, 0), (.iload 6, 2, 0, 6, 0, 0, 0), (.iadd, 1, 0, 0, 0, 0, 0), (.iload_n 2, 1, 0, 2, 0, 0, 0)] (by decide +kernel) (show m_sgl X _ _ _ _ _ = some (74, [some (.ref 16), some (.int v1), some (.int v2), some (.int v3), some (.int v4), some (.int (m.1 27 v4.toNatClampNeg)), some (.int q1.1)], [.int v2, .int ((m.1 27 v4.toNatClampNeg) + q1.1), .int v3], (SH, q1.2.1, q1.2.2)) from rfl) ?_
            rcases m_ite h with ⟨c1184, h⟩ | ⟨c1184, h⟩
            · refine m_R_1 (by decide) (m_opb_of (ins := .if_icmp .gt 7) (len := 3) (tag := 0) (a := 81) (b := 0) (c := 0) (q := 0) (by decide +kernel)) (if_pos c1184) ?_
              exact ok_World_heardFailures_81 X d F _ (fun a0 a1 a2 a3 a4 a5 m r m' h => ih a0 a1 a2 a3 a4 a5 m r m' h) _ _ _ _ _ _ _ _ _ _ h
            · refine m_R_1 (by decide) (m_opb_of (ins := .if_icmp .gt 7) (len := 3) (tag := 0) (a := 81) (b := 0) (c := 0) (q := 0) (by decide +kernel)) (if_neg c1184) ?_
              refine m_R_sg (by decide) [(.iconst 1, 1, 0, 1, 0, 0, 0), (.goto 4, 3, 0, 82, 0, 0, 0)] (by decide +kernel) (show m_sgl X _ _ _ _ _ = some (82, [some (.ref 16), some (.int v1), some (.int v2), some (.int v3), some (.int v4), some (.int (m.1 27 v4.toNatClampNeg)), some (.int q1.1)], [.int (1 : Int32), .int v3], (SH, q1.2.1, q1.2.2)) from rfl) ?_
              exact ok_World_heardFailures_82 X d F _ (fun a0 a1 a2 a3 a4 a5 m r m' h => ih a0 a1 a2 a3 a4 a5 m r m' h) _ _ _ _ _ _ _ _ _ _ _ h
def f_World_heardFailures (F : Nat)   (v1 : Int32) (v2 : Int32) (m : mM) : Option (Int32 × mM) := f_World_heardFailures_5 F F v1 v2 (0 : Int32) (1 : Int32) m
theorem ok_World_heardFailures (X : mX) (d F : Nat) : ∀ (v1 : Int32) (v2 : Int32)  (m : mM) (r : Int32) (m' : mM), f_World_heardFailures F v1 v2 m = some (r, m') → m_R X (d + 3) 158 0 [some (.ref 16), some (.int v1), some (.int v2), none, none, none, none] [] (SH, m) (some (.int r), (SH, m')) := by
  intro v1 v2 m r m' h
  unfold f_World_heardFailures at h
  refine m_R_sg (by decide) [(.iconst 0, 1, 0, 0, 0, 0, 0), (.istore_n 3, 1, 0, 3, 0, 0, 0), (.iconst 1, 1, 0, 1, 0, 0, 0), (.istore 4, 2, 0, 4, 0, 0, 0)] (by decide +kernel) (show m_sgl X _ _ _ _ _ = some (5, [some (.ref 16), some (.int v1), some (.int v2), some (.int (0 : Int32)), some (.int (1 : Int32)), none, none], [], (SH, m.1, m.2)) from rfl) ?_
  exact ok_World_heardFailures_5 X d F F _ _ _ _ _ _ _ _ _ h
def f_World_askDepositsOf_57 (F : Nat)  (k2 : Int32 → Int32 → mM → Option (Unit × mM)) (v1 : Int32) (v2 : Int32) (m : mM) : Option (Unit × mM) := k2 v1 (v2 + (1 : Int32)) m
theorem ok_World_askDepositsOf_57 (X : mX) (d F : Nat) (k2 : Int32 → Int32 → mM → Option (Unit × mM)) (hk2 : ∀ (v1 : Int32) (v2 : Int32) (m : mM) (r : Unit) (m' : mM), k2 v1 v2 m = some (r, m') → m_R X (d + 4) 159 2 [some (.ref 16), some (.int v1), some (.int v2)] [] (SH, m) (none, (SH, m'))) : ∀ (v1 : Int32) (v2 : Int32)  (m : mM) (r : Unit) (m' : mM), f_World_askDepositsOf_57 F k2 v1 v2 m = some (r, m') → m_R X (d + 4) 159 57 [some (.ref 16), some (.int v1), some (.int v2)] [] (SH, m) (none, (SH, m')) := by
  intro v1 v2 m r m' h
  unfold f_World_askDepositsOf_57 at h
  refine m_R_sg (by decide) [(.iinc 2 1, 3, 0, 2, 1, 0, 0), (.goto (-58), 3, 0, 2, 0, 0, 0)] (by decide +kernel) (show m_sgl X _ _ _ _ _ = some (2, [some (.ref 16), some (.int v1), some (.int (v2 + (1 : Int32)))], [], (SH, m.1, m.2)) from rfl) ?_
  exact hk2 _ _ _ _ _ h
def f_World_askDepositsOf_2 (F : Nat)   : Nat → Int32 → Int32 → mM → Option (Unit × mM)
  | 0, _, _, _ => none
  | n + 1, v1, v2, m => (if (m.1 31 15) ≤ v2 then some ((), m) else (if v2 < 0 ∨ 60 ≤ v2.toNatClampNeg then none else (if (m.1 32 v2.toNatClampNeg) = (2 : Int32) then (if (m.1 37 v2.toNatClampNeg) = 0 then (if (m.1 35 v2.toNatClampNeg) = v1 then ((f_World_askDeposit F v2 m).bind fun q1 => f_World_askDepositsOf_57 F (f_World_askDepositsOf_2 F n) v1 v2 q1.2) else f_World_askDepositsOf_57 F (f_World_askDepositsOf_2 F n) v1 v2 m) else f_World_askDepositsOf_57 F (f_World_askDepositsOf_2 F n) v1 v2 m) else f_World_askDepositsOf_57 F (f_World_askDepositsOf_2 F n) v1 v2 m)))
theorem ok_World_askDepositsOf_2 (X : mX) (d F : Nat) : ∀ (n : Nat) (v1 : Int32) (v2 : Int32)  (m : mM) (r : Unit) (m' : mM), f_World_askDepositsOf_2 F n v1 v2 m = some (r, m') → m_R X (d + 4) 159 2 [some (.ref 16), some (.int v1), some (.int v2)] [] (SH, m) (none, (SH, m')) := by
  intro n
  induction n with
  | zero => intro v1 v2 m r m' h; cases h
  | succ n ih =>
    intro v1 v2 m r m' h
    simp only [f_World_askDepositsOf_2] at h
    refine m_R_sg (by decide) [(.iload_n 2, 1, 0, 2, 0, 0, 0), (.aload_n 0, 1, 0, 0, 0, 0, 0), (.getfield 28, 3, 0, 10, 2, 3, 508), (.getfield 353, 3, 0, 4, 15, 0, 365)] (by decide +kernel) (show m_sgl X _ _ _ _ _ = some (10, [some (.ref 16), some (.int v1), some (.int v2)], [.int (m.1 31 15), .int v2], (SH, m.1, m.2)) from rfl) ?_
    rcases m_ite h with ⟨c1185, h⟩ | ⟨c1185, h⟩
    · refine m_R_1 (by decide) (m_opb_of (ins := .if_icmp .ge 53) (len := 3) (tag := 0) (a := 63) (b := 0) (c := 0) (q := 0) (by decide +kernel)) (if_pos c1185) ?_
      obtain ⟨rfl, rfl⟩ := m_some h
      exact m_R_vret (by decide) (m_opb_of (ins := .return_) (len := 1) (tag := 3) (a := 0) (b := 0) (c := 0) (q := 0) (by decide +kernel))
    · refine m_R_1 (by decide) (m_opb_of (ins := .if_icmp .ge 53) (len := 3) (tag := 0) (a := 63) (b := 0) (c := 0) (q := 0) (by decide +kernel)) (if_neg c1185) ?_
      refine m_R_sg (by decide) [(.aload_n 0, 1, 0, 0, 0, 0, 0), (.getfield 28, 3, 0, 10, 2, 3, 508), (.getfield 270, 3, 0, 4, 0, 3, 319), (.iload_n 2, 1, 0, 2, 0, 0, 0)] (by decide +kernel) (show m_sgl X _ _ _ _ _ = some (21, [some (.ref 16), some (.int v1), some (.int v2)], [.int v2, .ref 32], (SH, m.1, m.2)) from rfl) ?_
      obtain ⟨c1186, h⟩ := m_ite_n h
      refine m_R_1 (by decide) (m_opb_of (ins := .iaload) (len := 1) (tag := 0) (a := 0) (b := 0) (c := 0) (q := 0) (by decide +kernel)) (m_s_iald sh_32 (by decide) c1186) ?_
      refine m_R_sg (by decide) [(.iconst 2, 1, 0, 2, 0, 0, 0)] (by decide +kernel) (show m_sgl X _ _ _ _ _ = some (23, [some (.ref 16), some (.int v1), some (.int v2)], [.int (2 : Int32), .int (m.1 32 v2.toNatClampNeg)], (SH, m.1, m.2)) from rfl) ?_
      rcases m_ite h with ⟨c1187, h⟩ | ⟨c1187, h⟩
      · refine m_R_1 (by decide) (m_opb_of (ins := .if_icmp .ne 34) (len := 3) (tag := 0) (a := 57) (b := 0) (c := 0) (q := 0) (by decide +kernel)) (if_pos c1187) ?_
        refine m_R_sg (by decide) [(.aload_n 0, 1, 0, 0, 0, 0, 0), (.getfield 28, 3, 0, 10, 2, 3, 508), (.getfield 273, 3, 0, 4, 5, 3, 337), (.iload_n 2, 1, 0, 2, 0, 0, 0)] (by decide +kernel) (show m_sgl X _ _ _ _ _ = some (34, [some (.ref 16), some (.int v1), some (.int v2)], [.int v2, .ref 37], (SH, m.1, m.2)) from rfl) ?_
        refine m_R_1 (by decide) (m_opb_of (ins := .iaload) (len := 1) (tag := 0) (a := 0) (b := 0) (c := 0) (q := 0) (by decide +kernel)) (m_s_iald sh_37 (by decide) c1186) ?_
        rcases m_ite h with ⟨c1188, h⟩ | ⟨c1188, h⟩
        · refine m_R_1 (by decide) (m_opb_of (ins := .ifCond .ne 22) (len := 3) (tag := 0) (a := 57) (b := 0) (c := 0) (q := 0) (by decide +kernel)) (if_pos c1188) ?_
          refine m_R_sg (by decide) [(.aload_n 0, 1, 0, 0, 0, 0, 0), (.getfield 28, 3, 0, 10, 2, 3, 508), (.getfield 212, 3, 0, 4, 3, 3, 331), (.iload_n 2, 1, 0, 2, 0, 0, 0)] (by decide +kernel) (show m_sgl X _ _ _ _ _ = some (46, [some (.ref 16), some (.int v1), some (.int v2)], [.int v2, .ref 35], (SH, m.1, m.2)) from rfl) ?_
          refine m_R_1 (by decide) (m_opb_of (ins := .iaload) (len := 1) (tag := 0) (a := 0) (b := 0) (c := 0) (q := 0) (by decide +kernel)) (m_s_iald sh_35 (by decide) c1186) ?_
          refine m_R_sg (by decide) [(.iload_n 1, 1, 0, 1, 0, 0, 0)] (by decide +kernel) (show m_sgl X _ _ _ _ _ = some (48, [some (.ref 16), some (.int v1), some (.int v2)], [.int v1, .int (m.1 35 v2.toNatClampNeg)], (SH, m.1, m.2)) from rfl) ?_
          rcases m_ite h with ⟨c1189, h⟩ | ⟨c1189, h⟩
          · refine m_R_1 (by decide) (m_opb_of (ins := .if_icmp .ne 9) (len := 3) (tag := 0) (a := 57) (b := 0) (c := 0) (q := 0) (by decide +kernel)) (if_pos c1189) ?_
            refine m_R_sg (by decide) [(.aload_n 0, 1, 0, 0, 0, 0, 0), (.iload_n 2, 1, 0, 2, 0, 0, 0)] (by decide +kernel) (show m_sgl X _ _ _ _ _ = some (53, [some (.ref 16), some (.int v1), some (.int v2)], [.int v2, .ref 16], (SH, m.1, m.2)) from rfl) ?_
            obtain ⟨q1, hc1, h⟩ := Option.bind_eq_some_iff.mp h
            refine m_R_cV (v := (some (.int q1.1))) (h1 := (SH, q1.2)) (rest := []) (lo' := [some (.ref 16), some (.int v2), none, none]) (ml := 4) (k0 := 16) (by decide) (Or.inl rfl) (m_opb_of (ins := .invokevirtual 396) (len := 3) (tag := 5) (a := 87) (b := 1) (c := 0) (q := 1320) (by decide +kernel)) (by decide +kernel) rfl (show m_isO 87 16 (SH, _) = true from m_isO_of (by decide +kernel)) (Nat.le_of_ble_eq_true rfl) rfl rfl (ok_World_askDeposit X (d + 0) F _ _ _ _ hc1) ?_
            refine m_R_sg (by decide) [(.pop, 1, 0, 0, 0, 0, 0)] (by decide +kernel) (show m_sgl X _ _ _ _ _ = some (57, [some (.ref 16), some (.int v1), some (.int v2)], [], (SH, q1.2.1, q1.2.2)) from rfl) ?_
            exact ok_World_askDepositsOf_57 X d F _ (fun a0 a1 m r m' h => ih a0 a1 m r m' h) _ _ _ _ _ h
          · refine m_R_1 (by decide) (m_opb_of (ins := .if_icmp .ne 9) (len := 3) (tag := 0) (a := 57) (b := 0) (c := 0) (q := 0) (by decide +kernel)) (if_neg c1189) ?_
            exact ok_World_askDepositsOf_57 X d F _ (fun a0 a1 m r m' h => ih a0 a1 m r m' h) _ _ _ _ _ h
        · refine m_R_1 (by decide) (m_opb_of (ins := .ifCond .ne 22) (len := 3) (tag := 0) (a := 57) (b := 0) (c := 0) (q := 0) (by decide +kernel)) (if_neg c1188) ?_
          exact ok_World_askDepositsOf_57 X d F _ (fun a0 a1 m r m' h => ih a0 a1 m r m' h) _ _ _ _ _ h
      · refine m_R_1 (by decide) (m_opb_of (ins := .if_icmp .ne 34) (len := 3) (tag := 0) (a := 57) (b := 0) (c := 0) (q := 0) (by decide +kernel)) (if_neg c1187) ?_
        exact ok_World_askDepositsOf_57 X d F _ (fun a0 a1 m r m' h => ih a0 a1 m r m' h) _ _ _ _ _ h
def f_World_askDepositsOf (F : Nat)   (v1 : Int32) (m : mM) : Option (Unit × mM) := f_World_askDepositsOf_2 F F v1 (0 : Int32) m
theorem ok_World_askDepositsOf (X : mX) (d F : Nat) : ∀ (v1 : Int32)  (m : mM) (r : Unit) (m' : mM), f_World_askDepositsOf F v1 m = some (r, m') → m_R X (d + 4) 159 0 [some (.ref 16), some (.int v1), none] [] (SH, m) (none, (SH, m')) := by
  intro v1 m r m' h
  unfold f_World_askDepositsOf at h
  refine m_R_sg (by decide) [(.iconst 0, 1, 0, 0, 0, 0, 0), (.istore_n 2, 1, 0, 2, 0, 0, 0)] (by decide +kernel) (show m_sgl X _ _ _ _ _ = some (2, [some (.ref 16), some (.int v1), some (.int (0 : Int32))], [], (SH, m.1, m.2)) from rfl) ?_
  exact ok_World_askDepositsOf_2 X d F F _ _ _ _ _ h
def f_World_sheetCount (F : Nat)    (m : mM) : Option (Int32 × mM) := some (((m.1 16 9) / (7 : Int32)), m)
theorem ok_World_sheetCount (X : mX) (d F : Nat) : ∀   (m : mM) (r : Int32) (m' : mM), f_World_sheetCount F  m = some (r, m') → m_R X (d + 0) 162 0 [some (.ref 16)] [] (SH, m) (some (.int r), (SH, m')) := by
  intro m r m' h
  unfold f_World_sheetCount at h
  refine m_R_sg (by decide) [(.aload_n 0, 1, 0, 0, 0, 0, 0), (.getfield 95, 3, 0, 10, 9, 0, 520), (.bipush 7, 2, 0, 7, 0, 0, 0)] (by decide +kernel) (show m_sgl X _ _ _ _ _ = some (6, [some (.ref 16)], [.int (7 : Int32), .int (m.1 16 9)], (SH, m.1, m.2)) from rfl) ?_
  refine m_R_1 (by decide) (m_opb_of (ins := .idiv) (len := 1) (tag := 0) (a := 0) (b := 0) (c := 0) (q := 0) (by decide +kernel)) (m_s_idiv (by decide)) ?_
  obtain ⟨rfl, rfl⟩ := m_some h
  exact m_R_iret (by decide) (m_opb_of (ins := .ireturn) (len := 1) (tag := 1) (a := 0) (b := 0) (c := 0) (q := 0) (by decide +kernel)) (Or.inl rfl)
