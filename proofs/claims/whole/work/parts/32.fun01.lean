/-! METHODS AS FUNCTIONS, on (written by program: wip/whole/gen/emit.py) -/
def f_m_rules1_137 (F : Nat)  (k9 : Int32 → Int32 → Int32 → mM → Option (Int32 × mM)) (v1 : Int32) (v2 : Int32) (v3 : Int32) (m : mM) : Option (Int32 × mM) := k9 v1 v2 (v3 + (-1 : Int32)) m
theorem ok_m_rules1_137 (X : mX) (d F : Nat) (k9 : Int32 → Int32 → Int32 → mM → Option (Int32 × mM)) (hk9 : ∀ (v1 : Int32) (v2 : Int32) (v3 : Int32) (w4 : Option Value) (w5 : Option Value) (m : mM) (r : Int32) (m' : mM), k9 v1 v2 v3 m = some (r, m') → m_R X (d + 66) 228 9 [some (.ref 304), some (.int v1), some (.int v2), some (.int v3), w4, w5] [] (SH, m) (some (.int r), (SH, m'))) : ∀ (v1 : Int32) (v2 : Int32) (v3 : Int32) (w4 : Option Value) (w5 : Option Value) (m : mM) (r : Int32) (m' : mM), f_m_rules1_137 F k9 v1 v2 v3 m = some (r, m') → m_R X (d + 66) 228 137 [some (.ref 304), some (.int v1), some (.int v2), some (.int v3), w4, w5] [] (SH, m) (some (.int r), (SH, m')) := by
  intro v1 v2 v3 w4 w5 m r m' h
  unfold f_m_rules1_137 at h
  refine m_R_sg (by decide) [(.iinc 3 (-1), 3, 0, 3, 1, 1, 0), (.goto (-131), 3, 0, 9, 0, 0, 0)] (by decide +kernel) (show m_sgl X _ _ _ _ _ = some (9, [some (.ref 304), some (.int v1), some (.int v2), some (.int (v3 + (-1 : Int32))), w4, w5], [], (SH, m.1, m.2)) from rfl) ?_
  exact hk9 _ _ _ _ _ _ _ _ h
def f_m_rules1_89 (F : Nat)  (k9 : Int32 → Int32 → Int32 → mM → Option (Int32 × mM)) : Nat → Int32 → Int32 → Int32 → Int32 → Int32 → mM → Option (Int32 × mM)
  | 0, _, _, _, _, _, _ => none
  | n + 1, v1, v2, v3, v4, v5, m => (if (m.1 304 11) ≤ v5 then ((f_m_readText F v2 m).bind fun q1 => (if (q1.2.1 304 22) = 0 then f_m_rules1_137 F k9 v1 v2 v3 q1.2 else some (v3, q1.2))) else (if ((v4 + (4 : Int32)) + v5) < 0 ∨ 9732 ≤ ((v4 + (4 : Int32)) + v5).toNatClampNeg then none else (if v5 < 0 ∨ 120 ≤ v5.toNatClampNeg then none else f_m_rules1_89 F k9 n v1 v2 v3 v4 (v5 + (1 : Int32)) ((m_up m.1 312 v5.toNatClampNeg (m.1 305 ((v4 + (4 : Int32)) + v5).toNatClampNeg)), m.2))))
theorem ok_m_rules1_89 (X : mX) (d F : Nat) (k9 : Int32 → Int32 → Int32 → mM → Option (Int32 × mM)) (hk9 : ∀ (v1 : Int32) (v2 : Int32) (v3 : Int32) (w4 : Option Value) (w5 : Option Value) (m : mM) (r : Int32) (m' : mM), k9 v1 v2 v3 m = some (r, m') → m_R X (d + 66) 228 9 [some (.ref 304), some (.int v1), some (.int v2), some (.int v3), w4, w5] [] (SH, m) (some (.int r), (SH, m'))) : ∀ (n : Nat) (v1 : Int32) (v2 : Int32) (v3 : Int32) (v4 : Int32) (v5 : Int32)  (m : mM) (r : Int32) (m' : mM), f_m_rules1_89 F k9 n v1 v2 v3 v4 v5 m = some (r, m') → m_R X (d + 66) 228 89 [some (.ref 304), some (.int v1), some (.int v2), some (.int v3), some (.int v4), some (.int v5)] [] (SH, m) (some (.int r), (SH, m')) := by
  intro n
  induction n with
  | zero => intro v1 v2 v3 v4 v5 m r m' h; cases h
  | succ n ih =>
    intro v1 v2 v3 v4 v5 m r m' h
    simp only [f_m_rules1_89] at h
    refine m_R_sg (by decide) [(.iload 5, 2, 0, 5, 0, 0, 0), (.aload_n 0, 1, 0, 0, 0, 0, 0), (.getfield 227, 3, 0, 12, 11, 0, 1503)] (by decide +kernel) (show m_sgl X _ _ _ _ _ = some (95, [some (.ref 304), some (.int v1), some (.int v2), some (.int v3), some (.int v4), some (.int v5)], [.int (m.1 304 11), .int v5], (SH, m.1, m.2)) from rfl) ?_
    rcases m_ite h with ⟨c406, h⟩ | ⟨c406, h⟩
    · refine m_R_1 (by decide) (m_opb_of (ins := .if_icmp .ge 28) (len := 3) (tag := 0) (a := 123) (b := 0) (c := 0) (q := 0) (by decide +kernel)) (if_pos c406) ?_
      refine m_R_sg (by decide) [(.aload_n 0, 1, 0, 0, 0, 0, 0), (.iload_n 2, 1, 0, 2, 0, 0, 0)] (by decide +kernel) (show m_sgl X _ _ _ _ _ = some (125, [some (.ref 304), some (.int v1), some (.int v2), some (.int v3), some (.int v4), some (.int v5)], [.int v2, .ref 304], (SH, m.1, m.2)) from rfl) ?_
      obtain ⟨q1, hc1, h⟩ := Option.bind_eq_some_iff.mp h
      refine m_R_cV (v := none) (h1 := (SH, q1.2)) (rest := []) (lo' := [some (.ref 304), some (.int v2)]) (ml := 2) (k0 := 304) (by decide) (Or.inl rfl) (m_opb_of (ins := .invokevirtual 372) (len := 3) (tag := 5) (a := 229) (b := 1) (c := 0) (q := 1701) (by decide +kernel)) (by decide +kernel) rfl (show m_isO 229 304 (SH, _) = true from m_isO_of (by decide +kernel)) (Nat.le_of_ble_eq_true rfl) rfl rfl (ok_m_readText X (d + 0) F _ _ _ _ hc1) ?_
      refine m_R_sg (by decide) [(.aload_n 0, 1, 0, 0, 0, 0, 0), (.getfield 367, 3, 0, 12, 22, 1, 1514)] (by decide +kernel) (show m_sgl X _ _ _ _ _ = some (132, [some (.ref 304), some (.int v1), some (.int v2), some (.int v3), some (.int v4), some (.int v5)], [.int (q1.2.1 304 22)], (SH, q1.2.1, q1.2.2)) from rfl) ?_
      rcases m_ite h with ⟨c407, h⟩ | ⟨c407, h⟩
      · refine m_R_1 (by decide) (m_opb_of (ins := .ifCond .eq 5) (len := 3) (tag := 0) (a := 137) (b := 0) (c := 0) (q := 0) (by decide +kernel)) (if_pos c407) ?_
        exact ok_m_rules1_137 X d F _ hk9 _ _ _ _ _ _ _ _ h
      · refine m_R_1 (by decide) (m_opb_of (ins := .ifCond .eq 5) (len := 3) (tag := 0) (a := 137) (b := 0) (c := 0) (q := 0) (by decide +kernel)) (if_neg c407) ?_
        refine m_R_sg (by decide) [(.iload_n 3, 1, 0, 3, 0, 0, 0)] (by decide +kernel) (show m_sgl X _ _ _ _ _ = some (136, [some (.ref 304), some (.int v1), some (.int v2), some (.int v3), some (.int v4), some (.int v5)], [.int v3], (SH, q1.2.1, q1.2.2)) from rfl) ?_
        obtain ⟨rfl, rfl⟩ := m_some h
        exact m_R_iret (by decide) (m_opb_of (ins := .ireturn) (len := 1) (tag := 1) (a := 0) (b := 0) (c := 0) (q := 0) (by decide +kernel)) (Or.inl rfl)
    · refine m_R_1 (by decide) (m_opb_of (ins := .if_icmp .ge 28) (len := 3) (tag := 0) (a := 123) (b := 0) (c := 0) (q := 0) (by decide +kernel)) (if_neg c406) ?_
      refine m_R_sg (by decide) [(.aload_n 0, 1, 0, 0, 0, 0, 0), (.getfield 36, 3, 0, 12, 10, 3, 1502), (.iload 5, 2, 0, 5, 0, 0, 0), (.aload_n 0, 1, 0, 0, 0, 0, 0), (.getfield 13, 3, 0, 12, 1, 3, 1493), (.iload 4, 2, 0, 4, 0, 0, 0), (.iconst 4, 1, 0, 4, 0, 0, 0), (.iadd, 1, 0, 0, 0, 0, 0), (.iload 5, 2, 0, 5, 0, 0, 0), (.iadd, 1, 0, 0, 0, 0, 0)] (by decide +kernel) (show m_sgl X _ _ _ _ _ = some (115, [some (.ref 304), some (.int v1), some (.int v2), some (.int v3), some (.int v4), some (.int v5)], [.int ((v4 + (4 : Int32)) + v5), .ref 305, .int v5, .ref 312], (SH, m.1, m.2)) from rfl) ?_
      obtain ⟨c408, h⟩ := m_ite_n h
      refine m_R_1 (by decide) (m_opb_of (ins := .iaload) (len := 1) (tag := 0) (a := 0) (b := 0) (c := 0) (q := 0) (by decide +kernel)) (m_s_iald sh_305 (by decide) c408) ?_
      obtain ⟨c409, h⟩ := m_ite_n h
      refine m_R_1 (by decide) (m_opb_of (ins := .iastore) (len := 1) (tag := 0) (a := 0) (b := 0) (c := 0) (q := 0) (by decide +kernel)) (m_s_iast sh_312 c409) ?_
      refine m_R_sg (by decide) [(.iinc 5 1, 3, 0, 5, 1, 0, 0), (.goto (-31), 3, 0, 89, 0, 0, 0)] (by decide +kernel) (show m_sgl X _ _ _ _ _ = some (89, [some (.ref 304), some (.int v1), some (.int v2), some (.int v3), some (.int v4), some (.int (v5 + (1 : Int32)))], [], (SH, (m_up m.1 312 v5.toNatClampNeg (m.1 305 ((v4 + (4 : Int32)) + v5).toNatClampNeg)), m.2)) from rfl) ?_
      exact ih _ _ _ _ _ _ _ _ h
def f_m_rules1_9 (F : Nat)   : Nat → Int32 → Int32 → Int32 → mM → Option (Int32 × mM)
  | 0, _, _, _, _ => none
  | n + 1, v1, v2, v3, m => (if v3 < 0 then some ((-1 : Int32), m) else (if ((7544 : Int32) + ((124 : Int32) * v3)) < 0 ∨ 9732 ≤ ((7544 : Int32) + ((124 : Int32) * v3)).toNatClampNeg then none else (if (m.1 305 ((7544 : Int32) + ((124 : Int32) * v3)).toNatClampNeg) = v1 then (if (((7544 : Int32) + ((124 : Int32) * v3)) + (1 : Int32)) < 0 ∨ 9732 ≤ (((7544 : Int32) + ((124 : Int32) * v3)) + (1 : Int32)).toNatClampNeg then none else (if (m.1 305 (0 : Int32).toNatClampNeg) < (m.1 305 (((7544 : Int32) + ((124 : Int32) * v3)) + (1 : Int32)).toNatClampNeg) then f_m_rules1_137 F (f_m_rules1_9 F n) v1 v2 v3 m else (if (((7544 : Int32) + ((124 : Int32) * v3)) + (2 : Int32)) < 0 ∨ 9732 ≤ (((7544 : Int32) + ((124 : Int32) * v3)) + (2 : Int32)).toNatClampNeg then none else (if (m.1 305 (0 : Int32).toNatClampNeg) < (m.1 305 (((7544 : Int32) + ((124 : Int32) * v3)) + (2 : Int32)).toNatClampNeg) then (if (((7544 : Int32) + ((124 : Int32) * v3)) + (3 : Int32)) < 0 ∨ 9732 ≤ (((7544 : Int32) + ((124 : Int32) * v3)) + (3 : Int32)).toNatClampNeg then none else f_m_rules1_89 F (f_m_rules1_9 F n) F v1 v2 v3 ((7544 : Int32) + ((124 : Int32) * v3)) (0 : Int32) ((m_up m.1 304 11 (m.1 305 (((7544 : Int32) + ((124 : Int32) * v3)) + (3 : Int32)).toNatClampNeg)), m.2)) else f_m_rules1_137 F (f_m_rules1_9 F n) v1 v2 v3 m)))) else f_m_rules1_137 F (f_m_rules1_9 F n) v1 v2 v3 m)))
theorem ok_m_rules1_9 (X : mX) (d F : Nat) : ∀ (n : Nat) (v1 : Int32) (v2 : Int32) (v3 : Int32) (w4 : Option Value) (w5 : Option Value) (m : mM) (r : Int32) (m' : mM), f_m_rules1_9 F n v1 v2 v3 m = some (r, m') → m_R X (d + 66) 228 9 [some (.ref 304), some (.int v1), some (.int v2), some (.int v3), w4, w5] [] (SH, m) (some (.int r), (SH, m')) := by
  intro n
  induction n with
  | zero => intro v1 v2 v3 w4 w5 m r m' h; cases h
  | succ n ih =>
    intro v1 v2 v3 w4 w5 m r m' h
    simp only [f_m_rules1_9] at h
    refine m_R_sg (by decide) [(.iload_n 3, 1, 0, 3, 0, 0, 0)] (by decide +kernel) (show m_sgl X _ _ _ _ _ = some (10, [some (.ref 304), some (.int v1), some (.int v2), some (.int v3), w4, w5], [.int v3], (SH, m.1, m.2)) from rfl) ?_
    rcases m_ite h with ⟨c410, h⟩ | ⟨c410, h⟩
    · refine m_R_1 (by decide) (m_opb_of (ins := .ifCond .lt 133) (len := 3) (tag := 0) (a := 143) (b := 0) (c := 0) (q := 0) (by decide +kernel)) (if_pos c410) ?_
      refine m_R_sg (by decide) [(.iconst (-1), 1, 0, 1, 1, 0, 0)] (by decide +kernel) (show m_sgl X _ _ _ _ _ = some (144, [some (.ref 304), some (.int v1), some (.int v2), some (.int v3), w4, w5], [.int (-1 : Int32)], (SH, m.1, m.2)) from rfl) ?_
      obtain ⟨rfl, rfl⟩ := m_some h
      exact m_R_iret (by decide) (m_opb_of (ins := .ireturn) (len := 1) (tag := 1) (a := 0) (b := 0) (c := 0) (q := 0) (by decide +kernel)) (Or.inl rfl)
    · refine m_R_1 (by decide) (m_opb_of (ins := .ifCond .lt 133) (len := 3) (tag := 0) (a := 143) (b := 0) (c := 0) (q := 0) (by decide +kernel)) (if_neg c410) ?_
      refine m_R_sg (by decide) [(.sipush 7544, 3, 0, 7544, 0, 0, 0), (.bipush 124, 2, 0, 124, 0, 0, 0), (.iload_n 3, 1, 0, 3, 0, 0, 0), (.imul, 1, 0, 0, 0, 0, 0), (.iadd, 1, 0, 0, 0, 0, 0), (.istore 4, 2, 0, 4, 0, 0, 0), (.aload_n 0, 1, 0, 0, 0, 0, 0), (.getfield 13, 3, 0, 12, 1, 3, 1493), (.iload 4, 2, 0, 4, 0, 0, 0)] (by decide +kernel) (show m_sgl X _ _ _ _ _ = some (29, [some (.ref 304), some (.int v1), some (.int v2), some (.int v3), some (.int ((7544 : Int32) + ((124 : Int32) * v3))), w5], [.int ((7544 : Int32) + ((124 : Int32) * v3)), .ref 305], (SH, m.1, m.2)) from rfl) ?_
      obtain ⟨c411, h⟩ := m_ite_n h
      refine m_R_1 (by decide) (m_opb_of (ins := .iaload) (len := 1) (tag := 0) (a := 0) (b := 0) (c := 0) (q := 0) (by decide +kernel)) (m_s_iald sh_305 (by decide) c411) ?_
      refine m_R_sg (by decide) [(.iload_n 1, 1, 0, 1, 0, 0, 0)] (by decide +kernel) (show m_sgl X _ _ _ _ _ = some (31, [some (.ref 304), some (.int v1), some (.int v2), some (.int v3), some (.int ((7544 : Int32) + ((124 : Int32) * v3))), w5], [.int v1, .int (m.1 305 ((7544 : Int32) + ((124 : Int32) * v3)).toNatClampNeg)], (SH, m.1, m.2)) from rfl) ?_
      rcases m_ite h with ⟨c412, h⟩ | ⟨c412, h⟩
      · refine m_R_1 (by decide) (m_opb_of (ins := .if_icmp .ne 106) (len := 3) (tag := 0) (a := 137) (b := 0) (c := 0) (q := 0) (by decide +kernel)) (if_pos c412) ?_
        refine m_R_sg (by decide) [(.aload_n 0, 1, 0, 0, 0, 0, 0), (.getfield 13, 3, 0, 12, 1, 3, 1493), (.iload 4, 2, 0, 4, 0, 0, 0), (.iconst 1, 1, 0, 1, 0, 0, 0), (.iadd, 1, 0, 0, 0, 0, 0)] (by decide +kernel) (show m_sgl X _ _ _ _ _ = some (42, [some (.ref 304), some (.int v1), some (.int v2), some (.int v3), some (.int ((7544 : Int32) + ((124 : Int32) * v3))), w5], [.int (((7544 : Int32) + ((124 : Int32) * v3)) + (1 : Int32)), .ref 305], (SH, m.1, m.2)) from rfl) ?_
        obtain ⟨c413, h⟩ := m_ite_n h
        refine m_R_1 (by decide) (m_opb_of (ins := .iaload) (len := 1) (tag := 0) (a := 0) (b := 0) (c := 0) (q := 0) (by decide +kernel)) (m_s_iald sh_305 (by decide) c413) ?_
        refine m_R_sg (by decide) [(.aload_n 0, 1, 0, 0, 0, 0, 0), (.getfield 13, 3, 0, 12, 1, 3, 1493), (.iconst 0, 1, 0, 0, 0, 0, 0)] (by decide +kernel) (show m_sgl X _ _ _ _ _ = some (48, [some (.ref 304), some (.int v1), some (.int v2), some (.int v3), some (.int ((7544 : Int32) + ((124 : Int32) * v3))), w5], [.int (0 : Int32), .ref 305, .int (m.1 305 (((7544 : Int32) + ((124 : Int32) * v3)) + (1 : Int32)).toNatClampNeg)], (SH, m.1, m.2)) from rfl) ?_
        refine m_R_1 (by decide) (m_opb_of (ins := .iaload) (len := 1) (tag := 0) (a := 0) (b := 0) (c := 0) (q := 0) (by decide +kernel)) (m_s_iald sh_305 (by decide) (show ¬ ((0 : Int32) < 0 ∨ 9732 ≤ (0 : Int32).toNatClampNeg) by decide)) ?_
        rcases m_ite h with ⟨c414, h⟩ | ⟨c414, h⟩
        · refine m_R_1 (by decide) (m_opb_of (ins := .if_icmp .gt 88) (len := 3) (tag := 0) (a := 137) (b := 0) (c := 0) (q := 0) (by decide +kernel)) (if_pos c414) ?_
          exact ok_m_rules1_137 X d F _ (fun a0 a1 a2 a3 a4 m r m' h => ih a0 a1 a2 a3 a4 m r m' h) _ _ _ _ _ _ _ _ h
        · refine m_R_1 (by decide) (m_opb_of (ins := .if_icmp .gt 88) (len := 3) (tag := 0) (a := 137) (b := 0) (c := 0) (q := 0) (by decide +kernel)) (if_neg c414) ?_
          refine m_R_sg (by decide) [(.aload_n 0, 1, 0, 0, 0, 0, 0), (.getfield 13, 3, 0, 12, 1, 3, 1493), (.iload 4, 2, 0, 4, 0, 0, 0), (.iconst 2, 1, 0, 2, 0, 0, 0), (.iadd, 1, 0, 0, 0, 0, 0)] (by decide +kernel) (show m_sgl X _ _ _ _ _ = some (60, [some (.ref 304), some (.int v1), some (.int v2), some (.int v3), some (.int ((7544 : Int32) + ((124 : Int32) * v3))), w5], [.int (((7544 : Int32) + ((124 : Int32) * v3)) + (2 : Int32)), .ref 305], (SH, m.1, m.2)) from rfl) ?_
          obtain ⟨c415, h⟩ := m_ite_n h
          refine m_R_1 (by decide) (m_opb_of (ins := .iaload) (len := 1) (tag := 0) (a := 0) (b := 0) (c := 0) (q := 0) (by decide +kernel)) (m_s_iald sh_305 (by decide) c415) ?_
          refine m_R_sg (by decide) [(.aload_n 0, 1, 0, 0, 0, 0, 0), (.getfield 13, 3, 0, 12, 1, 3, 1493), (.iconst 0, 1, 0, 0, 0, 0, 0)] (by decide +kernel) (show m_sgl X _ _ _ _ _ = some (66, [some (.ref 304), some (.int v1), some (.int v2), some (.int v3), some (.int ((7544 : Int32) + ((124 : Int32) * v3))), w5], [.int (0 : Int32), .ref 305, .int (m.1 305 (((7544 : Int32) + ((124 : Int32) * v3)) + (2 : Int32)).toNatClampNeg)], (SH, m.1, m.2)) from rfl) ?_
          refine m_R_1 (by decide) (m_opb_of (ins := .iaload) (len := 1) (tag := 0) (a := 0) (b := 0) (c := 0) (q := 0) (by decide +kernel)) (m_s_iald sh_305 (by decide) (show ¬ ((0 : Int32) < 0 ∨ 9732 ≤ (0 : Int32).toNatClampNeg) by decide)) ?_
          rcases m_ite h with ⟨c416, h⟩ | ⟨c416, h⟩
          · refine m_R_1 (by decide) (m_opb_of (ins := .if_icmp .gt 6) (len := 3) (tag := 0) (a := 73) (b := 0) (c := 0) (q := 0) (by decide +kernel)) (if_pos c416) ?_
            refine m_R_sg (by decide) [(.aload_n 0, 1, 0, 0, 0, 0, 0), (.aload_n 0, 1, 0, 0, 0, 0, 0), (.getfield 13, 3, 0, 12, 1, 3, 1493), (.iload 4, 2, 0, 4, 0, 0, 0), (.iconst 3, 1, 0, 3, 0, 0, 0), (.iadd, 1, 0, 0, 0, 0, 0)] (by decide +kernel) (show m_sgl X _ _ _ _ _ = some (82, [some (.ref 304), some (.int v1), some (.int v2), some (.int v3), some (.int ((7544 : Int32) + ((124 : Int32) * v3))), w5], [.int (((7544 : Int32) + ((124 : Int32) * v3)) + (3 : Int32)), .ref 305, .ref 304], (SH, m.1, m.2)) from rfl) ?_
            obtain ⟨c417, h⟩ := m_ite_n h
            refine m_R_1 (by decide) (m_opb_of (ins := .iaload) (len := 1) (tag := 0) (a := 0) (b := 0) (c := 0) (q := 0) (by decide +kernel)) (m_s_iald sh_305 (by decide) c417) ?_
            refine m_R_sg (by decide) [(.putfield 227, 3, 0, 12, 11, 0, 1503), (.iconst 0, 1, 0, 0, 0, 0, 0), (.istore 5, 2, 0, 5, 0, 0, 0)] (by decide +kernel) (show m_sgl X _ _ _ _ _ = some (89, [some (.ref 304), some (.int v1), some (.int v2), some (.int v3), some (.int ((7544 : Int32) + ((124 : Int32) * v3))), some (.int (0 : Int32))], [], (SH, (m_up m.1 304 11 (m.1 305 (((7544 : Int32) + ((124 : Int32) * v3)) + (3 : Int32)).toNatClampNeg)), m.2)) from rfl) ?_
            exact ok_m_rules1_89 X d F _ (fun a0 a1 a2 a3 a4 m r m' h => ih a0 a1 a2 a3 a4 m r m' h) F _ _ _ _ _ _ _ _ h
          · refine m_R_1 (by decide) (m_opb_of (ins := .if_icmp .gt 6) (len := 3) (tag := 0) (a := 73) (b := 0) (c := 0) (q := 0) (by decide +kernel)) (if_neg c416) ?_
            refine m_R_sg (by decide) [(.goto 67, 3, 0, 137, 0, 0, 0)] (by decide +kernel) (show m_sgl X _ _ _ _ _ = some (137, [some (.ref 304), some (.int v1), some (.int v2), some (.int v3), some (.int ((7544 : Int32) + ((124 : Int32) * v3))), w5], [], (SH, m.1, m.2)) from rfl) ?_
            exact ok_m_rules1_137 X d F _ (fun a0 a1 a2 a3 a4 m r m' h => ih a0 a1 a2 a3 a4 m r m' h) _ _ _ _ _ _ _ _ h
      · refine m_R_1 (by decide) (m_opb_of (ins := .if_icmp .ne 106) (len := 3) (tag := 0) (a := 137) (b := 0) (c := 0) (q := 0) (by decide +kernel)) (if_neg c412) ?_
        exact ok_m_rules1_137 X d F _ (fun a0 a1 a2 a3 a4 m r m' h => ih a0 a1 a2 a3 a4 m r m' h) _ _ _ _ _ _ _ _ h
def f_m_rules1 (F : Nat)   (v1 : Int32) (v2 : Int32) (m : mM) : Option (Int32 × mM) := f_m_rules1_9 F F v1 v2 ((m.1 305 (5 : Int32).toNatClampNeg) - (1 : Int32)) m
theorem ok_m_rules1 (X : mX) (d F : Nat) : ∀ (v1 : Int32) (v2 : Int32)  (m : mM) (r : Int32) (m' : mM), f_m_rules1 F v1 v2 m = some (r, m') → m_R X (d + 66) 228 0 [some (.ref 304), some (.int v1), some (.int v2), none, none, none] [] (SH, m) (some (.int r), (SH, m')) := by
  intro v1 v2 m r m' h
  unfold f_m_rules1 at h
  refine m_R_sg (by decide) [(.aload_n 0, 1, 0, 0, 0, 0, 0), (.getfield 13, 3, 0, 12, 1, 3, 1493), (.iconst 5, 1, 0, 5, 0, 0, 0)] (by decide +kernel) (show m_sgl X _ _ _ _ _ = some (5, [some (.ref 304), some (.int v1), some (.int v2), none, none, none], [.int (5 : Int32), .ref 305], (SH, m.1, m.2)) from rfl) ?_
  refine m_R_1 (by decide) (m_opb_of (ins := .iaload) (len := 1) (tag := 0) (a := 0) (b := 0) (c := 0) (q := 0) (by decide +kernel)) (m_s_iald sh_305 (by decide) (show ¬ ((5 : Int32) < 0 ∨ 9732 ≤ (5 : Int32).toNatClampNeg) by decide)) ?_
  refine m_R_sg (by decide) [(.iconst 1, 1, 0, 1, 0, 0, 0), (.isub, 1, 0, 0, 0, 0, 0), (.istore_n 3, 1, 0, 3, 0, 0, 0)] (by decide +kernel) (show m_sgl X _ _ _ _ _ = some (9, [some (.ref 304), some (.int v1), some (.int v2), some (.int ((m.1 305 (5 : Int32).toNatClampNeg) - (1 : Int32))), none, none], [], (SH, m.1, m.2)) from rfl) ?_
  exact ok_m_rules1_9 X d F F _ _ _ _ _ _ _ _ h
def f_m_rules_15 (F : Nat)   (s0 : Int32) (m : mM) : Option (Int32 × mM) := (if s0 = 0 ∨ s0 = 1 then some (s0, m) else none)
theorem ok_m_rules_15 (X : mX) (d F : Nat) : ∀ (s0 : Int32) (w0 : Option Value) (w1 : Option Value) (w2 : Option Value) (m : mM) (r : Int32) (m' : mM), f_m_rules_15 F s0 m = some (r, m') → m_R X (d + 67) 227 15 [w0, w1, w2] [.int s0] (SH, m) (some (.int r), (SH, m')) := by
  intro s0 w0 w1 w2 m r m' h
  unfold f_m_rules_15 at h
  obtain ⟨c0, h⟩ := m_ite_p h
  obtain ⟨rfl, rfl⟩ := m_some h
  exact m_R_iret (by decide) (m_opb_of (ins := .ireturn) (len := 1) (tag := 1) (a := 1) (b := 0) (c := 0) (q := 0) (by decide +kernel)) (Or.inr c0)
def f_m_rules (F : Nat)   (v1 : Int32) (v2 : Int32) (m : mM) : Option (Int32 × mM) := ((f_m_rules1 F v1 v2 m).bind fun q1 => (if q1.1 = (-1 : Int32) then f_m_rules_15 F (0 : Int32) q1.2 else f_m_rules_15 F (1 : Int32) q1.2))
theorem ok_m_rules (X : mX) (d F : Nat) : ∀ (v1 : Int32) (v2 : Int32)  (m : mM) (r : Int32) (m' : mM), f_m_rules F v1 v2 m = some (r, m') → m_R X (d + 67) 227 0 [some (.ref 304), some (.int v1), some (.int v2)] [] (SH, m) (some (.int r), (SH, m')) := by
  intro v1 v2 m r m' h
  unfold f_m_rules at h
  refine m_R_sg (by decide) [(.aload_n 0, 1, 0, 0, 0, 0, 0), (.iload_n 1, 1, 0, 1, 0, 0, 0), (.iload_n 2, 1, 0, 2, 0, 0, 0)] (by decide +kernel) (show m_sgl X _ _ _ _ _ = some (3, [some (.ref 304), some (.int v1), some (.int v2)], [.int v2, .int v1, .ref 304], (SH, m.1, m.2)) from rfl) ?_
  obtain ⟨q1, hc1, h⟩ := Option.bind_eq_some_iff.mp h
  refine m_R_cV (v := (some (.int q1.1))) (h1 := (SH, q1.2)) (rest := []) (lo' := [some (.ref 304), some (.int v1), some (.int v2), none, none, none]) (ml := 6) (k0 := 304) (by decide) (Or.inl rfl) (m_opb_of (ins := .invokevirtual 375) (len := 3) (tag := 5) (a := 228) (b := 2) (c := 0) (q := 1697) (by decide +kernel)) (by decide +kernel) rfl (show m_isO 228 304 (SH, _) = true from m_isO_of (by decide +kernel)) (Nat.le_of_ble_eq_true rfl) rfl rfl (ok_m_rules1 X (d + 0) F _ _ _ _ _ hc1) ?_
  refine m_R_sg (by decide) [(.iconst (-1), 1, 0, 1, 1, 0, 0)] (by decide +kernel) (show m_sgl X _ _ _ _ _ = some (7, [some (.ref 304), some (.int v1), some (.int v2)], [.int (-1 : Int32), .int q1.1], (SH, q1.2.1, q1.2.2)) from rfl) ?_
  rcases m_ite h with ⟨c418, h⟩ | ⟨c418, h⟩
  · refine m_R_1 (by decide) (m_opb_of (ins := .if_icmp .eq 7) (len := 3) (tag := 0) (a := 14) (b := 0) (c := 0) (q := 0) (by decide +kernel)) (if_pos c418) ?_
    refine m_R_sg (by decide) [(.iconst 0, 1, 0, 0, 0, 0, 0)] (by decide +kernel) (show m_sgl X _ _ _ _ _ = some (15, [some (.ref 304), some (.int v1), some (.int v2)], [.int (0 : Int32)], (SH, q1.2.1, q1.2.2)) from rfl) ?_
    exact ok_m_rules_15 X d F _ _ _ _ _ _ _ h
  · refine m_R_1 (by decide) (m_opb_of (ins := .if_icmp .eq 7) (len := 3) (tag := 0) (a := 14) (b := 0) (c := 0) (q := 0) (by decide +kernel)) (if_neg c418) ?_
    refine m_R_sg (by decide) [(.iconst 1, 1, 0, 1, 0, 0, 0), (.goto 4, 3, 0, 15, 0, 0, 0)] (by decide +kernel) (show m_sgl X _ _ _ _ _ = some (15, [some (.ref 304), some (.int v1), some (.int v2)], [.int (1 : Int32)], (SH, q1.2.1, q1.2.2)) from rfl) ?_
    exact ok_m_rules_15 X d F _ _ _ _ _ _ _ h
def f_m_ruled_17 (F : Nat)   (s0 : Int32) (m : mM) : Option (Int32 × mM) := some (s0, m)
theorem ok_m_ruled_17 (X : mX) (d F : Nat) : ∀ (s0 : Int32) (w0 : Option Value) (w1 : Option Value) (w2 : Option Value) (w3 : Option Value) (m : mM) (r : Int32) (m' : mM), f_m_ruled_17 F s0 m = some (r, m') → m_R X (d + 68) 226 17 [w0, w1, w2, w3] [.int s0] (SH, m) (some (.int r), (SH, m')) := by
  intro s0 w0 w1 w2 w3 m r m' h
  unfold f_m_ruled_17 at h
  obtain ⟨rfl, rfl⟩ := m_some h
  exact m_R_iret (by decide) (m_opb_of (ins := .ireturn) (len := 1) (tag := 1) (a := 0) (b := 0) (c := 0) (q := 0) (by decide +kernel)) (Or.inl rfl)
def f_m_ruled (F : Nat)   (v1 : Int32) (v2 : Int32) (v3 : Int32) (m : mM) : Option (Int32 × mM) := ((f_m_rules F v1 v2 m).bind fun q1 => (if q1.1 = 0 then f_m_ruled_17 F v3 q1.2 else f_m_ruled_17 F (q1.2.1 304 21) q1.2))
theorem ok_m_ruled (X : mX) (d F : Nat) : ∀ (v1 : Int32) (v2 : Int32) (v3 : Int32)  (m : mM) (r : Int32) (m' : mM), f_m_ruled F v1 v2 v3 m = some (r, m') → m_R X (d + 68) 226 0 [some (.ref 304), some (.int v1), some (.int v2), some (.int v3)] [] (SH, m) (some (.int r), (SH, m')) := by
  intro v1 v2 v3 m r m' h
  unfold f_m_ruled at h
  refine m_R_sg (by decide) [(.aload_n 0, 1, 0, 0, 0, 0, 0), (.iload_n 1, 1, 0, 1, 0, 0, 0), (.iload_n 2, 1, 0, 2, 0, 0, 0)] (by decide +kernel) (show m_sgl X _ _ _ _ _ = some (3, [some (.ref 304), some (.int v1), some (.int v2), some (.int v3)], [.int v2, .int v1, .ref 304], (SH, m.1, m.2)) from rfl) ?_
  obtain ⟨q1, hc1, h⟩ := Option.bind_eq_some_iff.mp h
  refine m_R_cV (v := (some (.int q1.1))) (h1 := (SH, q1.2)) (rest := []) (lo' := [some (.ref 304), some (.int v1), some (.int v2)]) (ml := 3) (k0 := 304) (by decide) (Or.inl rfl) (m_opb_of (ins := .invokevirtual 224) (len := 3) (tag := 5) (a := 227) (b := 2) (c := 0) (q := 1693) (by decide +kernel)) (by decide +kernel) rfl (show m_isO 227 304 (SH, _) = true from m_isO_of (by decide +kernel)) (Nat.le_of_ble_eq_true rfl) rfl rfl (ok_m_rules X (d + 0) F _ _ _ _ _ hc1) ?_
  rcases m_ite h with ⟨c419, h⟩ | ⟨c419, h⟩
  · refine m_R_1 (by decide) (m_opb_of (ins := .ifCond .eq 10) (len := 3) (tag := 0) (a := 16) (b := 0) (c := 0) (q := 0) (by decide +kernel)) (if_pos c419) ?_
    refine m_R_sg (by decide) [(.iload_n 3, 1, 0, 3, 0, 0, 0)] (by decide +kernel) (show m_sgl X _ _ _ _ _ = some (17, [some (.ref 304), some (.int v1), some (.int v2), some (.int v3)], [.int v3], (SH, q1.2.1, q1.2.2)) from rfl) ?_
    exact ok_m_ruled_17 X d F _ _ _ _ _ _ _ _ h
  · refine m_R_1 (by decide) (m_opb_of (ins := .ifCond .eq 10) (len := 3) (tag := 0) (a := 16) (b := 0) (c := 0) (q := 0) (by decide +kernel)) (if_neg c419) ?_
    refine m_R_sg (by decide) [(.aload_n 0, 1, 0, 0, 0, 0, 0), (.getfield 364, 3, 0, 12, 21, 0, 1513), (.goto 4, 3, 0, 17, 0, 0, 0)] (by decide +kernel) (show m_sgl X _ _ _ _ _ = some (17, [some (.ref 304), some (.int v1), some (.int v2), some (.int v3)], [.int (q1.2.1 304 21)], (SH, q1.2.1, q1.2.2)) from rfl) ?_
    exact ok_m_ruled_17 X d F _ _ _ _ _ _ _ _ h
def f_m_isLifted_16 (F : Nat)   (s0 : Int32) (m : mM) : Option (Int32 × mM) := (if s0 = 0 ∨ s0 = 1 then some (s0, m) else none)
theorem ok_m_isLifted_16 (X : mX) (d F : Nat) : ∀ (s0 : Int32) (w0 : Option Value) (m : mM) (r : Int32) (m' : mM), f_m_isLifted_16 F s0 m = some (r, m') → m_R X (d + 69) 225 16 [w0] [.int s0] (SH, m) (some (.int r), (SH, m')) := by
  intro s0 w0 m r m' h
  unfold f_m_isLifted_16 at h
  obtain ⟨c0, h⟩ := m_ite_p h
  obtain ⟨rfl, rfl⟩ := m_some h
  exact m_R_iret (by decide) (m_opb_of (ins := .ireturn) (len := 1) (tag := 1) (a := 1) (b := 0) (c := 0) (q := 0) (by decide +kernel)) (Or.inr c0)
def f_m_isLifted (F : Nat)    (m : mM) : Option (Int32 × mM) := ((f_m_ruled F (6 : Int32) (-1 : Int32) (0 : Int32) m).bind fun q1 => (if q1.1 = 0 then f_m_isLifted_16 F (0 : Int32) q1.2 else f_m_isLifted_16 F (1 : Int32) q1.2))
theorem ok_m_isLifted (X : mX) (d F : Nat) : ∀   (m : mM) (r : Int32) (m' : mM), f_m_isLifted F  m = some (r, m') → m_R X (d + 69) 225 0 [some (.ref 304)] [] (SH, m) (some (.int r), (SH, m')) := by
  intro m r m' h
  unfold f_m_isLifted at h
  refine m_R_sg (by decide) [(.aload_n 0, 1, 0, 0, 0, 0, 0), (.bipush 6, 2, 0, 6, 0, 0, 0), (.iconst (-1), 1, 0, 1, 1, 0, 0), (.iconst 0, 1, 0, 0, 0, 0, 0)] (by decide +kernel) (show m_sgl X _ _ _ _ _ = some (5, [some (.ref 304)], [.int (0 : Int32), .int (-1 : Int32), .int (6 : Int32), .ref 304], (SH, m.1, m.2)) from rfl) ?_
  obtain ⟨q1, hc1, h⟩ := Option.bind_eq_some_iff.mp h
  refine m_R_cV (v := (some (.int q1.1))) (h1 := (SH, q1.2)) (rest := []) (lo' := [some (.ref 304), some (.int (6 : Int32)), some (.int (-1 : Int32)), some (.int (0 : Int32))]) (ml := 4) (k0 := 304) (by decide) (Or.inl rfl) (m_opb_of (ins := .invokevirtual 120) (len := 3) (tag := 5) (a := 226) (b := 3) (c := 0) (q := 1689) (by decide +kernel)) (by decide +kernel) rfl (show m_isO 226 304 (SH, _) = true from m_isO_of (by decide +kernel)) (Nat.le_of_ble_eq_true rfl) rfl rfl (ok_m_ruled X (d + 0) F _ _ _ _ _ _ hc1) ?_
  rcases m_ite h with ⟨c420, h⟩ | ⟨c420, h⟩
  · refine m_R_1 (by decide) (m_opb_of (ins := .ifCond .eq 7) (len := 3) (tag := 0) (a := 15) (b := 0) (c := 0) (q := 0) (by decide +kernel)) (if_pos c420) ?_
    refine m_R_sg (by decide) [(.iconst 0, 1, 0, 0, 0, 0, 0)] (by decide +kernel) (show m_sgl X _ _ _ _ _ = some (16, [some (.ref 304)], [.int (0 : Int32)], (SH, q1.2.1, q1.2.2)) from rfl) ?_
    exact ok_m_isLifted_16 X d F _ _ _ _ _ h
  · refine m_R_1 (by decide) (m_opb_of (ins := .ifCond .eq 7) (len := 3) (tag := 0) (a := 15) (b := 0) (c := 0) (q := 0) (by decide +kernel)) (if_neg c420) ?_
    refine m_R_sg (by decide) [(.iconst 1, 1, 0, 1, 0, 0, 0), (.goto 4, 3, 0, 16, 0, 0, 0)] (by decide +kernel) (show m_sgl X _ _ _ _ _ = some (16, [some (.ref 304)], [.int (1 : Int32)], (SH, q1.2.1, q1.2.2)) from rfl) ?_
    exact ok_m_isLifted_16 X d F _ _ _ _ _ h
def f_m_bankCan_62 (F : Nat)    (m : mM) : Option (Int32 × mM) := some ((0 : Int32), m)
theorem ok_m_bankCan_62 (X : mX) (d F : Nat) : ∀  (w0 : Option Value) (w1 : Option Value) (w2 : Option Value) (w3 : Option Value) (m : mM) (r : Int32) (m' : mM), f_m_bankCan_62 F  m = some (r, m') → m_R X (d + 70) 222 62 [w0, w1, w2, w3] [] (SH, m) (some (.int r), (SH, m')) := by
  intro w0 w1 w2 w3 m r m' h
  unfold f_m_bankCan_62 at h
  refine m_R_sg (by decide) [(.iconst 0, 1, 0, 0, 0, 0, 0)] (by decide +kernel) (show m_sgl X _ _ _ _ _ = some (63, [w0, w1, w2, w3], [.int (0 : Int32)], (SH, m.1, m.2)) from rfl) ?_
  obtain ⟨rfl, rfl⟩ := m_some h
  exact m_R_iret (by decide) (m_opb_of (ins := .ireturn) (len := 1) (tag := 1) (a := 1) (b := 0) (c := 0) (q := 0) (by decide +kernel)) (Or.inr (Or.inl rfl))
def f_m_bankCan_100 (F : Nat)   (s0 : Int32) (m : mM) : Option (Int32 × mM) := (if s0 = 0 ∨ s0 = 1 then some (s0, m) else none)
theorem ok_m_bankCan_100 (X : mX) (d F : Nat) : ∀ (s0 : Int32) (w0 : Option Value) (w1 : Option Value) (w2 : Option Value) (w3 : Option Value) (m : mM) (r : Int32) (m' : mM), f_m_bankCan_100 F s0 m = some (r, m') → m_R X (d + 70) 222 100 [w0, w1, w2, w3] [.int s0] (SH, m) (some (.int r), (SH, m')) := by
  intro s0 w0 w1 w2 w3 m r m' h
  unfold f_m_bankCan_100 at h
  obtain ⟨c0, h⟩ := m_ite_p h
  obtain ⟨rfl, rfl⟩ := m_some h
  exact m_R_iret (by decide) (m_opb_of (ins := .ireturn) (len := 1) (tag := 1) (a := 1) (b := 0) (c := 0) (q := 0) (by decide +kernel)) (Or.inr c0)
def f_m_bankCan_95 (F : Nat)    (m : mM) : Option (Int32 × mM) := f_m_bankCan_100 F (1 : Int32) m
theorem ok_m_bankCan_95 (X : mX) (d F : Nat) : ∀  (w0 : Option Value) (w1 : Option Value) (w2 : Option Value) (w3 : Option Value) (m : mM) (r : Int32) (m' : mM), f_m_bankCan_95 F  m = some (r, m') → m_R X (d + 70) 222 95 [w0, w1, w2, w3] [] (SH, m) (some (.int r), (SH, m')) := by
  intro w0 w1 w2 w3 m r m' h
  unfold f_m_bankCan_95 at h
  refine m_R_sg (by decide) [(.iconst 1, 1, 0, 1, 0, 0, 0), (.goto 4, 3, 0, 100, 0, 0, 0)] (by decide +kernel) (show m_sgl X _ _ _ _ _ = some (100, [w0, w1, w2, w3], [.int (1 : Int32)], (SH, m.1, m.2)) from rfl) ?_
  exact ok_m_bankCan_100 X d F _ _ _ _ _ _ _ _ h
def f_m_bankCan_64 (F : Nat)   (v2 : Int32) (m : mM) : Option (Int32 × mM) := ((f_m_isLifted F m).bind fun q4 => (if q4.1 = 0 then ((f_m_out F q4.2).bind fun q5 => ((f_m_hs F (0 : Int32) (2 : Int32) q5.2).bind fun q6 => ((f_m_ruled F (0 : Int32) (-1 : Int32) q6.1 q6.2).bind fun q7 => (if q7.1 < (q5.1 + ((10 : Int32) * v2)) then f_m_bankCan_100 F (0 : Int32) q7.2 else f_m_bankCan_95 F q7.2)))) else f_m_bankCan_95 F q4.2))
theorem ok_m_bankCan_64 (X : mX) (d F : Nat) : ∀ (v2 : Int32) (w1 : Option Value) (w3 : Option Value) (m : mM) (r : Int32) (m' : mM), f_m_bankCan_64 F v2 m = some (r, m') → m_R X (d + 70) 222 64 [some (.ref 304), w1, some (.int v2), w3] [] (SH, m) (some (.int r), (SH, m')) := by
  intro v2 w1 w3 m r m' h
  unfold f_m_bankCan_64 at h
  refine m_R_sg (by decide) [(.aload_n 0, 1, 0, 0, 0, 0, 0)] (by decide +kernel) (show m_sgl X _ _ _ _ _ = some (65, [some (.ref 304), w1, some (.int v2), w3], [.ref 304], (SH, m.1, m.2)) from rfl) ?_
  obtain ⟨q4, hc4, h⟩ := Option.bind_eq_some_iff.mp h
  refine m_R_cV (v := (some (.int q4.1))) (h1 := (SH, q4.2)) (rest := []) (lo' := [some (.ref 304)]) (ml := 1) (k0 := 304) (by decide) (Or.inl rfl) (m_opb_of (ins := .invokevirtual 124) (len := 3) (tag := 5) (a := 225) (b := 0) (c := 0) (q := 1685) (by decide +kernel)) (by decide +kernel) rfl (show m_isO 225 304 (SH, _) = true from m_isO_of (by decide +kernel)) (Nat.le_of_ble_eq_true rfl) rfl rfl (ok_m_isLifted X (d + 0) F _ _ _ hc4) ?_
  rcases m_ite h with ⟨c421, h⟩ | ⟨c421, h⟩
  · refine m_R_1 (by decide) (m_opb_of (ins := .ifCond .ne 27) (len := 3) (tag := 0) (a := 95) (b := 0) (c := 0) (q := 0) (by decide +kernel)) (if_pos c421) ?_
    refine m_R_sg (by decide) [(.aload_n 0, 1, 0, 0, 0, 0, 0)] (by decide +kernel) (show m_sgl X _ _ _ _ _ = some (72, [some (.ref 304), w1, some (.int v2), w3], [.ref 304], (SH, q4.2.1, q4.2.2)) from rfl) ?_
    obtain ⟨q5, hc5, h⟩ := Option.bind_eq_some_iff.mp h
    refine m_R_cV (v := (some (.int q5.1))) (h1 := (SH, q5.2)) (rest := []) (lo' := [some (.ref 304)]) (ml := 1) (k0 := 304) (by decide) (Or.inl rfl) (m_opb_of (ins := .invokevirtual 112) (len := 3) (tag := 5) (a := 244) (b := 0) (c := 0) (q := 1776) (by decide +kernel)) (by decide +kernel) rfl (show m_isO 244 304 (SH, _) = true from m_isO_of (by decide +kernel)) (Nat.le_of_ble_eq_true rfl) rfl rfl (ok_m_out X (d + 67) F _ _ _ hc5) ?_
    refine m_R_sg (by decide) [(.bipush 10, 2, 0, 10, 0, 0, 0), (.iload_n 2, 1, 0, 2, 0, 0, 0), (.imul, 1, 0, 0, 0, 0, 0), (.iadd, 1, 0, 0, 0, 0, 0), (.aload_n 0, 1, 0, 0, 0, 0, 0), (.iconst 0, 1, 0, 0, 0, 0, 0), (.iconst (-1), 1, 0, 1, 1, 0, 0), (.aload_n 0, 1, 0, 0, 0, 0, 0), (.iconst 0, 1, 0, 0, 0, 0, 0), (.iconst 2, 1, 0, 2, 0, 0, 0)] (by decide +kernel) (show m_sgl X _ _ _ _ _ = some (86, [some (.ref 304), w1, some (.int v2), w3], [.int (2 : Int32), .int (0 : Int32), .ref 304, .int (-1 : Int32), .int (0 : Int32), .ref 304, .int (q5.1 + ((10 : Int32) * v2))], (SH, q5.2.1, q5.2.2)) from rfl) ?_
    obtain ⟨q6, hc6, h⟩ := Option.bind_eq_some_iff.mp h
    refine m_R_cV (v := (some (.int q6.1))) (h1 := (SH, q6.2)) (rest := [.int (-1 : Int32), .int (0 : Int32), .ref 304, .int (q5.1 + ((10 : Int32) * v2))]) (lo' := [some (.ref 304), some (.int (0 : Int32)), some (.int (2 : Int32))]) (ml := 3) (k0 := 304) (by decide) (Or.inl rfl) (m_opb_of (ins := .invokevirtual 65) (len := 3) (tag := 5) (a := 212) (b := 2) (c := 0) (q := 1633) (by decide +kernel)) (by decide +kernel) rfl (show m_isO 212 304 (SH, _) = true from m_isO_of (by decide +kernel)) (Nat.le_of_ble_eq_true rfl) rfl rfl (ok_m_hs X (d + 69) F _ _ _ _ _ hc6) ?_
    obtain ⟨q7, hc7, h⟩ := Option.bind_eq_some_iff.mp h
    refine m_R_cV (v := (some (.int q7.1))) (h1 := (SH, q7.2)) (rest := [.int (q5.1 + ((10 : Int32) * v2))]) (lo' := [some (.ref 304), some (.int (0 : Int32)), some (.int (-1 : Int32)), some (.int q6.1)]) (ml := 4) (k0 := 304) (by decide) (Or.inl rfl) (m_opb_of (ins := .invokevirtual 120) (len := 3) (tag := 5) (a := 226) (b := 3) (c := 0) (q := 1689) (by decide +kernel)) (by decide +kernel) rfl (show m_isO 226 304 (SH, _) = true from m_isO_of (by decide +kernel)) (Nat.le_of_ble_eq_true rfl) rfl rfl (ok_m_ruled X (d + 1) F _ _ _ _ _ _ hc7) ?_
    rcases m_ite h with ⟨c422, h⟩ | ⟨c422, h⟩
    · refine m_R_1 (by decide) (m_opb_of (ins := .if_icmp .gt 7) (len := 3) (tag := 0) (a := 99) (b := 0) (c := 0) (q := 0) (by decide +kernel)) (if_pos c422) ?_
      refine m_R_sg (by decide) [(.iconst 0, 1, 0, 0, 0, 0, 0)] (by decide +kernel) (show m_sgl X _ _ _ _ _ = some (100, [some (.ref 304), w1, some (.int v2), w3], [.int (0 : Int32)], (SH, q7.2.1, q7.2.2)) from rfl) ?_
      exact ok_m_bankCan_100 X d F _ _ _ _ _ _ _ _ h
    · refine m_R_1 (by decide) (m_opb_of (ins := .if_icmp .gt 7) (len := 3) (tag := 0) (a := 99) (b := 0) (c := 0) (q := 0) (by decide +kernel)) (if_neg c422) ?_
      exact ok_m_bankCan_95 X d F _ _ _ _ _ _ _ h
  · refine m_R_1 (by decide) (m_opb_of (ins := .ifCond .ne 27) (len := 3) (tag := 0) (a := 95) (b := 0) (c := 0) (q := 0) (by decide +kernel)) (if_neg c421) ?_
    exact ok_m_bankCan_95 X d F _ _ _ _ _ _ _ h
def f_m_bankCan (F : Nat)   (v1 : Int32) (m : mM) : Option (Int32 × mM) := ((f_m_hs F (0 : Int32) (2 : Int32) m).bind fun q1 => (if (v1 - v1 / (10 : Int32) * (10 : Int32)) ≤ q1.1 then (if (v1 / (10 : Int32)) = 0 then some ((1 : Int32), q1.2) else ((f_m_many F (2 : Int32) q1.2).bind fun q2 => ((f_m_many F (0 : Int32) q2.2).bind fun q3 => (if q3.1 < ((v1 / (10 : Int32)) - q2.1) then f_m_bankCan_62 F q3.2 else (if ((v1 / (10 : Int32)) - q2.1) ≤ 0 then f_m_bankCan_64 F (v1 / (10 : Int32)) q3.2 else (if ((q3.2.1 305 (6 : Int32).toNatClampNeg) + ((v1 / (10 : Int32)) - q2.1)) ≤ (400 : Int32) then f_m_bankCan_64 F (v1 / (10 : Int32)) q3.2 else f_m_bankCan_62 F q3.2)))))) else some ((0 : Int32), q1.2)))
theorem ok_m_bankCan (X : mX) (d F : Nat) : ∀ (v1 : Int32)  (m : mM) (r : Int32) (m' : mM), f_m_bankCan F v1 m = some (r, m') → m_R X (d + 70) 222 0 [some (.ref 304), some (.int v1), none, none] [] (SH, m) (some (.int r), (SH, m')) := by
  intro v1 m r m' h
  unfold f_m_bankCan at h
  refine m_R_sg (by decide) [(.iload_n 1, 1, 0, 1, 0, 0, 0), (.bipush 10, 2, 0, 10, 0, 0, 0)] (by decide +kernel) (show m_sgl X _ _ _ _ _ = some (3, [some (.ref 304), some (.int v1), none, none], [.int (10 : Int32), .int v1], (SH, m.1, m.2)) from rfl) ?_
  refine m_R_1 (by decide) (m_opb_of (ins := .idiv) (len := 1) (tag := 0) (a := 0) (b := 0) (c := 0) (q := 0) (by decide +kernel)) (m_s_idiv (by decide)) ?_
  refine m_R_sg (by decide) [(.istore_n 2, 1, 0, 2, 0, 0, 0), (.aload_n 0, 1, 0, 0, 0, 0, 0), (.iconst 0, 1, 0, 0, 0, 0, 0), (.iconst 2, 1, 0, 2, 0, 0, 0)] (by decide +kernel) (show m_sgl X _ _ _ _ _ = some (8, [some (.ref 304), some (.int v1), some (.int (v1 / (10 : Int32))), none], [.int (2 : Int32), .int (0 : Int32), .ref 304], (SH, m.1, m.2)) from rfl) ?_
  obtain ⟨q1, hc1, h⟩ := Option.bind_eq_some_iff.mp h
  refine m_R_cV (v := (some (.int q1.1))) (h1 := (SH, q1.2)) (rest := []) (lo' := [some (.ref 304), some (.int (0 : Int32)), some (.int (2 : Int32))]) (ml := 3) (k0 := 304) (by decide) (Or.inl rfl) (m_opb_of (ins := .invokevirtual 65) (len := 3) (tag := 5) (a := 212) (b := 2) (c := 0) (q := 1633) (by decide +kernel)) (by decide +kernel) rfl (show m_isO 212 304 (SH, _) = true from m_isO_of (by decide +kernel)) (Nat.le_of_ble_eq_true rfl) rfl rfl (ok_m_hs X (d + 69) F _ _ _ _ _ hc1) ?_
  refine m_R_sg (by decide) [(.iload_n 1, 1, 0, 1, 0, 0, 0), (.bipush 10, 2, 0, 10, 0, 0, 0)] (by decide +kernel) (show m_sgl X _ _ _ _ _ = some (14, [some (.ref 304), some (.int v1), some (.int (v1 / (10 : Int32))), none], [.int (10 : Int32), .int v1, .int q1.1], (SH, q1.2.1, q1.2.2)) from rfl) ?_
  refine m_R_1 (by decide) (m_opb_of (ins := .irem) (len := 1) (tag := 0) (a := 0) (b := 0) (c := 0) (q := 0) (by decide +kernel)) (m_s_irem (by decide)) ?_
  rcases m_ite h with ⟨c423, h⟩ | ⟨c423, h⟩
  · refine m_R_1 (by decide) (m_opb_of (ins := .if_icmp .ge 5) (len := 3) (tag := 0) (a := 20) (b := 0) (c := 0) (q := 0) (by decide +kernel)) (if_pos c423) ?_
    refine m_R_sg (by decide) [(.iload_n 2, 1, 0, 2, 0, 0, 0)] (by decide +kernel) (show m_sgl X _ _ _ _ _ = some (21, [some (.ref 304), some (.int v1), some (.int (v1 / (10 : Int32))), none], [.int (v1 / (10 : Int32))], (SH, q1.2.1, q1.2.2)) from rfl) ?_
    rcases m_ite h with ⟨c424, h⟩ | ⟨c424, h⟩
    · refine m_R_1 (by decide) (m_opb_of (ins := .ifCond .ne 5) (len := 3) (tag := 0) (a := 26) (b := 0) (c := 0) (q := 0) (by decide +kernel)) (if_pos c424) ?_
      refine m_R_sg (by decide) [(.iconst 1, 1, 0, 1, 0, 0, 0)] (by decide +kernel) (show m_sgl X _ _ _ _ _ = some (25, [some (.ref 304), some (.int v1), some (.int (v1 / (10 : Int32))), none], [.int (1 : Int32)], (SH, q1.2.1, q1.2.2)) from rfl) ?_
      obtain ⟨rfl, rfl⟩ := m_some h
      exact m_R_iret (by decide) (m_opb_of (ins := .ireturn) (len := 1) (tag := 1) (a := 1) (b := 0) (c := 0) (q := 0) (by decide +kernel)) (Or.inr (Or.inr rfl))
    · refine m_R_1 (by decide) (m_opb_of (ins := .ifCond .ne 5) (len := 3) (tag := 0) (a := 26) (b := 0) (c := 0) (q := 0) (by decide +kernel)) (if_neg c424) ?_
      refine m_R_sg (by decide) [(.iload_n 2, 1, 0, 2, 0, 0, 0), (.aload_n 0, 1, 0, 0, 0, 0, 0), (.iconst 2, 1, 0, 2, 0, 0, 0)] (by decide +kernel) (show m_sgl X _ _ _ _ _ = some (29, [some (.ref 304), some (.int v1), some (.int (v1 / (10 : Int32))), none], [.int (2 : Int32), .ref 304, .int (v1 / (10 : Int32))], (SH, q1.2.1, q1.2.2)) from rfl) ?_
      obtain ⟨q2, hc2, h⟩ := Option.bind_eq_some_iff.mp h
      refine m_R_cV (v := (some (.int q2.1))) (h1 := (SH, q2.2)) (rest := [.int (v1 / (10 : Int32))]) (lo' := [some (.ref 304), some (.int (2 : Int32)), none, none]) (ml := 4) (k0 := 304) (by decide) (Or.inl rfl) (m_opb_of (ins := .invokevirtual 109) (len := 3) (tag := 5) (a := 223) (b := 1) (c := 0) (q := 1677) (by decide +kernel)) (by decide +kernel) rfl (show m_isO 223 304 (SH, _) = true from m_isO_of (by decide +kernel)) (Nat.le_of_ble_eq_true rfl) rfl rfl (ok_m_many X (d + 68) F _ _ _ _ hc2) ?_
      refine m_R_sg (by decide) [(.isub, 1, 0, 0, 0, 0, 0), (.istore_n 3, 1, 0, 3, 0, 0, 0), (.iload_n 3, 1, 0, 3, 0, 0, 0), (.aload_n 0, 1, 0, 0, 0, 0, 0), (.iconst 0, 1, 0, 0, 0, 0, 0)] (by decide +kernel) (show m_sgl X _ _ _ _ _ = some (37, [some (.ref 304), some (.int v1), some (.int (v1 / (10 : Int32))), some (.int ((v1 / (10 : Int32)) - q2.1))], [.int (0 : Int32), .ref 304, .int ((v1 / (10 : Int32)) - q2.1)], (SH, q2.2.1, q2.2.2)) from rfl) ?_
      obtain ⟨q3, hc3, h⟩ := Option.bind_eq_some_iff.mp h
      refine m_R_cV (v := (some (.int q3.1))) (h1 := (SH, q3.2)) (rest := [.int ((v1 / (10 : Int32)) - q2.1)]) (lo' := [some (.ref 304), some (.int (0 : Int32)), none, none]) (ml := 4) (k0 := 304) (by decide) (Or.inl rfl) (m_opb_of (ins := .invokevirtual 109) (len := 3) (tag := 5) (a := 223) (b := 1) (c := 0) (q := 1677) (by decide +kernel)) (by decide +kernel) rfl (show m_isO 223 304 (SH, _) = true from m_isO_of (by decide +kernel)) (Nat.le_of_ble_eq_true rfl) rfl rfl (ok_m_many X (d + 68) F _ _ _ _ hc3) ?_
      rcases m_ite h with ⟨c425, h⟩ | ⟨c425, h⟩
      · refine m_R_1 (by decide) (m_opb_of (ins := .if_icmp .gt 22) (len := 3) (tag := 0) (a := 62) (b := 0) (c := 0) (q := 0) (by decide +kernel)) (if_pos c425) ?_
        exact ok_m_bankCan_62 X d F _ _ _ _ _ _ _ h
      · refine m_R_1 (by decide) (m_opb_of (ins := .if_icmp .gt 22) (len := 3) (tag := 0) (a := 62) (b := 0) (c := 0) (q := 0) (by decide +kernel)) (if_neg c425) ?_
        refine m_R_sg (by decide) [(.iload_n 3, 1, 0, 3, 0, 0, 0)] (by decide +kernel) (show m_sgl X _ _ _ _ _ = some (44, [some (.ref 304), some (.int v1), some (.int (v1 / (10 : Int32))), some (.int ((v1 / (10 : Int32)) - q2.1))], [.int ((v1 / (10 : Int32)) - q2.1)], (SH, q3.2.1, q3.2.2)) from rfl) ?_
        rcases m_ite h with ⟨c426, h⟩ | ⟨c426, h⟩
        · refine m_R_1 (by decide) (m_opb_of (ins := .ifCond .le 20) (len := 3) (tag := 0) (a := 64) (b := 0) (c := 0) (q := 0) (by decide +kernel)) (if_pos c426) ?_
          exact ok_m_bankCan_64 X d F _ _ _ _ _ _ h
        · refine m_R_1 (by decide) (m_opb_of (ins := .ifCond .le 20) (len := 3) (tag := 0) (a := 64) (b := 0) (c := 0) (q := 0) (by decide +kernel)) (if_neg c426) ?_
          refine m_R_sg (by decide) [(.aload_n 0, 1, 0, 0, 0, 0, 0), (.getfield 13, 3, 0, 12, 1, 3, 1493), (.bipush 6, 2, 0, 6, 0, 0, 0)] (by decide +kernel) (show m_sgl X _ _ _ _ _ = some (53, [some (.ref 304), some (.int v1), some (.int (v1 / (10 : Int32))), some (.int ((v1 / (10 : Int32)) - q2.1))], [.int (6 : Int32), .ref 305], (SH, q3.2.1, q3.2.2)) from rfl) ?_
          refine m_R_1 (by decide) (m_opb_of (ins := .iaload) (len := 1) (tag := 0) (a := 0) (b := 0) (c := 0) (q := 0) (by decide +kernel)) (m_s_iald sh_305 (by decide) (show ¬ ((6 : Int32) < 0 ∨ 9732 ≤ (6 : Int32).toNatClampNeg) by decide)) ?_
          refine m_R_sg (by decide) [(.iload_n 3, 1, 0, 3, 0, 0, 0), (.iadd, 1, 0, 0, 0, 0, 0), (.sipush 400, 3, 0, 400, 0, 0, 0)] (by decide +kernel) (show m_sgl X _ _ _ _ _ = some (59, [some (.ref 304), some (.int v1), some (.int (v1 / (10 : Int32))), some (.int ((v1 / (10 : Int32)) - q2.1))], [.int (400 : Int32), .int ((q3.2.1 305 (6 : Int32).toNatClampNeg) + ((v1 / (10 : Int32)) - q2.1))], (SH, q3.2.1, q3.2.2)) from rfl) ?_
          rcases m_ite h with ⟨c427, h⟩ | ⟨c427, h⟩
          · refine m_R_1 (by decide) (m_opb_of (ins := .if_icmp .le 5) (len := 3) (tag := 0) (a := 64) (b := 0) (c := 0) (q := 0) (by decide +kernel)) (if_pos c427) ?_
            exact ok_m_bankCan_64 X d F _ _ _ _ _ _ h
          · refine m_R_1 (by decide) (m_opb_of (ins := .if_icmp .le 5) (len := 3) (tag := 0) (a := 64) (b := 0) (c := 0) (q := 0) (by decide +kernel)) (if_neg c427) ?_
            exact ok_m_bankCan_62 X d F _ _ _ _ _ _ _ h
  · refine m_R_1 (by decide) (m_opb_of (ins := .if_icmp .ge 5) (len := 3) (tag := 0) (a := 20) (b := 0) (c := 0) (q := 0) (by decide +kernel)) (if_neg c423) ?_
    refine m_R_sg (by decide) [(.iconst 0, 1, 0, 0, 0, 0, 0)] (by decide +kernel) (show m_sgl X _ _ _ _ _ = some (19, [some (.ref 304), some (.int v1), some (.int (v1 / (10 : Int32))), none], [.int (0 : Int32)], (SH, q1.2.1, q1.2.2)) from rfl) ?_
    obtain ⟨rfl, rfl⟩ := m_some h
    exact m_R_iret (by decide) (m_opb_of (ins := .ireturn) (len := 1) (tag := 1) (a := 1) (b := 0) (c := 0) (q := 0) (by decide +kernel)) (Or.inr (Or.inl rfl))
def f_m_isBehind_79 (F : Nat)   (s0 : Int32) (m : mM) : Option (Int32 × mM) := (if s0 = 0 ∨ s0 = 1 then some (s0, m) else none)
theorem ok_m_isBehind_79 (X : mX) (d F : Nat) : ∀ (s0 : Int32) (w0 : Option Value) (w1 : Option Value) (w2 : Option Value) (w3 : Option Value) (w4 : Option Value) (m : mM) (r : Int32) (m' : mM), f_m_isBehind_79 F s0 m = some (r, m') → m_R X (d + 0) 248 79 [w0, w1, w2, w3, w4] [.int s0] (SH, m) (some (.int r), (SH, m')) := by
  intro s0 w0 w1 w2 w3 w4 m r m' h
  unfold f_m_isBehind_79 at h
  obtain ⟨c0, h⟩ := m_ite_p h
  obtain ⟨rfl, rfl⟩ := m_some h
  exact m_R_iret (by decide) (m_opb_of (ins := .ireturn) (len := 1) (tag := 1) (a := 1) (b := 0) (c := 0) (q := 0) (by decide +kernel)) (Or.inr c0)
def f_m_isBehind_74 (F : Nat)    (m : mM) : Option (Int32 × mM) := f_m_isBehind_79 F (1 : Int32) m
theorem ok_m_isBehind_74 (X : mX) (d F : Nat) : ∀  (w0 : Option Value) (w1 : Option Value) (w2 : Option Value) (w3 : Option Value) (w4 : Option Value) (m : mM) (r : Int32) (m' : mM), f_m_isBehind_74 F  m = some (r, m') → m_R X (d + 0) 248 74 [w0, w1, w2, w3, w4] [] (SH, m) (some (.int r), (SH, m')) := by
  intro w0 w1 w2 w3 w4 m r m' h
  unfold f_m_isBehind_74 at h
  refine m_R_sg (by decide) [(.iconst 1, 1, 0, 1, 0, 0, 0), (.goto 4, 3, 0, 79, 0, 0, 0)] (by decide +kernel) (show m_sgl X _ _ _ _ _ = some (79, [w0, w1, w2, w3, w4], [.int (1 : Int32)], (SH, m.1, m.2)) from rfl) ?_
  exact ok_m_isBehind_79 X d F _ _ _ _ _ _ _ _ _ h
def f_m_isBehind_78 (F : Nat)    (m : mM) : Option (Int32 × mM) := f_m_isBehind_79 F (0 : Int32) m
theorem ok_m_isBehind_78 (X : mX) (d F : Nat) : ∀  (w0 : Option Value) (w1 : Option Value) (w2 : Option Value) (w3 : Option Value) (w4 : Option Value) (m : mM) (r : Int32) (m' : mM), f_m_isBehind_78 F  m = some (r, m') → m_R X (d + 0) 248 78 [w0, w1, w2, w3, w4] [] (SH, m) (some (.int r), (SH, m')) := by
  intro w0 w1 w2 w3 w4 m r m' h
  unfold f_m_isBehind_78 at h
  refine m_R_sg (by decide) [(.iconst 0, 1, 0, 0, 0, 0, 0)] (by decide +kernel) (show m_sgl X _ _ _ _ _ = some (79, [w0, w1, w2, w3, w4], [.int (0 : Int32)], (SH, m.1, m.2)) from rfl) ?_
  exact ok_m_isBehind_79 X d F _ _ _ _ _ _ _ _ _ h
def f_m_isBehind (F : Nat)   (v1 : Int32) (v2 : Int32) (m : mM) : Option (Int32 × mM) := (if ((1220 : Int32) + ((12 : Int32) * v1)) < 0 ∨ 9732 ≤ ((1220 : Int32) + ((12 : Int32) * v1)).toNatClampNeg then none else (if ((1220 : Int32) + ((12 : Int32) * v2)) < 0 ∨ 9732 ≤ ((1220 : Int32) + ((12 : Int32) * v2)).toNatClampNeg then none else (if (m.1 305 ((1220 : Int32) + ((12 : Int32) * v2)).toNatClampNeg) < (m.1 305 ((1220 : Int32) + ((12 : Int32) * v1)).toNatClampNeg) then f_m_isBehind_74 F m else (if (m.1 305 ((1220 : Int32) + ((12 : Int32) * v1)).toNatClampNeg) = (m.1 305 ((1220 : Int32) + ((12 : Int32) * v2)).toNatClampNeg) then (if (((1220 : Int32) + ((12 : Int32) * v1)) + (1 : Int32)) < 0 ∨ 9732 ≤ (((1220 : Int32) + ((12 : Int32) * v1)) + (1 : Int32)).toNatClampNeg then none else (if (((1220 : Int32) + ((12 : Int32) * v2)) + (1 : Int32)) < 0 ∨ 9732 ≤ (((1220 : Int32) + ((12 : Int32) * v2)) + (1 : Int32)).toNatClampNeg then none else (if (m.1 305 (((1220 : Int32) + ((12 : Int32) * v1)) + (1 : Int32)).toNatClampNeg) ≤ (m.1 305 (((1220 : Int32) + ((12 : Int32) * v2)) + (1 : Int32)).toNatClampNeg) then f_m_isBehind_78 F m else f_m_isBehind_74 F m))) else f_m_isBehind_78 F m))))
theorem ok_m_isBehind (X : mX) (d F : Nat) : ∀ (v1 : Int32) (v2 : Int32)  (m : mM) (r : Int32) (m' : mM), f_m_isBehind F v1 v2 m = some (r, m') → m_R X (d + 0) 248 0 [some (.ref 304), some (.int v1), some (.int v2), none, none] [] (SH, m) (some (.int r), (SH, m')) := by
  intro v1 v2 m r m' h
  unfold f_m_isBehind at h
  refine m_R_sg (by decide) [(.aload_n 0, 1, 0, 0, 0, 0, 0), (.getfield 13, 3, 0, 12, 1, 3, 1493), (.sipush 1220, 3, 0, 1220, 0, 0, 0), (.bipush 12, 2, 0, 12, 0, 0, 0), (.iload_n 1, 1, 0, 1, 0, 0, 0), (.imul, 1, 0, 0, 0, 0, 0), (.iadd, 1, 0, 0, 0, 0, 0)] (by decide +kernel) (show m_sgl X _ _ _ _ _ = some (12, [some (.ref 304), some (.int v1), some (.int v2), none, none], [.int ((1220 : Int32) + ((12 : Int32) * v1)), .ref 305], (SH, m.1, m.2)) from rfl) ?_
  obtain ⟨c428, h⟩ := m_ite_n h
  refine m_R_1 (by decide) (m_opb_of (ins := .iaload) (len := 1) (tag := 0) (a := 0) (b := 0) (c := 0) (q := 0) (by decide +kernel)) (m_s_iald sh_305 (by decide) c428) ?_
  refine m_R_sg (by decide) [(.istore_n 3, 1, 0, 3, 0, 0, 0), (.aload_n 0, 1, 0, 0, 0, 0, 0), (.getfield 13, 3, 0, 12, 1, 3, 1493), (.sipush 1220, 3, 0, 1220, 0, 0, 0), (.bipush 12, 2, 0, 12, 0, 0, 0), (.iload_n 2, 1, 0, 2, 0, 0, 0), (.imul, 1, 0, 0, 0, 0, 0), (.iadd, 1, 0, 0, 0, 0, 0)] (by decide +kernel) (show m_sgl X _ _ _ _ _ = some (26, [some (.ref 304), some (.int v1), some (.int v2), some (.int (m.1 305 ((1220 : Int32) + ((12 : Int32) * v1)).toNatClampNeg)), none], [.int ((1220 : Int32) + ((12 : Int32) * v2)), .ref 305], (SH, m.1, m.2)) from rfl) ?_
  obtain ⟨c429, h⟩ := m_ite_n h
  refine m_R_1 (by decide) (m_opb_of (ins := .iaload) (len := 1) (tag := 0) (a := 0) (b := 0) (c := 0) (q := 0) (by decide +kernel)) (m_s_iald sh_305 (by decide) c429) ?_
  refine m_R_sg (by decide) [(.istore 4, 2, 0, 4, 0, 0, 0), (.iload_n 3, 1, 0, 3, 0, 0, 0), (.iload 4, 2, 0, 4, 0, 0, 0)] (by decide +kernel) (show m_sgl X _ _ _ _ _ = some (32, [some (.ref 304), some (.int v1), some (.int v2), some (.int (m.1 305 ((1220 : Int32) + ((12 : Int32) * v1)).toNatClampNeg)), some (.int (m.1 305 ((1220 : Int32) + ((12 : Int32) * v2)).toNatClampNeg))], [.int (m.1 305 ((1220 : Int32) + ((12 : Int32) * v2)).toNatClampNeg), .int (m.1 305 ((1220 : Int32) + ((12 : Int32) * v1)).toNatClampNeg)], (SH, m.1, m.2)) from rfl) ?_
  rcases m_ite h with ⟨c430, h⟩ | ⟨c430, h⟩
  · refine m_R_1 (by decide) (m_opb_of (ins := .if_icmp .gt 42) (len := 3) (tag := 0) (a := 74) (b := 0) (c := 0) (q := 0) (by decide +kernel)) (if_pos c430) ?_
    exact ok_m_isBehind_74 X d F _ _ _ _ _ _ _ _ h
  · refine m_R_1 (by decide) (m_opb_of (ins := .if_icmp .gt 42) (len := 3) (tag := 0) (a := 74) (b := 0) (c := 0) (q := 0) (by decide +kernel)) (if_neg c430) ?_
    refine m_R_sg (by decide) [(.iload_n 3, 1, 0, 3, 0, 0, 0), (.iload 4, 2, 0, 4, 0, 0, 0)] (by decide +kernel) (show m_sgl X _ _ _ _ _ = some (38, [some (.ref 304), some (.int v1), some (.int v2), some (.int (m.1 305 ((1220 : Int32) + ((12 : Int32) * v1)).toNatClampNeg)), some (.int (m.1 305 ((1220 : Int32) + ((12 : Int32) * v2)).toNatClampNeg))], [.int (m.1 305 ((1220 : Int32) + ((12 : Int32) * v2)).toNatClampNeg), .int (m.1 305 ((1220 : Int32) + ((12 : Int32) * v1)).toNatClampNeg)], (SH, m.1, m.2)) from rfl) ?_
    rcases m_ite h with ⟨c431, h⟩ | ⟨c431, h⟩
    · refine m_R_1 (by decide) (m_opb_of (ins := .if_icmp .ne 40) (len := 3) (tag := 0) (a := 78) (b := 0) (c := 0) (q := 0) (by decide +kernel)) (if_pos c431) ?_
      refine m_R_sg (by decide) [(.aload_n 0, 1, 0, 0, 0, 0, 0), (.getfield 13, 3, 0, 12, 1, 3, 1493), (.sipush 1220, 3, 0, 1220, 0, 0, 0), (.bipush 12, 2, 0, 12, 0, 0, 0), (.iload_n 1, 1, 0, 1, 0, 0, 0), (.imul, 1, 0, 0, 0, 0, 0), (.iadd, 1, 0, 0, 0, 0, 0), (.iconst 1, 1, 0, 1, 0, 0, 0), (.iadd, 1, 0, 0, 0, 0, 0)] (by decide +kernel) (show m_sgl X _ _ _ _ _ = some (55, [some (.ref 304), some (.int v1), some (.int v2), some (.int (m.1 305 ((1220 : Int32) + ((12 : Int32) * v1)).toNatClampNeg)), some (.int (m.1 305 ((1220 : Int32) + ((12 : Int32) * v2)).toNatClampNeg))], [.int (((1220 : Int32) + ((12 : Int32) * v1)) + (1 : Int32)), .ref 305], (SH, m.1, m.2)) from rfl) ?_
      obtain ⟨c432, h⟩ := m_ite_n h
      refine m_R_1 (by decide) (m_opb_of (ins := .iaload) (len := 1) (tag := 0) (a := 0) (b := 0) (c := 0) (q := 0) (by decide +kernel)) (m_s_iald sh_305 (by decide) c432) ?_
      refine m_R_sg (by decide) [(.aload_n 0, 1, 0, 0, 0, 0, 0), (.getfield 13, 3, 0, 12, 1, 3, 1493), (.sipush 1220, 3, 0, 1220, 0, 0, 0), (.bipush 12, 2, 0, 12, 0, 0, 0), (.iload_n 2, 1, 0, 2, 0, 0, 0), (.imul, 1, 0, 0, 0, 0, 0), (.iadd, 1, 0, 0, 0, 0, 0), (.iconst 1, 1, 0, 1, 0, 0, 0), (.iadd, 1, 0, 0, 0, 0, 0)] (by decide +kernel) (show m_sgl X _ _ _ _ _ = some (70, [some (.ref 304), some (.int v1), some (.int v2), some (.int (m.1 305 ((1220 : Int32) + ((12 : Int32) * v1)).toNatClampNeg)), some (.int (m.1 305 ((1220 : Int32) + ((12 : Int32) * v2)).toNatClampNeg))], [.int (((1220 : Int32) + ((12 : Int32) * v2)) + (1 : Int32)), .ref 305, .int (m.1 305 (((1220 : Int32) + ((12 : Int32) * v1)) + (1 : Int32)).toNatClampNeg)], (SH, m.1, m.2)) from rfl) ?_
      obtain ⟨c433, h⟩ := m_ite_n h
      refine m_R_1 (by decide) (m_opb_of (ins := .iaload) (len := 1) (tag := 0) (a := 0) (b := 0) (c := 0) (q := 0) (by decide +kernel)) (m_s_iald sh_305 (by decide) c433) ?_
      rcases m_ite h with ⟨c434, h⟩ | ⟨c434, h⟩
      · refine m_R_1 (by decide) (m_opb_of (ins := .if_icmp .le 7) (len := 3) (tag := 0) (a := 78) (b := 0) (c := 0) (q := 0) (by decide +kernel)) (if_pos c434) ?_
        exact ok_m_isBehind_78 X d F _ _ _ _ _ _ _ _ h
      · refine m_R_1 (by decide) (m_opb_of (ins := .if_icmp .le 7) (len := 3) (tag := 0) (a := 78) (b := 0) (c := 0) (q := 0) (by decide +kernel)) (if_neg c434) ?_
        exact ok_m_isBehind_74 X d F _ _ _ _ _ _ _ _ h
    · refine m_R_1 (by decide) (m_opb_of (ins := .if_icmp .ne 40) (len := 3) (tag := 0) (a := 78) (b := 0) (c := 0) (q := 0) (by decide +kernel)) (if_neg c431) ?_
      exact ok_m_isBehind_78 X d F _ _ _ _ _ _ _ _ h
def f_m_collect_106 (F : Nat)  (k7 : Int32 → Int32 → mM → Option (Int32 × mM)) (v1 : Int32) (v2 : Int32) (m : mM) : Option (Int32 × mM) := k7 v1 (v2 + (1 : Int32)) m
theorem ok_m_collect_106 (X : mX) (d F : Nat) (k7 : Int32 → Int32 → mM → Option (Int32 × mM)) (hk7 : ∀ (v1 : Int32) (v2 : Int32) (w3 : Option Value) (w4 : Option Value) (m : mM) (r : Int32) (m' : mM), k7 v1 v2 m = some (r, m') → m_R X (d + 1) 247 7 [some (.ref 304), some (.int v1), some (.int v2), w3, w4] [] (SH, m) (some (.int r), (SH, m'))) : ∀ (v1 : Int32) (v2 : Int32) (w3 : Option Value) (w4 : Option Value) (m : mM) (r : Int32) (m' : mM), f_m_collect_106 F k7 v1 v2 m = some (r, m') → m_R X (d + 1) 247 106 [some (.ref 304), some (.int v1), some (.int v2), w3, w4] [] (SH, m) (some (.int r), (SH, m')) := by
  intro v1 v2 w3 w4 m r m' h
  unfold f_m_collect_106 at h
  refine m_R_sg (by decide) [(.iinc 2 1, 3, 0, 2, 1, 0, 0), (.goto (-102), 3, 0, 7, 0, 0, 0)] (by decide +kernel) (show m_sgl X _ _ _ _ _ = some (7, [some (.ref 304), some (.int v1), some (.int (v2 + (1 : Int32))), w3, w4], [], (SH, m.1, m.2)) from rfl) ?_
  exact hk7 _ _ _ _ _ _ _ h
def f_m_collect_89 (F : Nat)  (k7 : Int32 → Int32 → mM → Option (Int32 × mM)) (v1 : Int32) (v2 : Int32) (v3 : Int32) (m : mM) : Option (Int32 × mM) := (if v3 < 0 ∨ 400 ≤ v3.toNatClampNeg then none else f_m_collect_106 F k7 v1 v2 ((m_up (m_up m.1 307 v3.toNatClampNeg v2) 304 5 (((m_up m.1 307 v3.toNatClampNeg v2) 304 5) + (1 : Int32))), m.2))
theorem ok_m_collect_89 (X : mX) (d F : Nat) (k7 : Int32 → Int32 → mM → Option (Int32 × mM)) (hk7 : ∀ (v1 : Int32) (v2 : Int32) (w3 : Option Value) (w4 : Option Value) (m : mM) (r : Int32) (m' : mM), k7 v1 v2 m = some (r, m') → m_R X (d + 1) 247 7 [some (.ref 304), some (.int v1), some (.int v2), w3, w4] [] (SH, m) (some (.int r), (SH, m'))) : ∀ (v1 : Int32) (v2 : Int32) (v3 : Int32) (w4 : Option Value) (m : mM) (r : Int32) (m' : mM), f_m_collect_89 F k7 v1 v2 v3 m = some (r, m') → m_R X (d + 1) 247 89 [some (.ref 304), some (.int v1), some (.int v2), some (.int v3), w4] [] (SH, m) (some (.int r), (SH, m')) := by
  intro v1 v2 v3 w4 m r m' h
  unfold f_m_collect_89 at h
  refine m_R_sg (by decide) [(.aload_n 0, 1, 0, 0, 0, 0, 0), (.getfield 20, 3, 0, 12, 3, 3, 1495), (.iload_n 3, 1, 0, 3, 0, 0, 0), (.iload_n 2, 1, 0, 2, 0, 0, 0)] (by decide +kernel) (show m_sgl X _ _ _ _ _ = some (95, [some (.ref 304), some (.int v1), some (.int v2), some (.int v3), w4], [.int v2, .int v3, .ref 307], (SH, m.1, m.2)) from rfl) ?_
  obtain ⟨c435, h⟩ := m_ite_n h
  refine m_R_1 (by decide) (m_opb_of (ins := .iastore) (len := 1) (tag := 0) (a := 0) (b := 0) (c := 0) (q := 0) (by decide +kernel)) (m_s_iast sh_307 c435) ?_
  refine m_R_sg (by decide) [(.aload_n 0, 1, 0, 0, 0, 0, 0), (.dup, 1, 0, 0, 0, 0, 0), (.getfield 92, 3, 0, 12, 5, 0, 1497), (.iconst 1, 1, 0, 1, 0, 0, 0), (.iadd, 1, 0, 0, 0, 0, 0), (.putfield 92, 3, 0, 12, 5, 0, 1497)] (by decide +kernel) (show m_sgl X _ _ _ _ _ = some (106, [some (.ref 304), some (.int v1), some (.int v2), some (.int v3), w4], [], (SH, (m_up (m_up m.1 307 v3.toNatClampNeg v2) 304 5 (((m_up m.1 307 v3.toNatClampNeg v2) 304 5) + (1 : Int32))), m.2)) from rfl) ?_
  exact ok_m_collect_106 X d F _ hk7 _ _ _ _ _ _ _ h
def f_m_collect_49 (F : Nat)  (k7 : Int32 → Int32 → mM → Option (Int32 × mM)) : Nat → Int32 → Int32 → Int32 → mM → Option (Int32 × mM)
  | 0, _, _, _, _ => none
  | n + 1, v1, v2, v3, m => (if v3 ≤ 0 then f_m_collect_89 F k7 v1 v2 v3 m else (if (v3 - (1 : Int32)) < 0 ∨ 400 ≤ (v3 - (1 : Int32)).toNatClampNeg then none else ((f_m_isBehind F (m.1 307 (v3 - (1 : Int32)).toNatClampNeg) v2 m).bind fun q1 => (if q1.1 = 0 then f_m_collect_89 F k7 v1 v2 v3 q1.2 else (if v3 < 0 ∨ 400 ≤ v3.toNatClampNeg then none else f_m_collect_49 F k7 n v1 v2 (v3 + (-1 : Int32)) ((m_up q1.2.1 307 v3.toNatClampNeg (q1.2.1 307 (v3 - (1 : Int32)).toNatClampNeg)), q1.2.2))))))
theorem ok_m_collect_49 (X : mX) (d F : Nat) (k7 : Int32 → Int32 → mM → Option (Int32 × mM)) (hk7 : ∀ (v1 : Int32) (v2 : Int32) (w3 : Option Value) (w4 : Option Value) (m : mM) (r : Int32) (m' : mM), k7 v1 v2 m = some (r, m') → m_R X (d + 1) 247 7 [some (.ref 304), some (.int v1), some (.int v2), w3, w4] [] (SH, m) (some (.int r), (SH, m'))) : ∀ (n : Nat) (v1 : Int32) (v2 : Int32) (v3 : Int32) (w4 : Option Value) (m : mM) (r : Int32) (m' : mM), f_m_collect_49 F k7 n v1 v2 v3 m = some (r, m') → m_R X (d + 1) 247 49 [some (.ref 304), some (.int v1), some (.int v2), some (.int v3), w4] [] (SH, m) (some (.int r), (SH, m')) := by
  intro n
  induction n with
  | zero => intro v1 v2 v3 w4 m r m' h; cases h
  | succ n ih =>
    intro v1 v2 v3 w4 m r m' h
    simp only [f_m_collect_49] at h
    refine m_R_sg (by decide) [(.iload_n 3, 1, 0, 3, 0, 0, 0)] (by decide +kernel) (show m_sgl X _ _ _ _ _ = some (50, [some (.ref 304), some (.int v1), some (.int v2), some (.int v3), w4], [.int v3], (SH, m.1, m.2)) from rfl) ?_
    rcases m_ite h with ⟨c436, h⟩ | ⟨c436, h⟩
    · refine m_R_1 (by decide) (m_opb_of (ins := .ifCond .le 39) (len := 3) (tag := 0) (a := 89) (b := 0) (c := 0) (q := 0) (by decide +kernel)) (if_pos c436) ?_
      exact ok_m_collect_89 X d F _ hk7 _ _ _ _ _ _ _ h
    · refine m_R_1 (by decide) (m_opb_of (ins := .ifCond .le 39) (len := 3) (tag := 0) (a := 89) (b := 0) (c := 0) (q := 0) (by decide +kernel)) (if_neg c436) ?_
      refine m_R_sg (by decide) [(.aload_n 0, 1, 0, 0, 0, 0, 0), (.aload_n 0, 1, 0, 0, 0, 0, 0), (.getfield 20, 3, 0, 12, 3, 3, 1495), (.iload_n 3, 1, 0, 3, 0, 0, 0), (.iconst 1, 1, 0, 1, 0, 0, 0), (.isub, 1, 0, 0, 0, 0, 0)] (by decide +kernel) (show m_sgl X _ _ _ _ _ = some (61, [some (.ref 304), some (.int v1), some (.int v2), some (.int v3), w4], [.int (v3 - (1 : Int32)), .ref 307, .ref 304], (SH, m.1, m.2)) from rfl) ?_
      obtain ⟨c437, h⟩ := m_ite_n h
      refine m_R_1 (by decide) (m_opb_of (ins := .iaload) (len := 1) (tag := 0) (a := 0) (b := 0) (c := 0) (q := 0) (by decide +kernel)) (m_s_iald sh_307 (by decide) c437) ?_
      refine m_R_sg (by decide) [(.iload_n 2, 1, 0, 2, 0, 0, 0)] (by decide +kernel) (show m_sgl X _ _ _ _ _ = some (63, [some (.ref 304), some (.int v1), some (.int v2), some (.int v3), w4], [.int v2, .int (m.1 307 (v3 - (1 : Int32)).toNatClampNeg), .ref 304], (SH, m.1, m.2)) from rfl) ?_
      obtain ⟨q1, hc1, h⟩ := Option.bind_eq_some_iff.mp h
      refine m_R_cV (v := (some (.int q1.1))) (h1 := (SH, q1.2)) (rest := []) (lo' := [some (.ref 304), some (.int (m.1 307 (v3 - (1 : Int32)).toNatClampNeg)), some (.int v2), none, none]) (ml := 5) (k0 := 304) (by decide) (Or.inl rfl) (m_opb_of (ins := .invokevirtual 95) (len := 3) (tag := 5) (a := 248) (b := 2) (c := 0) (q := 1810) (by decide +kernel)) (by decide +kernel) rfl (show m_isO 248 304 (SH, _) = true from m_isO_of (by decide +kernel)) (Nat.le_of_ble_eq_true rfl) rfl rfl (ok_m_isBehind X (d + 0) F _ _ _ _ _ hc1) ?_
      rcases m_ite h with ⟨c438, h⟩ | ⟨c438, h⟩
      · refine m_R_1 (by decide) (m_opb_of (ins := .ifCond .eq 23) (len := 3) (tag := 0) (a := 89) (b := 0) (c := 0) (q := 0) (by decide +kernel)) (if_pos c438) ?_
        exact ok_m_collect_89 X d F _ hk7 _ _ _ _ _ _ _ h
      · refine m_R_1 (by decide) (m_opb_of (ins := .ifCond .eq 23) (len := 3) (tag := 0) (a := 89) (b := 0) (c := 0) (q := 0) (by decide +kernel)) (if_neg c438) ?_
        refine m_R_sg (by decide) [(.aload_n 0, 1, 0, 0, 0, 0, 0), (.getfield 20, 3, 0, 12, 3, 3, 1495), (.iload_n 3, 1, 0, 3, 0, 0, 0), (.aload_n 0, 1, 0, 0, 0, 0, 0), (.getfield 20, 3, 0, 12, 3, 3, 1495), (.iload_n 3, 1, 0, 3, 0, 0, 0), (.iconst 1, 1, 0, 1, 0, 0, 0), (.isub, 1, 0, 0, 0, 0, 0)] (by decide +kernel) (show m_sgl X _ _ _ _ _ = some (81, [some (.ref 304), some (.int v1), some (.int v2), some (.int v3), w4], [.int (v3 - (1 : Int32)), .ref 307, .int v3, .ref 307], (SH, q1.2.1, q1.2.2)) from rfl) ?_
        refine m_R_1 (by decide) (m_opb_of (ins := .iaload) (len := 1) (tag := 0) (a := 0) (b := 0) (c := 0) (q := 0) (by decide +kernel)) (m_s_iald sh_307 (by decide) c437) ?_
        obtain ⟨c439, h⟩ := m_ite_n h
        refine m_R_1 (by decide) (m_opb_of (ins := .iastore) (len := 1) (tag := 0) (a := 0) (b := 0) (c := 0) (q := 0) (by decide +kernel)) (m_s_iast sh_307 c439) ?_
        refine m_R_sg (by decide) [(.iinc 3 (-1), 3, 0, 3, 1, 1, 0), (.goto (-37), 3, 0, 49, 0, 0, 0)] (by decide +kernel) (show m_sgl X _ _ _ _ _ = some (49, [some (.ref 304), some (.int v1), some (.int v2), some (.int (v3 + (-1 : Int32))), w4], [], (SH, (m_up q1.2.1 307 v3.toNatClampNeg (q1.2.1 307 (v3 - (1 : Int32)).toNatClampNeg)), q1.2.2)) from rfl) ?_
        exact ih _ _ _ _ _ _ _ h
def f_m_collect_209 (F : Nat)  (k116 : Int32 → Int32 → mM → Option (Int32 × mM)) (v3 : Int32) (s0 : Int32) (s1 : Int32) (m : mM) : Option (Int32 × mM) := k116 (s0 + s1) (v3 + (1 : Int32)) m
theorem ok_m_collect_209 (X : mX) (d F : Nat) (k116 : Int32 → Int32 → mM → Option (Int32 × mM)) (hk116 : ∀ (v2 : Int32) (v3 : Int32) (w1 : Option Value) (w4 : Option Value) (m : mM) (r : Int32) (m' : mM), k116 v2 v3 m = some (r, m') → m_R X (d + 1) 247 116 [some (.ref 304), w1, some (.int v2), some (.int v3), w4] [] (SH, m) (some (.int r), (SH, m'))) : ∀ (v3 : Int32) (s0 : Int32) (s1 : Int32) (w1 : Option Value) (w2 : Option Value) (w4 : Option Value) (m : mM) (r : Int32) (m' : mM), f_m_collect_209 F k116 v3 s0 s1 m = some (r, m') → m_R X (d + 1) 247 209 [some (.ref 304), w1, w2, some (.int v3), w4] [.int s1, .int s0] (SH, m) (some (.int r), (SH, m')) := by
  intro v3 s0 s1 w1 w2 w4 m r m' h
  unfold f_m_collect_209 at h
  refine m_R_sg (by decide) [(.iadd, 1, 0, 0, 0, 0, 0), (.istore_n 2, 1, 0, 2, 0, 0, 0), (.iinc 3 1, 3, 0, 3, 1, 0, 0), (.goto (-98), 3, 0, 116, 0, 0, 0)] (by decide +kernel) (show m_sgl X _ _ _ _ _ = some (116, [some (.ref 304), (m_cl w1), some (.int (s0 + s1)), some (.int (v3 + (1 : Int32))), w4], [], (SH, m.1, m.2)) from rfl) ?_
  exact hk116 _ _ _ _ _ _ _ h
def f_m_collect_193 (F : Nat)  (k116 : Int32 → Int32 → mM → Option (Int32 × mM)) (v2 : Int32) (v3 : Int32) (s1 : Int32) (s2 : Int32) (m : mM) : Option (Int32 × mM) := (if s1 < 0 ∨ 400 ≤ s1.toNatClampNeg then none else (if s2 = 0 ∨ s2 = 1 then (if v3 < 0 ∨ 400 ≤ v3.toNatClampNeg then none else (if ((m_up m.1 308 s1.toNatClampNeg s2) 308 v3.toNatClampNeg) = 0 then f_m_collect_209 F k116 v3 v2 (0 : Int32) ((m_up m.1 308 s1.toNatClampNeg s2), m.2) else f_m_collect_209 F k116 v3 v2 (1 : Int32) ((m_up m.1 308 s1.toNatClampNeg s2), m.2))) else none))
theorem ok_m_collect_193 (X : mX) (d F : Nat) (k116 : Int32 → Int32 → mM → Option (Int32 × mM)) (hk116 : ∀ (v2 : Int32) (v3 : Int32) (w1 : Option Value) (w4 : Option Value) (m : mM) (r : Int32) (m' : mM), k116 v2 v3 m = some (r, m') → m_R X (d + 1) 247 116 [some (.ref 304), w1, some (.int v2), some (.int v3), w4] [] (SH, m) (some (.int r), (SH, m'))) : ∀ (v2 : Int32) (v3 : Int32) (s1 : Int32) (s2 : Int32) (w1 : Option Value) (w4 : Option Value) (m : mM) (r : Int32) (m' : mM), f_m_collect_193 F k116 v2 v3 s1 s2 m = some (r, m') → m_R X (d + 1) 247 193 [some (.ref 304), w1, some (.int v2), some (.int v3), w4] [.int s2, .int s1, .ref 308] (SH, m) (some (.int r), (SH, m')) := by
  intro v2 v3 s1 s2 w1 w4 m r m' h
  unfold f_m_collect_193 at h
  obtain ⟨c440, h⟩ := m_ite_n h
  obtain ⟨c441, h⟩ := m_ite_p h
  refine m_R_1 (by decide) (m_opb_of (ins := .bastore) (len := 1) (tag := 0) (a := 0) (b := 0) (c := 0) (q := 0) (by decide +kernel)) (m_s_bast sh_308 c440 c441) ?_
  refine m_R_sg (by decide) [(.iload_n 2, 1, 0, 2, 0, 0, 0), (.aload_n 0, 1, 0, 0, 0, 0, 0), (.getfield 23, 3, 0, 12, 4, 3, 1496), (.iload_n 3, 1, 0, 3, 0, 0, 0)] (by decide +kernel) (show m_sgl X _ _ _ _ _ = some (200, [some (.ref 304), w1, some (.int v2), some (.int v3), w4], [.int v3, .ref 308, .int v2], (SH, (m_up m.1 308 s1.toNatClampNeg s2), m.2)) from rfl) ?_
  obtain ⟨c442, h⟩ := m_ite_n h
  refine m_R_1 (by decide) (m_opb_of (ins := .baload) (len := 1) (tag := 0) (a := 0) (b := 0) (c := 0) (q := 0) (by decide +kernel)) (m_s_bald sh_308 c442) ?_
  rcases m_ite h with ⟨c443, h⟩ | ⟨c443, h⟩
  · refine m_R_1 (by decide) (m_opb_of (ins := .ifCond .eq 7) (len := 3) (tag := 0) (a := 208) (b := 0) (c := 0) (q := 0) (by decide +kernel)) (if_pos c443) ?_
    refine m_R_sg (by decide) [(.iconst 0, 1, 0, 0, 0, 0, 0)] (by decide +kernel) (show m_sgl X _ _ _ _ _ = some (209, [some (.ref 304), w1, some (.int v2), some (.int v3), w4], [.int (0 : Int32), .int v2], (SH, (m_up m.1 308 s1.toNatClampNeg s2), m.2)) from rfl) ?_
    exact ok_m_collect_209 X d F _ hk116 _ _ _ _ _ _ _ _ _ h
  · refine m_R_1 (by decide) (m_opb_of (ins := .ifCond .eq 7) (len := 3) (tag := 0) (a := 208) (b := 0) (c := 0) (q := 0) (by decide +kernel)) (if_neg c443) ?_
    refine m_R_sg (by decide) [(.iconst 1, 1, 0, 1, 0, 0, 0), (.goto 4, 3, 0, 209, 0, 0, 0)] (by decide +kernel) (show m_sgl X _ _ _ _ _ = some (209, [some (.ref 304), w1, some (.int v2), some (.int v3), w4], [.int (1 : Int32), .int v2], (SH, (m_up m.1 308 s1.toNatClampNeg s2), m.2)) from rfl) ?_
    exact ok_m_collect_209 X d F _ hk116 _ _ _ _ _ _ _ _ _ h
def f_m_collect_188 (F : Nat)  (k116 : Int32 → Int32 → mM → Option (Int32 × mM)) (v2 : Int32) (v3 : Int32) (s1 : Int32) (m : mM) : Option (Int32 × mM) := f_m_collect_193 F k116 v2 v3 s1 (1 : Int32) m
theorem ok_m_collect_188 (X : mX) (d F : Nat) (k116 : Int32 → Int32 → mM → Option (Int32 × mM)) (hk116 : ∀ (v2 : Int32) (v3 : Int32) (w1 : Option Value) (w4 : Option Value) (m : mM) (r : Int32) (m' : mM), k116 v2 v3 m = some (r, m') → m_R X (d + 1) 247 116 [some (.ref 304), w1, some (.int v2), some (.int v3), w4] [] (SH, m) (some (.int r), (SH, m'))) : ∀ (v2 : Int32) (v3 : Int32) (s1 : Int32) (w1 : Option Value) (w4 : Option Value) (m : mM) (r : Int32) (m' : mM), f_m_collect_188 F k116 v2 v3 s1 m = some (r, m') → m_R X (d + 1) 247 188 [some (.ref 304), w1, some (.int v2), some (.int v3), w4] [.int s1, .ref 308] (SH, m) (some (.int r), (SH, m')) := by
  intro v2 v3 s1 w1 w4 m r m' h
  unfold f_m_collect_188 at h
  refine m_R_sg (by decide) [(.iconst 1, 1, 0, 1, 0, 0, 0), (.goto 4, 3, 0, 193, 0, 0, 0)] (by decide +kernel) (show m_sgl X _ _ _ _ _ = some (193, [some (.ref 304), w1, some (.int v2), some (.int v3), w4], [.int (1 : Int32), .int s1, .ref 308], (SH, m.1, m.2)) from rfl) ?_
  exact ok_m_collect_193 X d F _ hk116 _ _ _ _ _ _ _ _ _ h
def f_m_collect_192 (F : Nat)  (k116 : Int32 → Int32 → mM → Option (Int32 × mM)) (v2 : Int32) (v3 : Int32) (s1 : Int32) (m : mM) : Option (Int32 × mM) := f_m_collect_193 F k116 v2 v3 s1 (0 : Int32) m
theorem ok_m_collect_192 (X : mX) (d F : Nat) (k116 : Int32 → Int32 → mM → Option (Int32 × mM)) (hk116 : ∀ (v2 : Int32) (v3 : Int32) (w1 : Option Value) (w4 : Option Value) (m : mM) (r : Int32) (m' : mM), k116 v2 v3 m = some (r, m') → m_R X (d + 1) 247 116 [some (.ref 304), w1, some (.int v2), some (.int v3), w4] [] (SH, m) (some (.int r), (SH, m'))) : ∀ (v2 : Int32) (v3 : Int32) (s1 : Int32) (w1 : Option Value) (w4 : Option Value) (m : mM) (r : Int32) (m' : mM), f_m_collect_192 F k116 v2 v3 s1 m = some (r, m') → m_R X (d + 1) 247 192 [some (.ref 304), w1, some (.int v2), some (.int v3), w4] [.int s1, .ref 308] (SH, m) (some (.int r), (SH, m')) := by
  intro v2 v3 s1 w1 w4 m r m' h
  unfold f_m_collect_192 at h
  refine m_R_sg (by decide) [(.iconst 0, 1, 0, 0, 0, 0, 0)] (by decide +kernel) (show m_sgl X _ _ _ _ _ = some (193, [some (.ref 304), w1, some (.int v2), some (.int v3), w4], [.int (0 : Int32), .int s1, .ref 308], (SH, m.1, m.2)) from rfl) ?_
  exact ok_m_collect_193 X d F _ hk116 _ _ _ _ _ _ _ _ _ h
def f_m_collect_116 (F : Nat)   : Nat → Int32 → Int32 → mM → Option (Int32 × mM)
  | 0, _, _, _ => none
  | n + 1, v2, v3, m => (if (m.1 304 5) ≤ v3 then some (v2, m) else (if v3 < 0 ∨ 400 ≤ v3.toNatClampNeg then none else (if ((1220 : Int32) + ((12 : Int32) * (m.1 307 v3.toNatClampNeg))) < 0 ∨ 9732 ≤ ((1220 : Int32) + ((12 : Int32) * (m.1 307 v3.toNatClampNeg))).toNatClampNeg then none else ((f_m_stateOf F (m.1 305 ((1220 : Int32) + ((12 : Int32) * (m.1 307 v3.toNatClampNeg))).toNatClampNeg) m).bind fun q2 => (if q2.1 = (1 : Int32) then (if v3 = 0 then f_m_collect_188 F (f_m_collect_116 F n) v2 v3 v3 q2.2 else (if (v3 - (1 : Int32)) < 0 ∨ 400 ≤ (v3 - (1 : Int32)).toNatClampNeg then none else (if ((1220 : Int32) + ((12 : Int32) * (q2.2.1 307 (v3 - (1 : Int32)).toNatClampNeg))) < 0 ∨ 9732 ≤ ((1220 : Int32) + ((12 : Int32) * (q2.2.1 307 (v3 - (1 : Int32)).toNatClampNeg))).toNatClampNeg then none else (if (q2.2.1 305 ((1220 : Int32) + ((12 : Int32) * (q2.2.1 307 (v3 - (1 : Int32)).toNatClampNeg))).toNatClampNeg) = (m.1 305 ((1220 : Int32) + ((12 : Int32) * (m.1 307 v3.toNatClampNeg))).toNatClampNeg) then f_m_collect_192 F (f_m_collect_116 F n) v2 v3 v3 q2.2 else f_m_collect_188 F (f_m_collect_116 F n) v2 v3 v3 q2.2)))) else f_m_collect_192 F (f_m_collect_116 F n) v2 v3 v3 q2.2)))))
theorem ok_m_collect_116 (X : mX) (d F : Nat) : ∀ (n : Nat) (v2 : Int32) (v3 : Int32) (w1 : Option Value) (w4 : Option Value) (m : mM) (r : Int32) (m' : mM), f_m_collect_116 F n v2 v3 m = some (r, m') → m_R X (d + 1) 247 116 [some (.ref 304), w1, some (.int v2), some (.int v3), w4] [] (SH, m) (some (.int r), (SH, m')) := by
  intro n
  induction n with
  | zero => intro v2 v3 w1 w4 m r m' h; cases h
  | succ n ih =>
    intro v2 v3 w1 w4 m r m' h
    simp only [f_m_collect_116] at h
    refine m_R_sg (by decide) [(.iload_n 3, 1, 0, 3, 0, 0, 0), (.aload_n 0, 1, 0, 0, 0, 0, 0), (.getfield 92, 3, 0, 12, 5, 0, 1497)] (by decide +kernel) (show m_sgl X _ _ _ _ _ = some (121, [some (.ref 304), w1, some (.int v2), some (.int v3), w4], [.int (m.1 304 5), .int v3], (SH, m.1, m.2)) from rfl) ?_
    rcases m_ite h with ⟨c444, h⟩ | ⟨c444, h⟩
    · refine m_R_1 (by decide) (m_opb_of (ins := .if_icmp .ge 96) (len := 3) (tag := 0) (a := 217) (b := 0) (c := 0) (q := 0) (by decide +kernel)) (if_pos c444) ?_
      refine m_R_sg (by decide) [(.iload_n 2, 1, 0, 2, 0, 0, 0)] (by decide +kernel) (show m_sgl X _ _ _ _ _ = some (218, [some (.ref 304), w1, some (.int v2), some (.int v3), w4], [.int v2], (SH, m.1, m.2)) from rfl) ?_
      obtain ⟨rfl, rfl⟩ := m_some h
      exact m_R_iret (by decide) (m_opb_of (ins := .ireturn) (len := 1) (tag := 1) (a := 0) (b := 0) (c := 0) (q := 0) (by decide +kernel)) (Or.inl rfl)
    · refine m_R_1 (by decide) (m_opb_of (ins := .if_icmp .ge 96) (len := 3) (tag := 0) (a := 217) (b := 0) (c := 0) (q := 0) (by decide +kernel)) (if_neg c444) ?_
      refine m_R_sg (by decide) [(.aload_n 0, 1, 0, 0, 0, 0, 0), (.getfield 13, 3, 0, 12, 1, 3, 1493), (.sipush 1220, 3, 0, 1220, 0, 0, 0), (.bipush 12, 2, 0, 12, 0, 0, 0), (.aload_n 0, 1, 0, 0, 0, 0, 0), (.getfield 20, 3, 0, 12, 3, 3, 1495), (.iload_n 3, 1, 0, 3, 0, 0, 0)] (by decide +kernel) (show m_sgl X _ _ _ _ _ = some (138, [some (.ref 304), w1, some (.int v2), some (.int v3), w4], [.int v3, .ref 307, .int (12 : Int32), .int (1220 : Int32), .ref 305], (SH, m.1, m.2)) from rfl) ?_
      obtain ⟨c445, h⟩ := m_ite_n h
      refine m_R_1 (by decide) (m_opb_of (ins := .iaload) (len := 1) (tag := 0) (a := 0) (b := 0) (c := 0) (q := 0) (by decide +kernel)) (m_s_iald sh_307 (by decide) c445) ?_
      refine m_R_sg (by decide) [(.imul, 1, 0, 0, 0, 0, 0), (.iadd, 1, 0, 0, 0, 0, 0)] (by decide +kernel) (show m_sgl X _ _ _ _ _ = some (141, [some (.ref 304), w1, some (.int v2), some (.int v3), w4], [.int ((1220 : Int32) + ((12 : Int32) * (m.1 307 v3.toNatClampNeg))), .ref 305], (SH, m.1, m.2)) from rfl) ?_
      obtain ⟨c446, h⟩ := m_ite_n h
      refine m_R_1 (by decide) (m_opb_of (ins := .iaload) (len := 1) (tag := 0) (a := 0) (b := 0) (c := 0) (q := 0) (by decide +kernel)) (m_s_iald sh_305 (by decide) c446) ?_
      refine m_R_sg (by decide) [(.istore 4, 2, 0, 4, 0, 0, 0), (.aload_n 0, 1, 0, 0, 0, 0, 0), (.getfield 23, 3, 0, 12, 4, 3, 1496), (.iload_n 3, 1, 0, 3, 0, 0, 0), (.aload_n 0, 1, 0, 0, 0, 0, 0), (.iload 4, 2, 0, 4, 0, 0, 0)] (by decide +kernel) (show m_sgl X _ _ _ _ _ = some (152, [some (.ref 304), w1, some (.int v2), some (.int v3), some (.int (m.1 305 ((1220 : Int32) + ((12 : Int32) * (m.1 307 v3.toNatClampNeg))).toNatClampNeg))], [.int (m.1 305 ((1220 : Int32) + ((12 : Int32) * (m.1 307 v3.toNatClampNeg))).toNatClampNeg), .ref 304, .int v3, .ref 308], (SH, m.1, m.2)) from rfl) ?_
      obtain ⟨q2, hc2, h⟩ := Option.bind_eq_some_iff.mp h
      refine m_R_cV (v := (some (.int q2.1))) (h1 := (SH, q2.2)) (rest := [.int v3, .ref 308]) (lo' := [some (.ref 304), some (.int (m.1 305 ((1220 : Int32) + ((12 : Int32) * (m.1 307 v3.toNatClampNeg))).toNatClampNeg))]) (ml := 2) (k0 := 304) (by decide) (Or.inl rfl) (m_opb_of (ins := .invokevirtual 99) (len := 3) (tag := 5) (a := 224) (b := 1) (c := 0) (q := 1681) (by decide +kernel)) (by decide +kernel) rfl (show m_isO 224 304 (SH, _) = true from m_isO_of (by decide +kernel)) (Nat.le_of_ble_eq_true rfl) rfl rfl (ok_m_stateOf X (d + 0) F _ _ _ _ hc2) ?_
      refine m_R_sg (by decide) [(.iconst 1, 1, 0, 1, 0, 0, 0)] (by decide +kernel) (show m_sgl X _ _ _ _ _ = some (156, [some (.ref 304), w1, some (.int v2), some (.int v3), some (.int (m.1 305 ((1220 : Int32) + ((12 : Int32) * (m.1 307 v3.toNatClampNeg))).toNatClampNeg))], [.int (1 : Int32), .int q2.1, .int v3, .ref 308], (SH, q2.2.1, q2.2.2)) from rfl) ?_
      rcases m_ite h with ⟨c447, h⟩ | ⟨c447, h⟩
      · refine m_R_1 (by decide) (m_opb_of (ins := .if_icmp .ne 36) (len := 3) (tag := 0) (a := 192) (b := 0) (c := 0) (q := 0) (by decide +kernel)) (if_pos c447) ?_
        refine m_R_sg (by decide) [(.iload_n 3, 1, 0, 3, 0, 0, 0)] (by decide +kernel) (show m_sgl X _ _ _ _ _ = some (160, [some (.ref 304), w1, some (.int v2), some (.int v3), some (.int (m.1 305 ((1220 : Int32) + ((12 : Int32) * (m.1 307 v3.toNatClampNeg))).toNatClampNeg))], [.int v3, .int v3, .ref 308], (SH, q2.2.1, q2.2.2)) from rfl) ?_
        rcases m_ite h with ⟨c448, h⟩ | ⟨c448, h⟩
        · refine m_R_1 (by decide) (m_opb_of (ins := .ifCond .eq 28) (len := 3) (tag := 0) (a := 188) (b := 0) (c := 0) (q := 0) (by decide +kernel)) (if_pos c448) ?_
          exact ok_m_collect_188 X d F _ (fun a0 a1 a2 a3 m r m' h => ih a0 a1 a2 a3 m r m' h) _ _ _ _ _ _ _ _ h
        · refine m_R_1 (by decide) (m_opb_of (ins := .ifCond .eq 28) (len := 3) (tag := 0) (a := 188) (b := 0) (c := 0) (q := 0) (by decide +kernel)) (if_neg c448) ?_
          refine m_R_sg (by decide) [(.aload_n 0, 1, 0, 0, 0, 0, 0), (.getfield 13, 3, 0, 12, 1, 3, 1493), (.sipush 1220, 3, 0, 1220, 0, 0, 0), (.bipush 12, 2, 0, 12, 0, 0, 0), (.aload_n 0, 1, 0, 0, 0, 0, 0), (.getfield 20, 3, 0, 12, 3, 3, 1495), (.iload_n 3, 1, 0, 3, 0, 0, 0), (.iconst 1, 1, 0, 1, 0, 0, 0), (.isub, 1, 0, 0, 0, 0, 0)] (by decide +kernel) (show m_sgl X _ _ _ _ _ = some (179, [some (.ref 304), w1, some (.int v2), some (.int v3), some (.int (m.1 305 ((1220 : Int32) + ((12 : Int32) * (m.1 307 v3.toNatClampNeg))).toNatClampNeg))], [.int (v3 - (1 : Int32)), .ref 307, .int (12 : Int32), .int (1220 : Int32), .ref 305, .int v3, .ref 308], (SH, q2.2.1, q2.2.2)) from rfl) ?_
          obtain ⟨c449, h⟩ := m_ite_n h
          refine m_R_1 (by decide) (m_opb_of (ins := .iaload) (len := 1) (tag := 0) (a := 0) (b := 0) (c := 0) (q := 0) (by decide +kernel)) (m_s_iald sh_307 (by decide) c449) ?_
          refine m_R_sg (by decide) [(.imul, 1, 0, 0, 0, 0, 0), (.iadd, 1, 0, 0, 0, 0, 0)] (by decide +kernel) (show m_sgl X _ _ _ _ _ = some (182, [some (.ref 304), w1, some (.int v2), some (.int v3), some (.int (m.1 305 ((1220 : Int32) + ((12 : Int32) * (m.1 307 v3.toNatClampNeg))).toNatClampNeg))], [.int ((1220 : Int32) + ((12 : Int32) * (q2.2.1 307 (v3 - (1 : Int32)).toNatClampNeg))), .ref 305, .int v3, .ref 308], (SH, q2.2.1, q2.2.2)) from rfl) ?_
          obtain ⟨c450, h⟩ := m_ite_n h
          refine m_R_1 (by decide) (m_opb_of (ins := .iaload) (len := 1) (tag := 0) (a := 0) (b := 0) (c := 0) (q := 0) (by decide +kernel)) (m_s_iald sh_305 (by decide) c450) ?_
          refine m_R_sg (by decide) [(.iload 4, 2, 0, 4, 0, 0, 0)] (by decide +kernel) (show m_sgl X _ _ _ _ _ = some (185, [some (.ref 304), w1, some (.int v2), some (.int v3), some (.int (m.1 305 ((1220 : Int32) + ((12 : Int32) * (m.1 307 v3.toNatClampNeg))).toNatClampNeg))], [.int (m.1 305 ((1220 : Int32) + ((12 : Int32) * (m.1 307 v3.toNatClampNeg))).toNatClampNeg), .int (q2.2.1 305 ((1220 : Int32) + ((12 : Int32) * (q2.2.1 307 (v3 - (1 : Int32)).toNatClampNeg))).toNatClampNeg), .int v3, .ref 308], (SH, q2.2.1, q2.2.2)) from rfl) ?_
          rcases m_ite h with ⟨c451, h⟩ | ⟨c451, h⟩
          · refine m_R_1 (by decide) (m_opb_of (ins := .if_icmp .eq 7) (len := 3) (tag := 0) (a := 192) (b := 0) (c := 0) (q := 0) (by decide +kernel)) (if_pos c451) ?_
            exact ok_m_collect_192 X d F _ (fun a0 a1 a2 a3 m r m' h => ih a0 a1 a2 a3 m r m' h) _ _ _ _ _ _ _ _ h
          · refine m_R_1 (by decide) (m_opb_of (ins := .if_icmp .eq 7) (len := 3) (tag := 0) (a := 192) (b := 0) (c := 0) (q := 0) (by decide +kernel)) (if_neg c451) ?_
            exact ok_m_collect_188 X d F _ (fun a0 a1 a2 a3 m r m' h => ih a0 a1 a2 a3 m r m' h) _ _ _ _ _ _ _ _ h
      · refine m_R_1 (by decide) (m_opb_of (ins := .if_icmp .ne 36) (len := 3) (tag := 0) (a := 192) (b := 0) (c := 0) (q := 0) (by decide +kernel)) (if_neg c447) ?_
        exact ok_m_collect_192 X d F _ (fun a0 a1 a2 a3 m r m' h => ih a0 a1 a2 a3 m r m' h) _ _ _ _ _ _ _ _ h
def f_m_collect_112 (F : Nat)    (m : mM) : Option (Int32 × mM) := f_m_collect_116 F F (0 : Int32) (0 : Int32) m
theorem ok_m_collect_112 (X : mX) (d F : Nat) : ∀  (w1 : Option Value) (w2 : Option Value) (w3 : Option Value) (w4 : Option Value) (m : mM) (r : Int32) (m' : mM), f_m_collect_112 F  m = some (r, m') → m_R X (d + 1) 247 112 [some (.ref 304), w1, w2, w3, w4] [] (SH, m) (some (.int r), (SH, m')) := by
  intro w1 w2 w3 w4 m r m' h
  unfold f_m_collect_112 at h
  refine m_R_sg (by decide) [(.iconst 0, 1, 0, 0, 0, 0, 0), (.istore_n 2, 1, 0, 2, 0, 0, 0), (.iconst 0, 1, 0, 0, 0, 0, 0), (.istore_n 3, 1, 0, 3, 0, 0, 0)] (by decide +kernel) (show m_sgl X _ _ _ _ _ = some (116, [some (.ref 304), (m_cl w1), some (.int (0 : Int32)), some (.int (0 : Int32)), w4], [], (SH, m.1, m.2)) from rfl) ?_
  exact ok_m_collect_116 X d F F _ _ _ _ _ _ _ h
def f_m_collect_7 (F : Nat)   : Nat → Int32 → Int32 → mM → Option (Int32 × mM)
  | 0, _, _, _ => none
  | n + 1, v1, v2, m => (if (m.1 305 (6 : Int32).toNatClampNeg) ≤ v2 then f_m_collect_112 F m else (if v1 ≤ 0 then f_m_collect_112 F m else (if (((1220 : Int32) + ((12 : Int32) * v2)) + (2 : Int32)) < 0 ∨ 9732 ≤ (((1220 : Int32) + ((12 : Int32) * v2)) + (2 : Int32)).toNatClampNeg then none else (if (m.1 305 (((1220 : Int32) + ((12 : Int32) * v2)) + (2 : Int32)).toNatClampNeg) = v1 then f_m_collect_49 F (f_m_collect_7 F n) F v1 v2 (m.1 304 5) m else f_m_collect_106 F (f_m_collect_7 F n) v1 v2 m))))
theorem ok_m_collect_7 (X : mX) (d F : Nat) : ∀ (n : Nat) (v1 : Int32) (v2 : Int32) (w3 : Option Value) (w4 : Option Value) (m : mM) (r : Int32) (m' : mM), f_m_collect_7 F n v1 v2 m = some (r, m') → m_R X (d + 1) 247 7 [some (.ref 304), some (.int v1), some (.int v2), w3, w4] [] (SH, m) (some (.int r), (SH, m')) := by
  intro n
  induction n with
  | zero => intro v1 v2 w3 w4 m r m' h; cases h
  | succ n ih =>
    intro v1 v2 w3 w4 m r m' h
    simp only [f_m_collect_7] at h
    refine m_R_sg (by decide) [(.iload_n 2, 1, 0, 2, 0, 0, 0), (.aload_n 0, 1, 0, 0, 0, 0, 0), (.getfield 13, 3, 0, 12, 1, 3, 1493), (.bipush 6, 2, 0, 6, 0, 0, 0)] (by decide +kernel) (show m_sgl X _ _ _ _ _ = some (14, [some (.ref 304), some (.int v1), some (.int v2), w3, w4], [.int (6 : Int32), .ref 305, .int v2], (SH, m.1, m.2)) from rfl) ?_
    refine m_R_1 (by decide) (m_opb_of (ins := .iaload) (len := 1) (tag := 0) (a := 0) (b := 0) (c := 0) (q := 0) (by decide +kernel)) (m_s_iald sh_305 (by decide) (show ¬ ((6 : Int32) < 0 ∨ 9732 ≤ (6 : Int32).toNatClampNeg) by decide)) ?_
    rcases m_ite h with ⟨c452, h⟩ | ⟨c452, h⟩
    · refine m_R_1 (by decide) (m_opb_of (ins := .if_icmp .ge 97) (len := 3) (tag := 0) (a := 112) (b := 0) (c := 0) (q := 0) (by decide +kernel)) (if_pos c452) ?_
      exact ok_m_collect_112 X d F _ _ _ _ _ _ _ h
    · refine m_R_1 (by decide) (m_opb_of (ins := .if_icmp .ge 97) (len := 3) (tag := 0) (a := 112) (b := 0) (c := 0) (q := 0) (by decide +kernel)) (if_neg c452) ?_
      refine m_R_sg (by decide) [(.iload_n 1, 1, 0, 1, 0, 0, 0)] (by decide +kernel) (show m_sgl X _ _ _ _ _ = some (19, [some (.ref 304), some (.int v1), some (.int v2), w3, w4], [.int v1], (SH, m.1, m.2)) from rfl) ?_
      rcases m_ite h with ⟨c453, h⟩ | ⟨c453, h⟩
      · refine m_R_1 (by decide) (m_opb_of (ins := .ifCond .le 93) (len := 3) (tag := 0) (a := 112) (b := 0) (c := 0) (q := 0) (by decide +kernel)) (if_pos c453) ?_
        exact ok_m_collect_112 X d F _ _ _ _ _ _ _ h
      · refine m_R_1 (by decide) (m_opb_of (ins := .ifCond .le 93) (len := 3) (tag := 0) (a := 112) (b := 0) (c := 0) (q := 0) (by decide +kernel)) (if_neg c453) ?_
        refine m_R_sg (by decide) [(.aload_n 0, 1, 0, 0, 0, 0, 0), (.getfield 13, 3, 0, 12, 1, 3, 1493), (.sipush 1220, 3, 0, 1220, 0, 0, 0), (.bipush 12, 2, 0, 12, 0, 0, 0), (.iload_n 2, 1, 0, 2, 0, 0, 0), (.imul, 1, 0, 0, 0, 0, 0), (.iadd, 1, 0, 0, 0, 0, 0), (.iconst 2, 1, 0, 2, 0, 0, 0), (.iadd, 1, 0, 0, 0, 0, 0)] (by decide +kernel) (show m_sgl X _ _ _ _ _ = some (36, [some (.ref 304), some (.int v1), some (.int v2), w3, w4], [.int (((1220 : Int32) + ((12 : Int32) * v2)) + (2 : Int32)), .ref 305], (SH, m.1, m.2)) from rfl) ?_
        obtain ⟨c454, h⟩ := m_ite_n h
        refine m_R_1 (by decide) (m_opb_of (ins := .iaload) (len := 1) (tag := 0) (a := 0) (b := 0) (c := 0) (q := 0) (by decide +kernel)) (m_s_iald sh_305 (by decide) c454) ?_
        refine m_R_sg (by decide) [(.iload_n 1, 1, 0, 1, 0, 0, 0)] (by decide +kernel) (show m_sgl X _ _ _ _ _ = some (38, [some (.ref 304), some (.int v1), some (.int v2), w3, w4], [.int v1, .int (m.1 305 (((1220 : Int32) + ((12 : Int32) * v2)) + (2 : Int32)).toNatClampNeg)], (SH, m.1, m.2)) from rfl) ?_
        rcases m_ite h with ⟨c455, h⟩ | ⟨c455, h⟩
        · refine m_R_1 (by decide) (m_opb_of (ins := .if_icmp .eq 6) (len := 3) (tag := 0) (a := 44) (b := 0) (c := 0) (q := 0) (by decide +kernel)) (if_pos c455) ?_
          refine m_R_sg (by decide) [(.aload_n 0, 1, 0, 0, 0, 0, 0), (.getfield 92, 3, 0, 12, 5, 0, 1497), (.istore_n 3, 1, 0, 3, 0, 0, 0)] (by decide +kernel) (show m_sgl X _ _ _ _ _ = some (49, [some (.ref 304), some (.int v1), some (.int v2), some (.int (m.1 304 5)), w4], [], (SH, m.1, m.2)) from rfl) ?_
          exact ok_m_collect_49 X d F _ (fun a0 a1 a2 a3 m r m' h => ih a0 a1 a2 a3 m r m' h) F _ _ _ _ _ _ _ h
        · refine m_R_1 (by decide) (m_opb_of (ins := .if_icmp .eq 6) (len := 3) (tag := 0) (a := 44) (b := 0) (c := 0) (q := 0) (by decide +kernel)) (if_neg c455) ?_
          refine m_R_sg (by decide) [(.goto 65, 3, 0, 106, 0, 0, 0)] (by decide +kernel) (show m_sgl X _ _ _ _ _ = some (106, [some (.ref 304), some (.int v1), some (.int v2), w3, w4], [], (SH, m.1, m.2)) from rfl) ?_
          exact ok_m_collect_106 X d F _ (fun a0 a1 a2 a3 m r m' h => ih a0 a1 a2 a3 m r m' h) _ _ _ _ _ _ _ h
def f_m_collect (F : Nat)   (v1 : Int32) (m : mM) : Option (Int32 × mM) := f_m_collect_7 F F v1 (0 : Int32) ((m_up m.1 304 5 (0 : Int32)), m.2)
theorem ok_m_collect (X : mX) (d F : Nat) : ∀ (v1 : Int32)  (m : mM) (r : Int32) (m' : mM), f_m_collect F v1 m = some (r, m') → m_R X (d + 1) 247 0 [some (.ref 304), some (.int v1), none, none, none] [] (SH, m) (some (.int r), (SH, m')) := by
  intro v1 m r m' h
  unfold f_m_collect at h
  refine m_R_sg (by decide) [(.aload_n 0, 1, 0, 0, 0, 0, 0), (.iconst 0, 1, 0, 0, 0, 0, 0), (.putfield 92, 3, 0, 12, 5, 0, 1497), (.iconst 0, 1, 0, 0, 0, 0, 0), (.istore_n 2, 1, 0, 2, 0, 0, 0)] (by decide +kernel) (show m_sgl X _ _ _ _ _ = some (7, [some (.ref 304), some (.int v1), some (.int (0 : Int32)), none, none], [], (SH, (m_up m.1 304 5 (0 : Int32)), m.2)) from rfl) ?_
  exact ok_m_collect_7 X d F F _ _ _ _ _ _ _ h
def f_m_can_80 (F : Nat)   (s0 : Int32) (m : mM) : Option (Int32 × mM) := (if s0 = 0 ∨ s0 = 1 then some (s0, m) else none)
theorem ok_m_can_80 (X : mX) (d F : Nat) : ∀ (s0 : Int32) (w0 : Option Value) (w1 : Option Value) (w2 : Option Value) (w3 : Option Value) (w4 : Option Value) (w5 : Option Value) (w6 : Option Value) (m : mM) (r : Int32) (m' : mM), f_m_can_80 F s0 m = some (r, m') → m_R X (d + 71) 221 80 [w0, w1, w2, w3, w4, w5, w6] [.int s0] (SH, m) (some (.int r), (SH, m')) := by
  intro s0 w0 w1 w2 w3 w4 w5 w6 m r m' h
  unfold f_m_can_80 at h
  obtain ⟨c0, h⟩ := m_ite_p h
  obtain ⟨rfl, rfl⟩ := m_some h
  exact m_R_iret (by decide) (m_opb_of (ins := .ireturn) (len := 1) (tag := 1) (a := 1) (b := 0) (c := 0) (q := 0) (by decide +kernel)) (Or.inr c0)
def f_m_can_57 (F : Nat)   (v1 : Int32) (v3 : Int32) (s0 : Int32) (m : mM) : Option (Int32 × mM) := ((f_m_hs F v1 (2 : Int32) m).bind fun q3 => (if q3.1 < (v3 - ((10 : Int32) * s0)) then f_m_can_80 F (0 : Int32) q3.2 else f_m_can_80 F (1 : Int32) q3.2))
theorem ok_m_can_57 (X : mX) (d F : Nat) : ∀ (v1 : Int32) (v3 : Int32) (s0 : Int32) (w2 : Option Value) (w4 : Option Value) (w5 : Option Value) (w6 : Option Value) (m : mM) (r : Int32) (m' : mM), f_m_can_57 F v1 v3 s0 m = some (r, m') → m_R X (d + 71) 221 57 [some (.ref 304), some (.int v1), w2, some (.int v3), w4, w5, w6] [.int s0] (SH, m) (some (.int r), (SH, m')) := by
  intro v1 v3 s0 w2 w4 w5 w6 m r m' h
  unfold f_m_can_57 at h
  refine m_R_sg (by decide) [(.istore 6, 2, 0, 6, 0, 0, 0), (.aload_n 0, 1, 0, 0, 0, 0, 0), (.iload_n 1, 1, 0, 1, 0, 0, 0), (.iconst 2, 1, 0, 2, 0, 0, 0)] (by decide +kernel) (show m_sgl X _ _ _ _ _ = some (62, [some (.ref 304), some (.int v1), w2, some (.int v3), w4, (m_cl w5), some (.int s0)], [.int (2 : Int32), .int v1, .ref 304], (SH, m.1, m.2)) from rfl) ?_
  obtain ⟨q3, hc3, h⟩ := Option.bind_eq_some_iff.mp h
  refine m_R_cV (v := (some (.int q3.1))) (h1 := (SH, q3.2)) (rest := []) (lo' := [some (.ref 304), some (.int v1), some (.int (2 : Int32))]) (ml := 3) (k0 := 304) (by decide) (Or.inl rfl) (m_opb_of (ins := .invokevirtual 65) (len := 3) (tag := 5) (a := 212) (b := 2) (c := 0) (q := 1633) (by decide +kernel)) (by decide +kernel) rfl (show m_isO 212 304 (SH, _) = true from m_isO_of (by decide +kernel)) (Nat.le_of_ble_eq_true rfl) rfl rfl (ok_m_hs X (d + 70) F _ _ _ _ _ hc3) ?_
  refine m_R_sg (by decide) [(.iload_n 3, 1, 0, 3, 0, 0, 0), (.bipush 10, 2, 0, 10, 0, 0, 0), (.iload 6, 2, 0, 6, 0, 0, 0), (.imul, 1, 0, 0, 0, 0, 0), (.isub, 1, 0, 0, 0, 0, 0)] (by decide +kernel) (show m_sgl X _ _ _ _ _ = some (72, [some (.ref 304), some (.int v1), w2, some (.int v3), w4, (m_cl w5), some (.int s0)], [.int (v3 - ((10 : Int32) * s0)), .int q3.1], (SH, q3.2.1, q3.2.2)) from rfl) ?_
  rcases m_ite h with ⟨c456, h⟩ | ⟨c456, h⟩
  · refine m_R_1 (by decide) (m_opb_of (ins := .if_icmp .lt 7) (len := 3) (tag := 0) (a := 79) (b := 0) (c := 0) (q := 0) (by decide +kernel)) (if_pos c456) ?_
    refine m_R_sg (by decide) [(.iconst 0, 1, 0, 0, 0, 0, 0)] (by decide +kernel) (show m_sgl X _ _ _ _ _ = some (80, [some (.ref 304), some (.int v1), w2, some (.int v3), w4, (m_cl w5), some (.int s0)], [.int (0 : Int32)], (SH, q3.2.1, q3.2.2)) from rfl) ?_
    exact ok_m_can_80 X d F _ _ _ _ _ _ _ _ _ _ _ h
  · refine m_R_1 (by decide) (m_opb_of (ins := .if_icmp .lt 7) (len := 3) (tag := 0) (a := 79) (b := 0) (c := 0) (q := 0) (by decide +kernel)) (if_neg c456) ?_
    refine m_R_sg (by decide) [(.iconst 1, 1, 0, 1, 0, 0, 0), (.goto 4, 3, 0, 80, 0, 0, 0)] (by decide +kernel) (show m_sgl X _ _ _ _ _ = some (80, [some (.ref 304), some (.int v1), w2, some (.int v3), w4, (m_cl w5), some (.int s0)], [.int (1 : Int32)], (SH, q3.2.1, q3.2.2)) from rfl) ?_
    exact ok_m_can_80 X d F _ _ _ _ _ _ _ _ _ _ _ h
def f_m_can_37 (F : Nat)   (v1 : Int32) (v3 : Int32) (s0 : Int32) (m : mM) : Option (Int32 × mM) := (if (v3 / (10 : Int32)) ≤ s0 then f_m_can_57 F v1 v3 (v3 / (10 : Int32)) m else f_m_can_57 F v1 v3 s0 m)
theorem ok_m_can_37 (X : mX) (d F : Nat) : ∀ (v1 : Int32) (v3 : Int32) (s0 : Int32) (w2 : Option Value) (w4 : Option Value) (w5 : Option Value) (w6 : Option Value) (m : mM) (r : Int32) (m' : mM), f_m_can_37 F v1 v3 s0 m = some (r, m') → m_R X (d + 71) 221 37 [some (.ref 304), some (.int v1), w2, some (.int v3), w4, w5, w6] [.int s0] (SH, m) (some (.int r), (SH, m')) := by
  intro v1 v3 s0 w2 w4 w5 w6 m r m' h
  unfold f_m_can_37 at h
  refine m_R_sg (by decide) [(.istore 5, 2, 0, 5, 0, 0, 0), (.iload 5, 2, 0, 5, 0, 0, 0), (.iload_n 3, 1, 0, 3, 0, 0, 0), (.bipush 10, 2, 0, 10, 0, 0, 0)] (by decide +kernel) (show m_sgl X _ _ _ _ _ = some (44, [some (.ref 304), some (.int v1), w2, some (.int v3), (m_cl w4), some (.int s0), w6], [.int (10 : Int32), .int v3, .int s0], (SH, m.1, m.2)) from rfl) ?_
  refine m_R_1 (by decide) (m_opb_of (ins := .idiv) (len := 1) (tag := 0) (a := 0) (b := 0) (c := 0) (q := 0) (by decide +kernel)) (m_s_idiv (by decide)) ?_
  rcases m_ite h with ⟨c457, h⟩ | ⟨c457, h⟩
  · refine m_R_1 (by decide) (m_opb_of (ins := .if_icmp .ge 8) (len := 3) (tag := 0) (a := 53) (b := 0) (c := 0) (q := 0) (by decide +kernel)) (if_pos c457) ?_
    refine m_R_sg (by decide) [(.iload_n 3, 1, 0, 3, 0, 0, 0), (.bipush 10, 2, 0, 10, 0, 0, 0)] (by decide +kernel) (show m_sgl X _ _ _ _ _ = some (56, [some (.ref 304), some (.int v1), w2, some (.int v3), (m_cl w4), some (.int s0), w6], [.int (10 : Int32), .int v3], (SH, m.1, m.2)) from rfl) ?_
    refine m_R_1 (by decide) (m_opb_of (ins := .idiv) (len := 1) (tag := 0) (a := 0) (b := 0) (c := 0) (q := 0) (by decide +kernel)) (m_s_idiv (by decide)) ?_
    exact ok_m_can_57 X d F _ _ _ _ _ _ _ _ _ _ h
  · refine m_R_1 (by decide) (m_opb_of (ins := .if_icmp .ge 8) (len := 3) (tag := 0) (a := 53) (b := 0) (c := 0) (q := 0) (by decide +kernel)) (if_neg c457) ?_
    refine m_R_sg (by decide) [(.iload 5, 2, 0, 5, 0, 0, 0), (.goto 7, 3, 0, 57, 0, 0, 0)] (by decide +kernel) (show m_sgl X _ _ _ _ _ = some (57, [some (.ref 304), some (.int v1), w2, some (.int v3), (m_cl w4), some (.int s0), w6], [.int s0], (SH, m.1, m.2)) from rfl) ?_
    exact ok_m_can_57 X d F _ _ _ _ _ _ _ _ _ _ h
def f_m_can (F : Nat)   (v1 : Int32) (v2 : Int32) (v3 : Int32) (m : mM) : Option (Int32 × mM) := (if v1 = v2 then some ((1 : Int32), m) else (if v1 = 0 then ((f_m_bankCan F v3 m).bind fun q1 => (if q1.1 = 0 ∨ q1.1 = 1 then some (q1.1, q1.2) else none)) else ((f_m_collect F v1 m).bind fun q2 => (if v2 = 0 then f_m_can_37 F v1 v3 q2.1 q2.2 else f_m_can_37 F v1 v3 (q2.2.1 304 5) q2.2))))
theorem ok_m_can (X : mX) (d F : Nat) : ∀ (v1 : Int32) (v2 : Int32) (v3 : Int32)  (m : mM) (r : Int32) (m' : mM), f_m_can F v1 v2 v3 m = some (r, m') → m_R X (d + 71) 221 0 [some (.ref 304), some (.int v1), some (.int v2), some (.int v3), none, none, none] [] (SH, m) (some (.int r), (SH, m')) := by
  intro v1 v2 v3 m r m' h
  unfold f_m_can at h
  refine m_R_sg (by decide) [(.iload_n 1, 1, 0, 1, 0, 0, 0), (.iload_n 2, 1, 0, 2, 0, 0, 0)] (by decide +kernel) (show m_sgl X _ _ _ _ _ = some (2, [some (.ref 304), some (.int v1), some (.int v2), some (.int v3), none, none, none], [.int v2, .int v1], (SH, m.1, m.2)) from rfl) ?_
  rcases m_ite h with ⟨c458, h⟩ | ⟨c458, h⟩
  · refine m_R_1 (by decide) (m_opb_of (ins := .if_icmp .ne 5) (len := 3) (tag := 0) (a := 7) (b := 0) (c := 0) (q := 0) (by decide +kernel)) (if_pos c458) ?_
    refine m_R_sg (by decide) [(.iconst 1, 1, 0, 1, 0, 0, 0)] (by decide +kernel) (show m_sgl X _ _ _ _ _ = some (6, [some (.ref 304), some (.int v1), some (.int v2), some (.int v3), none, none, none], [.int (1 : Int32)], (SH, m.1, m.2)) from rfl) ?_
    obtain ⟨rfl, rfl⟩ := m_some h
    exact m_R_iret (by decide) (m_opb_of (ins := .ireturn) (len := 1) (tag := 1) (a := 1) (b := 0) (c := 0) (q := 0) (by decide +kernel)) (Or.inr (Or.inr rfl))
  · refine m_R_1 (by decide) (m_opb_of (ins := .if_icmp .ne 5) (len := 3) (tag := 0) (a := 7) (b := 0) (c := 0) (q := 0) (by decide +kernel)) (if_neg c458) ?_
    refine m_R_sg (by decide) [(.iload_n 1, 1, 0, 1, 0, 0, 0)] (by decide +kernel) (show m_sgl X _ _ _ _ _ = some (8, [some (.ref 304), some (.int v1), some (.int v2), some (.int v3), none, none, none], [.int v1], (SH, m.1, m.2)) from rfl) ?_
    rcases m_ite h with ⟨c459, h⟩ | ⟨c459, h⟩
    · refine m_R_1 (by decide) (m_opb_of (ins := .ifCond .ne 9) (len := 3) (tag := 0) (a := 17) (b := 0) (c := 0) (q := 0) (by decide +kernel)) (if_pos c459) ?_
      refine m_R_sg (by decide) [(.aload_n 0, 1, 0, 0, 0, 0, 0), (.iload_n 3, 1, 0, 3, 0, 0, 0)] (by decide +kernel) (show m_sgl X _ _ _ _ _ = some (13, [some (.ref 304), some (.int v1), some (.int v2), some (.int v3), none, none, none], [.int v3, .ref 304], (SH, m.1, m.2)) from rfl) ?_
      obtain ⟨q1, hc1, h⟩ := Option.bind_eq_some_iff.mp h
      refine m_R_cV (v := (some (.int q1.1))) (h1 := (SH, q1.2)) (rest := []) (lo' := [some (.ref 304), some (.int v3), none, none]) (ml := 4) (k0 := 304) (by decide) (Or.inl rfl) (m_opb_of (ins := .invokevirtual 128) (len := 3) (tag := 5) (a := 222) (b := 1) (c := 0) (q := 1673) (by decide +kernel)) (by decide +kernel) rfl (show m_isO 222 304 (SH, _) = true from m_isO_of (by decide +kernel)) (Nat.le_of_ble_eq_true rfl) rfl rfl (ok_m_bankCan X (d + 0) F _ _ _ _ hc1) ?_
      obtain ⟨c0, h⟩ := m_ite_p h
      obtain ⟨rfl, rfl⟩ := m_some h
      exact m_R_iret (by decide) (m_opb_of (ins := .ireturn) (len := 1) (tag := 1) (a := 1) (b := 0) (c := 0) (q := 0) (by decide +kernel)) (Or.inr c0)
    · refine m_R_1 (by decide) (m_opb_of (ins := .ifCond .ne 9) (len := 3) (tag := 0) (a := 17) (b := 0) (c := 0) (q := 0) (by decide +kernel)) (if_neg c459) ?_
      refine m_R_sg (by decide) [(.aload_n 0, 1, 0, 0, 0, 0, 0), (.iload_n 1, 1, 0, 1, 0, 0, 0)] (by decide +kernel) (show m_sgl X _ _ _ _ _ = some (19, [some (.ref 304), some (.int v1), some (.int v2), some (.int v3), none, none, none], [.int v1, .ref 304], (SH, m.1, m.2)) from rfl) ?_
      obtain ⟨q2, hc2, h⟩ := Option.bind_eq_some_iff.mp h
      refine m_R_cV (v := (some (.int q2.1))) (h1 := (SH, q2.2)) (rest := []) (lo' := [some (.ref 304), some (.int v1), none, none, none]) (ml := 5) (k0 := 304) (by decide) (Or.inl rfl) (m_opb_of (ins := .invokevirtual 106) (len := 3) (tag := 5) (a := 247) (b := 1) (c := 0) (q := 1806) (by decide +kernel)) (by decide +kernel) rfl (show m_isO 247 304 (SH, _) = true from m_isO_of (by decide +kernel)) (Nat.le_of_ble_eq_true rfl) rfl rfl (ok_m_collect X (d + 69) F _ _ _ _ hc2) ?_
      refine m_R_sg (by decide) [(.istore 4, 2, 0, 4, 0, 0, 0), (.iload_n 2, 1, 0, 2, 0, 0, 0)] (by decide +kernel) (show m_sgl X _ _ _ _ _ = some (25, [some (.ref 304), some (.int v1), some (.int v2), some (.int v3), some (.int q2.1), none, none], [.int v2], (SH, q2.2.1, q2.2.2)) from rfl) ?_
      rcases m_ite h with ⟨c460, h⟩ | ⟨c460, h⟩
      · refine m_R_1 (by decide) (m_opb_of (ins := .ifCond .ne 8) (len := 3) (tag := 0) (a := 33) (b := 0) (c := 0) (q := 0) (by decide +kernel)) (if_pos c460) ?_
        refine m_R_sg (by decide) [(.iload 4, 2, 0, 4, 0, 0, 0), (.goto 7, 3, 0, 37, 0, 0, 0)] (by decide +kernel) (show m_sgl X _ _ _ _ _ = some (37, [some (.ref 304), some (.int v1), some (.int v2), some (.int v3), some (.int q2.1), none, none], [.int q2.1], (SH, q2.2.1, q2.2.2)) from rfl) ?_
        exact ok_m_can_37 X d F _ _ _ _ _ _ _ _ _ _ h
      · refine m_R_1 (by decide) (m_opb_of (ins := .ifCond .ne 8) (len := 3) (tag := 0) (a := 33) (b := 0) (c := 0) (q := 0) (by decide +kernel)) (if_neg c460) ?_
        refine m_R_sg (by decide) [(.aload_n 0, 1, 0, 0, 0, 0, 0), (.getfield 92, 3, 0, 12, 5, 0, 1497)] (by decide +kernel) (show m_sgl X _ _ _ _ _ = some (37, [some (.ref 304), some (.int v1), some (.int v2), some (.int v3), some (.int q2.1), none, none], [.int (q2.2.1 304 5)], (SH, q2.2.1, q2.2.2)) from rfl) ?_
        exact ok_m_can_37 X d F _ _ _ _ _ _ _ _ _ _ h
def f_m_trails_41 (F : Nat)   (v3 : Int32) (m : mM) : Option (Unit × mM) := (if (v3 + (3 : Int32)) < 0 ∨ 9732 ≤ (v3 + (3 : Int32)).toNatClampNeg then none else some ((), ((m_up m.1 305 (v3 + (3 : Int32)).toNatClampNeg ((m.1 305 (v3 + (3 : Int32)).toNatClampNeg) + (1 : Int32))), m.2)))
theorem ok_m_trails_41 (X : mX) (d F : Nat) : ∀ (v3 : Int32) (w1 : Option Value) (w2 : Option Value) (m : mM) (r : Unit) (m' : mM), f_m_trails_41 F v3 m = some (r, m') → m_R X (d + 0) 251 41 [some (.ref 304), w1, w2, some (.int v3)] [] (SH, m) (none, (SH, m')) := by
  intro v3 w1 w2 m r m' h
  unfold f_m_trails_41 at h
  refine m_R_sg (by decide) [(.aload_n 0, 1, 0, 0, 0, 0, 0), (.getfield 13, 3, 0, 12, 1, 3, 1493), (.iload_n 3, 1, 0, 3, 0, 0, 0), (.iconst 3, 1, 0, 3, 0, 0, 0), (.iadd, 1, 0, 0, 0, 0, 0), (.dup2, 1, 0, 0, 0, 0, 0)] (by decide +kernel) (show m_sgl X _ _ _ _ _ = some (49, [some (.ref 304), w1, w2, some (.int v3)], [.int (v3 + (3 : Int32)), .ref 305, .int (v3 + (3 : Int32)), .ref 305], (SH, m.1, m.2)) from rfl) ?_
  obtain ⟨c461, h⟩ := m_ite_n h
  refine m_R_1 (by decide) (m_opb_of (ins := .iaload) (len := 1) (tag := 0) (a := 0) (b := 0) (c := 0) (q := 0) (by decide +kernel)) (m_s_iald sh_305 (by decide) c461) ?_
  refine m_R_sg (by decide) [(.iconst 1, 1, 0, 1, 0, 0, 0), (.iadd, 1, 0, 0, 0, 0, 0)] (by decide +kernel) (show m_sgl X _ _ _ _ _ = some (52, [some (.ref 304), w1, w2, some (.int v3)], [.int ((m.1 305 (v3 + (3 : Int32)).toNatClampNeg) + (1 : Int32)), .int (v3 + (3 : Int32)), .ref 305], (SH, m.1, m.2)) from rfl) ?_
  refine m_R_1 (by decide) (m_opb_of (ins := .iastore) (len := 1) (tag := 0) (a := 0) (b := 0) (c := 0) (q := 0) (by decide +kernel)) (m_s_iast sh_305 c461) ?_
  obtain ⟨rfl, rfl⟩ := m_some h
  exact m_R_vret (by decide) (m_opb_of (ins := .return_) (len := 1) (tag := 3) (a := 0) (b := 0) (c := 0) (q := 0) (by decide +kernel))
def f_m_trails (F : Nat)   (v1 : Int32) (v2 : Int32) (m : mM) : Option (Unit × mM) := (if (((1220 : Int32) + ((12 : Int32) * v1)) + (3 : Int32)) < 0 ∨ 9732 ≤ (((1220 : Int32) + ((12 : Int32) * v1)) + (3 : Int32)).toNatClampNeg then none else (if (m.1 305 (((1220 : Int32) + ((12 : Int32) * v1)) + (3 : Int32)).toNatClampNeg) = (8 : Int32) then some ((), m) else (if ((((1220 : Int32) + ((12 : Int32) * v1)) + (4 : Int32)) + (m.1 305 (((1220 : Int32) + ((12 : Int32) * v1)) + (3 : Int32)).toNatClampNeg)) < 0 ∨ 9732 ≤ ((((1220 : Int32) + ((12 : Int32) * v1)) + (4 : Int32)) + (m.1 305 (((1220 : Int32) + ((12 : Int32) * v1)) + (3 : Int32)).toNatClampNeg)).toNatClampNeg then none else f_m_trails_41 F ((1220 : Int32) + ((12 : Int32) * v1)) ((m_up m.1 305 ((((1220 : Int32) + ((12 : Int32) * v1)) + (4 : Int32)) + (m.1 305 (((1220 : Int32) + ((12 : Int32) * v1)) + (3 : Int32)).toNatClampNeg)).toNatClampNeg v2), m.2))))
theorem ok_m_trails (X : mX) (d F : Nat) : ∀ (v1 : Int32) (v2 : Int32)  (m : mM) (r : Unit) (m' : mM), f_m_trails F v1 v2 m = some (r, m') → m_R X (d + 0) 251 0 [some (.ref 304), some (.int v1), some (.int v2), none] [] (SH, m) (none, (SH, m')) := by
  intro v1 v2 m r m' h
  unfold f_m_trails at h
  refine m_R_sg (by decide) [(.sipush 1220, 3, 0, 1220, 0, 0, 0), (.bipush 12, 2, 0, 12, 0, 0, 0), (.iload_n 1, 1, 0, 1, 0, 0, 0), (.imul, 1, 0, 0, 0, 0, 0), (.iadd, 1, 0, 0, 0, 0, 0), (.istore_n 3, 1, 0, 3, 0, 0, 0), (.aload_n 0, 1, 0, 0, 0, 0, 0), (.getfield 13, 3, 0, 12, 1, 3, 1493), (.iload_n 3, 1, 0, 3, 0, 0, 0), (.iconst 3, 1, 0, 3, 0, 0, 0), (.iadd, 1, 0, 0, 0, 0, 0)] (by decide +kernel) (show m_sgl X _ _ _ _ _ = some (16, [some (.ref 304), some (.int v1), some (.int v2), some (.int ((1220 : Int32) + ((12 : Int32) * v1)))], [.int (((1220 : Int32) + ((12 : Int32) * v1)) + (3 : Int32)), .ref 305], (SH, m.1, m.2)) from rfl) ?_
  obtain ⟨c462, h⟩ := m_ite_n h
  refine m_R_1 (by decide) (m_opb_of (ins := .iaload) (len := 1) (tag := 0) (a := 0) (b := 0) (c := 0) (q := 0) (by decide +kernel)) (m_s_iald sh_305 (by decide) c462) ?_
  refine m_R_sg (by decide) [(.bipush 8, 2, 0, 8, 0, 0, 0)] (by decide +kernel) (show m_sgl X _ _ _ _ _ = some (19, [some (.ref 304), some (.int v1), some (.int v2), some (.int ((1220 : Int32) + ((12 : Int32) * v1)))], [.int (8 : Int32), .int (m.1 305 (((1220 : Int32) + ((12 : Int32) * v1)) + (3 : Int32)).toNatClampNeg)], (SH, m.1, m.2)) from rfl) ?_
  rcases m_ite h with ⟨c463, h⟩ | ⟨c463, h⟩
  · refine m_R_1 (by decide) (m_opb_of (ins := .if_icmp .ne 4) (len := 3) (tag := 0) (a := 23) (b := 0) (c := 0) (q := 0) (by decide +kernel)) (if_pos c463) ?_
    obtain ⟨rfl, rfl⟩ := m_some h
    exact m_R_vret (by decide) (m_opb_of (ins := .return_) (len := 1) (tag := 3) (a := 0) (b := 0) (c := 0) (q := 0) (by decide +kernel))
  · refine m_R_1 (by decide) (m_opb_of (ins := .if_icmp .ne 4) (len := 3) (tag := 0) (a := 23) (b := 0) (c := 0) (q := 0) (by decide +kernel)) (if_neg c463) ?_
    refine m_R_sg (by decide) [(.aload_n 0, 1, 0, 0, 0, 0, 0), (.getfield 13, 3, 0, 12, 1, 3, 1493), (.iload_n 3, 1, 0, 3, 0, 0, 0), (.iconst 4, 1, 0, 4, 0, 0, 0), (.iadd, 1, 0, 0, 0, 0, 0), (.aload_n 0, 1, 0, 0, 0, 0, 0), (.getfield 13, 3, 0, 12, 1, 3, 1493), (.iload_n 3, 1, 0, 3, 0, 0, 0), (.iconst 3, 1, 0, 3, 0, 0, 0), (.iadd, 1, 0, 0, 0, 0, 0)] (by decide +kernel) (show m_sgl X _ _ _ _ _ = some (37, [some (.ref 304), some (.int v1), some (.int v2), some (.int ((1220 : Int32) + ((12 : Int32) * v1)))], [.int (((1220 : Int32) + ((12 : Int32) * v1)) + (3 : Int32)), .ref 305, .int (((1220 : Int32) + ((12 : Int32) * v1)) + (4 : Int32)), .ref 305], (SH, m.1, m.2)) from rfl) ?_
    refine m_R_1 (by decide) (m_opb_of (ins := .iaload) (len := 1) (tag := 0) (a := 0) (b := 0) (c := 0) (q := 0) (by decide +kernel)) (m_s_iald sh_305 (by decide) c462) ?_
    refine m_R_sg (by decide) [(.iadd, 1, 0, 0, 0, 0, 0), (.iload_n 2, 1, 0, 2, 0, 0, 0)] (by decide +kernel) (show m_sgl X _ _ _ _ _ = some (40, [some (.ref 304), some (.int v1), some (.int v2), some (.int ((1220 : Int32) + ((12 : Int32) * v1)))], [.int v2, .int ((((1220 : Int32) + ((12 : Int32) * v1)) + (4 : Int32)) + (m.1 305 (((1220 : Int32) + ((12 : Int32) * v1)) + (3 : Int32)).toNatClampNeg)), .ref 305], (SH, m.1, m.2)) from rfl) ?_
    obtain ⟨c464, h⟩ := m_ite_n h
    refine m_R_1 (by decide) (m_opb_of (ins := .iastore) (len := 1) (tag := 0) (a := 0) (b := 0) (c := 0) (q := 0) (by decide +kernel)) (m_s_iast sh_305 c464) ?_
    exact ok_m_trails_41 X d F _ _ _ _ _ _ h
def f_m_copied_98 (F : Nat)   (v2 : Int32) (v3 : Int32) (m : mM) : Option (Int32 × mM) := ((f_m_trails F v3 v2 m).bind fun q1 => some (v3, q1.2))
theorem ok_m_copied_98 (X : mX) (d F : Nat) : ∀ (v2 : Int32) (v3 : Int32) (w1 : Option Value) (w4 : Option Value) (m : mM) (r : Int32) (m' : mM), f_m_copied_98 F v2 v3 m = some (r, m') → m_R X (d + 1) 252 98 [some (.ref 304), w1, some (.int v2), some (.int v3), w4] [] (SH, m) (some (.int r), (SH, m')) := by
  intro v2 v3 w1 w4 m r m' h
  unfold f_m_copied_98 at h
  refine m_R_sg (by decide) [(.aload_n 0, 1, 0, 0, 0, 0, 0), (.iload_n 3, 1, 0, 3, 0, 0, 0), (.iload_n 2, 1, 0, 2, 0, 0, 0)] (by decide +kernel) (show m_sgl X _ _ _ _ _ = some (101, [some (.ref 304), w1, some (.int v2), some (.int v3), w4], [.int v2, .int v3, .ref 304], (SH, m.1, m.2)) from rfl) ?_
  obtain ⟨q1, hc1, h⟩ := Option.bind_eq_some_iff.mp h
  refine m_R_cV (v := none) (h1 := (SH, q1.2)) (rest := []) (lo' := [some (.ref 304), some (.int v3), some (.int v2), none]) (ml := 4) (k0 := 304) (by decide) (Or.inl rfl) (m_opb_of (ins := .invokevirtual 102) (len := 3) (tag := 5) (a := 251) (b := 2) (c := 0) (q := 1822) (by decide +kernel)) (by decide +kernel) rfl (show m_isO 251 304 (SH, _) = true from m_isO_of (by decide +kernel)) (Nat.le_of_ble_eq_true rfl) rfl rfl (ok_m_trails X (d + 0) F _ _ _ _ _ hc1) ?_
  refine m_R_sg (by decide) [(.iload_n 3, 1, 0, 3, 0, 0, 0)] (by decide +kernel) (show m_sgl X _ _ _ _ _ = some (105, [some (.ref 304), w1, some (.int v2), some (.int v3), w4], [.int v3], (SH, q1.2.1, q1.2.2)) from rfl) ?_
  obtain ⟨rfl, rfl⟩ := m_some h
  exact m_R_iret (by decide) (m_opb_of (ins := .ireturn) (len := 1) (tag := 1) (a := 0) (b := 0) (c := 0) (q := 0) (by decide +kernel)) (Or.inl rfl)
def f_m_copied_69 (F : Nat)   (v1 : Int32) (v2 : Int32) (v3 : Int32) (m : mM) : Option (Int32 × mM) := (if (((320 : Int32) + ((3 : Int32) * v1)) + (2 : Int32)) < 0 ∨ 9732 ≤ (((320 : Int32) + ((3 : Int32) * v1)) + (2 : Int32)).toNatClampNeg then none else f_m_copied_98 F v2 v3 ((m_up (m_up m.1 305 (((320 : Int32) + ((3 : Int32) * v1)) + (2 : Int32)).toNatClampNeg ((m.1 305 (((320 : Int32) + ((3 : Int32) * v1)) + (2 : Int32)).toNatClampNeg) + (1 : Int32))) 305 (6 : Int32).toNatClampNeg (((m_up m.1 305 (((320 : Int32) + ((3 : Int32) * v1)) + (2 : Int32)).toNatClampNeg ((m.1 305 (((320 : Int32) + ((3 : Int32) * v1)) + (2 : Int32)).toNatClampNeg) + (1 : Int32))) 305 (6 : Int32).toNatClampNeg) + (1 : Int32))), m.2))
theorem ok_m_copied_69 (X : mX) (d F : Nat) : ∀ (v1 : Int32) (v2 : Int32) (v3 : Int32) (w4 : Option Value) (m : mM) (r : Int32) (m' : mM), f_m_copied_69 F v1 v2 v3 m = some (r, m') → m_R X (d + 1) 252 69 [some (.ref 304), some (.int v1), some (.int v2), some (.int v3), w4] [] (SH, m) (some (.int r), (SH, m')) := by
  intro v1 v2 v3 w4 m r m' h
  unfold f_m_copied_69 at h
  refine m_R_sg (by decide) [(.aload_n 0, 1, 0, 0, 0, 0, 0), (.getfield 13, 3, 0, 12, 1, 3, 1493), (.sipush 320, 3, 0, 320, 0, 0, 0), (.iconst 3, 1, 0, 3, 0, 0, 0), (.iload_n 1, 1, 0, 1, 0, 0, 0), (.imul, 1, 0, 0, 0, 0, 0), (.iadd, 1, 0, 0, 0, 0, 0), (.iconst 2, 1, 0, 2, 0, 0, 0), (.iadd, 1, 0, 0, 0, 0, 0), (.dup2, 1, 0, 0, 0, 0, 0)] (by decide +kernel) (show m_sgl X _ _ _ _ _ = some (83, [some (.ref 304), some (.int v1), some (.int v2), some (.int v3), w4], [.int (((320 : Int32) + ((3 : Int32) * v1)) + (2 : Int32)), .ref 305, .int (((320 : Int32) + ((3 : Int32) * v1)) + (2 : Int32)), .ref 305], (SH, m.1, m.2)) from rfl) ?_
  obtain ⟨c465, h⟩ := m_ite_n h
  refine m_R_1 (by decide) (m_opb_of (ins := .iaload) (len := 1) (tag := 0) (a := 0) (b := 0) (c := 0) (q := 0) (by decide +kernel)) (m_s_iald sh_305 (by decide) c465) ?_
  refine m_R_sg (by decide) [(.iconst 1, 1, 0, 1, 0, 0, 0), (.iadd, 1, 0, 0, 0, 0, 0)] (by decide +kernel) (show m_sgl X _ _ _ _ _ = some (86, [some (.ref 304), some (.int v1), some (.int v2), some (.int v3), w4], [.int ((m.1 305 (((320 : Int32) + ((3 : Int32) * v1)) + (2 : Int32)).toNatClampNeg) + (1 : Int32)), .int (((320 : Int32) + ((3 : Int32) * v1)) + (2 : Int32)), .ref 305], (SH, m.1, m.2)) from rfl) ?_
  refine m_R_1 (by decide) (m_opb_of (ins := .iastore) (len := 1) (tag := 0) (a := 0) (b := 0) (c := 0) (q := 0) (by decide +kernel)) (m_s_iast sh_305 c465) ?_
  refine m_R_sg (by decide) [(.aload_n 0, 1, 0, 0, 0, 0, 0), (.getfield 13, 3, 0, 12, 1, 3, 1493), (.bipush 6, 2, 0, 6, 0, 0, 0), (.dup2, 1, 0, 0, 0, 0, 0)] (by decide +kernel) (show m_sgl X _ _ _ _ _ = some (94, [some (.ref 304), some (.int v1), some (.int v2), some (.int v3), w4], [.int (6 : Int32), .ref 305, .int (6 : Int32), .ref 305], (SH, (m_up m.1 305 (((320 : Int32) + ((3 : Int32) * v1)) + (2 : Int32)).toNatClampNeg ((m.1 305 (((320 : Int32) + ((3 : Int32) * v1)) + (2 : Int32)).toNatClampNeg) + (1 : Int32))), m.2)) from rfl) ?_
  refine m_R_1 (by decide) (m_opb_of (ins := .iaload) (len := 1) (tag := 0) (a := 0) (b := 0) (c := 0) (q := 0) (by decide +kernel)) (m_s_iald sh_305 (by decide) (show ¬ ((6 : Int32) < 0 ∨ 9732 ≤ (6 : Int32).toNatClampNeg) by decide)) ?_
  refine m_R_sg (by decide) [(.iconst 1, 1, 0, 1, 0, 0, 0), (.iadd, 1, 0, 0, 0, 0, 0)] (by decide +kernel) (show m_sgl X _ _ _ _ _ = some (97, [some (.ref 304), some (.int v1), some (.int v2), some (.int v3), w4], [.int (((m_up m.1 305 (((320 : Int32) + ((3 : Int32) * v1)) + (2 : Int32)).toNatClampNeg ((m.1 305 (((320 : Int32) + ((3 : Int32) * v1)) + (2 : Int32)).toNatClampNeg) + (1 : Int32))) 305 (6 : Int32).toNatClampNeg) + (1 : Int32)), .int (6 : Int32), .ref 305], (SH, (m_up m.1 305 (((320 : Int32) + ((3 : Int32) * v1)) + (2 : Int32)).toNatClampNeg ((m.1 305 (((320 : Int32) + ((3 : Int32) * v1)) + (2 : Int32)).toNatClampNeg) + (1 : Int32))), m.2)) from rfl) ?_
  refine m_R_1 (by decide) (m_opb_of (ins := .iastore) (len := 1) (tag := 0) (a := 0) (b := 0) (c := 0) (q := 0) (by decide +kernel)) (m_s_iast sh_305 (show ¬ ((6 : Int32) < 0 ∨ 9732 ≤ (6 : Int32).toNatClampNeg) by decide)) ?_
  exact ok_m_copied_98 X d F _ _ _ _ _ _ _ h
def f_m_copied_26 (F : Nat)   (v1 : Int32) (v2 : Int32) (v3 : Int32) (v4 : Int32) (m : mM) : Option (Int32 × mM) := (if (((320 : Int32) + ((3 : Int32) * v1)) + (2 : Int32)) < 0 ∨ 9732 ≤ (((320 : Int32) + ((3 : Int32) * v1)) + (2 : Int32)).toNatClampNeg then none else (if (v4 + (1 : Int32)) < 0 ∨ 9732 ≤ (v4 + (1 : Int32)).toNatClampNeg then none else (if (v4 + (2 : Int32)) < 0 ∨ 9732 ≤ (v4 + (2 : Int32)).toNatClampNeg then none else (if (v4 + (3 : Int32)) < 0 ∨ 9732 ≤ (v4 + (3 : Int32)).toNatClampNeg then none else f_m_copied_69 F v1 v2 v3 ((m_up (m_up (m_up m.1 305 (v4 + (1 : Int32)).toNatClampNeg (m.1 305 (((320 : Int32) + ((3 : Int32) * v1)) + (2 : Int32)).toNatClampNeg)) 305 (v4 + (2 : Int32)).toNatClampNeg v2) 305 (v4 + (3 : Int32)).toNatClampNeg (0 : Int32)), m.2)))))
theorem ok_m_copied_26 (X : mX) (d F : Nat) : ∀ (v1 : Int32) (v2 : Int32) (v3 : Int32) (v4 : Int32)  (m : mM) (r : Int32) (m' : mM), f_m_copied_26 F v1 v2 v3 v4 m = some (r, m') → m_R X (d + 1) 252 26 [some (.ref 304), some (.int v1), some (.int v2), some (.int v3), some (.int v4)] [] (SH, m) (some (.int r), (SH, m')) := by
  intro v1 v2 v3 v4 m r m' h
  unfold f_m_copied_26 at h
  refine m_R_sg (by decide) [(.aload_n 0, 1, 0, 0, 0, 0, 0), (.getfield 13, 3, 0, 12, 1, 3, 1493), (.iload 4, 2, 0, 4, 0, 0, 0), (.iconst 1, 1, 0, 1, 0, 0, 0), (.iadd, 1, 0, 0, 0, 0, 0), (.aload_n 0, 1, 0, 0, 0, 0, 0), (.getfield 13, 3, 0, 12, 1, 3, 1493), (.sipush 320, 3, 0, 320, 0, 0, 0), (.iconst 3, 1, 0, 3, 0, 0, 0), (.iload_n 1, 1, 0, 1, 0, 0, 0), (.imul, 1, 0, 0, 0, 0, 0), (.iadd, 1, 0, 0, 0, 0, 0), (.iconst 2, 1, 0, 2, 0, 0, 0), (.iadd, 1, 0, 0, 0, 0, 0)] (by decide +kernel) (show m_sgl X _ _ _ _ _ = some (47, [some (.ref 304), some (.int v1), some (.int v2), some (.int v3), some (.int v4)], [.int (((320 : Int32) + ((3 : Int32) * v1)) + (2 : Int32)), .ref 305, .int (v4 + (1 : Int32)), .ref 305], (SH, m.1, m.2)) from rfl) ?_
  obtain ⟨c466, h⟩ := m_ite_n h
  refine m_R_1 (by decide) (m_opb_of (ins := .iaload) (len := 1) (tag := 0) (a := 0) (b := 0) (c := 0) (q := 0) (by decide +kernel)) (m_s_iald sh_305 (by decide) c466) ?_
  obtain ⟨c467, h⟩ := m_ite_n h
  refine m_R_1 (by decide) (m_opb_of (ins := .iastore) (len := 1) (tag := 0) (a := 0) (b := 0) (c := 0) (q := 0) (by decide +kernel)) (m_s_iast sh_305 c467) ?_
  refine m_R_sg (by decide) [(.aload_n 0, 1, 0, 0, 0, 0, 0), (.getfield 13, 3, 0, 12, 1, 3, 1493), (.iload 4, 2, 0, 4, 0, 0, 0), (.iconst 2, 1, 0, 2, 0, 0, 0), (.iadd, 1, 0, 0, 0, 0, 0), (.iload_n 2, 1, 0, 2, 0, 0, 0)] (by decide +kernel) (show m_sgl X _ _ _ _ _ = some (58, [some (.ref 304), some (.int v1), some (.int v2), some (.int v3), some (.int v4)], [.int v2, .int (v4 + (2 : Int32)), .ref 305], (SH, (m_up m.1 305 (v4 + (1 : Int32)).toNatClampNeg (m.1 305 (((320 : Int32) + ((3 : Int32) * v1)) + (2 : Int32)).toNatClampNeg)), m.2)) from rfl) ?_
  obtain ⟨c468, h⟩ := m_ite_n h
  refine m_R_1 (by decide) (m_opb_of (ins := .iastore) (len := 1) (tag := 0) (a := 0) (b := 0) (c := 0) (q := 0) (by decide +kernel)) (m_s_iast sh_305 c468) ?_
  refine m_R_sg (by decide) [(.aload_n 0, 1, 0, 0, 0, 0, 0), (.getfield 13, 3, 0, 12, 1, 3, 1493), (.iload 4, 2, 0, 4, 0, 0, 0), (.iconst 3, 1, 0, 3, 0, 0, 0), (.iadd, 1, 0, 0, 0, 0, 0), (.iconst 0, 1, 0, 0, 0, 0, 0)] (by decide +kernel) (show m_sgl X _ _ _ _ _ = some (68, [some (.ref 304), some (.int v1), some (.int v2), some (.int v3), some (.int v4)], [.int (0 : Int32), .int (v4 + (3 : Int32)), .ref 305], (SH, (m_up (m_up m.1 305 (v4 + (1 : Int32)).toNatClampNeg (m.1 305 (((320 : Int32) + ((3 : Int32) * v1)) + (2 : Int32)).toNatClampNeg)) 305 (v4 + (2 : Int32)).toNatClampNeg v2), m.2)) from rfl) ?_
  obtain ⟨c469, h⟩ := m_ite_n h
  refine m_R_1 (by decide) (m_opb_of (ins := .iastore) (len := 1) (tag := 0) (a := 0) (b := 0) (c := 0) (q := 0) (by decide +kernel)) (m_s_iast sh_305 c469) ?_
  exact ok_m_copied_69 X d F _ _ _ _ _ _ _ h
def f_m_copied (F : Nat)   (v1 : Int32) (v2 : Int32) (m : mM) : Option (Int32 × mM) := (if ((1220 : Int32) + ((12 : Int32) * (m.1 305 (6 : Int32).toNatClampNeg))) < 0 ∨ 9732 ≤ ((1220 : Int32) + ((12 : Int32) * (m.1 305 (6 : Int32).toNatClampNeg))).toNatClampNeg then none else f_m_copied_26 F v1 v2 (m.1 305 (6 : Int32).toNatClampNeg) ((1220 : Int32) + ((12 : Int32) * (m.1 305 (6 : Int32).toNatClampNeg))) ((m_up m.1 305 ((1220 : Int32) + ((12 : Int32) * (m.1 305 (6 : Int32).toNatClampNeg))).toNatClampNeg v1), m.2))
theorem ok_m_copied (X : mX) (d F : Nat) : ∀ (v1 : Int32) (v2 : Int32)  (m : mM) (r : Int32) (m' : mM), f_m_copied F v1 v2 m = some (r, m') → m_R X (d + 1) 252 0 [some (.ref 304), some (.int v1), some (.int v2), none, none] [] (SH, m) (some (.int r), (SH, m')) := by
  intro v1 v2 m r m' h
  unfold f_m_copied at h
  refine m_R_sg (by decide) [(.aload_n 0, 1, 0, 0, 0, 0, 0), (.getfield 13, 3, 0, 12, 1, 3, 1493), (.bipush 6, 2, 0, 6, 0, 0, 0)] (by decide +kernel) (show m_sgl X _ _ _ _ _ = some (6, [some (.ref 304), some (.int v1), some (.int v2), none, none], [.int (6 : Int32), .ref 305], (SH, m.1, m.2)) from rfl) ?_
  refine m_R_1 (by decide) (m_opb_of (ins := .iaload) (len := 1) (tag := 0) (a := 0) (b := 0) (c := 0) (q := 0) (by decide +kernel)) (m_s_iald sh_305 (by decide) (show ¬ ((6 : Int32) < 0 ∨ 9732 ≤ (6 : Int32).toNatClampNeg) by decide)) ?_
  refine m_R_sg (by decide) [(.istore_n 3, 1, 0, 3, 0, 0, 0), (.sipush 1220, 3, 0, 1220, 0, 0, 0), (.bipush 12, 2, 0, 12, 0, 0, 0), (.iload_n 3, 1, 0, 3, 0, 0, 0), (.imul, 1, 0, 0, 0, 0, 0), (.iadd, 1, 0, 0, 0, 0, 0), (.istore 4, 2, 0, 4, 0, 0, 0), (.aload_n 0, 1, 0, 0, 0, 0, 0), (.getfield 13, 3, 0, 12, 1, 3, 1493), (.iload 4, 2, 0, 4, 0, 0, 0), (.iload_n 1, 1, 0, 1, 0, 0, 0)] (by decide +kernel) (show m_sgl X _ _ _ _ _ = some (25, [some (.ref 304), some (.int v1), some (.int v2), some (.int (m.1 305 (6 : Int32).toNatClampNeg)), some (.int ((1220 : Int32) + ((12 : Int32) * (m.1 305 (6 : Int32).toNatClampNeg))))], [.int v1, .int ((1220 : Int32) + ((12 : Int32) * (m.1 305 (6 : Int32).toNatClampNeg))), .ref 305], (SH, m.1, m.2)) from rfl) ?_
  obtain ⟨c470, h⟩ := m_ite_n h
  refine m_R_1 (by decide) (m_opb_of (ins := .iastore) (len := 1) (tag := 0) (a := 0) (b := 0) (c := 0) (q := 0) (by decide +kernel)) (m_s_iast sh_305 c470) ?_
  exact ok_m_copied_26 X d F _ _ _ _ _ _ _ h
def f_m_issue_97 (F : Nat)  (k5 : Int32 → Int32 → Int32 → mM → Option (Unit × mM)) (v1 : Int32) (v3 : Int32) (v4 : Int32) (m : mM) : Option (Unit × mM) := k5 v1 v3 (v4 + (1 : Int32)) m
theorem ok_m_issue_97 (X : mX) (d F : Nat) (k5 : Int32 → Int32 → Int32 → mM → Option (Unit × mM)) (hk5 : ∀ (v1 : Int32) (v3 : Int32) (v4 : Int32) (w2 : Option Value) (w5 : Option Value) (m : mM) (r : Unit) (m' : mM), k5 v1 v3 v4 m = some (r, m') → m_R X (d + 2) 250 5 [some (.ref 304), some (.int v1), w2, some (.int v3), some (.int v4), w5] [] (SH, m) (none, (SH, m'))) : ∀ (v1 : Int32) (v3 : Int32) (v4 : Int32) (w2 : Option Value) (w5 : Option Value) (m : mM) (r : Unit) (m' : mM), f_m_issue_97 F k5 v1 v3 v4 m = some (r, m') → m_R X (d + 2) 250 97 [some (.ref 304), some (.int v1), w2, some (.int v3), some (.int v4), w5] [] (SH, m) (none, (SH, m')) := by
  intro v1 v3 v4 w2 w5 m r m' h
  unfold f_m_issue_97 at h
  refine m_R_sg (by decide) [(.iinc 4 1, 3, 0, 4, 1, 0, 0), (.goto (-95), 3, 0, 5, 0, 0, 0)] (by decide +kernel) (show m_sgl X _ _ _ _ _ = some (5, [some (.ref 304), some (.int v1), w2, some (.int v3), some (.int (v4 + (1 : Int32))), w5], [], (SH, m.1, m.2)) from rfl) ?_
  exact hk5 _ _ _ _ _ _ _ _ h
def f_m_issue_74 (F : Nat)  (k5 : Int32 → Int32 → Int32 → mM → Option (Unit × mM)) (v1 : Int32) (v3 : Int32) (v4 : Int32) (m : mM) : Option (Unit × mM) := (if (((320 : Int32) + ((3 : Int32) * v4)) + (1 : Int32)) < 0 ∨ 9732 ≤ (((320 : Int32) + ((3 : Int32) * v4)) + (1 : Int32)).toNatClampNeg then none else ((f_m_trails F (m.1 305 (((320 : Int32) + ((3 : Int32) * v4)) + (1 : Int32)).toNatClampNeg) v1 m).bind fun q2 => f_m_issue_97 F k5 v1 (v3 + (-1 : Int32)) v4 q2.2))
theorem ok_m_issue_74 (X : mX) (d F : Nat) (k5 : Int32 → Int32 → Int32 → mM → Option (Unit × mM)) (hk5 : ∀ (v1 : Int32) (v3 : Int32) (v4 : Int32) (w2 : Option Value) (w5 : Option Value) (m : mM) (r : Unit) (m' : mM), k5 v1 v3 v4 m = some (r, m') → m_R X (d + 2) 250 5 [some (.ref 304), some (.int v1), w2, some (.int v3), some (.int v4), w5] [] (SH, m) (none, (SH, m'))) : ∀ (v1 : Int32) (v3 : Int32) (v4 : Int32) (w2 : Option Value) (w5 : Option Value) (m : mM) (r : Unit) (m' : mM), f_m_issue_74 F k5 v1 v3 v4 m = some (r, m') → m_R X (d + 2) 250 74 [some (.ref 304), some (.int v1), w2, some (.int v3), some (.int v4), w5] [] (SH, m) (none, (SH, m')) := by
  intro v1 v3 v4 w2 w5 m r m' h
  unfold f_m_issue_74 at h
  refine m_R_sg (by decide) [(.aload_n 0, 1, 0, 0, 0, 0, 0), (.aload_n 0, 1, 0, 0, 0, 0, 0), (.getfield 13, 3, 0, 12, 1, 3, 1493), (.sipush 320, 3, 0, 320, 0, 0, 0), (.iconst 3, 1, 0, 3, 0, 0, 0), (.iload 4, 2, 0, 4, 0, 0, 0), (.imul, 1, 0, 0, 0, 0, 0), (.iadd, 1, 0, 0, 0, 0, 0), (.iconst 1, 1, 0, 1, 0, 0, 0), (.iadd, 1, 0, 0, 0, 0, 0)] (by decide +kernel) (show m_sgl X _ _ _ _ _ = some (89, [some (.ref 304), some (.int v1), w2, some (.int v3), some (.int v4), w5], [.int (((320 : Int32) + ((3 : Int32) * v4)) + (1 : Int32)), .ref 305, .ref 304], (SH, m.1, m.2)) from rfl) ?_
  obtain ⟨c471, h⟩ := m_ite_n h
  refine m_R_1 (by decide) (m_opb_of (ins := .iaload) (len := 1) (tag := 0) (a := 0) (b := 0) (c := 0) (q := 0) (by decide +kernel)) (m_s_iald sh_305 (by decide) c471) ?_
  refine m_R_sg (by decide) [(.iload_n 1, 1, 0, 1, 0, 0, 0)] (by decide +kernel) (show m_sgl X _ _ _ _ _ = some (91, [some (.ref 304), some (.int v1), w2, some (.int v3), some (.int v4), w5], [.int v1, .int (m.1 305 (((320 : Int32) + ((3 : Int32) * v4)) + (1 : Int32)).toNatClampNeg), .ref 304], (SH, m.1, m.2)) from rfl) ?_
  obtain ⟨q2, hc2, h⟩ := Option.bind_eq_some_iff.mp h
  refine m_R_cV (v := none) (h1 := (SH, q2.2)) (rest := []) (lo' := [some (.ref 304), some (.int (m.1 305 (((320 : Int32) + ((3 : Int32) * v4)) + (1 : Int32)).toNatClampNeg)), some (.int v1), none]) (ml := 4) (k0 := 304) (by decide) (Or.inl rfl) (m_opb_of (ins := .invokevirtual 102) (len := 3) (tag := 5) (a := 251) (b := 2) (c := 0) (q := 1822) (by decide +kernel)) (by decide +kernel) rfl (show m_isO 251 304 (SH, _) = true from m_isO_of (by decide +kernel)) (Nat.le_of_ble_eq_true rfl) rfl rfl (ok_m_trails X (d + 1) F _ _ _ _ _ hc2) ?_
  refine m_R_sg (by decide) [(.iinc 3 (-1), 3, 0, 3, 1, 1, 0)] (by decide +kernel) (show m_sgl X _ _ _ _ _ = some (97, [some (.ref 304), some (.int v1), w2, some (.int (v3 + (-1 : Int32))), some (.int v4), w5], [], (SH, q2.2.1, q2.2.2)) from rfl) ?_
  exact ok_m_issue_97 X d F _ hk5 _ _ _ _ _ _ _ _ h
def f_m_issue_180 (F : Nat)  (k106 : Int32 → Int32 → Int32 → mM → Option (Unit × mM)) (v1 : Int32) (v3 : Int32) (v4 : Int32) (m : mM) : Option (Unit × mM) := k106 v1 v3 (v4 + (1 : Int32)) m
theorem ok_m_issue_180 (X : mX) (d F : Nat) (k106 : Int32 → Int32 → Int32 → mM → Option (Unit × mM)) (hk106 : ∀ (v1 : Int32) (v3 : Int32) (v4 : Int32) (w2 : Option Value) (w5 : Option Value) (m : mM) (r : Unit) (m' : mM), k106 v1 v3 v4 m = some (r, m') → m_R X (d + 2) 250 106 [some (.ref 304), some (.int v1), w2, some (.int v3), some (.int v4), w5] [] (SH, m) (none, (SH, m'))) : ∀ (v1 : Int32) (v3 : Int32) (v4 : Int32) (w2 : Option Value) (w5 : Option Value) (m : mM) (r : Unit) (m' : mM), f_m_issue_180 F k106 v1 v3 v4 m = some (r, m') → m_R X (d + 2) 250 180 [some (.ref 304), some (.int v1), w2, some (.int v3), some (.int v4), w5] [] (SH, m) (none, (SH, m')) := by
  intro v1 v3 v4 w2 w5 m r m' h
  unfold f_m_issue_180 at h
  refine m_R_sg (by decide) [(.iinc 4 1, 3, 0, 4, 1, 0, 0), (.goto (-77), 3, 0, 106, 0, 0, 0)] (by decide +kernel) (show m_sgl X _ _ _ _ _ = some (106, [some (.ref 304), some (.int v1), w2, some (.int v3), some (.int (v4 + (1 : Int32))), w5], [], (SH, m.1, m.2)) from rfl) ?_
  exact hk106 _ _ _ _ _ _ _ _ h
def f_m_issue_186 (F : Nat)    (m : mM) : Option (Unit × mM) := some ((), m)
theorem ok_m_issue_186 (X : mX) (d F : Nat) : ∀  (w0 : Option Value) (w1 : Option Value) (w2 : Option Value) (w3 : Option Value) (w4 : Option Value) (w5 : Option Value) (m : mM) (r : Unit) (m' : mM), f_m_issue_186 F  m = some (r, m') → m_R X (d + 2) 250 186 [w0, w1, w2, w3, w4, w5] [] (SH, m) (none, (SH, m')) := by
  intro w0 w1 w2 w3 w4 w5 m r m' h
  unfold f_m_issue_186 at h
  obtain ⟨rfl, rfl⟩ := m_some h
  exact m_R_vret (by decide) (m_opb_of (ins := .return_) (len := 1) (tag := 3) (a := 0) (b := 0) (c := 0) (q := 0) (by decide +kernel))
def f_m_issue_106 (F : Nat)   : Nat → Int32 → Int32 → Int32 → mM → Option (Unit × mM)
  | 0, _, _, _, _ => none
  | n + 1, v1, v3, v4, m => (if (300 : Int32) ≤ v4 then f_m_issue_186 F m else (if v3 ≤ 0 then f_m_issue_186 F m else ((f_m_stateOf F v4 m).bind fun q3 => (if q3.1 = 0 then (if ((320 : Int32) + ((3 : Int32) * v4)) < 0 ∨ 9732 ≤ ((320 : Int32) + ((3 : Int32) * v4)).toNatClampNeg then none else ((f_m_copied F v4 (0 : Int32) ((m_up q3.2.1 305 ((320 : Int32) + ((3 : Int32) * v4)).toNatClampNeg (1 : Int32)), q3.2.2)).bind fun q4 => (if (((1220 : Int32) + ((12 : Int32) * q4.1)) + (2 : Int32)) < 0 ∨ 9732 ≤ (((1220 : Int32) + ((12 : Int32) * q4.1)) + (2 : Int32)).toNatClampNeg then none else ((f_m_trails F q4.1 v1 ((m_up q4.2.1 305 (((1220 : Int32) + ((12 : Int32) * q4.1)) + (2 : Int32)).toNatClampNeg v1), q4.2.2)).bind fun q5 => f_m_issue_180 F (f_m_issue_106 F n) v1 (v3 + (-1 : Int32)) v4 q5.2)))) else f_m_issue_180 F (f_m_issue_106 F n) v1 v3 v4 q3.2))))
theorem ok_m_issue_106 (X : mX) (d F : Nat) : ∀ (n : Nat) (v1 : Int32) (v3 : Int32) (v4 : Int32) (w2 : Option Value) (w5 : Option Value) (m : mM) (r : Unit) (m' : mM), f_m_issue_106 F n v1 v3 v4 m = some (r, m') → m_R X (d + 2) 250 106 [some (.ref 304), some (.int v1), w2, some (.int v3), some (.int v4), w5] [] (SH, m) (none, (SH, m')) := by
  intro n
  induction n with
  | zero => intro v1 v3 v4 w2 w5 m r m' h; cases h
  | succ n ih =>
    intro v1 v3 v4 w2 w5 m r m' h
    simp only [f_m_issue_106] at h
    refine m_R_sg (by decide) [(.iload 4, 2, 0, 4, 0, 0, 0), (.sipush 300, 3, 0, 300, 0, 0, 0)] (by decide +kernel) (show m_sgl X _ _ _ _ _ = some (111, [some (.ref 304), some (.int v1), w2, some (.int v3), some (.int v4), w5], [.int (300 : Int32), .int v4], (SH, m.1, m.2)) from rfl) ?_
    rcases m_ite h with ⟨c472, h⟩ | ⟨c472, h⟩
    · refine m_R_1 (by decide) (m_opb_of (ins := .if_icmp .ge 75) (len := 3) (tag := 0) (a := 186) (b := 0) (c := 0) (q := 0) (by decide +kernel)) (if_pos c472) ?_
      exact ok_m_issue_186 X d F _ _ _ _ _ _ _ _ _ h
    · refine m_R_1 (by decide) (m_opb_of (ins := .if_icmp .ge 75) (len := 3) (tag := 0) (a := 186) (b := 0) (c := 0) (q := 0) (by decide +kernel)) (if_neg c472) ?_
      refine m_R_sg (by decide) [(.iload_n 3, 1, 0, 3, 0, 0, 0)] (by decide +kernel) (show m_sgl X _ _ _ _ _ = some (115, [some (.ref 304), some (.int v1), w2, some (.int v3), some (.int v4), w5], [.int v3], (SH, m.1, m.2)) from rfl) ?_
      rcases m_ite h with ⟨c473, h⟩ | ⟨c473, h⟩
      · refine m_R_1 (by decide) (m_opb_of (ins := .ifCond .le 71) (len := 3) (tag := 0) (a := 186) (b := 0) (c := 0) (q := 0) (by decide +kernel)) (if_pos c473) ?_
        exact ok_m_issue_186 X d F _ _ _ _ _ _ _ _ _ h
      · refine m_R_1 (by decide) (m_opb_of (ins := .ifCond .le 71) (len := 3) (tag := 0) (a := 186) (b := 0) (c := 0) (q := 0) (by decide +kernel)) (if_neg c473) ?_
        refine m_R_sg (by decide) [(.aload_n 0, 1, 0, 0, 0, 0, 0), (.iload 4, 2, 0, 4, 0, 0, 0)] (by decide +kernel) (show m_sgl X _ _ _ _ _ = some (121, [some (.ref 304), some (.int v1), w2, some (.int v3), some (.int v4), w5], [.int v4, .ref 304], (SH, m.1, m.2)) from rfl) ?_
        obtain ⟨q3, hc3, h⟩ := Option.bind_eq_some_iff.mp h
        refine m_R_cV (v := (some (.int q3.1))) (h1 := (SH, q3.2)) (rest := []) (lo' := [some (.ref 304), some (.int v4)]) (ml := 2) (k0 := 304) (by decide) (Or.inl rfl) (m_opb_of (ins := .invokevirtual 99) (len := 3) (tag := 5) (a := 224) (b := 1) (c := 0) (q := 1681) (by decide +kernel)) (by decide +kernel) rfl (show m_isO 224 304 (SH, _) = true from m_isO_of (by decide +kernel)) (Nat.le_of_ble_eq_true rfl) rfl rfl (ok_m_stateOf X (d + 1) F _ _ _ _ hc3) ?_
        rcases m_ite h with ⟨c474, h⟩ | ⟨c474, h⟩
        · refine m_R_1 (by decide) (m_opb_of (ins := .ifCond .eq 6) (len := 3) (tag := 0) (a := 130) (b := 0) (c := 0) (q := 0) (by decide +kernel)) (if_pos c474) ?_
          refine m_R_sg (by decide) [(.aload_n 0, 1, 0, 0, 0, 0, 0), (.getfield 13, 3, 0, 12, 1, 3, 1493), (.sipush 320, 3, 0, 320, 0, 0, 0), (.iconst 3, 1, 0, 3, 0, 0, 0), (.iload 4, 2, 0, 4, 0, 0, 0), (.imul, 1, 0, 0, 0, 0, 0), (.iadd, 1, 0, 0, 0, 0, 0), (.iconst 1, 1, 0, 1, 0, 0, 0)] (by decide +kernel) (show m_sgl X _ _ _ _ _ = some (143, [some (.ref 304), some (.int v1), w2, some (.int v3), some (.int v4), w5], [.int (1 : Int32), .int ((320 : Int32) + ((3 : Int32) * v4)), .ref 305], (SH, q3.2.1, q3.2.2)) from rfl) ?_
          obtain ⟨c475, h⟩ := m_ite_n h
          refine m_R_1 (by decide) (m_opb_of (ins := .iastore) (len := 1) (tag := 0) (a := 0) (b := 0) (c := 0) (q := 0) (by decide +kernel)) (m_s_iast sh_305 c475) ?_
          refine m_R_sg (by decide) [(.aload_n 0, 1, 0, 0, 0, 0, 0), (.iload 4, 2, 0, 4, 0, 0, 0), (.iconst 0, 1, 0, 0, 0, 0, 0)] (by decide +kernel) (show m_sgl X _ _ _ _ _ = some (148, [some (.ref 304), some (.int v1), w2, some (.int v3), some (.int v4), w5], [.int (0 : Int32), .int v4, .ref 304], (SH, (m_up q3.2.1 305 ((320 : Int32) + ((3 : Int32) * v4)).toNatClampNeg (1 : Int32)), q3.2.2)) from rfl) ?_
          obtain ⟨q4, hc4, h⟩ := Option.bind_eq_some_iff.mp h
          refine m_R_cV (v := (some (.int q4.1))) (h1 := (SH, q4.2)) (rest := []) (lo' := [some (.ref 304), some (.int v4), some (.int (0 : Int32)), none, none]) (ml := 5) (k0 := 304) (by decide) (Or.inl rfl) (m_opb_of (ins := .invokevirtual 131) (len := 3) (tag := 5) (a := 252) (b := 2) (c := 0) (q := 1826) (by decide +kernel)) (by decide +kernel) rfl (show m_isO 252 304 (SH, _) = true from m_isO_of (by decide +kernel)) (Nat.le_of_ble_eq_true rfl) rfl rfl (ok_m_copied X (d + 0) F _ _ _ _ _ hc4) ?_
          refine m_R_sg (by decide) [(.istore 5, 2, 0, 5, 0, 0, 0), (.aload_n 0, 1, 0, 0, 0, 0, 0), (.getfield 13, 3, 0, 12, 1, 3, 1493), (.sipush 1220, 3, 0, 1220, 0, 0, 0), (.bipush 12, 2, 0, 12, 0, 0, 0), (.iload 5, 2, 0, 5, 0, 0, 0), (.imul, 1, 0, 0, 0, 0, 0), (.iadd, 1, 0, 0, 0, 0, 0), (.iconst 2, 1, 0, 2, 0, 0, 0), (.iadd, 1, 0, 0, 0, 0, 0), (.iload_n 1, 1, 0, 1, 0, 0, 0)] (by decide +kernel) (show m_sgl X _ _ _ _ _ = some (169, [some (.ref 304), some (.int v1), w2, some (.int v3), some (.int v4), some (.int q4.1)], [.int v1, .int (((1220 : Int32) + ((12 : Int32) * q4.1)) + (2 : Int32)), .ref 305], (SH, q4.2.1, q4.2.2)) from rfl) ?_
          obtain ⟨c476, h⟩ := m_ite_n h
          refine m_R_1 (by decide) (m_opb_of (ins := .iastore) (len := 1) (tag := 0) (a := 0) (b := 0) (c := 0) (q := 0) (by decide +kernel)) (m_s_iast sh_305 c476) ?_
          refine m_R_sg (by decide) [(.aload_n 0, 1, 0, 0, 0, 0, 0), (.iload 5, 2, 0, 5, 0, 0, 0), (.iload_n 1, 1, 0, 1, 0, 0, 0)] (by decide +kernel) (show m_sgl X _ _ _ _ _ = some (174, [some (.ref 304), some (.int v1), w2, some (.int v3), some (.int v4), some (.int q4.1)], [.int v1, .int q4.1, .ref 304], (SH, (m_up q4.2.1 305 (((1220 : Int32) + ((12 : Int32) * q4.1)) + (2 : Int32)).toNatClampNeg v1), q4.2.2)) from rfl) ?_
          obtain ⟨q5, hc5, h⟩ := Option.bind_eq_some_iff.mp h
          refine m_R_cV (v := none) (h1 := (SH, q5.2)) (rest := []) (lo' := [some (.ref 304), some (.int q4.1), some (.int v1), none]) (ml := 4) (k0 := 304) (by decide) (Or.inl rfl) (m_opb_of (ins := .invokevirtual 102) (len := 3) (tag := 5) (a := 251) (b := 2) (c := 0) (q := 1822) (by decide +kernel)) (by decide +kernel) rfl (show m_isO 251 304 (SH, _) = true from m_isO_of (by decide +kernel)) (Nat.le_of_ble_eq_true rfl) rfl rfl (ok_m_trails X (d + 1) F _ _ _ _ _ hc5) ?_
          refine m_R_sg (by decide) [(.iinc 3 (-1), 3, 0, 3, 1, 1, 0)] (by decide +kernel) (show m_sgl X _ _ _ _ _ = some (180, [some (.ref 304), some (.int v1), w2, some (.int (v3 + (-1 : Int32))), some (.int v4), some (.int q4.1)], [], (SH, q5.2.1, q5.2.2)) from rfl) ?_
          exact ok_m_issue_180 X d F _ (fun a0 a1 a2 a3 a4 m r m' h => ih a0 a1 a2 a3 a4 m r m' h) _ _ _ _ _ _ _ _ h
        · refine m_R_1 (by decide) (m_opb_of (ins := .ifCond .eq 6) (len := 3) (tag := 0) (a := 130) (b := 0) (c := 0) (q := 0) (by decide +kernel)) (if_neg c474) ?_
          refine m_R_sg (by decide) [(.goto 53, 3, 0, 180, 0, 0, 0)] (by decide +kernel) (show m_sgl X _ _ _ _ _ = some (180, [some (.ref 304), some (.int v1), w2, some (.int v3), some (.int v4), w5], [], (SH, q3.2.1, q3.2.2)) from rfl) ?_
          exact ok_m_issue_180 X d F _ (fun a0 a1 a2 a3 a4 m r m' h => ih a0 a1 a2 a3 a4 m r m' h) _ _ _ _ _ _ _ _ h
def f_m_issue_103 (F : Nat)   (v1 : Int32) (v3 : Int32) (m : mM) : Option (Unit × mM) := f_m_issue_106 F F v1 v3 (0 : Int32) m
theorem ok_m_issue_103 (X : mX) (d F : Nat) : ∀ (v1 : Int32) (v3 : Int32) (w2 : Option Value) (w4 : Option Value) (w5 : Option Value) (m : mM) (r : Unit) (m' : mM), f_m_issue_103 F v1 v3 m = some (r, m') → m_R X (d + 2) 250 103 [some (.ref 304), some (.int v1), w2, some (.int v3), w4, w5] [] (SH, m) (none, (SH, m')) := by
  intro v1 v3 w2 w4 w5 m r m' h
  unfold f_m_issue_103 at h
  refine m_R_sg (by decide) [(.iconst 0, 1, 0, 0, 0, 0, 0), (.istore 4, 2, 0, 4, 0, 0, 0)] (by decide +kernel) (show m_sgl X _ _ _ _ _ = some (106, [some (.ref 304), some (.int v1), w2, some (.int v3), some (.int (0 : Int32)), w5], [], (SH, m.1, m.2)) from rfl) ?_
  exact ok_m_issue_106 X d F F _ _ _ _ _ _ _ _ h
def f_m_issue_5 (F : Nat)   : Nat → Int32 → Int32 → Int32 → mM → Option (Unit × mM)
  | 0, _, _, _, _ => none
  | n + 1, v1, v3, v4, m => (if (300 : Int32) ≤ v4 then f_m_issue_103 F v1 v3 m else (if v3 ≤ 0 then f_m_issue_103 F v1 v3 m else ((f_m_stateOf F v4 m).bind fun q1 => (if q1.1 = (2 : Int32) then (if ((320 : Int32) + ((3 : Int32) * v4)) < 0 ∨ 9732 ≤ ((320 : Int32) + ((3 : Int32) * v4)).toNatClampNeg then none else (if (((320 : Int32) + ((3 : Int32) * v4)) + (1 : Int32)) < 0 ∨ 9732 ≤ (((320 : Int32) + ((3 : Int32) * v4)) + (1 : Int32)).toNatClampNeg then none else (if (((1220 : Int32) + ((12 : Int32) * ((m_up q1.2.1 305 ((320 : Int32) + ((3 : Int32) * v4)).toNatClampNeg (1 : Int32)) 305 (((320 : Int32) + ((3 : Int32) * v4)) + (1 : Int32)).toNatClampNeg))) + (2 : Int32)) < 0 ∨ 9732 ≤ (((1220 : Int32) + ((12 : Int32) * ((m_up q1.2.1 305 ((320 : Int32) + ((3 : Int32) * v4)).toNatClampNeg (1 : Int32)) 305 (((320 : Int32) + ((3 : Int32) * v4)) + (1 : Int32)).toNatClampNeg))) + (2 : Int32)).toNatClampNeg then none else f_m_issue_74 F (f_m_issue_5 F n) v1 v3 v4 ((m_up (m_up q1.2.1 305 ((320 : Int32) + ((3 : Int32) * v4)).toNatClampNeg (1 : Int32)) 305 (((1220 : Int32) + ((12 : Int32) * ((m_up q1.2.1 305 ((320 : Int32) + ((3 : Int32) * v4)).toNatClampNeg (1 : Int32)) 305 (((320 : Int32) + ((3 : Int32) * v4)) + (1 : Int32)).toNatClampNeg))) + (2 : Int32)).toNatClampNeg v1), q1.2.2)))) else f_m_issue_97 F (f_m_issue_5 F n) v1 v3 v4 q1.2))))
theorem ok_m_issue_5 (X : mX) (d F : Nat) : ∀ (n : Nat) (v1 : Int32) (v3 : Int32) (v4 : Int32) (w2 : Option Value) (w5 : Option Value) (m : mM) (r : Unit) (m' : mM), f_m_issue_5 F n v1 v3 v4 m = some (r, m') → m_R X (d + 2) 250 5 [some (.ref 304), some (.int v1), w2, some (.int v3), some (.int v4), w5] [] (SH, m) (none, (SH, m')) := by
  intro n
  induction n with
  | zero => intro v1 v3 v4 w2 w5 m r m' h; cases h
  | succ n ih =>
    intro v1 v3 v4 w2 w5 m r m' h
    simp only [f_m_issue_5] at h
    refine m_R_sg (by decide) [(.iload 4, 2, 0, 4, 0, 0, 0), (.sipush 300, 3, 0, 300, 0, 0, 0)] (by decide +kernel) (show m_sgl X _ _ _ _ _ = some (10, [some (.ref 304), some (.int v1), w2, some (.int v3), some (.int v4), w5], [.int (300 : Int32), .int v4], (SH, m.1, m.2)) from rfl) ?_
    rcases m_ite h with ⟨c477, h⟩ | ⟨c477, h⟩
    · refine m_R_1 (by decide) (m_opb_of (ins := .if_icmp .ge 93) (len := 3) (tag := 0) (a := 103) (b := 0) (c := 0) (q := 0) (by decide +kernel)) (if_pos c477) ?_
      exact ok_m_issue_103 X d F _ _ _ _ _ _ _ _ h
    · refine m_R_1 (by decide) (m_opb_of (ins := .if_icmp .ge 93) (len := 3) (tag := 0) (a := 103) (b := 0) (c := 0) (q := 0) (by decide +kernel)) (if_neg c477) ?_
      refine m_R_sg (by decide) [(.iload_n 3, 1, 0, 3, 0, 0, 0)] (by decide +kernel) (show m_sgl X _ _ _ _ _ = some (14, [some (.ref 304), some (.int v1), w2, some (.int v3), some (.int v4), w5], [.int v3], (SH, m.1, m.2)) from rfl) ?_
      rcases m_ite h with ⟨c478, h⟩ | ⟨c478, h⟩
      · refine m_R_1 (by decide) (m_opb_of (ins := .ifCond .le 89) (len := 3) (tag := 0) (a := 103) (b := 0) (c := 0) (q := 0) (by decide +kernel)) (if_pos c478) ?_
        exact ok_m_issue_103 X d F _ _ _ _ _ _ _ _ h
      · refine m_R_1 (by decide) (m_opb_of (ins := .ifCond .le 89) (len := 3) (tag := 0) (a := 103) (b := 0) (c := 0) (q := 0) (by decide +kernel)) (if_neg c478) ?_
        refine m_R_sg (by decide) [(.aload_n 0, 1, 0, 0, 0, 0, 0), (.iload 4, 2, 0, 4, 0, 0, 0)] (by decide +kernel) (show m_sgl X _ _ _ _ _ = some (20, [some (.ref 304), some (.int v1), w2, some (.int v3), some (.int v4), w5], [.int v4, .ref 304], (SH, m.1, m.2)) from rfl) ?_
        obtain ⟨q1, hc1, h⟩ := Option.bind_eq_some_iff.mp h
        refine m_R_cV (v := (some (.int q1.1))) (h1 := (SH, q1.2)) (rest := []) (lo' := [some (.ref 304), some (.int v4)]) (ml := 2) (k0 := 304) (by decide) (Or.inl rfl) (m_opb_of (ins := .invokevirtual 99) (len := 3) (tag := 5) (a := 224) (b := 1) (c := 0) (q := 1681) (by decide +kernel)) (by decide +kernel) rfl (show m_isO 224 304 (SH, _) = true from m_isO_of (by decide +kernel)) (Nat.le_of_ble_eq_true rfl) rfl rfl (ok_m_stateOf X (d + 1) F _ _ _ _ hc1) ?_
        refine m_R_sg (by decide) [(.iconst 2, 1, 0, 2, 0, 0, 0)] (by decide +kernel) (show m_sgl X _ _ _ _ _ = some (24, [some (.ref 304), some (.int v1), w2, some (.int v3), some (.int v4), w5], [.int (2 : Int32), .int q1.1], (SH, q1.2.1, q1.2.2)) from rfl) ?_
        rcases m_ite h with ⟨c479, h⟩ | ⟨c479, h⟩
        · refine m_R_1 (by decide) (m_opb_of (ins := .if_icmp .eq 6) (len := 3) (tag := 0) (a := 30) (b := 0) (c := 0) (q := 0) (by decide +kernel)) (if_pos c479) ?_
          refine m_R_sg (by decide) [(.aload_n 0, 1, 0, 0, 0, 0, 0), (.getfield 13, 3, 0, 12, 1, 3, 1493), (.sipush 320, 3, 0, 320, 0, 0, 0), (.iconst 3, 1, 0, 3, 0, 0, 0), (.iload 4, 2, 0, 4, 0, 0, 0), (.imul, 1, 0, 0, 0, 0, 0), (.iadd, 1, 0, 0, 0, 0, 0), (.iconst 1, 1, 0, 1, 0, 0, 0)] (by decide +kernel) (show m_sgl X _ _ _ _ _ = some (43, [some (.ref 304), some (.int v1), w2, some (.int v3), some (.int v4), w5], [.int (1 : Int32), .int ((320 : Int32) + ((3 : Int32) * v4)), .ref 305], (SH, q1.2.1, q1.2.2)) from rfl) ?_
          obtain ⟨c480, h⟩ := m_ite_n h
          refine m_R_1 (by decide) (m_opb_of (ins := .iastore) (len := 1) (tag := 0) (a := 0) (b := 0) (c := 0) (q := 0) (by decide +kernel)) (m_s_iast sh_305 c480) ?_
          refine m_R_sg (by decide) [(.aload_n 0, 1, 0, 0, 0, 0, 0), (.getfield 13, 3, 0, 12, 1, 3, 1493), (.sipush 1220, 3, 0, 1220, 0, 0, 0), (.bipush 12, 2, 0, 12, 0, 0, 0), (.aload_n 0, 1, 0, 0, 0, 0, 0), (.getfield 13, 3, 0, 12, 1, 3, 1493), (.sipush 320, 3, 0, 320, 0, 0, 0), (.iconst 3, 1, 0, 3, 0, 0, 0), (.iload 4, 2, 0, 4, 0, 0, 0), (.imul, 1, 0, 0, 0, 0, 0), (.iadd, 1, 0, 0, 0, 0, 0), (.iconst 1, 1, 0, 1, 0, 0, 0), (.iadd, 1, 0, 0, 0, 0, 0)] (by decide +kernel) (show m_sgl X _ _ _ _ _ = some (67, [some (.ref 304), some (.int v1), w2, some (.int v3), some (.int v4), w5], [.int (((320 : Int32) + ((3 : Int32) * v4)) + (1 : Int32)), .ref 305, .int (12 : Int32), .int (1220 : Int32), .ref 305], (SH, (m_up q1.2.1 305 ((320 : Int32) + ((3 : Int32) * v4)).toNatClampNeg (1 : Int32)), q1.2.2)) from rfl) ?_
          obtain ⟨c481, h⟩ := m_ite_n h
          refine m_R_1 (by decide) (m_opb_of (ins := .iaload) (len := 1) (tag := 0) (a := 0) (b := 0) (c := 0) (q := 0) (by decide +kernel)) (m_s_iald sh_305 (by decide) c481) ?_
          refine m_R_sg (by decide) [(.imul, 1, 0, 0, 0, 0, 0), (.iadd, 1, 0, 0, 0, 0, 0), (.iconst 2, 1, 0, 2, 0, 0, 0), (.iadd, 1, 0, 0, 0, 0, 0), (.iload_n 1, 1, 0, 1, 0, 0, 0)] (by decide +kernel) (show m_sgl X _ _ _ _ _ = some (73, [some (.ref 304), some (.int v1), w2, some (.int v3), some (.int v4), w5], [.int v1, .int (((1220 : Int32) + ((12 : Int32) * ((m_up q1.2.1 305 ((320 : Int32) + ((3 : Int32) * v4)).toNatClampNeg (1 : Int32)) 305 (((320 : Int32) + ((3 : Int32) * v4)) + (1 : Int32)).toNatClampNeg))) + (2 : Int32)), .ref 305], (SH, (m_up q1.2.1 305 ((320 : Int32) + ((3 : Int32) * v4)).toNatClampNeg (1 : Int32)), q1.2.2)) from rfl) ?_
          obtain ⟨c482, h⟩ := m_ite_n h
          refine m_R_1 (by decide) (m_opb_of (ins := .iastore) (len := 1) (tag := 0) (a := 0) (b := 0) (c := 0) (q := 0) (by decide +kernel)) (m_s_iast sh_305 c482) ?_
          exact ok_m_issue_74 X d F _ (fun a0 a1 a2 a3 a4 m r m' h => ih a0 a1 a2 a3 a4 m r m' h) _ _ _ _ _ _ _ _ h
        · refine m_R_1 (by decide) (m_opb_of (ins := .if_icmp .eq 6) (len := 3) (tag := 0) (a := 30) (b := 0) (c := 0) (q := 0) (by decide +kernel)) (if_neg c479) ?_
          refine m_R_sg (by decide) [(.goto 70, 3, 0, 97, 0, 0, 0)] (by decide +kernel) (show m_sgl X _ _ _ _ _ = some (97, [some (.ref 304), some (.int v1), w2, some (.int v3), some (.int v4), w5], [], (SH, q1.2.1, q1.2.2)) from rfl) ?_
          exact ok_m_issue_97 X d F _ (fun a0 a1 a2 a3 a4 m r m' h => ih a0 a1 a2 a3 a4 m r m' h) _ _ _ _ _ _ _ _ h
def f_m_issue (F : Nat)   (v1 : Int32) (v2 : Int32) (m : mM) : Option (Unit × mM) := f_m_issue_5 F F v1 v2 (0 : Int32) m
theorem ok_m_issue (X : mX) (d F : Nat) : ∀ (v1 : Int32) (v2 : Int32)  (m : mM) (r : Unit) (m' : mM), f_m_issue F v1 v2 m = some (r, m') → m_R X (d + 2) 250 0 [some (.ref 304), some (.int v1), some (.int v2), none, none, none] [] (SH, m) (none, (SH, m')) := by
  intro v1 v2 m r m' h
  unfold f_m_issue at h
  refine m_R_sg (by decide) [(.iload_n 2, 1, 0, 2, 0, 0, 0), (.istore_n 3, 1, 0, 3, 0, 0, 0), (.iconst 0, 1, 0, 0, 0, 0, 0), (.istore 4, 2, 0, 4, 0, 0, 0)] (by decide +kernel) (show m_sgl X _ _ _ _ _ = some (5, [some (.ref 304), some (.int v1), some (.int v2), some (.int v2), some (.int (0 : Int32)), none], [], (SH, m.1, m.2)) from rfl) ?_
  exact ok_m_issue_5 X d F F _ _ _ _ _ _ _ _ h
def f_m_finds_137 (F : Nat)  (k8 : Int32 → Int32 → mM → Option (Unit × mM)) (v1 : Int32) (v3 : Int32) (m : mM) : Option (Unit × mM) := k8 v1 (v3 + (1 : Int32)) m
theorem ok_m_finds_137 (X : mX) (d F : Nat) (k8 : Int32 → Int32 → mM → Option (Unit × mM)) (hk8 : ∀ (v1 : Int32) (v3 : Int32) (w2 : Option Value) (w4 : Option Value) (m : mM) (r : Unit) (m' : mM), k8 v1 v3 m = some (r, m') → m_R X (d + 2) 253 8 [some (.ref 304), some (.int v1), w2, some (.int v3), w4] [] (SH, m) (none, (SH, m'))) : ∀ (v1 : Int32) (v3 : Int32) (w2 : Option Value) (w4 : Option Value) (m : mM) (r : Unit) (m' : mM), f_m_finds_137 F k8 v1 v3 m = some (r, m') → m_R X (d + 2) 253 137 [some (.ref 304), some (.int v1), w2, some (.int v3), w4] [] (SH, m) (none, (SH, m')) := by
  intro v1 v3 w2 w4 m r m' h
  unfold f_m_finds_137 at h
  refine m_R_sg (by decide) [(.iinc 3 1, 3, 0, 3, 1, 0, 0), (.goto (-132), 3, 0, 8, 0, 0, 0)] (by decide +kernel) (show m_sgl X _ _ _ _ _ = some (8, [some (.ref 304), some (.int v1), w2, some (.int (v3 + (1 : Int32))), w4], [], (SH, m.1, m.2)) from rfl) ?_
  exact hk8 _ _ _ _ _ _ _ h
def f_m_finds_126 (F : Nat)  (k8 : Int32 → Int32 → mM → Option (Unit × mM)) (v1 : Int32) (v3 : Int32) (m : mM) : Option (Unit × mM) := f_m_finds_137 F k8 v1 v3 ((m_up m.1 305 (7 : Int32).toNatClampNeg ((m.1 305 (7 : Int32).toNatClampNeg) + (1 : Int32))), m.2)
theorem ok_m_finds_126 (X : mX) (d F : Nat) (k8 : Int32 → Int32 → mM → Option (Unit × mM)) (hk8 : ∀ (v1 : Int32) (v3 : Int32) (w2 : Option Value) (w4 : Option Value) (m : mM) (r : Unit) (m' : mM), k8 v1 v3 m = some (r, m') → m_R X (d + 2) 253 8 [some (.ref 304), some (.int v1), w2, some (.int v3), w4] [] (SH, m) (none, (SH, m'))) : ∀ (v1 : Int32) (v3 : Int32) (w2 : Option Value) (w4 : Option Value) (m : mM) (r : Unit) (m' : mM), f_m_finds_126 F k8 v1 v3 m = some (r, m') → m_R X (d + 2) 253 126 [some (.ref 304), some (.int v1), w2, some (.int v3), w4] [] (SH, m) (none, (SH, m')) := by
  intro v1 v3 w2 w4 m r m' h
  unfold f_m_finds_126 at h
  refine m_R_sg (by decide) [(.aload_n 0, 1, 0, 0, 0, 0, 0), (.getfield 13, 3, 0, 12, 1, 3, 1493), (.bipush 7, 2, 0, 7, 0, 0, 0), (.dup2, 1, 0, 0, 0, 0, 0)] (by decide +kernel) (show m_sgl X _ _ _ _ _ = some (133, [some (.ref 304), some (.int v1), w2, some (.int v3), w4], [.int (7 : Int32), .ref 305, .int (7 : Int32), .ref 305], (SH, m.1, m.2)) from rfl) ?_
  refine m_R_1 (by decide) (m_opb_of (ins := .iaload) (len := 1) (tag := 0) (a := 0) (b := 0) (c := 0) (q := 0) (by decide +kernel)) (m_s_iald sh_305 (by decide) (show ¬ ((7 : Int32) < 0 ∨ 9732 ≤ (7 : Int32).toNatClampNeg) by decide)) ?_
  refine m_R_sg (by decide) [(.iconst 1, 1, 0, 1, 0, 0, 0), (.iadd, 1, 0, 0, 0, 0, 0)] (by decide +kernel) (show m_sgl X _ _ _ _ _ = some (136, [some (.ref 304), some (.int v1), w2, some (.int v3), w4], [.int ((m.1 305 (7 : Int32).toNatClampNeg) + (1 : Int32)), .int (7 : Int32), .ref 305], (SH, m.1, m.2)) from rfl) ?_
  refine m_R_1 (by decide) (m_opb_of (ins := .iastore) (len := 1) (tag := 0) (a := 0) (b := 0) (c := 0) (q := 0) (by decide +kernel)) (m_s_iast sh_305 (show ¬ ((7 : Int32) < 0 ∨ 9732 ≤ (7 : Int32).toNatClampNeg) by decide)) ?_
  exact ok_m_finds_137 X d F _ hk8 _ _ _ _ _ _ _ h
def f_m_finds_76 (F : Nat)  (k8 : Int32 → Int32 → mM → Option (Unit × mM)) (v1 : Int32) (v3 : Int32) (v4 : Int32) (m : mM) : Option (Unit × mM) := (if v3 < 0 ∨ 400 ≤ v3.toNatClampNeg then none else (if ((1220 : Int32) + ((12 : Int32) * (m.1 307 v3.toNatClampNeg))) < 0 ∨ 9732 ≤ ((1220 : Int32) + ((12 : Int32) * (m.1 307 v3.toNatClampNeg))).toNatClampNeg then none else (if v4 < 0 ∨ 9732 ≤ v4.toNatClampNeg then none else (if (v4 + (1 : Int32)) < 0 ∨ 9732 ≤ (v4 + (1 : Int32)).toNatClampNeg then none else (if (v4 + (2 : Int32)) < 0 ∨ 9732 ≤ (v4 + (2 : Int32)).toNatClampNeg then none else f_m_finds_126 F k8 v1 v3 ((m_up (m_up (m_up m.1 305 v4.toNatClampNeg (m.1 305 ((1220 : Int32) + ((12 : Int32) * (m.1 307 v3.toNatClampNeg))).toNatClampNeg)) 305 (v4 + (1 : Int32)).toNatClampNeg v1) 305 (v4 + (2 : Int32)).toNatClampNeg ((m_up (m_up m.1 305 v4.toNatClampNeg (m.1 305 ((1220 : Int32) + ((12 : Int32) * (m.1 307 v3.toNatClampNeg))).toNatClampNeg)) 305 (v4 + (1 : Int32)).toNatClampNeg v1) 305 (0 : Int32).toNatClampNeg)), m.2))))))
theorem ok_m_finds_76 (X : mX) (d F : Nat) (k8 : Int32 → Int32 → mM → Option (Unit × mM)) (hk8 : ∀ (v1 : Int32) (v3 : Int32) (w2 : Option Value) (w4 : Option Value) (m : mM) (r : Unit) (m' : mM), k8 v1 v3 m = some (r, m') → m_R X (d + 2) 253 8 [some (.ref 304), some (.int v1), w2, some (.int v3), w4] [] (SH, m) (none, (SH, m'))) : ∀ (v1 : Int32) (v3 : Int32) (v4 : Int32) (w2 : Option Value) (m : mM) (r : Unit) (m' : mM), f_m_finds_76 F k8 v1 v3 v4 m = some (r, m') → m_R X (d + 2) 253 76 [some (.ref 304), some (.int v1), w2, some (.int v3), some (.int v4)] [] (SH, m) (none, (SH, m')) := by
  intro v1 v3 v4 w2 m r m' h
  unfold f_m_finds_76 at h
  refine m_R_sg (by decide) [(.aload_n 0, 1, 0, 0, 0, 0, 0), (.getfield 13, 3, 0, 12, 1, 3, 1493), (.iload 4, 2, 0, 4, 0, 0, 0), (.aload_n 0, 1, 0, 0, 0, 0, 0), (.getfield 13, 3, 0, 12, 1, 3, 1493), (.sipush 1220, 3, 0, 1220, 0, 0, 0), (.bipush 12, 2, 0, 12, 0, 0, 0), (.aload_n 0, 1, 0, 0, 0, 0, 0), (.getfield 20, 3, 0, 12, 3, 3, 1495), (.iload_n 3, 1, 0, 3, 0, 0, 0)] (by decide +kernel) (show m_sgl X _ _ _ _ _ = some (96, [some (.ref 304), some (.int v1), w2, some (.int v3), some (.int v4)], [.int v3, .ref 307, .int (12 : Int32), .int (1220 : Int32), .ref 305, .int v4, .ref 305], (SH, m.1, m.2)) from rfl) ?_
  obtain ⟨c483, h⟩ := m_ite_n h
  refine m_R_1 (by decide) (m_opb_of (ins := .iaload) (len := 1) (tag := 0) (a := 0) (b := 0) (c := 0) (q := 0) (by decide +kernel)) (m_s_iald sh_307 (by decide) c483) ?_
  refine m_R_sg (by decide) [(.imul, 1, 0, 0, 0, 0, 0), (.iadd, 1, 0, 0, 0, 0, 0)] (by decide +kernel) (show m_sgl X _ _ _ _ _ = some (99, [some (.ref 304), some (.int v1), w2, some (.int v3), some (.int v4)], [.int ((1220 : Int32) + ((12 : Int32) * (m.1 307 v3.toNatClampNeg))), .ref 305, .int v4, .ref 305], (SH, m.1, m.2)) from rfl) ?_
  obtain ⟨c484, h⟩ := m_ite_n h
  refine m_R_1 (by decide) (m_opb_of (ins := .iaload) (len := 1) (tag := 0) (a := 0) (b := 0) (c := 0) (q := 0) (by decide +kernel)) (m_s_iald sh_305 (by decide) c484) ?_
  obtain ⟨c485, h⟩ := m_ite_n h
  refine m_R_1 (by decide) (m_opb_of (ins := .iastore) (len := 1) (tag := 0) (a := 0) (b := 0) (c := 0) (q := 0) (by decide +kernel)) (m_s_iast sh_305 c485) ?_
  refine m_R_sg (by decide) [(.aload_n 0, 1, 0, 0, 0, 0, 0), (.getfield 13, 3, 0, 12, 1, 3, 1493), (.iload 4, 2, 0, 4, 0, 0, 0), (.iconst 1, 1, 0, 1, 0, 0, 0), (.iadd, 1, 0, 0, 0, 0, 0), (.iload_n 1, 1, 0, 1, 0, 0, 0)] (by decide +kernel) (show m_sgl X _ _ _ _ _ = some (110, [some (.ref 304), some (.int v1), w2, some (.int v3), some (.int v4)], [.int v1, .int (v4 + (1 : Int32)), .ref 305], (SH, (m_up m.1 305 v4.toNatClampNeg (m.1 305 ((1220 : Int32) + ((12 : Int32) * (m.1 307 v3.toNatClampNeg))).toNatClampNeg)), m.2)) from rfl) ?_
  obtain ⟨c486, h⟩ := m_ite_n h
  refine m_R_1 (by decide) (m_opb_of (ins := .iastore) (len := 1) (tag := 0) (a := 0) (b := 0) (c := 0) (q := 0) (by decide +kernel)) (m_s_iast sh_305 c486) ?_
  refine m_R_sg (by decide) [(.aload_n 0, 1, 0, 0, 0, 0, 0), (.getfield 13, 3, 0, 12, 1, 3, 1493), (.iload 4, 2, 0, 4, 0, 0, 0), (.iconst 2, 1, 0, 2, 0, 0, 0), (.iadd, 1, 0, 0, 0, 0, 0), (.aload_n 0, 1, 0, 0, 0, 0, 0), (.getfield 13, 3, 0, 12, 1, 3, 1493), (.iconst 0, 1, 0, 0, 0, 0, 0)] (by decide +kernel) (show m_sgl X _ _ _ _ _ = some (124, [some (.ref 304), some (.int v1), w2, some (.int v3), some (.int v4)], [.int (0 : Int32), .ref 305, .int (v4 + (2 : Int32)), .ref 305], (SH, (m_up (m_up m.1 305 v4.toNatClampNeg (m.1 305 ((1220 : Int32) + ((12 : Int32) * (m.1 307 v3.toNatClampNeg))).toNatClampNeg)) 305 (v4 + (1 : Int32)).toNatClampNeg v1), m.2)) from rfl) ?_
  refine m_R_1 (by decide) (m_opb_of (ins := .iaload) (len := 1) (tag := 0) (a := 0) (b := 0) (c := 0) (q := 0) (by decide +kernel)) (m_s_iald sh_305 (by decide) (show ¬ ((0 : Int32) < 0 ∨ 9732 ≤ (0 : Int32).toNatClampNeg) by decide)) ?_
  obtain ⟨c487, h⟩ := m_ite_n h
  refine m_R_1 (by decide) (m_opb_of (ins := .iastore) (len := 1) (tag := 0) (a := 0) (b := 0) (c := 0) (q := 0) (by decide +kernel)) (m_s_iast sh_305 c487) ?_
  exact ok_m_finds_126 X d F _ hk8 _ _ _ _ _ _ _ h
def f_m_finds_8 (F : Nat)   : Nat → Int32 → Int32 → mM → Option (Unit × mM)
  | 0, _, _, _ => none
  | n + 1, v1, v3, m => (if (m.1 304 5) ≤ v3 then some ((), m) else (if v3 < 0 ∨ 400 ≤ v3.toNatClampNeg then none else (if (m.1 308 v3.toNatClampNeg) = 0 then (if (((1220 : Int32) + ((12 : Int32) * (m.1 307 v3.toNatClampNeg))) + (2 : Int32)) < 0 ∨ 9732 ≤ (((1220 : Int32) + ((12 : Int32) * (m.1 307 v3.toNatClampNeg))) + (2 : Int32)).toNatClampNeg then none else (if (60 : Int32) ≤ ((m_up m.1 305 (((1220 : Int32) + ((12 : Int32) * (m.1 307 v3.toNatClampNeg))) + (2 : Int32)).toNatClampNeg (-1 : Int32)) 305 (7 : Int32).toNatClampNeg) then f_m_finds_126 F (f_m_finds_8 F n) v1 v3 ((m_up m.1 305 (((1220 : Int32) + ((12 : Int32) * (m.1 307 v3.toNatClampNeg))) + (2 : Int32)).toNatClampNeg (-1 : Int32)), m.2) else f_m_finds_76 F (f_m_finds_8 F n) v1 v3 ((6020 : Int32) + ((3 : Int32) * ((m_up m.1 305 (((1220 : Int32) + ((12 : Int32) * (m.1 307 v3.toNatClampNeg))) + (2 : Int32)).toNatClampNeg (-1 : Int32)) 305 (7 : Int32).toNatClampNeg))) ((m_up m.1 305 (((1220 : Int32) + ((12 : Int32) * (m.1 307 v3.toNatClampNeg))) + (2 : Int32)).toNatClampNeg (-1 : Int32)), m.2))) else f_m_finds_137 F (f_m_finds_8 F n) v1 v3 m)))
theorem ok_m_finds_8 (X : mX) (d F : Nat) : ∀ (n : Nat) (v1 : Int32) (v3 : Int32) (w2 : Option Value) (w4 : Option Value) (m : mM) (r : Unit) (m' : mM), f_m_finds_8 F n v1 v3 m = some (r, m') → m_R X (d + 2) 253 8 [some (.ref 304), some (.int v1), w2, some (.int v3), w4] [] (SH, m) (none, (SH, m')) := by
  intro n
  induction n with
  | zero => intro v1 v3 w2 w4 m r m' h; cases h
  | succ n ih =>
    intro v1 v3 w2 w4 m r m' h
    simp only [f_m_finds_8] at h
    refine m_R_sg (by decide) [(.iload_n 3, 1, 0, 3, 0, 0, 0), (.aload_n 0, 1, 0, 0, 0, 0, 0), (.getfield 92, 3, 0, 12, 5, 0, 1497)] (by decide +kernel) (show m_sgl X _ _ _ _ _ = some (13, [some (.ref 304), some (.int v1), w2, some (.int v3), w4], [.int (m.1 304 5), .int v3], (SH, m.1, m.2)) from rfl) ?_
    rcases m_ite h with ⟨c488, h⟩ | ⟨c488, h⟩
    · refine m_R_1 (by decide) (m_opb_of (ins := .if_icmp .ge 130) (len := 3) (tag := 0) (a := 143) (b := 0) (c := 0) (q := 0) (by decide +kernel)) (if_pos c488) ?_
      obtain ⟨rfl, rfl⟩ := m_some h
      exact m_R_vret (by decide) (m_opb_of (ins := .return_) (len := 1) (tag := 3) (a := 0) (b := 0) (c := 0) (q := 0) (by decide +kernel))
    · refine m_R_1 (by decide) (m_opb_of (ins := .if_icmp .ge 130) (len := 3) (tag := 0) (a := 143) (b := 0) (c := 0) (q := 0) (by decide +kernel)) (if_neg c488) ?_
      refine m_R_sg (by decide) [(.aload_n 0, 1, 0, 0, 0, 0, 0), (.getfield 23, 3, 0, 12, 4, 3, 1496), (.iload_n 3, 1, 0, 3, 0, 0, 0)] (by decide +kernel) (show m_sgl X _ _ _ _ _ = some (21, [some (.ref 304), some (.int v1), w2, some (.int v3), w4], [.int v3, .ref 308], (SH, m.1, m.2)) from rfl) ?_
      obtain ⟨c489, h⟩ := m_ite_n h
      refine m_R_1 (by decide) (m_opb_of (ins := .baload) (len := 1) (tag := 0) (a := 0) (b := 0) (c := 0) (q := 0) (by decide +kernel)) (m_s_bald sh_308 c489) ?_
      rcases m_ite h with ⟨c490, h⟩ | ⟨c490, h⟩
      · refine m_R_1 (by decide) (m_opb_of (ins := .ifCond .eq 6) (len := 3) (tag := 0) (a := 28) (b := 0) (c := 0) (q := 0) (by decide +kernel)) (if_pos c490) ?_
        refine m_R_sg (by decide) [(.aload_n 0, 1, 0, 0, 0, 0, 0), (.getfield 13, 3, 0, 12, 1, 3, 1493), (.sipush 1220, 3, 0, 1220, 0, 0, 0), (.bipush 12, 2, 0, 12, 0, 0, 0), (.aload_n 0, 1, 0, 0, 0, 0, 0), (.getfield 20, 3, 0, 12, 3, 3, 1495), (.iload_n 3, 1, 0, 3, 0, 0, 0)] (by decide +kernel) (show m_sgl X _ _ _ _ _ = some (42, [some (.ref 304), some (.int v1), w2, some (.int v3), w4], [.int v3, .ref 307, .int (12 : Int32), .int (1220 : Int32), .ref 305], (SH, m.1, m.2)) from rfl) ?_
        refine m_R_1 (by decide) (m_opb_of (ins := .iaload) (len := 1) (tag := 0) (a := 0) (b := 0) (c := 0) (q := 0) (by decide +kernel)) (m_s_iald sh_307 (by decide) c489) ?_
        refine m_R_sg (by decide) [(.imul, 1, 0, 0, 0, 0, 0), (.iadd, 1, 0, 0, 0, 0, 0), (.iconst 2, 1, 0, 2, 0, 0, 0), (.iadd, 1, 0, 0, 0, 0, 0), (.iconst (-1), 1, 0, 1, 1, 0, 0)] (by decide +kernel) (show m_sgl X _ _ _ _ _ = some (48, [some (.ref 304), some (.int v1), w2, some (.int v3), w4], [.int (-1 : Int32), .int (((1220 : Int32) + ((12 : Int32) * (m.1 307 v3.toNatClampNeg))) + (2 : Int32)), .ref 305], (SH, m.1, m.2)) from rfl) ?_
        obtain ⟨c491, h⟩ := m_ite_n h
        refine m_R_1 (by decide) (m_opb_of (ins := .iastore) (len := 1) (tag := 0) (a := 0) (b := 0) (c := 0) (q := 0) (by decide +kernel)) (m_s_iast sh_305 c491) ?_
        refine m_R_sg (by decide) [(.aload_n 0, 1, 0, 0, 0, 0, 0), (.getfield 13, 3, 0, 12, 1, 3, 1493), (.bipush 7, 2, 0, 7, 0, 0, 0)] (by decide +kernel) (show m_sgl X _ _ _ _ _ = some (55, [some (.ref 304), some (.int v1), w2, some (.int v3), w4], [.int (7 : Int32), .ref 305], (SH, (m_up m.1 305 (((1220 : Int32) + ((12 : Int32) * (m.1 307 v3.toNatClampNeg))) + (2 : Int32)).toNatClampNeg (-1 : Int32)), m.2)) from rfl) ?_
        refine m_R_1 (by decide) (m_opb_of (ins := .iaload) (len := 1) (tag := 0) (a := 0) (b := 0) (c := 0) (q := 0) (by decide +kernel)) (m_s_iald sh_305 (by decide) (show ¬ ((7 : Int32) < 0 ∨ 9732 ≤ (7 : Int32).toNatClampNeg) by decide)) ?_
        refine m_R_sg (by decide) [(.bipush 60, 2, 0, 60, 0, 0, 0)] (by decide +kernel) (show m_sgl X _ _ _ _ _ = some (58, [some (.ref 304), some (.int v1), w2, some (.int v3), w4], [.int (60 : Int32), .int ((m_up m.1 305 (((1220 : Int32) + ((12 : Int32) * (m.1 307 v3.toNatClampNeg))) + (2 : Int32)).toNatClampNeg (-1 : Int32)) 305 (7 : Int32).toNatClampNeg)], (SH, (m_up m.1 305 (((1220 : Int32) + ((12 : Int32) * (m.1 307 v3.toNatClampNeg))) + (2 : Int32)).toNatClampNeg (-1 : Int32)), m.2)) from rfl) ?_
        rcases m_ite h with ⟨c492, h⟩ | ⟨c492, h⟩
        · refine m_R_1 (by decide) (m_opb_of (ins := .if_icmp .ge 68) (len := 3) (tag := 0) (a := 126) (b := 0) (c := 0) (q := 0) (by decide +kernel)) (if_pos c492) ?_
          exact ok_m_finds_126 X d F _ (fun a0 a1 a2 a3 m r m' h => ih a0 a1 a2 a3 m r m' h) _ _ _ _ _ _ _ h
        · refine m_R_1 (by decide) (m_opb_of (ins := .if_icmp .ge 68) (len := 3) (tag := 0) (a := 126) (b := 0) (c := 0) (q := 0) (by decide +kernel)) (if_neg c492) ?_
          refine m_R_sg (by decide) [(.sipush 6020, 3, 0, 6020, 0, 0, 0), (.iconst 3, 1, 0, 3, 0, 0, 0), (.aload_n 0, 1, 0, 0, 0, 0, 0), (.getfield 13, 3, 0, 12, 1, 3, 1493), (.bipush 7, 2, 0, 7, 0, 0, 0)] (by decide +kernel) (show m_sgl X _ _ _ _ _ = some (71, [some (.ref 304), some (.int v1), w2, some (.int v3), w4], [.int (7 : Int32), .ref 305, .int (3 : Int32), .int (6020 : Int32)], (SH, (m_up m.1 305 (((1220 : Int32) + ((12 : Int32) * (m.1 307 v3.toNatClampNeg))) + (2 : Int32)).toNatClampNeg (-1 : Int32)), m.2)) from rfl) ?_
          refine m_R_1 (by decide) (m_opb_of (ins := .iaload) (len := 1) (tag := 0) (a := 0) (b := 0) (c := 0) (q := 0) (by decide +kernel)) (m_s_iald sh_305 (by decide) (show ¬ ((7 : Int32) < 0 ∨ 9732 ≤ (7 : Int32).toNatClampNeg) by decide)) ?_
          refine m_R_sg (by decide) [(.imul, 1, 0, 0, 0, 0, 0), (.iadd, 1, 0, 0, 0, 0, 0), (.istore 4, 2, 0, 4, 0, 0, 0)] (by decide +kernel) (show m_sgl X _ _ _ _ _ = some (76, [some (.ref 304), some (.int v1), w2, some (.int v3), some (.int ((6020 : Int32) + ((3 : Int32) * ((m_up m.1 305 (((1220 : Int32) + ((12 : Int32) * (m.1 307 v3.toNatClampNeg))) + (2 : Int32)).toNatClampNeg (-1 : Int32)) 305 (7 : Int32).toNatClampNeg))))], [], (SH, (m_up m.1 305 (((1220 : Int32) + ((12 : Int32) * (m.1 307 v3.toNatClampNeg))) + (2 : Int32)).toNatClampNeg (-1 : Int32)), m.2)) from rfl) ?_
          exact ok_m_finds_76 X d F _ (fun a0 a1 a2 a3 m r m' h => ih a0 a1 a2 a3 m r m' h) _ _ _ _ _ _ _ h
      · refine m_R_1 (by decide) (m_opb_of (ins := .ifCond .eq 6) (len := 3) (tag := 0) (a := 28) (b := 0) (c := 0) (q := 0) (by decide +kernel)) (if_neg c490) ?_
        refine m_R_sg (by decide) [(.goto 112, 3, 0, 137, 0, 0, 0)] (by decide +kernel) (show m_sgl X _ _ _ _ _ = some (137, [some (.ref 304), some (.int v1), w2, some (.int v3), w4], [], (SH, m.1, m.2)) from rfl) ?_
        exact ok_m_finds_137 X d F _ (fun a0 a1 a2 a3 m r m' h => ih a0 a1 a2 a3 m r m' h) _ _ _ _ _ _ _ h
def f_m_finds (F : Nat)   (v1 : Int32) (m : mM) : Option (Unit × mM) := ((f_m_collect F v1 m).bind fun q1 => f_m_finds_8 F F v1 (0 : Int32) q1.2)
theorem ok_m_finds (X : mX) (d F : Nat) : ∀ (v1 : Int32)  (m : mM) (r : Unit) (m' : mM), f_m_finds F v1 m = some (r, m') → m_R X (d + 2) 253 0 [some (.ref 304), some (.int v1), none, none, none] [] (SH, m) (none, (SH, m')) := by
  intro v1 m r m' h
  unfold f_m_finds at h
  refine m_R_sg (by decide) [(.aload_n 0, 1, 0, 0, 0, 0, 0), (.iload_n 1, 1, 0, 1, 0, 0, 0)] (by decide +kernel) (show m_sgl X _ _ _ _ _ = some (2, [some (.ref 304), some (.int v1), none, none, none], [.int v1, .ref 304], (SH, m.1, m.2)) from rfl) ?_
  obtain ⟨q1, hc1, h⟩ := Option.bind_eq_some_iff.mp h
  refine m_R_cV (v := (some (.int q1.1))) (h1 := (SH, q1.2)) (rest := []) (lo' := [some (.ref 304), some (.int v1), none, none, none]) (ml := 5) (k0 := 304) (by decide) (Or.inl rfl) (m_opb_of (ins := .invokevirtual 106) (len := 3) (tag := 5) (a := 247) (b := 1) (c := 0) (q := 1806) (by decide +kernel)) (by decide +kernel) rfl (show m_isO 247 304 (SH, _) = true from m_isO_of (by decide +kernel)) (Nat.le_of_ble_eq_true rfl) rfl rfl (ok_m_collect X (d + 0) F _ _ _ _ hc1) ?_
  refine m_R_sg (by decide) [(.istore_n 2, 1, 0, 2, 0, 0, 0), (.iconst 0, 1, 0, 0, 0, 0, 0), (.istore_n 3, 1, 0, 3, 0, 0, 0)] (by decide +kernel) (show m_sgl X _ _ _ _ _ = some (8, [some (.ref 304), some (.int v1), some (.int q1.1), some (.int (0 : Int32)), none], [], (SH, q1.2.1, q1.2.2)) from rfl) ?_
  exact ok_m_finds_8 X d F F _ _ _ _ _ _ _ h
def f_m_moves_54 (F : Nat)   (v1 : Int32) (v3 : Int32) (m : mM) : Option (Unit × mM) := (if (((320 : Int32) + ((3 : Int32) * v3)) + (1 : Int32)) < 0 ∨ 9732 ≤ (((320 : Int32) + ((3 : Int32) * v3)) + (1 : Int32)).toNatClampNeg then none else some ((), ((m_up m.1 305 (((320 : Int32) + ((3 : Int32) * v3)) + (1 : Int32)).toNatClampNeg v1), m.2)))
theorem ok_m_moves_54 (X : mX) (d F : Nat) : ∀ (v1 : Int32) (v3 : Int32) (w2 : Option Value) (m : mM) (r : Unit) (m' : mM), f_m_moves_54 F v1 v3 m = some (r, m') → m_R X (d + 1) 254 54 [some (.ref 304), some (.int v1), w2, some (.int v3)] [] (SH, m) (none, (SH, m')) := by
  intro v1 v3 w2 m r m' h
  unfold f_m_moves_54 at h
  refine m_R_sg (by decide) [(.aload_n 0, 1, 0, 0, 0, 0, 0), (.getfield 13, 3, 0, 12, 1, 3, 1493), (.sipush 320, 3, 0, 320, 0, 0, 0), (.iconst 3, 1, 0, 3, 0, 0, 0), (.iload_n 3, 1, 0, 3, 0, 0, 0), (.imul, 1, 0, 0, 0, 0, 0), (.iadd, 1, 0, 0, 0, 0, 0), (.iconst 1, 1, 0, 1, 0, 0, 0), (.iadd, 1, 0, 0, 0, 0, 0), (.iload_n 1, 1, 0, 1, 0, 0, 0)] (by decide +kernel) (show m_sgl X _ _ _ _ _ = some (68, [some (.ref 304), some (.int v1), w2, some (.int v3)], [.int v1, .int (((320 : Int32) + ((3 : Int32) * v3)) + (1 : Int32)), .ref 305], (SH, m.1, m.2)) from rfl) ?_
  obtain ⟨c493, h⟩ := m_ite_n h
  refine m_R_1 (by decide) (m_opb_of (ins := .iastore) (len := 1) (tag := 0) (a := 0) (b := 0) (c := 0) (q := 0) (by decide +kernel)) (m_s_iast sh_305 c493) ?_
  obtain ⟨rfl, rfl⟩ := m_some h
  exact m_R_vret (by decide) (m_opb_of (ins := .return_) (len := 1) (tag := 3) (a := 0) (b := 0) (c := 0) (q := 0) (by decide +kernel))
def f_m_moves (F : Nat)   (v1 : Int32) (v2 : Int32) (m : mM) : Option (Unit × mM) := (if (((1220 : Int32) + ((12 : Int32) * v1)) + (2 : Int32)) < 0 ∨ 9732 ≤ (((1220 : Int32) + ((12 : Int32) * v1)) + (2 : Int32)).toNatClampNeg then none else ((f_m_trails F v1 v2 ((m_up m.1 305 (((1220 : Int32) + ((12 : Int32) * v1)) + (2 : Int32)).toNatClampNeg v2), m.2)).bind fun q1 => (if v2 ≤ 0 then (if ((1220 : Int32) + ((12 : Int32) * v1)) < 0 ∨ 9732 ≤ ((1220 : Int32) + ((12 : Int32) * v1)).toNatClampNeg then none else (if ((320 : Int32) + ((3 : Int32) * (q1.2.1 305 ((1220 : Int32) + ((12 : Int32) * v1)).toNatClampNeg))) < 0 ∨ 9732 ≤ ((320 : Int32) + ((3 : Int32) * (q1.2.1 305 ((1220 : Int32) + ((12 : Int32) * v1)).toNatClampNeg))).toNatClampNeg then none else f_m_moves_54 F v1 (q1.2.1 305 ((1220 : Int32) + ((12 : Int32) * v1)).toNatClampNeg) ((m_up q1.2.1 305 ((320 : Int32) + ((3 : Int32) * (q1.2.1 305 ((1220 : Int32) + ((12 : Int32) * v1)).toNatClampNeg))).toNatClampNeg (2 : Int32)), q1.2.2))) else some ((), q1.2))))
theorem ok_m_moves (X : mX) (d F : Nat) : ∀ (v1 : Int32) (v2 : Int32)  (m : mM) (r : Unit) (m' : mM), f_m_moves F v1 v2 m = some (r, m') → m_R X (d + 1) 254 0 [some (.ref 304), some (.int v1), some (.int v2), none] [] (SH, m) (none, (SH, m')) := by
  intro v1 v2 m r m' h
  unfold f_m_moves at h
  refine m_R_sg (by decide) [(.aload_n 0, 1, 0, 0, 0, 0, 0), (.getfield 13, 3, 0, 12, 1, 3, 1493), (.sipush 1220, 3, 0, 1220, 0, 0, 0), (.bipush 12, 2, 0, 12, 0, 0, 0), (.iload_n 1, 1, 0, 1, 0, 0, 0), (.imul, 1, 0, 0, 0, 0, 0), (.iadd, 1, 0, 0, 0, 0, 0), (.iconst 2, 1, 0, 2, 0, 0, 0), (.iadd, 1, 0, 0, 0, 0, 0), (.iload_n 2, 1, 0, 2, 0, 0, 0)] (by decide +kernel) (show m_sgl X _ _ _ _ _ = some (15, [some (.ref 304), some (.int v1), some (.int v2), none], [.int v2, .int (((1220 : Int32) + ((12 : Int32) * v1)) + (2 : Int32)), .ref 305], (SH, m.1, m.2)) from rfl) ?_
  obtain ⟨c494, h⟩ := m_ite_n h
  refine m_R_1 (by decide) (m_opb_of (ins := .iastore) (len := 1) (tag := 0) (a := 0) (b := 0) (c := 0) (q := 0) (by decide +kernel)) (m_s_iast sh_305 c494) ?_
  refine m_R_sg (by decide) [(.aload_n 0, 1, 0, 0, 0, 0, 0), (.iload_n 1, 1, 0, 1, 0, 0, 0), (.iload_n 2, 1, 0, 2, 0, 0, 0)] (by decide +kernel) (show m_sgl X _ _ _ _ _ = some (19, [some (.ref 304), some (.int v1), some (.int v2), none], [.int v2, .int v1, .ref 304], (SH, (m_up m.1 305 (((1220 : Int32) + ((12 : Int32) * v1)) + (2 : Int32)).toNatClampNeg v2), m.2)) from rfl) ?_
  obtain ⟨q1, hc1, h⟩ := Option.bind_eq_some_iff.mp h
  refine m_R_cV (v := none) (h1 := (SH, q1.2)) (rest := []) (lo' := [some (.ref 304), some (.int v1), some (.int v2), none]) (ml := 4) (k0 := 304) (by decide) (Or.inl rfl) (m_opb_of (ins := .invokevirtual 102) (len := 3) (tag := 5) (a := 251) (b := 2) (c := 0) (q := 1822) (by decide +kernel)) (by decide +kernel) rfl (show m_isO 251 304 (SH, _) = true from m_isO_of (by decide +kernel)) (Nat.le_of_ble_eq_true rfl) rfl rfl (ok_m_trails X (d + 0) F _ _ _ _ _ hc1) ?_
  refine m_R_sg (by decide) [(.iload_n 2, 1, 0, 2, 0, 0, 0)] (by decide +kernel) (show m_sgl X _ _ _ _ _ = some (23, [some (.ref 304), some (.int v1), some (.int v2), none], [.int v2], (SH, q1.2.1, q1.2.2)) from rfl) ?_
  rcases m_ite h with ⟨c495, h⟩ | ⟨c495, h⟩
  · refine m_R_1 (by decide) (m_opb_of (ins := .ifCond .le 4) (len := 3) (tag := 0) (a := 27) (b := 0) (c := 0) (q := 0) (by decide +kernel)) (if_pos c495) ?_
    refine m_R_sg (by decide) [(.aload_n 0, 1, 0, 0, 0, 0, 0), (.getfield 13, 3, 0, 12, 1, 3, 1493), (.sipush 1220, 3, 0, 1220, 0, 0, 0), (.bipush 12, 2, 0, 12, 0, 0, 0), (.iload_n 1, 1, 0, 1, 0, 0, 0), (.imul, 1, 0, 0, 0, 0, 0), (.iadd, 1, 0, 0, 0, 0, 0)] (by decide +kernel) (show m_sgl X _ _ _ _ _ = some (39, [some (.ref 304), some (.int v1), some (.int v2), none], [.int ((1220 : Int32) + ((12 : Int32) * v1)), .ref 305], (SH, q1.2.1, q1.2.2)) from rfl) ?_
    obtain ⟨c496, h⟩ := m_ite_n h
    refine m_R_1 (by decide) (m_opb_of (ins := .iaload) (len := 1) (tag := 0) (a := 0) (b := 0) (c := 0) (q := 0) (by decide +kernel)) (m_s_iald sh_305 (by decide) c496) ?_
    refine m_R_sg (by decide) [(.istore_n 3, 1, 0, 3, 0, 0, 0), (.aload_n 0, 1, 0, 0, 0, 0, 0), (.getfield 13, 3, 0, 12, 1, 3, 1493), (.sipush 320, 3, 0, 320, 0, 0, 0), (.iconst 3, 1, 0, 3, 0, 0, 0), (.iload_n 3, 1, 0, 3, 0, 0, 0), (.imul, 1, 0, 0, 0, 0, 0), (.iadd, 1, 0, 0, 0, 0, 0), (.iconst 2, 1, 0, 2, 0, 0, 0)] (by decide +kernel) (show m_sgl X _ _ _ _ _ = some (53, [some (.ref 304), some (.int v1), some (.int v2), some (.int (q1.2.1 305 ((1220 : Int32) + ((12 : Int32) * v1)).toNatClampNeg))], [.int (2 : Int32), .int ((320 : Int32) + ((3 : Int32) * (q1.2.1 305 ((1220 : Int32) + ((12 : Int32) * v1)).toNatClampNeg))), .ref 305], (SH, q1.2.1, q1.2.2)) from rfl) ?_
    obtain ⟨c497, h⟩ := m_ite_n h
    refine m_R_1 (by decide) (m_opb_of (ins := .iastore) (len := 1) (tag := 0) (a := 0) (b := 0) (c := 0) (q := 0) (by decide +kernel)) (m_s_iast sh_305 c497) ?_
    exact ok_m_moves_54 X d F _ _ _ _ _ _ h
  · refine m_R_1 (by decide) (m_opb_of (ins := .ifCond .le 4) (len := 3) (tag := 0) (a := 27) (b := 0) (c := 0) (q := 0) (by decide +kernel)) (if_neg c495) ?_
    obtain ⟨rfl, rfl⟩ := m_some h
    exact m_R_vret (by decide) (m_opb_of (ins := .return_) (len := 1) (tag := 3) (a := 0) (b := 0) (c := 0) (q := 0) (by decide +kernel))
def f_m_gives_127 (F : Nat)    (m : mM) : Option (Unit × mM) := some ((), m)
theorem ok_m_gives_127 (X : mX) (d F : Nat) : ∀  (w0 : Option Value) (w1 : Option Value) (w2 : Option Value) (w3 : Option Value) (w4 : Option Value) (w5 : Option Value) (w6 : Option Value) (m : mM) (r : Unit) (m' : mM), f_m_gives_127 F  m = some (r, m') → m_R X (d + 3) 249 127 [w0, w1, w2, w3, w4, w5, w6] [] (SH, m) (none, (SH, m')) := by
  intro w0 w1 w2 w3 w4 w5 w6 m r m' h
  unfold f_m_gives_127 at h
  obtain ⟨rfl, rfl⟩ := m_some h
  exact m_R_vret (by decide) (m_opb_of (ins := .return_) (len := 1) (tag := 3) (a := 0) (b := 0) (c := 0) (q := 0) (by decide +kernel))
def f_m_gives_87 (F : Nat)   (v1 : Int32) (v2 : Int32) (v4 : Int32) (m : mM) : Option (Unit × mM) := (if (((128 : Int32) + ((12 : Int32) * v1)) + (2 : Int32)) < 0 ∨ 9732 ≤ (((128 : Int32) + ((12 : Int32) * v1)) + (2 : Int32)).toNatClampNeg then none else (if (((128 : Int32) + ((12 : Int32) * v2)) + (2 : Int32)) < 0 ∨ 9732 ≤ (((128 : Int32) + ((12 : Int32) * v2)) + (2 : Int32)).toNatClampNeg then none else f_m_gives_127 F ((m_up (m_up m.1 305 (((128 : Int32) + ((12 : Int32) * v1)) + (2 : Int32)).toNatClampNeg ((m.1 305 (((128 : Int32) + ((12 : Int32) * v1)) + (2 : Int32)).toNatClampNeg) - v4)) 305 (((128 : Int32) + ((12 : Int32) * v2)) + (2 : Int32)).toNatClampNeg (((m_up m.1 305 (((128 : Int32) + ((12 : Int32) * v1)) + (2 : Int32)).toNatClampNeg ((m.1 305 (((128 : Int32) + ((12 : Int32) * v1)) + (2 : Int32)).toNatClampNeg) - v4)) 305 (((128 : Int32) + ((12 : Int32) * v2)) + (2 : Int32)).toNatClampNeg) + v4)), m.2)))
theorem ok_m_gives_87 (X : mX) (d F : Nat) : ∀ (v1 : Int32) (v2 : Int32) (v4 : Int32) (w3 : Option Value) (w5 : Option Value) (w6 : Option Value) (m : mM) (r : Unit) (m' : mM), f_m_gives_87 F v1 v2 v4 m = some (r, m') → m_R X (d + 3) 249 87 [some (.ref 304), some (.int v1), some (.int v2), w3, some (.int v4), w5, w6] [] (SH, m) (none, (SH, m')) := by
  intro v1 v2 v4 w3 w5 w6 m r m' h
  unfold f_m_gives_87 at h
  refine m_R_sg (by decide) [(.aload_n 0, 1, 0, 0, 0, 0, 0), (.getfield 13, 3, 0, 12, 1, 3, 1493), (.sipush 128, 3, 0, 128, 0, 0, 0), (.bipush 12, 2, 0, 12, 0, 0, 0), (.iload_n 1, 1, 0, 1, 0, 0, 0), (.imul, 1, 0, 0, 0, 0, 0), (.iadd, 1, 0, 0, 0, 0, 0), (.iconst 2, 1, 0, 2, 0, 0, 0), (.iadd, 1, 0, 0, 0, 0, 0), (.dup2, 1, 0, 0, 0, 0, 0)] (by decide +kernel) (show m_sgl X _ _ _ _ _ = some (102, [some (.ref 304), some (.int v1), some (.int v2), w3, some (.int v4), w5, w6], [.int (((128 : Int32) + ((12 : Int32) * v1)) + (2 : Int32)), .ref 305, .int (((128 : Int32) + ((12 : Int32) * v1)) + (2 : Int32)), .ref 305], (SH, m.1, m.2)) from rfl) ?_
  obtain ⟨c498, h⟩ := m_ite_n h
  refine m_R_1 (by decide) (m_opb_of (ins := .iaload) (len := 1) (tag := 0) (a := 0) (b := 0) (c := 0) (q := 0) (by decide +kernel)) (m_s_iald sh_305 (by decide) c498) ?_
  refine m_R_sg (by decide) [(.iload 4, 2, 0, 4, 0, 0, 0), (.isub, 1, 0, 0, 0, 0, 0)] (by decide +kernel) (show m_sgl X _ _ _ _ _ = some (106, [some (.ref 304), some (.int v1), some (.int v2), w3, some (.int v4), w5, w6], [.int ((m.1 305 (((128 : Int32) + ((12 : Int32) * v1)) + (2 : Int32)).toNatClampNeg) - v4), .int (((128 : Int32) + ((12 : Int32) * v1)) + (2 : Int32)), .ref 305], (SH, m.1, m.2)) from rfl) ?_
  refine m_R_1 (by decide) (m_opb_of (ins := .iastore) (len := 1) (tag := 0) (a := 0) (b := 0) (c := 0) (q := 0) (by decide +kernel)) (m_s_iast sh_305 c498) ?_
  refine m_R_sg (by decide) [(.aload_n 0, 1, 0, 0, 0, 0, 0), (.getfield 13, 3, 0, 12, 1, 3, 1493), (.sipush 128, 3, 0, 128, 0, 0, 0), (.bipush 12, 2, 0, 12, 0, 0, 0), (.iload_n 2, 1, 0, 2, 0, 0, 0), (.imul, 1, 0, 0, 0, 0, 0), (.iadd, 1, 0, 0, 0, 0, 0), (.iconst 2, 1, 0, 2, 0, 0, 0), (.iadd, 1, 0, 0, 0, 0, 0), (.dup2, 1, 0, 0, 0, 0, 0)] (by decide +kernel) (show m_sgl X _ _ _ _ _ = some (122, [some (.ref 304), some (.int v1), some (.int v2), w3, some (.int v4), w5, w6], [.int (((128 : Int32) + ((12 : Int32) * v2)) + (2 : Int32)), .ref 305, .int (((128 : Int32) + ((12 : Int32) * v2)) + (2 : Int32)), .ref 305], (SH, (m_up m.1 305 (((128 : Int32) + ((12 : Int32) * v1)) + (2 : Int32)).toNatClampNeg ((m.1 305 (((128 : Int32) + ((12 : Int32) * v1)) + (2 : Int32)).toNatClampNeg) - v4)), m.2)) from rfl) ?_
  obtain ⟨c499, h⟩ := m_ite_n h
  refine m_R_1 (by decide) (m_opb_of (ins := .iaload) (len := 1) (tag := 0) (a := 0) (b := 0) (c := 0) (q := 0) (by decide +kernel)) (m_s_iald sh_305 (by decide) c499) ?_
  refine m_R_sg (by decide) [(.iload 4, 2, 0, 4, 0, 0, 0), (.iadd, 1, 0, 0, 0, 0, 0)] (by decide +kernel) (show m_sgl X _ _ _ _ _ = some (126, [some (.ref 304), some (.int v1), some (.int v2), w3, some (.int v4), w5, w6], [.int (((m_up m.1 305 (((128 : Int32) + ((12 : Int32) * v1)) + (2 : Int32)).toNatClampNeg ((m.1 305 (((128 : Int32) + ((12 : Int32) * v1)) + (2 : Int32)).toNatClampNeg) - v4)) 305 (((128 : Int32) + ((12 : Int32) * v2)) + (2 : Int32)).toNatClampNeg) + v4), .int (((128 : Int32) + ((12 : Int32) * v2)) + (2 : Int32)), .ref 305], (SH, (m_up m.1 305 (((128 : Int32) + ((12 : Int32) * v1)) + (2 : Int32)).toNatClampNeg ((m.1 305 (((128 : Int32) + ((12 : Int32) * v1)) + (2 : Int32)).toNatClampNeg) - v4)), m.2)) from rfl) ?_
  refine m_R_1 (by decide) (m_opb_of (ins := .iastore) (len := 1) (tag := 0) (a := 0) (b := 0) (c := 0) (q := 0) (by decide +kernel)) (m_s_iast sh_305 c499) ?_
  exact ok_m_gives_127 X d F _ _ _ _ _ _ _ _ _ _ h
def f_m_gives_50 (F : Nat)   : Nat → Int32 → Int32 → Int32 → Int32 → mM → Option (Unit × mM)
  | 0, _, _, _, _, _ => none
  | n + 1, v1, v2, v4, v6, m => (if (m.1 304 5) ≤ v6 then f_m_gives_87 F v1 v2 v4 m else (if v4 < (10 : Int32) then f_m_gives_87 F v1 v2 v4 m else (if v6 < 0 ∨ 400 ≤ v6.toNatClampNeg then none else ((f_m_moves F (m.1 307 v6.toNatClampNeg) v2 m).bind fun q4 => f_m_gives_50 F n v1 v2 (v4 + (-10 : Int32)) (v6 + (1 : Int32)) q4.2))))
theorem ok_m_gives_50 (X : mX) (d F : Nat) : ∀ (n : Nat) (v1 : Int32) (v2 : Int32) (v4 : Int32) (v6 : Int32) (w3 : Option Value) (w5 : Option Value) (m : mM) (r : Unit) (m' : mM), f_m_gives_50 F n v1 v2 v4 v6 m = some (r, m') → m_R X (d + 3) 249 50 [some (.ref 304), some (.int v1), some (.int v2), w3, some (.int v4), w5, some (.int v6)] [] (SH, m) (none, (SH, m')) := by
  intro n
  induction n with
  | zero => intro v1 v2 v4 v6 w3 w5 m r m' h; cases h
  | succ n ih =>
    intro v1 v2 v4 v6 w3 w5 m r m' h
    simp only [f_m_gives_50] at h
    refine m_R_sg (by decide) [(.iload 6, 2, 0, 6, 0, 0, 0), (.aload_n 0, 1, 0, 0, 0, 0, 0), (.getfield 92, 3, 0, 12, 5, 0, 1497)] (by decide +kernel) (show m_sgl X _ _ _ _ _ = some (56, [some (.ref 304), some (.int v1), some (.int v2), w3, some (.int v4), w5, some (.int v6)], [.int (m.1 304 5), .int v6], (SH, m.1, m.2)) from rfl) ?_
    rcases m_ite h with ⟨c500, h⟩ | ⟨c500, h⟩
    · refine m_R_1 (by decide) (m_opb_of (ins := .if_icmp .ge 31) (len := 3) (tag := 0) (a := 87) (b := 0) (c := 0) (q := 0) (by decide +kernel)) (if_pos c500) ?_
      exact ok_m_gives_87 X d F _ _ _ _ _ _ _ _ _ h
    · refine m_R_1 (by decide) (m_opb_of (ins := .if_icmp .ge 31) (len := 3) (tag := 0) (a := 87) (b := 0) (c := 0) (q := 0) (by decide +kernel)) (if_neg c500) ?_
      refine m_R_sg (by decide) [(.iload 4, 2, 0, 4, 0, 0, 0), (.bipush 10, 2, 0, 10, 0, 0, 0)] (by decide +kernel) (show m_sgl X _ _ _ _ _ = some (63, [some (.ref 304), some (.int v1), some (.int v2), w3, some (.int v4), w5, some (.int v6)], [.int (10 : Int32), .int v4], (SH, m.1, m.2)) from rfl) ?_
      rcases m_ite h with ⟨c501, h⟩ | ⟨c501, h⟩
      · refine m_R_1 (by decide) (m_opb_of (ins := .if_icmp .lt 24) (len := 3) (tag := 0) (a := 87) (b := 0) (c := 0) (q := 0) (by decide +kernel)) (if_pos c501) ?_
        exact ok_m_gives_87 X d F _ _ _ _ _ _ _ _ _ h
      · refine m_R_1 (by decide) (m_opb_of (ins := .if_icmp .lt 24) (len := 3) (tag := 0) (a := 87) (b := 0) (c := 0) (q := 0) (by decide +kernel)) (if_neg c501) ?_
        refine m_R_sg (by decide) [(.aload_n 0, 1, 0, 0, 0, 0, 0), (.aload_n 0, 1, 0, 0, 0, 0, 0), (.getfield 20, 3, 0, 12, 3, 3, 1495), (.iload 6, 2, 0, 6, 0, 0, 0)] (by decide +kernel) (show m_sgl X _ _ _ _ _ = some (73, [some (.ref 304), some (.int v1), some (.int v2), w3, some (.int v4), w5, some (.int v6)], [.int v6, .ref 307, .ref 304], (SH, m.1, m.2)) from rfl) ?_
        obtain ⟨c502, h⟩ := m_ite_n h
        refine m_R_1 (by decide) (m_opb_of (ins := .iaload) (len := 1) (tag := 0) (a := 0) (b := 0) (c := 0) (q := 0) (by decide +kernel)) (m_s_iald sh_307 (by decide) c502) ?_
        refine m_R_sg (by decide) [(.iload_n 2, 1, 0, 2, 0, 0, 0)] (by decide +kernel) (show m_sgl X _ _ _ _ _ = some (75, [some (.ref 304), some (.int v1), some (.int v2), w3, some (.int v4), w5, some (.int v6)], [.int v2, .int (m.1 307 v6.toNatClampNeg), .ref 304], (SH, m.1, m.2)) from rfl) ?_
        obtain ⟨q4, hc4, h⟩ := Option.bind_eq_some_iff.mp h
        refine m_R_cV (v := none) (h1 := (SH, q4.2)) (rest := []) (lo' := [some (.ref 304), some (.int (m.1 307 v6.toNatClampNeg)), some (.int v2), none]) (ml := 4) (k0 := 304) (by decide) (Or.inl rfl) (m_opb_of (ins := .invokevirtual 141) (len := 3) (tag := 5) (a := 254) (b := 2) (c := 0) (q := 1834) (by decide +kernel)) (by decide +kernel) rfl (show m_isO 254 304 (SH, _) = true from m_isO_of (by decide +kernel)) (Nat.le_of_ble_eq_true rfl) rfl rfl (ok_m_moves X (d + 1) F _ _ _ _ _ hc4) ?_
        refine m_R_sg (by decide) [(.iinc 4 (-10), 3, 0, 4, 10, 1, 0), (.iinc 6 1, 3, 0, 6, 1, 0, 0), (.goto (-34), 3, 0, 50, 0, 0, 0)] (by decide +kernel) (show m_sgl X _ _ _ _ _ = some (50, [some (.ref 304), some (.int v1), some (.int v2), w3, some (.int (v4 + (-10 : Int32))), w5, some (.int (v6 + (1 : Int32)))], [], (SH, q4.2.1, q4.2.2)) from rfl) ?_
        exact ih _ _ _ _ _ _ _ _ _ h
def f_m_gives_40 (F : Nat)   (v1 : Int32) (v2 : Int32) (v4 : Int32) (m : mM) : Option (Unit × mM) := ((f_m_collect F v1 m).bind fun q3 => f_m_gives_50 F F v1 v2 v4 (0 : Int32) q3.2)
theorem ok_m_gives_40 (X : mX) (d F : Nat) : ∀ (v1 : Int32) (v2 : Int32) (v4 : Int32) (w3 : Option Value) (w5 : Option Value) (w6 : Option Value) (m : mM) (r : Unit) (m' : mM), f_m_gives_40 F v1 v2 v4 m = some (r, m') → m_R X (d + 3) 249 40 [some (.ref 304), some (.int v1), some (.int v2), w3, some (.int v4), w5, w6] [] (SH, m) (none, (SH, m')) := by
  intro v1 v2 v4 w3 w5 w6 m r m' h
  unfold f_m_gives_40 at h
  refine m_R_sg (by decide) [(.aload_n 0, 1, 0, 0, 0, 0, 0), (.iload_n 1, 1, 0, 1, 0, 0, 0)] (by decide +kernel) (show m_sgl X _ _ _ _ _ = some (42, [some (.ref 304), some (.int v1), some (.int v2), w3, some (.int v4), w5, w6], [.int v1, .ref 304], (SH, m.1, m.2)) from rfl) ?_
  obtain ⟨q3, hc3, h⟩ := Option.bind_eq_some_iff.mp h
  refine m_R_cV (v := (some (.int q3.1))) (h1 := (SH, q3.2)) (rest := []) (lo' := [some (.ref 304), some (.int v1), none, none, none]) (ml := 5) (k0 := 304) (by decide) (Or.inl rfl) (m_opb_of (ins := .invokevirtual 106) (len := 3) (tag := 5) (a := 247) (b := 1) (c := 0) (q := 1806) (by decide +kernel)) (by decide +kernel) rfl (show m_isO 247 304 (SH, _) = true from m_isO_of (by decide +kernel)) (Nat.le_of_ble_eq_true rfl) rfl rfl (ok_m_collect X (d + 1) F _ _ _ _ hc3) ?_
  refine m_R_sg (by decide) [(.istore 5, 2, 0, 5, 0, 0, 0), (.iconst 0, 1, 0, 0, 0, 0, 0), (.istore 6, 2, 0, 6, 0, 0, 0)] (by decide +kernel) (show m_sgl X _ _ _ _ _ = some (50, [some (.ref 304), some (.int v1), some (.int v2), w3, some (.int v4), some (.int q3.1), some (.int (0 : Int32))], [], (SH, q3.2.1, q3.2.2)) from rfl) ?_
  exact ok_m_gives_50 X d F F _ _ _ _ _ _ _ _ _ h
def f_m_gives (F : Nat)   (v1 : Int32) (v2 : Int32) (v3 : Int32) (m : mM) : Option (Unit × mM) := (if v1 = v2 then some ((), m) else (if v1 = 0 then ((f_m_issue F v2 (v3 / (10 : Int32)) m).bind fun q1 => f_m_gives_87 F v1 v2 (v3 - v3 / (10 : Int32) * (10 : Int32)) q1.2) else (if v2 = 0 then ((f_m_finds F v1 m).bind fun q2 => f_m_gives_40 F v1 v2 v3 q2.2) else f_m_gives_40 F v1 v2 v3 m)))
theorem ok_m_gives (X : mX) (d F : Nat) : ∀ (v1 : Int32) (v2 : Int32) (v3 : Int32)  (m : mM) (r : Unit) (m' : mM), f_m_gives F v1 v2 v3 m = some (r, m') → m_R X (d + 3) 249 0 [some (.ref 304), some (.int v1), some (.int v2), some (.int v3), none, none, none] [] (SH, m) (none, (SH, m')) := by
  intro v1 v2 v3 m r m' h
  unfold f_m_gives at h
  refine m_R_sg (by decide) [(.iload_n 1, 1, 0, 1, 0, 0, 0), (.iload_n 2, 1, 0, 2, 0, 0, 0)] (by decide +kernel) (show m_sgl X _ _ _ _ _ = some (2, [some (.ref 304), some (.int v1), some (.int v2), some (.int v3), none, none, none], [.int v2, .int v1], (SH, m.1, m.2)) from rfl) ?_
  rcases m_ite h with ⟨c503, h⟩ | ⟨c503, h⟩
  · refine m_R_1 (by decide) (m_opb_of (ins := .if_icmp .ne 4) (len := 3) (tag := 0) (a := 6) (b := 0) (c := 0) (q := 0) (by decide +kernel)) (if_pos c503) ?_
    obtain ⟨rfl, rfl⟩ := m_some h
    exact m_R_vret (by decide) (m_opb_of (ins := .return_) (len := 1) (tag := 3) (a := 0) (b := 0) (c := 0) (q := 0) (by decide +kernel))
  · refine m_R_1 (by decide) (m_opb_of (ins := .if_icmp .ne 4) (len := 3) (tag := 0) (a := 6) (b := 0) (c := 0) (q := 0) (by decide +kernel)) (if_neg c503) ?_
    refine m_R_sg (by decide) [(.iload_n 3, 1, 0, 3, 0, 0, 0), (.istore 4, 2, 0, 4, 0, 0, 0), (.iload_n 1, 1, 0, 1, 0, 0, 0)] (by decide +kernel) (show m_sgl X _ _ _ _ _ = some (10, [some (.ref 304), some (.int v1), some (.int v2), some (.int v3), some (.int v3), none, none], [.int v1], (SH, m.1, m.2)) from rfl) ?_
    rcases m_ite h with ⟨c504, h⟩ | ⟨c504, h⟩
    · refine m_R_1 (by decide) (m_opb_of (ins := .ifCond .ne 21) (len := 3) (tag := 0) (a := 31) (b := 0) (c := 0) (q := 0) (by decide +kernel)) (if_pos c504) ?_
      refine m_R_sg (by decide) [(.aload_n 0, 1, 0, 0, 0, 0, 0), (.iload_n 2, 1, 0, 2, 0, 0, 0), (.iload_n 3, 1, 0, 3, 0, 0, 0), (.bipush 10, 2, 0, 10, 0, 0, 0)] (by decide +kernel) (show m_sgl X _ _ _ _ _ = some (18, [some (.ref 304), some (.int v1), some (.int v2), some (.int v3), some (.int v3), none, none], [.int (10 : Int32), .int v3, .int v2, .ref 304], (SH, m.1, m.2)) from rfl) ?_
      refine m_R_1 (by decide) (m_opb_of (ins := .idiv) (len := 1) (tag := 0) (a := 0) (b := 0) (c := 0) (q := 0) (by decide +kernel)) (m_s_idiv (by decide)) ?_
      obtain ⟨q1, hc1, h⟩ := Option.bind_eq_some_iff.mp h
      refine m_R_cV (v := none) (h1 := (SH, q1.2)) (rest := []) (lo' := [some (.ref 304), some (.int v2), some (.int (v3 / (10 : Int32))), none, none, none]) (ml := 6) (k0 := 304) (by decide) (Or.inl rfl) (m_opb_of (ins := .invokevirtual 134) (len := 3) (tag := 5) (a := 250) (b := 2) (c := 0) (q := 1818) (by decide +kernel)) (by decide +kernel) rfl (show m_isO 250 304 (SH, _) = true from m_isO_of (by decide +kernel)) (Nat.le_of_ble_eq_true rfl) rfl rfl (ok_m_issue X (d + 0) F _ _ _ _ _ hc1) ?_
      refine m_R_sg (by decide) [(.iload_n 3, 1, 0, 3, 0, 0, 0), (.bipush 10, 2, 0, 10, 0, 0, 0)] (by decide +kernel) (show m_sgl X _ _ _ _ _ = some (25, [some (.ref 304), some (.int v1), some (.int v2), some (.int v3), some (.int v3), none, none], [.int (10 : Int32), .int v3], (SH, q1.2.1, q1.2.2)) from rfl) ?_
      refine m_R_1 (by decide) (m_opb_of (ins := .irem) (len := 1) (tag := 0) (a := 0) (b := 0) (c := 0) (q := 0) (by decide +kernel)) (m_s_irem (by decide)) ?_
      refine m_R_sg (by decide) [(.istore 4, 2, 0, 4, 0, 0, 0), (.goto 59, 3, 0, 87, 0, 0, 0)] (by decide +kernel) (show m_sgl X _ _ _ _ _ = some (87, [some (.ref 304), some (.int v1), some (.int v2), some (.int v3), some (.int (v3 - v3 / (10 : Int32) * (10 : Int32))), none, none], [], (SH, q1.2.1, q1.2.2)) from rfl) ?_
      exact ok_m_gives_87 X d F _ _ _ _ _ _ _ _ _ h
    · refine m_R_1 (by decide) (m_opb_of (ins := .ifCond .ne 21) (len := 3) (tag := 0) (a := 31) (b := 0) (c := 0) (q := 0) (by decide +kernel)) (if_neg c504) ?_
      refine m_R_sg (by decide) [(.iload_n 2, 1, 0, 2, 0, 0, 0)] (by decide +kernel) (show m_sgl X _ _ _ _ _ = some (32, [some (.ref 304), some (.int v1), some (.int v2), some (.int v3), some (.int v3), none, none], [.int v2], (SH, m.1, m.2)) from rfl) ?_
      rcases m_ite h with ⟨c505, h⟩ | ⟨c505, h⟩
      · refine m_R_1 (by decide) (m_opb_of (ins := .ifCond .ne 8) (len := 3) (tag := 0) (a := 40) (b := 0) (c := 0) (q := 0) (by decide +kernel)) (if_pos c505) ?_
        refine m_R_sg (by decide) [(.aload_n 0, 1, 0, 0, 0, 0, 0), (.iload_n 1, 1, 0, 1, 0, 0, 0)] (by decide +kernel) (show m_sgl X _ _ _ _ _ = some (37, [some (.ref 304), some (.int v1), some (.int v2), some (.int v3), some (.int v3), none, none], [.int v1, .ref 304], (SH, m.1, m.2)) from rfl) ?_
        obtain ⟨q2, hc2, h⟩ := Option.bind_eq_some_iff.mp h
        refine m_R_cV (v := none) (h1 := (SH, q2.2)) (rest := []) (lo' := [some (.ref 304), some (.int v1), none, none, none]) (ml := 5) (k0 := 304) (by decide) (Or.inl rfl) (m_opb_of (ins := .invokevirtual 137) (len := 3) (tag := 5) (a := 253) (b := 1) (c := 0) (q := 1830) (by decide +kernel)) (by decide +kernel) rfl (show m_isO 253 304 (SH, _) = true from m_isO_of (by decide +kernel)) (Nat.le_of_ble_eq_true rfl) rfl rfl (ok_m_finds X (d + 0) F _ _ _ _ hc2) ?_
        exact ok_m_gives_40 X d F _ _ _ _ _ _ _ _ _ h
      · refine m_R_1 (by decide) (m_opb_of (ins := .ifCond .ne 8) (len := 3) (tag := 0) (a := 40) (b := 0) (c := 0) (q := 0) (by decide +kernel)) (if_neg c505) ?_
        exact ok_m_gives_40 X d F _ _ _ _ _ _ _ _ _ h
def f_m_give_16 (F : Nat)    (m : mM) : Option (Int32 × mM) := ((f_m_refuse F (-3 : Int32) m).bind fun q9 => some (q9.1, q9.2))
theorem ok_m_give_16 (X : mX) (d F : Nat) : ∀  (w1 : Option Value) (w2 : Option Value) (w3 : Option Value) (m : mM) (r : Int32) (m' : mM), f_m_give_16 F  m = some (r, m') → m_R X (d + 72) 220 16 [some (.ref 304), w1, w2, w3] [] (SH, m) (some (.int r), (SH, m')) := by
  intro w1 w2 w3 m r m' h
  unfold f_m_give_16 at h
  refine m_R_sg (by decide) [(.aload_n 0, 1, 0, 0, 0, 0, 0), (.bipush (-3), 2, 0, 3, 1, 0, 0)] (by decide +kernel) (show m_sgl X _ _ _ _ _ = some (19, [some (.ref 304), w1, w2, w3], [.int (-3 : Int32), .ref 304], (SH, m.1, m.2)) from rfl) ?_
  obtain ⟨q9, hc9, h⟩ := Option.bind_eq_some_iff.mp h
  refine m_R_cV (v := (some (.int q9.1))) (h1 := (SH, q9.2)) (rest := []) (lo' := [some (.ref 304), some (.int (-3 : Int32))]) (ml := 2) (k0 := 304) (by decide) (Or.inl rfl) (m_opb_of (ins := .invokevirtual 61) (len := 3) (tag := 5) (a := 202) (b := 1) (c := 0) (q := 1593) (by decide +kernel)) (by decide +kernel) rfl (show m_isO 202 304 (SH, _) = true from m_isO_of (by decide +kernel)) (Nat.le_of_ble_eq_true rfl) rfl rfl (ok_m_refuse X (d + 71) F _ _ _ _ hc9) ?_
  obtain ⟨rfl, rfl⟩ := m_some h
  exact m_R_iret (by decide) (m_opb_of (ins := .ireturn) (len := 1) (tag := 1) (a := 0) (b := 0) (c := 0) (q := 0) (by decide +kernel)) (Or.inl rfl)
def f_m_give_65 (F : Nat)    (m : mM) : Option (Int32 × mM) := ((f_m_refuse F (-7 : Int32) m).bind fun q10 => some (q10.1, q10.2))
theorem ok_m_give_65 (X : mX) (d F : Nat) : ∀  (w1 : Option Value) (w2 : Option Value) (w3 : Option Value) (m : mM) (r : Int32) (m' : mM), f_m_give_65 F  m = some (r, m') → m_R X (d + 72) 220 65 [some (.ref 304), w1, w2, w3] [] (SH, m) (some (.int r), (SH, m')) := by
  intro w1 w2 w3 m r m' h
  unfold f_m_give_65 at h
  refine m_R_sg (by decide) [(.aload_n 0, 1, 0, 0, 0, 0, 0), (.bipush (-7), 2, 0, 7, 1, 0, 0)] (by decide +kernel) (show m_sgl X _ _ _ _ _ = some (68, [some (.ref 304), w1, w2, w3], [.int (-7 : Int32), .ref 304], (SH, m.1, m.2)) from rfl) ?_
  obtain ⟨q10, hc10, h⟩ := Option.bind_eq_some_iff.mp h
  refine m_R_cV (v := (some (.int q10.1))) (h1 := (SH, q10.2)) (rest := []) (lo' := [some (.ref 304), some (.int (-7 : Int32))]) (ml := 2) (k0 := 304) (by decide) (Or.inl rfl) (m_opb_of (ins := .invokevirtual 61) (len := 3) (tag := 5) (a := 202) (b := 1) (c := 0) (q := 1593) (by decide +kernel)) (by decide +kernel) rfl (show m_isO 202 304 (SH, _) = true from m_isO_of (by decide +kernel)) (Nat.le_of_ble_eq_true rfl) rfl rfl (ok_m_refuse X (d + 71) F _ _ _ _ hc10) ?_
  obtain ⟨rfl, rfl⟩ := m_some h
  exact m_R_iret (by decide) (m_opb_of (ins := .ireturn) (len := 1) (tag := 1) (a := 0) (b := 0) (c := 0) (q := 0) (by decide +kernel)) (Or.inl rfl)
def f_m_give (F : Nat)   (v1 : Int32) (v2 : Int32) (v3 : Int32) (m : mM) : Option (Int32 × mM) := ((f_m_isHouse F v1 m).bind fun q1 => (if q1.1 = 0 then f_m_give_16 F q1.2 else ((f_m_isHouse F v2 q1.2).bind fun q2 => (if q2.1 = 0 then f_m_give_16 F q2.2 else ((f_m_in F v3 (1 : Int32) (9999 : Int32) q2.2).bind fun q3 => (if q3.1 = 0 then f_m_give_65 F q3.2 else (if v1 = v2 then f_m_give_65 F q3.2 else ((f_m_isUp F v1 q3.2).bind fun q4 => (if q4.1 = 0 then f_m_give_65 F q4.2 else ((f_m_isUp F v2 q4.2).bind fun q5 => (if q5.1 = 0 then f_m_give_65 F q5.2 else ((f_m_can F v1 v2 v3 q5.2).bind fun q6 => (if q6.1 = 0 then f_m_give_65 F q6.2 else ((f_m_gives F v1 v2 v3 q6.2).bind fun q7 => ((f_m_hs F v1 (2 : Int32) q7.2).bind fun q8 => some (q8.1, q8.2))))))))))))))))
theorem ok_m_give (X : mX) (d F : Nat) : ∀ (v1 : Int32) (v2 : Int32) (v3 : Int32)  (m : mM) (r : Int32) (m' : mM), f_m_give F v1 v2 v3 m = some (r, m') → m_R X (d + 72) 220 0 [some (.ref 304), some (.int v1), some (.int v2), some (.int v3)] [] (SH, m) (some (.int r), (SH, m')) := by
  intro v1 v2 v3 m r m' h
  unfold f_m_give at h
  refine m_R_sg (by decide) [(.aload_n 0, 1, 0, 0, 0, 0, 0), (.iload_n 1, 1, 0, 1, 0, 0, 0)] (by decide +kernel) (show m_sgl X _ _ _ _ _ = some (2, [some (.ref 304), some (.int v1), some (.int v2), some (.int v3)], [.int v1, .ref 304], (SH, m.1, m.2)) from rfl) ?_
  obtain ⟨q1, hc1, h⟩ := Option.bind_eq_some_iff.mp h
  refine m_R_cV (v := (some (.int q1.1))) (h1 := (SH, q1.2)) (rest := []) (lo' := [some (.ref 304), some (.int v1)]) (ml := 2) (k0 := 304) (by decide) (Or.inl rfl) (m_opb_of (ins := .invokevirtual 77) (len := 3) (tag := 5) (a := 210) (b := 1) (c := 0) (q := 1625) (by decide +kernel)) (by decide +kernel) rfl (show m_isO 210 304 (SH, _) = true from m_isO_of (by decide +kernel)) (Nat.le_of_ble_eq_true rfl) rfl rfl (ok_m_isHouse X (d + 70) F _ _ _ _ hc1) ?_
  rcases m_ite h with ⟨c506, h⟩ | ⟨c506, h⟩
  · refine m_R_1 (by decide) (m_opb_of (ins := .ifCond .eq 11) (len := 3) (tag := 0) (a := 16) (b := 0) (c := 0) (q := 0) (by decide +kernel)) (if_pos c506) ?_
    exact ok_m_give_16 X d F _ _ _ _ _ _ h
  · refine m_R_1 (by decide) (m_opb_of (ins := .ifCond .eq 11) (len := 3) (tag := 0) (a := 16) (b := 0) (c := 0) (q := 0) (by decide +kernel)) (if_neg c506) ?_
    refine m_R_sg (by decide) [(.aload_n 0, 1, 0, 0, 0, 0, 0), (.iload_n 2, 1, 0, 2, 0, 0, 0)] (by decide +kernel) (show m_sgl X _ _ _ _ _ = some (10, [some (.ref 304), some (.int v1), some (.int v2), some (.int v3)], [.int v2, .ref 304], (SH, q1.2.1, q1.2.2)) from rfl) ?_
    obtain ⟨q2, hc2, h⟩ := Option.bind_eq_some_iff.mp h
    refine m_R_cV (v := (some (.int q2.1))) (h1 := (SH, q2.2)) (rest := []) (lo' := [some (.ref 304), some (.int v2)]) (ml := 2) (k0 := 304) (by decide) (Or.inl rfl) (m_opb_of (ins := .invokevirtual 77) (len := 3) (tag := 5) (a := 210) (b := 1) (c := 0) (q := 1625) (by decide +kernel)) (by decide +kernel) rfl (show m_isO 210 304 (SH, _) = true from m_isO_of (by decide +kernel)) (Nat.le_of_ble_eq_true rfl) rfl rfl (ok_m_isHouse X (d + 70) F _ _ _ _ hc2) ?_
    rcases m_ite h with ⟨c507, h⟩ | ⟨c507, h⟩
    · refine m_R_1 (by decide) (m_opb_of (ins := .ifCond .ne 10) (len := 3) (tag := 0) (a := 23) (b := 0) (c := 0) (q := 0) (by decide +kernel)) (if_pos c507) ?_
      exact ok_m_give_16 X d F _ _ _ _ _ _ h
    · refine m_R_1 (by decide) (m_opb_of (ins := .ifCond .ne 10) (len := 3) (tag := 0) (a := 23) (b := 0) (c := 0) (q := 0) (by decide +kernel)) (if_neg c507) ?_
      refine m_R_sg (by decide) [(.iload_n 3, 1, 0, 3, 0, 0, 0), (.iconst 1, 1, 0, 1, 0, 0, 0), (.sipush 9999, 3, 0, 9999, 0, 0, 0)] (by decide +kernel) (show m_sgl X _ _ _ _ _ = some (28, [some (.ref 304), some (.int v1), some (.int v2), some (.int v3)], [.int (9999 : Int32), .int (1 : Int32), .int v3], (SH, q2.2.1, q2.2.2)) from rfl) ?_
      obtain ⟨q3, hc3, h⟩ := Option.bind_eq_some_iff.mp h
      refine m_R_cS (v := (some (.int q3.1))) (h1 := (SH, q3.2)) (rest := []) (lo' := [some (.int v3), some (.int (1 : Int32)), some (.int (9999 : Int32))]) (ml := 3) (by decide) (m_opb_of (ins := .invokestatic 57) (len := 3) (tag := 4) (a := 201) (b := 3) (c := 0) (q := 1590) (by decide +kernel)) (by decide +kernel) (Nat.le_of_ble_eq_true rfl) rfl (Nat.le_of_ble_eq_true rfl) rfl rfl (ok_m_in X (d + 71) F _ _ _ _ _ _ hc3) ?_
      rcases m_ite h with ⟨c508, h⟩ | ⟨c508, h⟩
      · refine m_R_1 (by decide) (m_opb_of (ins := .ifCond .eq 34) (len := 3) (tag := 0) (a := 65) (b := 0) (c := 0) (q := 0) (by decide +kernel)) (if_pos c508) ?_
        exact ok_m_give_65 X d F _ _ _ _ _ _ h
      · refine m_R_1 (by decide) (m_opb_of (ins := .ifCond .eq 34) (len := 3) (tag := 0) (a := 65) (b := 0) (c := 0) (q := 0) (by decide +kernel)) (if_neg c508) ?_
        refine m_R_sg (by decide) [(.iload_n 1, 1, 0, 1, 0, 0, 0), (.iload_n 2, 1, 0, 2, 0, 0, 0)] (by decide +kernel) (show m_sgl X _ _ _ _ _ = some (36, [some (.ref 304), some (.int v1), some (.int v2), some (.int v3)], [.int v2, .int v1], (SH, q3.2.1, q3.2.2)) from rfl) ?_
        rcases m_ite h with ⟨c509, h⟩ | ⟨c509, h⟩
        · refine m_R_1 (by decide) (m_opb_of (ins := .if_icmp .eq 29) (len := 3) (tag := 0) (a := 65) (b := 0) (c := 0) (q := 0) (by decide +kernel)) (if_pos c509) ?_
          exact ok_m_give_65 X d F _ _ _ _ _ _ h
        · refine m_R_1 (by decide) (m_opb_of (ins := .if_icmp .eq 29) (len := 3) (tag := 0) (a := 65) (b := 0) (c := 0) (q := 0) (by decide +kernel)) (if_neg c509) ?_
          refine m_R_sg (by decide) [(.aload_n 0, 1, 0, 0, 0, 0, 0), (.iload_n 1, 1, 0, 1, 0, 0, 0)] (by decide +kernel) (show m_sgl X _ _ _ _ _ = some (41, [some (.ref 304), some (.int v1), some (.int v2), some (.int v3)], [.int v1, .ref 304], (SH, q3.2.1, q3.2.2)) from rfl) ?_
          obtain ⟨q4, hc4, h⟩ := Option.bind_eq_some_iff.mp h
          refine m_R_cV (v := (some (.int q4.1))) (h1 := (SH, q4.2)) (rest := []) (lo' := [some (.ref 304), some (.int v1)]) (ml := 2) (k0 := 304) (by decide) (Or.inl rfl) (m_opb_of (ins := .invokevirtual 80) (len := 3) (tag := 5) (a := 211) (b := 1) (c := 0) (q := 1629) (by decide +kernel)) (by decide +kernel) rfl (show m_isO 211 304 (SH, _) = true from m_isO_of (by decide +kernel)) (Nat.le_of_ble_eq_true rfl) rfl rfl (ok_m_isUp X (d + 70) F _ _ _ _ hc4) ?_
          rcases m_ite h with ⟨c510, h⟩ | ⟨c510, h⟩
          · refine m_R_1 (by decide) (m_opb_of (ins := .ifCond .eq 21) (len := 3) (tag := 0) (a := 65) (b := 0) (c := 0) (q := 0) (by decide +kernel)) (if_pos c510) ?_
            exact ok_m_give_65 X d F _ _ _ _ _ _ h
          · refine m_R_1 (by decide) (m_opb_of (ins := .ifCond .eq 21) (len := 3) (tag := 0) (a := 65) (b := 0) (c := 0) (q := 0) (by decide +kernel)) (if_neg c510) ?_
            refine m_R_sg (by decide) [(.aload_n 0, 1, 0, 0, 0, 0, 0), (.iload_n 2, 1, 0, 2, 0, 0, 0)] (by decide +kernel) (show m_sgl X _ _ _ _ _ = some (49, [some (.ref 304), some (.int v1), some (.int v2), some (.int v3)], [.int v2, .ref 304], (SH, q4.2.1, q4.2.2)) from rfl) ?_
            obtain ⟨q5, hc5, h⟩ := Option.bind_eq_some_iff.mp h
            refine m_R_cV (v := (some (.int q5.1))) (h1 := (SH, q5.2)) (rest := []) (lo' := [some (.ref 304), some (.int v2)]) (ml := 2) (k0 := 304) (by decide) (Or.inl rfl) (m_opb_of (ins := .invokevirtual 80) (len := 3) (tag := 5) (a := 211) (b := 1) (c := 0) (q := 1629) (by decide +kernel)) (by decide +kernel) rfl (show m_isO 211 304 (SH, _) = true from m_isO_of (by decide +kernel)) (Nat.le_of_ble_eq_true rfl) rfl rfl (ok_m_isUp X (d + 70) F _ _ _ _ hc5) ?_
            rcases m_ite h with ⟨c511, h⟩ | ⟨c511, h⟩
            · refine m_R_1 (by decide) (m_opb_of (ins := .ifCond .eq 13) (len := 3) (tag := 0) (a := 65) (b := 0) (c := 0) (q := 0) (by decide +kernel)) (if_pos c511) ?_
              exact ok_m_give_65 X d F _ _ _ _ _ _ h
            · refine m_R_1 (by decide) (m_opb_of (ins := .ifCond .eq 13) (len := 3) (tag := 0) (a := 65) (b := 0) (c := 0) (q := 0) (by decide +kernel)) (if_neg c511) ?_
              refine m_R_sg (by decide) [(.aload_n 0, 1, 0, 0, 0, 0, 0), (.iload_n 1, 1, 0, 1, 0, 0, 0), (.iload_n 2, 1, 0, 2, 0, 0, 0), (.iload_n 3, 1, 0, 3, 0, 0, 0)] (by decide +kernel) (show m_sgl X _ _ _ _ _ = some (59, [some (.ref 304), some (.int v1), some (.int v2), some (.int v3)], [.int v3, .int v2, .int v1, .ref 304], (SH, q5.2.1, q5.2.2)) from rfl) ?_
              obtain ⟨q6, hc6, h⟩ := Option.bind_eq_some_iff.mp h
              refine m_R_cV (v := (some (.int q6.1))) (h1 := (SH, q6.2)) (rest := []) (lo' := [some (.ref 304), some (.int v1), some (.int v2), some (.int v3), none, none, none]) (ml := 7) (k0 := 304) (by decide) (Or.inl rfl) (m_opb_of (ins := .invokevirtual 144) (len := 3) (tag := 5) (a := 221) (b := 3) (c := 0) (q := 1669) (by decide +kernel)) (by decide +kernel) rfl (show m_isO 221 304 (SH, _) = true from m_isO_of (by decide +kernel)) (Nat.le_of_ble_eq_true rfl) rfl rfl (ok_m_can X (d + 0) F _ _ _ _ _ _ hc6) ?_
              rcases m_ite h with ⟨c512, h⟩ | ⟨c512, h⟩
              · refine m_R_1 (by decide) (m_opb_of (ins := .ifCond .ne 10) (len := 3) (tag := 0) (a := 72) (b := 0) (c := 0) (q := 0) (by decide +kernel)) (if_pos c512) ?_
                exact ok_m_give_65 X d F _ _ _ _ _ _ h
              · refine m_R_1 (by decide) (m_opb_of (ins := .ifCond .ne 10) (len := 3) (tag := 0) (a := 72) (b := 0) (c := 0) (q := 0) (by decide +kernel)) (if_neg c512) ?_
                refine m_R_sg (by decide) [(.aload_n 0, 1, 0, 0, 0, 0, 0), (.iload_n 1, 1, 0, 1, 0, 0, 0), (.iload_n 2, 1, 0, 2, 0, 0, 0), (.iload_n 3, 1, 0, 3, 0, 0, 0)] (by decide +kernel) (show m_sgl X _ _ _ _ _ = some (76, [some (.ref 304), some (.int v1), some (.int v2), some (.int v3)], [.int v3, .int v2, .int v1, .ref 304], (SH, q6.2.1, q6.2.2)) from rfl) ?_
                obtain ⟨q7, hc7, h⟩ := Option.bind_eq_some_iff.mp h
                refine m_R_cV (v := none) (h1 := (SH, q7.2)) (rest := []) (lo' := [some (.ref 304), some (.int v1), some (.int v2), some (.int v3), none, none, none]) (ml := 7) (k0 := 304) (by decide) (Or.inl rfl) (m_opb_of (ins := .invokevirtual 147) (len := 3) (tag := 5) (a := 249) (b := 3) (c := 0) (q := 1814) (by decide +kernel)) (by decide +kernel) rfl (show m_isO 249 304 (SH, _) = true from m_isO_of (by decide +kernel)) (Nat.le_of_ble_eq_true rfl) rfl rfl (ok_m_gives X (d + 68) F _ _ _ _ _ _ hc7) ?_
                refine m_R_sg (by decide) [(.aload_n 0, 1, 0, 0, 0, 0, 0), (.iload_n 1, 1, 0, 1, 0, 0, 0), (.iconst 2, 1, 0, 2, 0, 0, 0)] (by decide +kernel) (show m_sgl X _ _ _ _ _ = some (82, [some (.ref 304), some (.int v1), some (.int v2), some (.int v3)], [.int (2 : Int32), .int v1, .ref 304], (SH, q7.2.1, q7.2.2)) from rfl) ?_
                obtain ⟨q8, hc8, h⟩ := Option.bind_eq_some_iff.mp h
                refine m_R_cV (v := (some (.int q8.1))) (h1 := (SH, q8.2)) (rest := []) (lo' := [some (.ref 304), some (.int v1), some (.int (2 : Int32))]) (ml := 3) (k0 := 304) (by decide) (Or.inl rfl) (m_opb_of (ins := .invokevirtual 65) (len := 3) (tag := 5) (a := 212) (b := 2) (c := 0) (q := 1633) (by decide +kernel)) (by decide +kernel) rfl (show m_isO 212 304 (SH, _) = true from m_isO_of (by decide +kernel)) (Nat.le_of_ble_eq_true rfl) rfl rfl (ok_m_hs X (d + 71) F _ _ _ _ _ hc8) ?_
                obtain ⟨rfl, rfl⟩ := m_some h
                exact m_R_iret (by decide) (m_opb_of (ins := .ireturn) (len := 1) (tag := 1) (a := 0) (b := 0) (c := 0) (q := 0) (by decide +kernel)) (Or.inl rfl)
def f_World_presentCopies_158 (F : Nat)  (k17 : Int32 → Int32 → Int32 → Int32 → mM → Option (Int32 × mM)) (v1 : Int32) (v2 : Int32) (v3 : Int32) (v4 : Int32) (m : mM) : Option (Int32 × mM) := k17 v1 v2 v3 (v4 + (1 : Int32)) m
theorem ok_World_presentCopies_158 (X : mX) (d F : Nat) (k17 : Int32 → Int32 → Int32 → Int32 → mM → Option (Int32 × mM)) (hk17 : ∀ (v1 : Int32) (v2 : Int32) (v3 : Int32) (v4 : Int32) (w5 : Option Value) (m : mM) (r : Int32) (m' : mM), k17 v1 v2 v3 v4 m = some (r, m') → m_R X (d + 2) 60 17 [some (.ref 16), some (.int v1), some (.int v2), some (.int v3), some (.int v4), w5] [] (SH, m) (some (.int r), (SH, m'))) : ∀ (v1 : Int32) (v2 : Int32) (v3 : Int32) (v4 : Int32) (w5 : Option Value) (m : mM) (r : Int32) (m' : mM), f_World_presentCopies_158 F k17 v1 v2 v3 v4 m = some (r, m') → m_R X (d + 2) 60 158 [some (.ref 16), some (.int v1), some (.int v2), some (.int v3), some (.int v4), w5] [] (SH, m) (some (.int r), (SH, m')) := by
  intro v1 v2 v3 v4 w5 m r m' h
  unfold f_World_presentCopies_158 at h
  refine m_R_sg (by decide) [(.iinc 4 1, 3, 0, 4, 1, 0, 0), (.goto (-144), 3, 0, 17, 0, 0, 0)] (by decide +kernel) (show m_sgl X _ _ _ _ _ = some (17, [some (.ref 16), some (.int v1), some (.int v2), some (.int v3), some (.int (v4 + (1 : Int32))), w5], [], (SH, m.1, m.2)) from rfl) ?_
  exact hk17 _ _ _ _ _ _ _ _ h
def f_World_presentCopies_136 (F : Nat)  (k17 : Int32 → Int32 → Int32 → Int32 → mM → Option (Int32 × mM)) (v1 : Int32) (v2 : Int32) (v3 : Int32) (v4 : Int32) (v5 : Int32) (m : mM) : Option (Int32 × mM) := ((f_Notes_markIn F v5 m).bind fun q2 => ((f_Notes_moveTo F v5 (0 : Int32) q2.2).bind fun q3 => f_World_presentCopies_158 F k17 v1 v2 (v3 + (1 : Int32)) v4 q3.2))
theorem ok_World_presentCopies_136 (X : mX) (d F : Nat) (k17 : Int32 → Int32 → Int32 → Int32 → mM → Option (Int32 × mM)) (hk17 : ∀ (v1 : Int32) (v2 : Int32) (v3 : Int32) (v4 : Int32) (w5 : Option Value) (m : mM) (r : Int32) (m' : mM), k17 v1 v2 v3 v4 m = some (r, m') → m_R X (d + 2) 60 17 [some (.ref 16), some (.int v1), some (.int v2), some (.int v3), some (.int v4), w5] [] (SH, m) (some (.int r), (SH, m'))) : ∀ (v1 : Int32) (v2 : Int32) (v3 : Int32) (v4 : Int32) (v5 : Int32)  (m : mM) (r : Int32) (m' : mM), f_World_presentCopies_136 F k17 v1 v2 v3 v4 v5 m = some (r, m') → m_R X (d + 2) 60 136 [some (.ref 16), some (.int v1), some (.int v2), some (.int v3), some (.int v4), some (.int v5)] [] (SH, m) (some (.int r), (SH, m')) := by
  intro v1 v2 v3 v4 v5 m r m' h
  unfold f_World_presentCopies_136 at h
  refine m_R_sg (by decide) [(.aload_n 0, 1, 0, 0, 0, 0, 0), (.getfield 72, 3, 0, 10, 8, 3, 518), (.iload 5, 2, 0, 5, 0, 0, 0)] (by decide +kernel) (show m_sgl X _ _ _ _ _ = some (142, [some (.ref 16), some (.int v1), some (.int v2), some (.int v3), some (.int v4), some (.int v5)], [.int v5, .ref 55], (SH, m.1, m.2)) from rfl) ?_
  obtain ⟨q2, hc2, h⟩ := Option.bind_eq_some_iff.mp h
  refine m_R_cV (v := none) (h1 := (SH, q2.2)) (rest := []) (lo' := [some (.ref 55), some (.int v5), none]) (ml := 3) (k0 := 55) (by decide) (Or.inl rfl) (m_opb_of (ins := .invokevirtual 206) (len := 3) (tag := 5) (a := 58) (b := 1) (c := 0) (q := 856) (by decide +kernel)) (by decide +kernel) rfl (show m_isO 58 55 (SH, _) = true from m_isO_of (by decide +kernel)) (Nat.le_of_ble_eq_true rfl) rfl rfl (ok_Notes_markIn X (d + 1) F _ _ _ _ hc2) ?_
  refine m_R_sg (by decide) [(.aload_n 0, 1, 0, 0, 0, 0, 0), (.getfield 72, 3, 0, 10, 8, 3, 518), (.iload 5, 2, 0, 5, 0, 0, 0), (.iconst 0, 1, 0, 0, 0, 0, 0)] (by decide +kernel) (show m_sgl X _ _ _ _ _ = some (152, [some (.ref 16), some (.int v1), some (.int v2), some (.int v3), some (.int v4), some (.int v5)], [.int (0 : Int32), .int v5, .ref 55], (SH, q2.2.1, q2.2.2)) from rfl) ?_
  obtain ⟨q3, hc3, h⟩ := Option.bind_eq_some_iff.mp h
  refine m_R_cV (v := none) (h1 := (SH, q3.2)) (rest := []) (lo' := [some (.ref 55), some (.int v5), some (.int (0 : Int32)), none]) (ml := 4) (k0 := 55) (by decide) (Or.inl rfl) (m_opb_of (ins := .invokevirtual 209) (len := 3) (tag := 5) (a := 53) (b := 2) (c := 0) (q := 857) (by decide +kernel)) (by decide +kernel) rfl (show m_isO 53 55 (SH, _) = true from m_isO_of (by decide +kernel)) (Nat.le_of_ble_eq_true rfl) rfl rfl (ok_Notes_moveTo X (d + 1) F _ _ _ _ _ hc3) ?_
  refine m_R_sg (by decide) [(.iinc 3 1, 3, 0, 3, 1, 0, 0)] (by decide +kernel) (show m_sgl X _ _ _ _ _ = some (158, [some (.ref 16), some (.int v1), some (.int v2), some (.int (v3 + (1 : Int32))), some (.int v4), some (.int v5)], [], (SH, q3.2.1, q3.2.2)) from rfl) ?_
  exact ok_World_presentCopies_158 X d F _ hk17 _ _ _ _ _ _ _ _ h
def f_World_presentCopies_164 (F : Nat)   (v3 : Int32) (m : mM) : Option (Int32 × mM) := some (v3, m)
theorem ok_World_presentCopies_164 (X : mX) (d F : Nat) : ∀ (v3 : Int32) (w0 : Option Value) (w1 : Option Value) (w2 : Option Value) (w4 : Option Value) (w5 : Option Value) (m : mM) (r : Int32) (m' : mM), f_World_presentCopies_164 F v3 m = some (r, m') → m_R X (d + 2) 60 164 [w0, w1, w2, some (.int v3), w4, w5] [] (SH, m) (some (.int r), (SH, m')) := by
  intro v3 w0 w1 w2 w4 w5 m r m' h
  unfold f_World_presentCopies_164 at h
  refine m_R_sg (by decide) [(.iload_n 3, 1, 0, 3, 0, 0, 0)] (by decide +kernel) (show m_sgl X _ _ _ _ _ = some (165, [w0, w1, w2, some (.int v3), w4, w5], [.int v3], (SH, m.1, m.2)) from rfl) ?_
  obtain ⟨rfl, rfl⟩ := m_some h
  exact m_R_iret (by decide) (m_opb_of (ins := .ireturn) (len := 1) (tag := 1) (a := 0) (b := 0) (c := 0) (q := 0) (by decide +kernel)) (Or.inl rfl)
def f_World_presentCopies_17 (F : Nat)   : Nat → Int32 → Int32 → Int32 → Int32 → mM → Option (Int32 × mM)
  | 0, _, _, _, _, _ => none
  | n + 1, v1, v2, v3, v4, m => (if (m.1 55 7) ≤ v4 then f_World_presentCopies_164 F v3 m else (if v1 < 0 ∨ 16 ≤ v1.toNatClampNeg then none else (if (m.1 61 v1.toNatClampNeg) ≤ 0 then f_World_presentCopies_164 F v3 m else (if v2 ≤ v3 then f_World_presentCopies_164 F v3 m else (if (m.1 16 13) = (-1 : Int32) then (if v4 < 0 ∨ 400 ≤ v4.toNatClampNeg then none else (if (m.1 60 v4.toNatClampNeg) < 0 ∨ 400 ≤ (m.1 60 v4.toNatClampNeg).toNatClampNeg then none else (if (m.1 58 (m.1 60 v4.toNatClampNeg).toNatClampNeg) = v1 then (if (10 : Int32) ≤ (m.1 22 (0 : Int32).toNatClampNeg) then f_World_presentCopies_136 F (f_World_presentCopies_17 F n) v1 v2 v3 v4 (m.1 60 v4.toNatClampNeg) ((m_up (m_up m.1 22 (0 : Int32).toNatClampNeg ((m.1 22 (0 : Int32).toNatClampNeg) - (10 : Int32))) 22 v1.toNatClampNeg (((m_up m.1 22 (0 : Int32).toNatClampNeg ((m.1 22 (0 : Int32).toNatClampNeg) - (10 : Int32))) 22 v1.toNatClampNeg) + (10 : Int32))), m.2) else f_World_presentCopies_158 F (f_World_presentCopies_17 F n) v1 v2 v3 v4 ((m_up m.1 16 13 (m.1 16 9)), m.2)) else f_World_presentCopies_158 F (f_World_presentCopies_17 F n) v1 v2 v3 v4 m))) else f_World_presentCopies_164 F v3 m)))))
theorem ok_World_presentCopies_17 (X : mX) (d F : Nat) : ∀ (n : Nat) (v1 : Int32) (v2 : Int32) (v3 : Int32) (v4 : Int32) (w5 : Option Value) (m : mM) (r : Int32) (m' : mM), f_World_presentCopies_17 F n v1 v2 v3 v4 m = some (r, m') → m_R X (d + 2) 60 17 [some (.ref 16), some (.int v1), some (.int v2), some (.int v3), some (.int v4), w5] [] (SH, m) (some (.int r), (SH, m')) := by
  intro n
  induction n with
  | zero => intro v1 v2 v3 v4 w5 m r m' h; cases h
  | succ n ih =>
    intro v1 v2 v3 v4 w5 m r m' h
    simp only [f_World_presentCopies_17] at h
    refine m_R_sg (by decide) [(.iload 4, 2, 0, 4, 0, 0, 0), (.aload_n 0, 1, 0, 0, 0, 0, 0), (.getfield 72, 3, 0, 10, 8, 3, 518), (.getfield 197, 3, 0, 3, 7, 0, 464)] (by decide +kernel) (show m_sgl X _ _ _ _ _ = some (26, [some (.ref 16), some (.int v1), some (.int v2), some (.int v3), some (.int v4), w5], [.int (m.1 55 7), .int v4], (SH, m.1, m.2)) from rfl) ?_
    rcases m_ite h with ⟨c513, h⟩ | ⟨c513, h⟩
    · refine m_R_1 (by decide) (m_opb_of (ins := .if_icmp .ge 138) (len := 3) (tag := 0) (a := 164) (b := 0) (c := 0) (q := 0) (by decide +kernel)) (if_pos c513) ?_
      exact ok_World_presentCopies_164 X d F _ _ _ _ _ _ _ _ _ h
    · refine m_R_1 (by decide) (m_opb_of (ins := .if_icmp .ge 138) (len := 3) (tag := 0) (a := 164) (b := 0) (c := 0) (q := 0) (by decide +kernel)) (if_neg c513) ?_
      refine m_R_sg (by decide) [(.aload_n 0, 1, 0, 0, 0, 0, 0), (.getfield 72, 3, 0, 10, 8, 3, 518), (.getfield 110, 3, 0, 3, 6, 3, 461), (.iload_n 1, 1, 0, 1, 0, 0, 0)] (by decide +kernel) (show m_sgl X _ _ _ _ _ = some (37, [some (.ref 16), some (.int v1), some (.int v2), some (.int v3), some (.int v4), w5], [.int v1, .ref 61], (SH, m.1, m.2)) from rfl) ?_
      obtain ⟨c514, h⟩ := m_ite_n h
      refine m_R_1 (by decide) (m_opb_of (ins := .iaload) (len := 1) (tag := 0) (a := 0) (b := 0) (c := 0) (q := 0) (by decide +kernel)) (m_s_iald sh_61 (by decide) c514) ?_
      rcases m_ite h with ⟨c515, h⟩ | ⟨c515, h⟩
      · refine m_R_1 (by decide) (m_opb_of (ins := .ifCond .le 126) (len := 3) (tag := 0) (a := 164) (b := 0) (c := 0) (q := 0) (by decide +kernel)) (if_pos c515) ?_
        exact ok_World_presentCopies_164 X d F _ _ _ _ _ _ _ _ _ h
      · refine m_R_1 (by decide) (m_opb_of (ins := .ifCond .le 126) (len := 3) (tag := 0) (a := 164) (b := 0) (c := 0) (q := 0) (by decide +kernel)) (if_neg c515) ?_
        refine m_R_sg (by decide) [(.iload_n 3, 1, 0, 3, 0, 0, 0), (.iload_n 2, 1, 0, 2, 0, 0, 0)] (by decide +kernel) (show m_sgl X _ _ _ _ _ = some (43, [some (.ref 16), some (.int v1), some (.int v2), some (.int v3), some (.int v4), w5], [.int v2, .int v3], (SH, m.1, m.2)) from rfl) ?_
        rcases m_ite h with ⟨c516, h⟩ | ⟨c516, h⟩
        · refine m_R_1 (by decide) (m_opb_of (ins := .if_icmp .ge 121) (len := 3) (tag := 0) (a := 164) (b := 0) (c := 0) (q := 0) (by decide +kernel)) (if_pos c516) ?_
          exact ok_World_presentCopies_164 X d F _ _ _ _ _ _ _ _ _ h
        · refine m_R_1 (by decide) (m_opb_of (ins := .if_icmp .ge 121) (len := 3) (tag := 0) (a := 164) (b := 0) (c := 0) (q := 0) (by decide +kernel)) (if_neg c516) ?_
          refine m_R_sg (by decide) [(.aload_n 0, 1, 0, 0, 0, 0, 0), (.getfield 56, 3, 0, 10, 13, 0, 528), (.iconst (-1), 1, 0, 1, 1, 0, 0)] (by decide +kernel) (show m_sgl X _ _ _ _ _ = some (51, [some (.ref 16), some (.int v1), some (.int v2), some (.int v3), some (.int v4), w5], [.int (-1 : Int32), .int (m.1 16 13)], (SH, m.1, m.2)) from rfl) ?_
          rcases m_ite h with ⟨c517, h⟩ | ⟨c517, h⟩
          · refine m_R_1 (by decide) (m_opb_of (ins := .if_icmp .ne 113) (len := 3) (tag := 0) (a := 164) (b := 0) (c := 0) (q := 0) (by decide +kernel)) (if_pos c517) ?_
            refine m_R_sg (by decide) [(.aload_n 0, 1, 0, 0, 0, 0, 0), (.getfield 72, 3, 0, 10, 8, 3, 518), (.getfield 200, 3, 0, 3, 5, 3, 459), (.iload 4, 2, 0, 4, 0, 0, 0)] (by decide +kernel) (show m_sgl X _ _ _ _ _ = some (63, [some (.ref 16), some (.int v1), some (.int v2), some (.int v3), some (.int v4), w5], [.int v4, .ref 60], (SH, m.1, m.2)) from rfl) ?_
            obtain ⟨c518, h⟩ := m_ite_n h
            refine m_R_1 (by decide) (m_opb_of (ins := .iaload) (len := 1) (tag := 0) (a := 0) (b := 0) (c := 0) (q := 0) (by decide +kernel)) (m_s_iald sh_60 (by decide) c518) ?_
            refine m_R_sg (by decide) [(.istore 5, 2, 0, 5, 0, 0, 0), (.aload_n 0, 1, 0, 0, 0, 0, 0), (.getfield 72, 3, 0, 10, 8, 3, 518), (.getfield 203, 3, 0, 3, 3, 3, 454), (.iload 5, 2, 0, 5, 0, 0, 0)] (by decide +kernel) (show m_sgl X _ _ _ _ _ = some (75, [some (.ref 16), some (.int v1), some (.int v2), some (.int v3), some (.int v4), some (.int (m.1 60 v4.toNatClampNeg))], [.int (m.1 60 v4.toNatClampNeg), .ref 58], (SH, m.1, m.2)) from rfl) ?_
            obtain ⟨c519, h⟩ := m_ite_n h
            refine m_R_1 (by decide) (m_opb_of (ins := .iaload) (len := 1) (tag := 0) (a := 0) (b := 0) (c := 0) (q := 0) (by decide +kernel)) (m_s_iald sh_58 (by decide) c519) ?_
            refine m_R_sg (by decide) [(.iload_n 1, 1, 0, 1, 0, 0, 0)] (by decide +kernel) (show m_sgl X _ _ _ _ _ = some (77, [some (.ref 16), some (.int v1), some (.int v2), some (.int v3), some (.int v4), some (.int (m.1 60 v4.toNatClampNeg))], [.int v1, .int (m.1 58 (m.1 60 v4.toNatClampNeg).toNatClampNeg)], (SH, m.1, m.2)) from rfl) ?_
            rcases m_ite h with ⟨c520, h⟩ | ⟨c520, h⟩
            · refine m_R_1 (by decide) (m_opb_of (ins := .if_icmp .eq 6) (len := 3) (tag := 0) (a := 83) (b := 0) (c := 0) (q := 0) (by decide +kernel)) (if_pos c520) ?_
              refine m_R_sg (by decide) [(.aload_n 0, 1, 0, 0, 0, 0, 0), (.getfield 21, 3, 0, 10, 1, 3, 505), (.getfield 107, 3, 0, 1, 2, 3, 255), (.iconst 0, 1, 0, 0, 0, 0, 0)] (by decide +kernel) (show m_sgl X _ _ _ _ _ = some (91, [some (.ref 16), some (.int v1), some (.int v2), some (.int v3), some (.int v4), some (.int (m.1 60 v4.toNatClampNeg))], [.int (0 : Int32), .ref 22], (SH, m.1, m.2)) from rfl) ?_
              refine m_R_1 (by decide) (m_opb_of (ins := .iaload) (len := 1) (tag := 0) (a := 0) (b := 0) (c := 0) (q := 0) (by decide +kernel)) (m_s_iald sh_22 (by decide) (show ¬ ((0 : Int32) < 0 ∨ 16 ≤ (0 : Int32).toNatClampNeg) by decide)) ?_
              refine m_R_sg (by decide) [(.bipush 10, 2, 0, 10, 0, 0, 0)] (by decide +kernel) (show m_sgl X _ _ _ _ _ = some (94, [some (.ref 16), some (.int v1), some (.int v2), some (.int v3), some (.int v4), some (.int (m.1 60 v4.toNatClampNeg))], [.int (10 : Int32), .int (m.1 22 (0 : Int32).toNatClampNeg)], (SH, m.1, m.2)) from rfl) ?_
              rcases m_ite h with ⟨c521, h⟩ | ⟨c521, h⟩
              · refine m_R_1 (by decide) (m_opb_of (ins := .if_icmp .ge 14) (len := 3) (tag := 0) (a := 108) (b := 0) (c := 0) (q := 0) (by decide +kernel)) (if_pos c521) ?_
                refine m_R_sg (by decide) [(.aload_n 0, 1, 0, 0, 0, 0, 0), (.getfield 21, 3, 0, 10, 1, 3, 505), (.getfield 107, 3, 0, 1, 2, 3, 255), (.iconst 0, 1, 0, 0, 0, 0, 0), (.dup2, 1, 0, 0, 0, 0, 0)] (by decide +kernel) (show m_sgl X _ _ _ _ _ = some (117, [some (.ref 16), some (.int v1), some (.int v2), some (.int v3), some (.int v4), some (.int (m.1 60 v4.toNatClampNeg))], [.int (0 : Int32), .ref 22, .int (0 : Int32), .ref 22], (SH, m.1, m.2)) from rfl) ?_
                refine m_R_1 (by decide) (m_opb_of (ins := .iaload) (len := 1) (tag := 0) (a := 0) (b := 0) (c := 0) (q := 0) (by decide +kernel)) (m_s_iald sh_22 (by decide) (show ¬ ((0 : Int32) < 0 ∨ 16 ≤ (0 : Int32).toNatClampNeg) by decide)) ?_
                refine m_R_sg (by decide) [(.bipush 10, 2, 0, 10, 0, 0, 0), (.isub, 1, 0, 0, 0, 0, 0)] (by decide +kernel) (show m_sgl X _ _ _ _ _ = some (121, [some (.ref 16), some (.int v1), some (.int v2), some (.int v3), some (.int v4), some (.int (m.1 60 v4.toNatClampNeg))], [.int ((m.1 22 (0 : Int32).toNatClampNeg) - (10 : Int32)), .int (0 : Int32), .ref 22], (SH, m.1, m.2)) from rfl) ?_
                refine m_R_1 (by decide) (m_opb_of (ins := .iastore) (len := 1) (tag := 0) (a := 0) (b := 0) (c := 0) (q := 0) (by decide +kernel)) (m_s_iast sh_22 (show ¬ ((0 : Int32) < 0 ∨ 16 ≤ (0 : Int32).toNatClampNeg) by decide)) ?_
                refine m_R_sg (by decide) [(.aload_n 0, 1, 0, 0, 0, 0, 0), (.getfield 21, 3, 0, 10, 1, 3, 505), (.getfield 107, 3, 0, 1, 2, 3, 255), (.iload_n 1, 1, 0, 1, 0, 0, 0), (.dup2, 1, 0, 0, 0, 0, 0)] (by decide +kernel) (show m_sgl X _ _ _ _ _ = some (131, [some (.ref 16), some (.int v1), some (.int v2), some (.int v3), some (.int v4), some (.int (m.1 60 v4.toNatClampNeg))], [.int v1, .ref 22, .int v1, .ref 22], (SH, (m_up m.1 22 (0 : Int32).toNatClampNeg ((m.1 22 (0 : Int32).toNatClampNeg) - (10 : Int32))), m.2)) from rfl) ?_
                refine m_R_1 (by decide) (m_opb_of (ins := .iaload) (len := 1) (tag := 0) (a := 0) (b := 0) (c := 0) (q := 0) (by decide +kernel)) (m_s_iald sh_22 (by decide) c514) ?_
                refine m_R_sg (by decide) [(.bipush 10, 2, 0, 10, 0, 0, 0), (.iadd, 1, 0, 0, 0, 0, 0)] (by decide +kernel) (show m_sgl X _ _ _ _ _ = some (135, [some (.ref 16), some (.int v1), some (.int v2), some (.int v3), some (.int v4), some (.int (m.1 60 v4.toNatClampNeg))], [.int (((m_up m.1 22 (0 : Int32).toNatClampNeg ((m.1 22 (0 : Int32).toNatClampNeg) - (10 : Int32))) 22 v1.toNatClampNeg) + (10 : Int32)), .int v1, .ref 22], (SH, (m_up m.1 22 (0 : Int32).toNatClampNeg ((m.1 22 (0 : Int32).toNatClampNeg) - (10 : Int32))), m.2)) from rfl) ?_
                refine m_R_1 (by decide) (m_opb_of (ins := .iastore) (len := 1) (tag := 0) (a := 0) (b := 0) (c := 0) (q := 0) (by decide +kernel)) (m_s_iast sh_22 c514) ?_
                exact ok_World_presentCopies_136 X d F _ (fun a0 a1 a2 a3 a4 m r m' h => ih a0 a1 a2 a3 a4 m r m' h) _ _ _ _ _ _ _ _ h
              · refine m_R_1 (by decide) (m_opb_of (ins := .if_icmp .ge 14) (len := 3) (tag := 0) (a := 108) (b := 0) (c := 0) (q := 0) (by decide +kernel)) (if_neg c521) ?_
                refine m_R_sg (by decide) [(.aload_n 0, 1, 0, 0, 0, 0, 0), (.aload_n 0, 1, 0, 0, 0, 0, 0), (.getfield 95, 3, 0, 10, 9, 0, 520), (.putfield 56, 3, 0, 10, 13, 0, 528), (.goto 53, 3, 0, 158, 0, 0, 0)] (by decide +kernel) (show m_sgl X _ _ _ _ _ = some (158, [some (.ref 16), some (.int v1), some (.int v2), some (.int v3), some (.int v4), some (.int (m.1 60 v4.toNatClampNeg))], [], (SH, (m_up m.1 16 13 (m.1 16 9)), m.2)) from rfl) ?_
                exact ok_World_presentCopies_158 X d F _ (fun a0 a1 a2 a3 a4 m r m' h => ih a0 a1 a2 a3 a4 m r m' h) _ _ _ _ _ _ _ _ h
            · refine m_R_1 (by decide) (m_opb_of (ins := .if_icmp .eq 6) (len := 3) (tag := 0) (a := 83) (b := 0) (c := 0) (q := 0) (by decide +kernel)) (if_neg c520) ?_
              refine m_R_sg (by decide) [(.goto 78, 3, 0, 158, 0, 0, 0)] (by decide +kernel) (show m_sgl X _ _ _ _ _ = some (158, [some (.ref 16), some (.int v1), some (.int v2), some (.int v3), some (.int v4), some (.int (m.1 60 v4.toNatClampNeg))], [], (SH, m.1, m.2)) from rfl) ?_
              exact ok_World_presentCopies_158 X d F _ (fun a0 a1 a2 a3 a4 m r m' h => ih a0 a1 a2 a3 a4 m r m' h) _ _ _ _ _ _ _ _ h
          · refine m_R_1 (by decide) (m_opb_of (ins := .if_icmp .ne 113) (len := 3) (tag := 0) (a := 164) (b := 0) (c := 0) (q := 0) (by decide +kernel)) (if_neg c517) ?_
            exact ok_World_presentCopies_164 X d F _ _ _ _ _ _ _ _ _ h
def f_World_presentCopies (F : Nat)   (v1 : Int32) (v2 : Int32) (m : mM) : Option (Int32 × mM) := ((f_Notes_findForged F v1 (m.1 16 9) m).bind fun q1 => f_World_presentCopies_17 F F v1 v2 (0 : Int32) (0 : Int32) q1.2)
theorem ok_World_presentCopies (X : mX) (d F : Nat) : ∀ (v1 : Int32) (v2 : Int32)  (m : mM) (r : Int32) (m' : mM), f_World_presentCopies F v1 v2 m = some (r, m') → m_R X (d + 2) 60 0 [some (.ref 16), some (.int v1), some (.int v2), none, none, none] [] (SH, m) (some (.int r), (SH, m')) := by
  intro v1 v2 m r m' h
  unfold f_World_presentCopies at h
  refine m_R_sg (by decide) [(.iconst 0, 1, 0, 0, 0, 0, 0), (.istore_n 3, 1, 0, 3, 0, 0, 0), (.aload_n 0, 1, 0, 0, 0, 0, 0), (.getfield 72, 3, 0, 10, 8, 3, 518), (.iload_n 1, 1, 0, 1, 0, 0, 0), (.aload_n 0, 1, 0, 0, 0, 0, 0), (.getfield 95, 3, 0, 10, 9, 0, 520)] (by decide +kernel) (show m_sgl X _ _ _ _ _ = some (11, [some (.ref 16), some (.int v1), some (.int v2), some (.int (0 : Int32)), none, none], [.int (m.1 16 9), .int v1, .ref 55], (SH, m.1, m.2)) from rfl) ?_
  obtain ⟨q1, hc1, h⟩ := Option.bind_eq_some_iff.mp h
  refine m_R_cV (v := none) (h1 := (SH, q1.2)) (rest := []) (lo' := [some (.ref 55), some (.int v1), some (.int (m.1 16 9)), none, none, none, none]) (ml := 7) (k0 := 55) (by decide) (Or.inl rfl) (m_opb_of (ins := .invokevirtual 190) (len := 3) (tag := 5) (a := 55) (b := 2) (c := 0) (q := 832) (by decide +kernel)) (by decide +kernel) rfl (show m_isO 55 55 (SH, _) = true from m_isO_of (by decide +kernel)) (Nat.le_of_ble_eq_true rfl) rfl rfl (ok_Notes_findForged X (d + 0) F _ _ _ _ _ hc1) ?_
  refine m_R_sg (by decide) [(.iconst 0, 1, 0, 0, 0, 0, 0), (.istore 4, 2, 0, 4, 0, 0, 0)] (by decide +kernel) (show m_sgl X _ _ _ _ _ = some (17, [some (.ref 16), some (.int v1), some (.int v2), some (.int (0 : Int32)), some (.int (0 : Int32)), none], [], (SH, q1.2.1, q1.2.2)) from rfl) ?_
  exact ok_World_presentCopies_17 X d F F _ _ _ _ _ _ _ _ h
def f_x_present_69 (F : Nat)    (m : mM) : Option (Int32 × mM) := ((f_x_refuse F (-7 : Int32) m).bind fun q6 => some (q6.1, q6.2))
theorem ok_x_present_69 (X : mX) (d F : Nat) : ∀  (w1 : Option Value) (w2 : Option Value) (m : mM) (r : Int32) (m' : mM), f_x_present_69 F  m = some (r, m') → m_R X (d + 3) 59 69 [some (.ref 0), w1, w2] [] (SH, m) (some (.int r), (SH, m')) := by
  intro w1 w2 m r m' h
  unfold f_x_present_69 at h
  refine m_R_sg (by decide) [(.aload_n 0, 1, 0, 0, 0, 0, 0), (.bipush (-7), 2, 0, 7, 1, 0, 0)] (by decide +kernel) (show m_sgl X _ _ _ _ _ = some (72, [some (.ref 0), w1, w2], [.int (-7 : Int32), .ref 0], (SH, m.1, m.2)) from rfl) ?_
  obtain ⟨q6, hc6, h⟩ := Option.bind_eq_some_iff.mp h
  refine m_R_cV (v := (some (.int q6.1))) (h1 := (SH, q6.2)) (rest := []) (lo' := [some (.ref 0), some (.int (-7 : Int32))]) (ml := 2) (k0 := 0) (by decide) (Or.inl rfl) (m_opb_of (ins := .invokevirtual 76) (len := 3) (tag := 5) (a := 14) (b := 1) (c := 0) (q := 671) (by decide +kernel)) (by decide +kernel) rfl (show m_isO 14 0 (SH, _) = true from m_isO_of (by decide +kernel)) (Nat.le_of_ble_eq_true rfl) rfl rfl (ok_x_refuse X (d + 2) F _ _ _ _ hc6) ?_
  obtain ⟨rfl, rfl⟩ := m_some h
  exact m_R_iret (by decide) (m_opb_of (ins := .ireturn) (len := 1) (tag := 1) (a := 0) (b := 0) (c := 0) (q := 0) (by decide +kernel)) (Or.inl rfl)
def f_x_present (F : Nat)   (v1 : Int32) (v2 : Int32) (m : mM) : Option (Int32 × mM) := ((f_Houses_isHouse F v1 m).bind fun q1 => (if q1.1 = 0 then ((f_x_refuse F (-3 : Int32) q1.2).bind fun q2 => some (q2.1, q2.2)) else (if v1 = 0 then ((f_x_refuse F (-5 : Int32) q1.2).bind fun q3 => some (q3.1, q3.2)) else (if v2 < (1 : Int32) then f_x_present_69 F q1.2 else (if (400 : Int32) < v2 then f_x_present_69 F q1.2 else ((f_Houses_isUp F v1 q1.2).bind fun q4 => (if q4.1 = 0 then f_x_present_69 F q4.2 else (if (q4.2.1 16 13) = (-1 : Int32) then ((f_World_presentCopies F v1 v2 q4.2).bind fun q5 => some (q5.1, q5.2)) else f_x_present_69 F q4.2))))))))
theorem ok_x_present (X : mX) (d F : Nat) : ∀ (v1 : Int32) (v2 : Int32)  (m : mM) (r : Int32) (m' : mM), f_x_present F v1 v2 m = some (r, m') → m_R X (d + 3) 59 0 [some (.ref 0), some (.int v1), some (.int v2)] [] (SH, m) (some (.int r), (SH, m')) := by
  intro v1 v2 m r m' h
  unfold f_x_present at h
  refine m_R_sg (by decide) [(.aload_n 0, 1, 0, 0, 0, 0, 0), (.getfield 28, 3, 0, 11, 2, 3, 632), (.getfield 95, 3, 0, 10, 1, 3, 507), (.iload_n 1, 1, 0, 1, 0, 0, 0)] (by decide +kernel) (show m_sgl X _ _ _ _ _ = some (8, [some (.ref 0), some (.int v1), some (.int v2)], [.int v1, .ref 19], (SH, m.1, m.2)) from rfl) ?_
  obtain ⟨q1, hc1, h⟩ := Option.bind_eq_some_iff.mp h
  refine m_R_cV (v := (some (.int q1.1))) (h1 := (SH, q1.2)) (rest := []) (lo' := [some (.ref 19), some (.int v1)]) (ml := 2) (k0 := 19) (by decide) (Or.inl rfl) (m_opb_of (ins := .invokevirtual 107) (len := 3) (tag := 5) (a := 24) (b := 1) (c := 0) (q := 712) (by decide +kernel)) (by decide +kernel) rfl (show m_isO 24 19 (SH, _) = true from m_isO_of (by decide +kernel)) (Nat.le_of_ble_eq_true rfl) rfl rfl (ok_Houses_isHouse X (d + 2) F _ _ _ _ hc1) ?_
  rcases m_ite h with ⟨c522, h⟩ | ⟨c522, h⟩
  · refine m_R_1 (by decide) (m_opb_of (ins := .ifCond .ne 10) (len := 3) (tag := 0) (a := 21) (b := 0) (c := 0) (q := 0) (by decide +kernel)) (if_pos c522) ?_
    refine m_R_sg (by decide) [(.aload_n 0, 1, 0, 0, 0, 0, 0), (.bipush (-3), 2, 0, 3, 1, 0, 0)] (by decide +kernel) (show m_sgl X _ _ _ _ _ = some (17, [some (.ref 0), some (.int v1), some (.int v2)], [.int (-3 : Int32), .ref 0], (SH, q1.2.1, q1.2.2)) from rfl) ?_
    obtain ⟨q2, hc2, h⟩ := Option.bind_eq_some_iff.mp h
    refine m_R_cV (v := (some (.int q2.1))) (h1 := (SH, q2.2)) (rest := []) (lo' := [some (.ref 0), some (.int (-3 : Int32))]) (ml := 2) (k0 := 0) (by decide) (Or.inl rfl) (m_opb_of (ins := .invokevirtual 76) (len := 3) (tag := 5) (a := 14) (b := 1) (c := 0) (q := 671) (by decide +kernel)) (by decide +kernel) rfl (show m_isO 14 0 (SH, _) = true from m_isO_of (by decide +kernel)) (Nat.le_of_ble_eq_true rfl) rfl rfl (ok_x_refuse X (d + 2) F _ _ _ _ hc2) ?_
    obtain ⟨rfl, rfl⟩ := m_some h
    exact m_R_iret (by decide) (m_opb_of (ins := .ireturn) (len := 1) (tag := 1) (a := 0) (b := 0) (c := 0) (q := 0) (by decide +kernel)) (Or.inl rfl)
  · refine m_R_1 (by decide) (m_opb_of (ins := .ifCond .ne 10) (len := 3) (tag := 0) (a := 21) (b := 0) (c := 0) (q := 0) (by decide +kernel)) (if_neg c522) ?_
    refine m_R_sg (by decide) [(.iload_n 1, 1, 0, 1, 0, 0, 0)] (by decide +kernel) (show m_sgl X _ _ _ _ _ = some (22, [some (.ref 0), some (.int v1), some (.int v2)], [.int v1], (SH, q1.2.1, q1.2.2)) from rfl) ?_
    rcases m_ite h with ⟨c523, h⟩ | ⟨c523, h⟩
    · refine m_R_1 (by decide) (m_opb_of (ins := .ifCond .ne 10) (len := 3) (tag := 0) (a := 32) (b := 0) (c := 0) (q := 0) (by decide +kernel)) (if_pos c523) ?_
      refine m_R_sg (by decide) [(.aload_n 0, 1, 0, 0, 0, 0, 0), (.bipush (-5), 2, 0, 5, 1, 0, 0)] (by decide +kernel) (show m_sgl X _ _ _ _ _ = some (28, [some (.ref 0), some (.int v1), some (.int v2)], [.int (-5 : Int32), .ref 0], (SH, q1.2.1, q1.2.2)) from rfl) ?_
      obtain ⟨q3, hc3, h⟩ := Option.bind_eq_some_iff.mp h
      refine m_R_cV (v := (some (.int q3.1))) (h1 := (SH, q3.2)) (rest := []) (lo' := [some (.ref 0), some (.int (-5 : Int32))]) (ml := 2) (k0 := 0) (by decide) (Or.inl rfl) (m_opb_of (ins := .invokevirtual 76) (len := 3) (tag := 5) (a := 14) (b := 1) (c := 0) (q := 671) (by decide +kernel)) (by decide +kernel) rfl (show m_isO 14 0 (SH, _) = true from m_isO_of (by decide +kernel)) (Nat.le_of_ble_eq_true rfl) rfl rfl (ok_x_refuse X (d + 2) F _ _ _ _ hc3) ?_
      obtain ⟨rfl, rfl⟩ := m_some h
      exact m_R_iret (by decide) (m_opb_of (ins := .ireturn) (len := 1) (tag := 1) (a := 0) (b := 0) (c := 0) (q := 0) (by decide +kernel)) (Or.inl rfl)
    · refine m_R_1 (by decide) (m_opb_of (ins := .ifCond .ne 10) (len := 3) (tag := 0) (a := 32) (b := 0) (c := 0) (q := 0) (by decide +kernel)) (if_neg c523) ?_
      refine m_R_sg (by decide) [(.iload_n 2, 1, 0, 2, 0, 0, 0), (.iconst 1, 1, 0, 1, 0, 0, 0)] (by decide +kernel) (show m_sgl X _ _ _ _ _ = some (34, [some (.ref 0), some (.int v1), some (.int v2)], [.int (1 : Int32), .int v2], (SH, q1.2.1, q1.2.2)) from rfl) ?_
      rcases m_ite h with ⟨c524, h⟩ | ⟨c524, h⟩
      · refine m_R_1 (by decide) (m_opb_of (ins := .if_icmp .lt 35) (len := 3) (tag := 0) (a := 69) (b := 0) (c := 0) (q := 0) (by decide +kernel)) (if_pos c524) ?_
        exact ok_x_present_69 X d F _ _ _ _ _ h
      · refine m_R_1 (by decide) (m_opb_of (ins := .if_icmp .lt 35) (len := 3) (tag := 0) (a := 69) (b := 0) (c := 0) (q := 0) (by decide +kernel)) (if_neg c524) ?_
        refine m_R_sg (by decide) [(.iload_n 2, 1, 0, 2, 0, 0, 0), (.sipush 400, 3, 0, 400, 0, 0, 0)] (by decide +kernel) (show m_sgl X _ _ _ _ _ = some (41, [some (.ref 0), some (.int v1), some (.int v2)], [.int (400 : Int32), .int v2], (SH, q1.2.1, q1.2.2)) from rfl) ?_
        rcases m_ite h with ⟨c525, h⟩ | ⟨c525, h⟩
        · refine m_R_1 (by decide) (m_opb_of (ins := .if_icmp .gt 28) (len := 3) (tag := 0) (a := 69) (b := 0) (c := 0) (q := 0) (by decide +kernel)) (if_pos c525) ?_
          exact ok_x_present_69 X d F _ _ _ _ _ h
        · refine m_R_1 (by decide) (m_opb_of (ins := .if_icmp .gt 28) (len := 3) (tag := 0) (a := 69) (b := 0) (c := 0) (q := 0) (by decide +kernel)) (if_neg c525) ?_
          refine m_R_sg (by decide) [(.aload_n 0, 1, 0, 0, 0, 0, 0), (.getfield 28, 3, 0, 11, 2, 3, 632), (.getfield 95, 3, 0, 10, 1, 3, 507), (.iload_n 1, 1, 0, 1, 0, 0, 0)] (by decide +kernel) (show m_sgl X _ _ _ _ _ = some (52, [some (.ref 0), some (.int v1), some (.int v2)], [.int v1, .ref 19], (SH, q1.2.1, q1.2.2)) from rfl) ?_
          obtain ⟨q4, hc4, h⟩ := Option.bind_eq_some_iff.mp h
          refine m_R_cV (v := (some (.int q4.1))) (h1 := (SH, q4.2)) (rest := []) (lo' := [some (.ref 19), some (.int v1)]) (ml := 2) (k0 := 19) (by decide) (Or.inl rfl) (m_opb_of (ins := .invokevirtual 110) (len := 3) (tag := 5) (a := 25) (b := 1) (c := 0) (q := 716) (by decide +kernel)) (by decide +kernel) rfl (show m_isO 25 19 (SH, _) = true from m_isO_of (by decide +kernel)) (Nat.le_of_ble_eq_true rfl) rfl rfl (ok_Houses_isUp X (d + 1) F _ _ _ _ hc4) ?_
          rcases m_ite h with ⟨c526, h⟩ | ⟨c526, h⟩
          · refine m_R_1 (by decide) (m_opb_of (ins := .ifCond .eq 14) (len := 3) (tag := 0) (a := 69) (b := 0) (c := 0) (q := 0) (by decide +kernel)) (if_pos c526) ?_
            exact ok_x_present_69 X d F _ _ _ _ _ h
          · refine m_R_1 (by decide) (m_opb_of (ins := .ifCond .eq 14) (len := 3) (tag := 0) (a := 69) (b := 0) (c := 0) (q := 0) (by decide +kernel)) (if_neg c526) ?_
            refine m_R_sg (by decide) [(.aload_n 0, 1, 0, 0, 0, 0, 0), (.getfield 28, 3, 0, 11, 2, 3, 632), (.getfield 180, 3, 0, 10, 13, 0, 529), (.iconst (-1), 1, 0, 1, 1, 0, 0)] (by decide +kernel) (show m_sgl X _ _ _ _ _ = some (66, [some (.ref 0), some (.int v1), some (.int v2)], [.int (-1 : Int32), .int (q4.2.1 16 13)], (SH, q4.2.1, q4.2.2)) from rfl) ?_
            rcases m_ite h with ⟨c527, h⟩ | ⟨c527, h⟩
            · refine m_R_1 (by decide) (m_opb_of (ins := .if_icmp .eq 10) (len := 3) (tag := 0) (a := 76) (b := 0) (c := 0) (q := 0) (by decide +kernel)) (if_pos c527) ?_
              refine m_R_sg (by decide) [(.aload_n 0, 1, 0, 0, 0, 0, 0), (.getfield 28, 3, 0, 11, 2, 3, 632), (.iload_n 1, 1, 0, 1, 0, 0, 0), (.iload_n 2, 1, 0, 2, 0, 0, 0)] (by decide +kernel) (show m_sgl X _ _ _ _ _ = some (82, [some (.ref 0), some (.int v1), some (.int v2)], [.int v2, .int v1, .ref 16], (SH, q4.2.1, q4.2.2)) from rfl) ?_
              obtain ⟨q5, hc5, h⟩ := Option.bind_eq_some_iff.mp h
              refine m_R_cV (v := (some (.int q5.1))) (h1 := (SH, q5.2)) (rest := []) (lo' := [some (.ref 16), some (.int v1), some (.int v2), none, none, none]) (ml := 6) (k0 := 16) (by decide) (Or.inl rfl) (m_opb_of (ins := .invokevirtual 183) (len := 3) (tag := 5) (a := 60) (b := 2) (c := 0) (q := 852) (by decide +kernel)) (by decide +kernel) rfl (show m_isO 60 16 (SH, _) = true from m_isO_of (by decide +kernel)) (Nat.le_of_ble_eq_true rfl) rfl rfl (ok_World_presentCopies X (d + 0) F _ _ _ _ _ hc5) ?_
              obtain ⟨rfl, rfl⟩ := m_some h
              exact m_R_iret (by decide) (m_opb_of (ins := .ireturn) (len := 1) (tag := 1) (a := 0) (b := 0) (c := 0) (q := 0) (by decide +kernel)) (Or.inl rfl)
            · refine m_R_1 (by decide) (m_opb_of (ins := .if_icmp .eq 10) (len := 3) (tag := 0) (a := 76) (b := 0) (c := 0) (q := 0) (by decide +kernel)) (if_neg c527) ?_
              exact ok_x_present_69 X d F _ _ _ _ _ h
def f_m_presents_118 (F : Nat)  (k17 : Int32 → Int32 → Int32 → Int32 → mM → Option (Int32 × mM)) (v1 : Int32) (v2 : Int32) (v4 : Int32) (v5 : Int32) (m : mM) : Option (Int32 × mM) := k17 v1 v2 v4 (v5 + (1 : Int32)) m
theorem ok_m_presents_118 (X : mX) (d F : Nat) (k17 : Int32 → Int32 → Int32 → Int32 → mM → Option (Int32 × mM)) (hk17 : ∀ (v1 : Int32) (v2 : Int32) (v4 : Int32) (v5 : Int32) (w3 : Option Value) (m : mM) (r : Int32) (m' : mM), k17 v1 v2 v4 v5 m = some (r, m') → m_R X (d + 3) 256 17 [some (.ref 304), some (.int v1), some (.int v2), w3, some (.int v4), some (.int v5)] [] (SH, m) (some (.int r), (SH, m'))) : ∀ (v1 : Int32) (v2 : Int32) (v4 : Int32) (v5 : Int32) (w3 : Option Value) (m : mM) (r : Int32) (m' : mM), f_m_presents_118 F k17 v1 v2 v4 v5 m = some (r, m') → m_R X (d + 3) 256 118 [some (.ref 304), some (.int v1), some (.int v2), w3, some (.int v4), some (.int v5)] [] (SH, m) (some (.int r), (SH, m')) := by
  intro v1 v2 v4 v5 w3 m r m' h
  unfold f_m_presents_118 at h
  refine m_R_sg (by decide) [(.iinc 5 1, 3, 0, 5, 1, 0, 0), (.goto (-104), 3, 0, 17, 0, 0, 0)] (by decide +kernel) (show m_sgl X _ _ _ _ _ = some (17, [some (.ref 304), some (.int v1), some (.int v2), w3, some (.int v4), some (.int (v5 + (1 : Int32)))], [], (SH, m.1, m.2)) from rfl) ?_
  exact hk17 _ _ _ _ _ _ _ _ h
def f_m_presents_103 (F : Nat)  (k17 : Int32 → Int32 → Int32 → Int32 → mM → Option (Int32 × mM)) (v1 : Int32) (v2 : Int32) (v4 : Int32) (v5 : Int32) (m : mM) : Option (Int32 × mM) := (if v5 < 0 ∨ 400 ≤ v5.toNatClampNeg then none else ((f_m_moves F (m.1 307 v5.toNatClampNeg) (0 : Int32) m).bind fun q4 => f_m_presents_118 F k17 v1 v2 (v4 + (1 : Int32)) v5 q4.2))
theorem ok_m_presents_103 (X : mX) (d F : Nat) (k17 : Int32 → Int32 → Int32 → Int32 → mM → Option (Int32 × mM)) (hk17 : ∀ (v1 : Int32) (v2 : Int32) (v4 : Int32) (v5 : Int32) (w3 : Option Value) (m : mM) (r : Int32) (m' : mM), k17 v1 v2 v4 v5 m = some (r, m') → m_R X (d + 3) 256 17 [some (.ref 304), some (.int v1), some (.int v2), w3, some (.int v4), some (.int v5)] [] (SH, m) (some (.int r), (SH, m'))) : ∀ (v1 : Int32) (v2 : Int32) (v4 : Int32) (v5 : Int32) (w3 : Option Value) (m : mM) (r : Int32) (m' : mM), f_m_presents_103 F k17 v1 v2 v4 v5 m = some (r, m') → m_R X (d + 3) 256 103 [some (.ref 304), some (.int v1), some (.int v2), w3, some (.int v4), some (.int v5)] [] (SH, m) (some (.int r), (SH, m')) := by
  intro v1 v2 v4 v5 w3 m r m' h
  unfold f_m_presents_103 at h
  refine m_R_sg (by decide) [(.aload_n 0, 1, 0, 0, 0, 0, 0), (.aload_n 0, 1, 0, 0, 0, 0, 0), (.getfield 20, 3, 0, 12, 3, 3, 1495), (.iload 5, 2, 0, 5, 0, 0, 0)] (by decide +kernel) (show m_sgl X _ _ _ _ _ = some (110, [some (.ref 304), some (.int v1), some (.int v2), w3, some (.int v4), some (.int v5)], [.int v5, .ref 307, .ref 304], (SH, m.1, m.2)) from rfl) ?_
  obtain ⟨c528, h⟩ := m_ite_n h
  refine m_R_1 (by decide) (m_opb_of (ins := .iaload) (len := 1) (tag := 0) (a := 0) (b := 0) (c := 0) (q := 0) (by decide +kernel)) (m_s_iald sh_307 (by decide) c528) ?_
  refine m_R_sg (by decide) [(.iconst 0, 1, 0, 0, 0, 0, 0)] (by decide +kernel) (show m_sgl X _ _ _ _ _ = some (112, [some (.ref 304), some (.int v1), some (.int v2), w3, some (.int v4), some (.int v5)], [.int (0 : Int32), .int (m.1 307 v5.toNatClampNeg), .ref 304], (SH, m.1, m.2)) from rfl) ?_
  obtain ⟨q4, hc4, h⟩ := Option.bind_eq_some_iff.mp h
  refine m_R_cV (v := none) (h1 := (SH, q4.2)) (rest := []) (lo' := [some (.ref 304), some (.int (m.1 307 v5.toNatClampNeg)), some (.int (0 : Int32)), none]) (ml := 4) (k0 := 304) (by decide) (Or.inl rfl) (m_opb_of (ins := .invokevirtual 141) (len := 3) (tag := 5) (a := 254) (b := 2) (c := 0) (q := 1834) (by decide +kernel)) (by decide +kernel) rfl (show m_isO 254 304 (SH, _) = true from m_isO_of (by decide +kernel)) (Nat.le_of_ble_eq_true rfl) rfl rfl (ok_m_moves X (d + 1) F _ _ _ _ _ hc4) ?_
  refine m_R_sg (by decide) [(.iinc 4 1, 3, 0, 4, 1, 0, 0)] (by decide +kernel) (show m_sgl X _ _ _ _ _ = some (118, [some (.ref 304), some (.int v1), some (.int v2), w3, some (.int (v4 + (1 : Int32))), some (.int v5)], [], (SH, q4.2.1, q4.2.2)) from rfl) ?_
  exact ok_m_presents_118 X d F _ hk17 _ _ _ _ _ _ _ _ h
def f_m_presents_124 (F : Nat)   (v4 : Int32) (m : mM) : Option (Int32 × mM) := some (v4, m)
theorem ok_m_presents_124 (X : mX) (d F : Nat) : ∀ (v4 : Int32) (w0 : Option Value) (w1 : Option Value) (w2 : Option Value) (w3 : Option Value) (w5 : Option Value) (m : mM) (r : Int32) (m' : mM), f_m_presents_124 F v4 m = some (r, m') → m_R X (d + 3) 256 124 [w0, w1, w2, w3, some (.int v4), w5] [] (SH, m) (some (.int r), (SH, m')) := by
  intro v4 w0 w1 w2 w3 w5 m r m' h
  unfold f_m_presents_124 at h
  refine m_R_sg (by decide) [(.iload 4, 2, 0, 4, 0, 0, 0)] (by decide +kernel) (show m_sgl X _ _ _ _ _ = some (126, [w0, w1, w2, w3, some (.int v4), w5], [.int v4], (SH, m.1, m.2)) from rfl) ?_
  obtain ⟨rfl, rfl⟩ := m_some h
  exact m_R_iret (by decide) (m_opb_of (ins := .ireturn) (len := 1) (tag := 1) (a := 0) (b := 0) (c := 0) (q := 0) (by decide +kernel)) (Or.inl rfl)
def f_m_presents_17 (F : Nat)   : Nat → Int32 → Int32 → Int32 → Int32 → mM → Option (Int32 × mM)
  | 0, _, _, _, _, _ => none
  | n + 1, v1, v2, v4, v5, m => (if (m.1 304 5) ≤ v5 then f_m_presents_124 F v4 m else (if v2 ≤ v5 then f_m_presents_124 F v4 m else (if (m.1 305 (9 : Int32).toNatClampNeg) = (-1 : Int32) then ((f_m_hs F (0 : Int32) (2 : Int32) m).bind fun q3 => (if (10 : Int32) ≤ q3.1 then (if (((128 : Int32) + ((12 : Int32) * v1)) + (2 : Int32)) < 0 ∨ 9732 ≤ (((128 : Int32) + ((12 : Int32) * v1)) + (2 : Int32)).toNatClampNeg then none else f_m_presents_103 F (f_m_presents_17 F n) v1 v2 v4 v5 ((m_up (m_up q3.2.1 305 (130 : Int32).toNatClampNeg ((q3.2.1 305 (130 : Int32).toNatClampNeg) - (10 : Int32))) 305 (((128 : Int32) + ((12 : Int32) * v1)) + (2 : Int32)).toNatClampNeg (((m_up q3.2.1 305 (130 : Int32).toNatClampNeg ((q3.2.1 305 (130 : Int32).toNatClampNeg) - (10 : Int32))) 305 (((128 : Int32) + ((12 : Int32) * v1)) + (2 : Int32)).toNatClampNeg) + (10 : Int32))), q3.2.2)) else f_m_presents_118 F (f_m_presents_17 F n) v1 v2 v4 v5 ((m_up q3.2.1 305 (9 : Int32).toNatClampNeg (q3.2.1 305 (0 : Int32).toNatClampNeg)), q3.2.2))) else f_m_presents_124 F v4 m)))
theorem ok_m_presents_17 (X : mX) (d F : Nat) : ∀ (n : Nat) (v1 : Int32) (v2 : Int32) (v4 : Int32) (v5 : Int32) (w3 : Option Value) (m : mM) (r : Int32) (m' : mM), f_m_presents_17 F n v1 v2 v4 v5 m = some (r, m') → m_R X (d + 3) 256 17 [some (.ref 304), some (.int v1), some (.int v2), w3, some (.int v4), some (.int v5)] [] (SH, m) (some (.int r), (SH, m')) := by
  intro n
  induction n with
  | zero => intro v1 v2 v4 v5 w3 m r m' h; cases h
  | succ n ih =>
    intro v1 v2 v4 v5 w3 m r m' h
    simp only [f_m_presents_17] at h
    refine m_R_sg (by decide) [(.iload 5, 2, 0, 5, 0, 0, 0), (.aload_n 0, 1, 0, 0, 0, 0, 0), (.getfield 92, 3, 0, 12, 5, 0, 1497)] (by decide +kernel) (show m_sgl X _ _ _ _ _ = some (23, [some (.ref 304), some (.int v1), some (.int v2), w3, some (.int v4), some (.int v5)], [.int (m.1 304 5), .int v5], (SH, m.1, m.2)) from rfl) ?_
    rcases m_ite h with ⟨c529, h⟩ | ⟨c529, h⟩
    · refine m_R_1 (by decide) (m_opb_of (ins := .if_icmp .ge 101) (len := 3) (tag := 0) (a := 124) (b := 0) (c := 0) (q := 0) (by decide +kernel)) (if_pos c529) ?_
      exact ok_m_presents_124 X d F _ _ _ _ _ _ _ _ _ h
    · refine m_R_1 (by decide) (m_opb_of (ins := .if_icmp .ge 101) (len := 3) (tag := 0) (a := 124) (b := 0) (c := 0) (q := 0) (by decide +kernel)) (if_neg c529) ?_
      refine m_R_sg (by decide) [(.iload 5, 2, 0, 5, 0, 0, 0), (.iload_n 2, 1, 0, 2, 0, 0, 0)] (by decide +kernel) (show m_sgl X _ _ _ _ _ = some (29, [some (.ref 304), some (.int v1), some (.int v2), w3, some (.int v4), some (.int v5)], [.int v2, .int v5], (SH, m.1, m.2)) from rfl) ?_
      rcases m_ite h with ⟨c530, h⟩ | ⟨c530, h⟩
      · refine m_R_1 (by decide) (m_opb_of (ins := .if_icmp .ge 95) (len := 3) (tag := 0) (a := 124) (b := 0) (c := 0) (q := 0) (by decide +kernel)) (if_pos c530) ?_
        exact ok_m_presents_124 X d F _ _ _ _ _ _ _ _ _ h
      · refine m_R_1 (by decide) (m_opb_of (ins := .if_icmp .ge 95) (len := 3) (tag := 0) (a := 124) (b := 0) (c := 0) (q := 0) (by decide +kernel)) (if_neg c530) ?_
        refine m_R_sg (by decide) [(.aload_n 0, 1, 0, 0, 0, 0, 0), (.getfield 13, 3, 0, 12, 1, 3, 1493), (.bipush 9, 2, 0, 9, 0, 0, 0)] (by decide +kernel) (show m_sgl X _ _ _ _ _ = some (38, [some (.ref 304), some (.int v1), some (.int v2), w3, some (.int v4), some (.int v5)], [.int (9 : Int32), .ref 305], (SH, m.1, m.2)) from rfl) ?_
        refine m_R_1 (by decide) (m_opb_of (ins := .iaload) (len := 1) (tag := 0) (a := 0) (b := 0) (c := 0) (q := 0) (by decide +kernel)) (m_s_iald sh_305 (by decide) (show ¬ ((9 : Int32) < 0 ∨ 9732 ≤ (9 : Int32).toNatClampNeg) by decide)) ?_
        refine m_R_sg (by decide) [(.iconst (-1), 1, 0, 1, 1, 0, 0)] (by decide +kernel) (show m_sgl X _ _ _ _ _ = some (40, [some (.ref 304), some (.int v1), some (.int v2), w3, some (.int v4), some (.int v5)], [.int (-1 : Int32), .int (m.1 305 (9 : Int32).toNatClampNeg)], (SH, m.1, m.2)) from rfl) ?_
        rcases m_ite h with ⟨c531, h⟩ | ⟨c531, h⟩
        · refine m_R_1 (by decide) (m_opb_of (ins := .if_icmp .ne 84) (len := 3) (tag := 0) (a := 124) (b := 0) (c := 0) (q := 0) (by decide +kernel)) (if_pos c531) ?_
          refine m_R_sg (by decide) [(.aload_n 0, 1, 0, 0, 0, 0, 0), (.iconst 0, 1, 0, 0, 0, 0, 0), (.iconst 2, 1, 0, 2, 0, 0, 0)] (by decide +kernel) (show m_sgl X _ _ _ _ _ = some (46, [some (.ref 304), some (.int v1), some (.int v2), w3, some (.int v4), some (.int v5)], [.int (2 : Int32), .int (0 : Int32), .ref 304], (SH, m.1, m.2)) from rfl) ?_
          obtain ⟨q3, hc3, h⟩ := Option.bind_eq_some_iff.mp h
          refine m_R_cV (v := (some (.int q3.1))) (h1 := (SH, q3.2)) (rest := []) (lo' := [some (.ref 304), some (.int (0 : Int32)), some (.int (2 : Int32))]) (ml := 3) (k0 := 304) (by decide) (Or.inl rfl) (m_opb_of (ins := .invokevirtual 65) (len := 3) (tag := 5) (a := 212) (b := 2) (c := 0) (q := 1633) (by decide +kernel)) (by decide +kernel) rfl (show m_isO 212 304 (SH, _) = true from m_isO_of (by decide +kernel)) (Nat.le_of_ble_eq_true rfl) rfl rfl (ok_m_hs X (d + 2) F _ _ _ _ _ hc3) ?_
          refine m_R_sg (by decide) [(.bipush 10, 2, 0, 10, 0, 0, 0)] (by decide +kernel) (show m_sgl X _ _ _ _ _ = some (51, [some (.ref 304), some (.int v1), some (.int v2), w3, some (.int v4), some (.int v5)], [.int (10 : Int32), .int q3.1], (SH, q3.2.1, q3.2.2)) from rfl) ?_
          rcases m_ite h with ⟨c532, h⟩ | ⟨c532, h⟩
          · refine m_R_1 (by decide) (m_opb_of (ins := .if_icmp .ge 19) (len := 3) (tag := 0) (a := 70) (b := 0) (c := 0) (q := 0) (by decide +kernel)) (if_pos c532) ?_
            refine m_R_sg (by decide) [(.aload_n 0, 1, 0, 0, 0, 0, 0), (.getfield 13, 3, 0, 12, 1, 3, 1493), (.sipush 130, 3, 0, 130, 0, 0, 0), (.dup2, 1, 0, 0, 0, 0, 0)] (by decide +kernel) (show m_sgl X _ _ _ _ _ = some (78, [some (.ref 304), some (.int v1), some (.int v2), w3, some (.int v4), some (.int v5)], [.int (130 : Int32), .ref 305, .int (130 : Int32), .ref 305], (SH, q3.2.1, q3.2.2)) from rfl) ?_
            refine m_R_1 (by decide) (m_opb_of (ins := .iaload) (len := 1) (tag := 0) (a := 0) (b := 0) (c := 0) (q := 0) (by decide +kernel)) (m_s_iald sh_305 (by decide) (show ¬ ((130 : Int32) < 0 ∨ 9732 ≤ (130 : Int32).toNatClampNeg) by decide)) ?_
            refine m_R_sg (by decide) [(.bipush 10, 2, 0, 10, 0, 0, 0), (.isub, 1, 0, 0, 0, 0, 0)] (by decide +kernel) (show m_sgl X _ _ _ _ _ = some (82, [some (.ref 304), some (.int v1), some (.int v2), w3, some (.int v4), some (.int v5)], [.int ((q3.2.1 305 (130 : Int32).toNatClampNeg) - (10 : Int32)), .int (130 : Int32), .ref 305], (SH, q3.2.1, q3.2.2)) from rfl) ?_
            refine m_R_1 (by decide) (m_opb_of (ins := .iastore) (len := 1) (tag := 0) (a := 0) (b := 0) (c := 0) (q := 0) (by decide +kernel)) (m_s_iast sh_305 (show ¬ ((130 : Int32) < 0 ∨ 9732 ≤ (130 : Int32).toNatClampNeg) by decide)) ?_
            refine m_R_sg (by decide) [(.aload_n 0, 1, 0, 0, 0, 0, 0), (.getfield 13, 3, 0, 12, 1, 3, 1493), (.sipush 128, 3, 0, 128, 0, 0, 0), (.bipush 12, 2, 0, 12, 0, 0, 0), (.iload_n 1, 1, 0, 1, 0, 0, 0), (.imul, 1, 0, 0, 0, 0, 0), (.iadd, 1, 0, 0, 0, 0, 0), (.iconst 2, 1, 0, 2, 0, 0, 0), (.iadd, 1, 0, 0, 0, 0, 0), (.dup2, 1, 0, 0, 0, 0, 0)] (by decide +kernel) (show m_sgl X _ _ _ _ _ = some (98, [some (.ref 304), some (.int v1), some (.int v2), w3, some (.int v4), some (.int v5)], [.int (((128 : Int32) + ((12 : Int32) * v1)) + (2 : Int32)), .ref 305, .int (((128 : Int32) + ((12 : Int32) * v1)) + (2 : Int32)), .ref 305], (SH, (m_up q3.2.1 305 (130 : Int32).toNatClampNeg ((q3.2.1 305 (130 : Int32).toNatClampNeg) - (10 : Int32))), q3.2.2)) from rfl) ?_
            obtain ⟨c533, h⟩ := m_ite_n h
            refine m_R_1 (by decide) (m_opb_of (ins := .iaload) (len := 1) (tag := 0) (a := 0) (b := 0) (c := 0) (q := 0) (by decide +kernel)) (m_s_iald sh_305 (by decide) c533) ?_
            refine m_R_sg (by decide) [(.bipush 10, 2, 0, 10, 0, 0, 0), (.iadd, 1, 0, 0, 0, 0, 0)] (by decide +kernel) (show m_sgl X _ _ _ _ _ = some (102, [some (.ref 304), some (.int v1), some (.int v2), w3, some (.int v4), some (.int v5)], [.int (((m_up q3.2.1 305 (130 : Int32).toNatClampNeg ((q3.2.1 305 (130 : Int32).toNatClampNeg) - (10 : Int32))) 305 (((128 : Int32) + ((12 : Int32) * v1)) + (2 : Int32)).toNatClampNeg) + (10 : Int32)), .int (((128 : Int32) + ((12 : Int32) * v1)) + (2 : Int32)), .ref 305], (SH, (m_up q3.2.1 305 (130 : Int32).toNatClampNeg ((q3.2.1 305 (130 : Int32).toNatClampNeg) - (10 : Int32))), q3.2.2)) from rfl) ?_
            refine m_R_1 (by decide) (m_opb_of (ins := .iastore) (len := 1) (tag := 0) (a := 0) (b := 0) (c := 0) (q := 0) (by decide +kernel)) (m_s_iast sh_305 c533) ?_
            exact ok_m_presents_103 X d F _ (fun a0 a1 a2 a3 a4 m r m' h => ih a0 a1 a2 a3 a4 m r m' h) _ _ _ _ _ _ _ _ h
          · refine m_R_1 (by decide) (m_opb_of (ins := .if_icmp .ge 19) (len := 3) (tag := 0) (a := 70) (b := 0) (c := 0) (q := 0) (by decide +kernel)) (if_neg c532) ?_
            refine m_R_sg (by decide) [(.aload_n 0, 1, 0, 0, 0, 0, 0), (.getfield 13, 3, 0, 12, 1, 3, 1493), (.bipush 9, 2, 0, 9, 0, 0, 0), (.aload_n 0, 1, 0, 0, 0, 0, 0), (.getfield 13, 3, 0, 12, 1, 3, 1493), (.iconst 0, 1, 0, 0, 0, 0, 0)] (by decide +kernel) (show m_sgl X _ _ _ _ _ = some (65, [some (.ref 304), some (.int v1), some (.int v2), w3, some (.int v4), some (.int v5)], [.int (0 : Int32), .ref 305, .int (9 : Int32), .ref 305], (SH, q3.2.1, q3.2.2)) from rfl) ?_
            refine m_R_1 (by decide) (m_opb_of (ins := .iaload) (len := 1) (tag := 0) (a := 0) (b := 0) (c := 0) (q := 0) (by decide +kernel)) (m_s_iald sh_305 (by decide) (show ¬ ((0 : Int32) < 0 ∨ 9732 ≤ (0 : Int32).toNatClampNeg) by decide)) ?_
            refine m_R_1 (by decide) (m_opb_of (ins := .iastore) (len := 1) (tag := 0) (a := 0) (b := 0) (c := 0) (q := 0) (by decide +kernel)) (m_s_iast sh_305 (show ¬ ((9 : Int32) < 0 ∨ 9732 ≤ (9 : Int32).toNatClampNeg) by decide)) ?_
            refine m_R_sg (by decide) [(.goto 51, 3, 0, 118, 0, 0, 0)] (by decide +kernel) (show m_sgl X _ _ _ _ _ = some (118, [some (.ref 304), some (.int v1), some (.int v2), w3, some (.int v4), some (.int v5)], [], (SH, (m_up q3.2.1 305 (9 : Int32).toNatClampNeg (q3.2.1 305 (0 : Int32).toNatClampNeg)), q3.2.2)) from rfl) ?_
            exact ok_m_presents_118 X d F _ (fun a0 a1 a2 a3 a4 m r m' h => ih a0 a1 a2 a3 a4 m r m' h) _ _ _ _ _ _ _ _ h
        · refine m_R_1 (by decide) (m_opb_of (ins := .if_icmp .ne 84) (len := 3) (tag := 0) (a := 124) (b := 0) (c := 0) (q := 0) (by decide +kernel)) (if_neg c531) ?_
          exact ok_m_presents_124 X d F _ _ _ _ _ _ _ _ _ h
def f_m_presents (F : Nat)   (v1 : Int32) (v2 : Int32) (m : mM) : Option (Int32 × mM) := ((f_m_finds F v1 m).bind fun q1 => ((f_m_collect F v1 q1.2).bind fun q2 => f_m_presents_17 F F v1 v2 (0 : Int32) (0 : Int32) q2.2))
theorem ok_m_presents (X : mX) (d F : Nat) : ∀ (v1 : Int32) (v2 : Int32)  (m : mM) (r : Int32) (m' : mM), f_m_presents F v1 v2 m = some (r, m') → m_R X (d + 3) 256 0 [some (.ref 304), some (.int v1), some (.int v2), none, none, none] [] (SH, m) (some (.int r), (SH, m')) := by
  intro v1 v2 m r m' h
  unfold f_m_presents at h
  refine m_R_sg (by decide) [(.aload_n 0, 1, 0, 0, 0, 0, 0), (.iload_n 1, 1, 0, 1, 0, 0, 0)] (by decide +kernel) (show m_sgl X _ _ _ _ _ = some (2, [some (.ref 304), some (.int v1), some (.int v2), none, none, none], [.int v1, .ref 304], (SH, m.1, m.2)) from rfl) ?_
  obtain ⟨q1, hc1, h⟩ := Option.bind_eq_some_iff.mp h
  refine m_R_cV (v := none) (h1 := (SH, q1.2)) (rest := []) (lo' := [some (.ref 304), some (.int v1), none, none, none]) (ml := 5) (k0 := 304) (by decide) (Or.inl rfl) (m_opb_of (ins := .invokevirtual 137) (len := 3) (tag := 5) (a := 253) (b := 1) (c := 0) (q := 1830) (by decide +kernel)) (by decide +kernel) rfl (show m_isO 253 304 (SH, _) = true from m_isO_of (by decide +kernel)) (Nat.le_of_ble_eq_true rfl) rfl rfl (ok_m_finds X (d + 0) F _ _ _ _ hc1) ?_
  refine m_R_sg (by decide) [(.aload_n 0, 1, 0, 0, 0, 0, 0), (.iload_n 1, 1, 0, 1, 0, 0, 0)] (by decide +kernel) (show m_sgl X _ _ _ _ _ = some (7, [some (.ref 304), some (.int v1), some (.int v2), none, none, none], [.int v1, .ref 304], (SH, q1.2.1, q1.2.2)) from rfl) ?_
  obtain ⟨q2, hc2, h⟩ := Option.bind_eq_some_iff.mp h
  refine m_R_cV (v := (some (.int q2.1))) (h1 := (SH, q2.2)) (rest := []) (lo' := [some (.ref 304), some (.int v1), none, none, none]) (ml := 5) (k0 := 304) (by decide) (Or.inl rfl) (m_opb_of (ins := .invokevirtual 106) (len := 3) (tag := 5) (a := 247) (b := 1) (c := 0) (q := 1806) (by decide +kernel)) (by decide +kernel) rfl (show m_isO 247 304 (SH, _) = true from m_isO_of (by decide +kernel)) (Nat.le_of_ble_eq_true rfl) rfl rfl (ok_m_collect X (d + 1) F _ _ _ _ hc2) ?_
  refine m_R_sg (by decide) [(.istore_n 3, 1, 0, 3, 0, 0, 0), (.iconst 0, 1, 0, 0, 0, 0, 0), (.istore 4, 2, 0, 4, 0, 0, 0), (.iconst 0, 1, 0, 0, 0, 0, 0), (.istore 5, 2, 0, 5, 0, 0, 0)] (by decide +kernel) (show m_sgl X _ _ _ _ _ = some (17, [some (.ref 304), some (.int v1), some (.int v2), some (.int q2.1), some (.int (0 : Int32)), some (.int (0 : Int32))], [], (SH, q2.2.1, q2.2.2)) from rfl) ?_
  exact ok_m_presents_17 X d F F _ _ _ _ _ _ _ _ h
def f_m_present_56 (F : Nat)    (m : mM) : Option (Int32 × mM) := ((f_m_refuse F (-7 : Int32) m).bind fun q7 => some (q7.1, q7.2))
theorem ok_m_present_56 (X : mX) (d F : Nat) : ∀  (w1 : Option Value) (w2 : Option Value) (m : mM) (r : Int32) (m' : mM), f_m_present_56 F  m = some (r, m') → m_R X (d + 4) 255 56 [some (.ref 304), w1, w2] [] (SH, m) (some (.int r), (SH, m')) := by
  intro w1 w2 m r m' h
  unfold f_m_present_56 at h
  refine m_R_sg (by decide) [(.aload_n 0, 1, 0, 0, 0, 0, 0), (.bipush (-7), 2, 0, 7, 1, 0, 0)] (by decide +kernel) (show m_sgl X _ _ _ _ _ = some (59, [some (.ref 304), w1, w2], [.int (-7 : Int32), .ref 304], (SH, m.1, m.2)) from rfl) ?_
  obtain ⟨q7, hc7, h⟩ := Option.bind_eq_some_iff.mp h
  refine m_R_cV (v := (some (.int q7.1))) (h1 := (SH, q7.2)) (rest := []) (lo' := [some (.ref 304), some (.int (-7 : Int32))]) (ml := 2) (k0 := 304) (by decide) (Or.inl rfl) (m_opb_of (ins := .invokevirtual 61) (len := 3) (tag := 5) (a := 202) (b := 1) (c := 0) (q := 1593) (by decide +kernel)) (by decide +kernel) rfl (show m_isO 202 304 (SH, _) = true from m_isO_of (by decide +kernel)) (Nat.le_of_ble_eq_true rfl) rfl rfl (ok_m_refuse X (d + 3) F _ _ _ _ hc7) ?_
  obtain ⟨rfl, rfl⟩ := m_some h
  exact m_R_iret (by decide) (m_opb_of (ins := .ireturn) (len := 1) (tag := 1) (a := 0) (b := 0) (c := 0) (q := 0) (by decide +kernel)) (Or.inl rfl)
def f_m_present (F : Nat)   (v1 : Int32) (v2 : Int32) (m : mM) : Option (Int32 × mM) := ((f_m_isHouse F v1 m).bind fun q1 => (if q1.1 = 0 then ((f_m_refuse F (-3 : Int32) q1.2).bind fun q2 => some (q2.1, q2.2)) else (if v1 = 0 then ((f_m_refuse F (-5 : Int32) q1.2).bind fun q3 => some (q3.1, q3.2)) else ((f_m_in F v2 (1 : Int32) (400 : Int32) q1.2).bind fun q4 => (if q4.1 = 0 then f_m_present_56 F q4.2 else ((f_m_isUp F v1 q4.2).bind fun q5 => (if q5.1 = 0 then f_m_present_56 F q5.2 else (if (q5.2.1 305 (9 : Int32).toNatClampNeg) = (-1 : Int32) then ((f_m_presents F v1 v2 q5.2).bind fun q6 => some (q6.1, q6.2)) else f_m_present_56 F q5.2))))))))
theorem ok_m_present (X : mX) (d F : Nat) : ∀ (v1 : Int32) (v2 : Int32)  (m : mM) (r : Int32) (m' : mM), f_m_present F v1 v2 m = some (r, m') → m_R X (d + 4) 255 0 [some (.ref 304), some (.int v1), some (.int v2)] [] (SH, m) (some (.int r), (SH, m')) := by
  intro v1 v2 m r m' h
  unfold f_m_present at h
  refine m_R_sg (by decide) [(.aload_n 0, 1, 0, 0, 0, 0, 0), (.iload_n 1, 1, 0, 1, 0, 0, 0)] (by decide +kernel) (show m_sgl X _ _ _ _ _ = some (2, [some (.ref 304), some (.int v1), some (.int v2)], [.int v1, .ref 304], (SH, m.1, m.2)) from rfl) ?_
  obtain ⟨q1, hc1, h⟩ := Option.bind_eq_some_iff.mp h
  refine m_R_cV (v := (some (.int q1.1))) (h1 := (SH, q1.2)) (rest := []) (lo' := [some (.ref 304), some (.int v1)]) (ml := 2) (k0 := 304) (by decide) (Or.inl rfl) (m_opb_of (ins := .invokevirtual 77) (len := 3) (tag := 5) (a := 210) (b := 1) (c := 0) (q := 1625) (by decide +kernel)) (by decide +kernel) rfl (show m_isO 210 304 (SH, _) = true from m_isO_of (by decide +kernel)) (Nat.le_of_ble_eq_true rfl) rfl rfl (ok_m_isHouse X (d + 2) F _ _ _ _ hc1) ?_
  rcases m_ite h with ⟨c534, h⟩ | ⟨c534, h⟩
  · refine m_R_1 (by decide) (m_opb_of (ins := .ifCond .ne 10) (len := 3) (tag := 0) (a := 15) (b := 0) (c := 0) (q := 0) (by decide +kernel)) (if_pos c534) ?_
    refine m_R_sg (by decide) [(.aload_n 0, 1, 0, 0, 0, 0, 0), (.bipush (-3), 2, 0, 3, 1, 0, 0)] (by decide +kernel) (show m_sgl X _ _ _ _ _ = some (11, [some (.ref 304), some (.int v1), some (.int v2)], [.int (-3 : Int32), .ref 304], (SH, q1.2.1, q1.2.2)) from rfl) ?_
    obtain ⟨q2, hc2, h⟩ := Option.bind_eq_some_iff.mp h
    refine m_R_cV (v := (some (.int q2.1))) (h1 := (SH, q2.2)) (rest := []) (lo' := [some (.ref 304), some (.int (-3 : Int32))]) (ml := 2) (k0 := 304) (by decide) (Or.inl rfl) (m_opb_of (ins := .invokevirtual 61) (len := 3) (tag := 5) (a := 202) (b := 1) (c := 0) (q := 1593) (by decide +kernel)) (by decide +kernel) rfl (show m_isO 202 304 (SH, _) = true from m_isO_of (by decide +kernel)) (Nat.le_of_ble_eq_true rfl) rfl rfl (ok_m_refuse X (d + 3) F _ _ _ _ hc2) ?_
    obtain ⟨rfl, rfl⟩ := m_some h
    exact m_R_iret (by decide) (m_opb_of (ins := .ireturn) (len := 1) (tag := 1) (a := 0) (b := 0) (c := 0) (q := 0) (by decide +kernel)) (Or.inl rfl)
  · refine m_R_1 (by decide) (m_opb_of (ins := .ifCond .ne 10) (len := 3) (tag := 0) (a := 15) (b := 0) (c := 0) (q := 0) (by decide +kernel)) (if_neg c534) ?_
    refine m_R_sg (by decide) [(.iload_n 1, 1, 0, 1, 0, 0, 0)] (by decide +kernel) (show m_sgl X _ _ _ _ _ = some (16, [some (.ref 304), some (.int v1), some (.int v2)], [.int v1], (SH, q1.2.1, q1.2.2)) from rfl) ?_
    rcases m_ite h with ⟨c535, h⟩ | ⟨c535, h⟩
    · refine m_R_1 (by decide) (m_opb_of (ins := .ifCond .ne 10) (len := 3) (tag := 0) (a := 26) (b := 0) (c := 0) (q := 0) (by decide +kernel)) (if_pos c535) ?_
      refine m_R_sg (by decide) [(.aload_n 0, 1, 0, 0, 0, 0, 0), (.bipush (-5), 2, 0, 5, 1, 0, 0)] (by decide +kernel) (show m_sgl X _ _ _ _ _ = some (22, [some (.ref 304), some (.int v1), some (.int v2)], [.int (-5 : Int32), .ref 304], (SH, q1.2.1, q1.2.2)) from rfl) ?_
      obtain ⟨q3, hc3, h⟩ := Option.bind_eq_some_iff.mp h
      refine m_R_cV (v := (some (.int q3.1))) (h1 := (SH, q3.2)) (rest := []) (lo' := [some (.ref 304), some (.int (-5 : Int32))]) (ml := 2) (k0 := 304) (by decide) (Or.inl rfl) (m_opb_of (ins := .invokevirtual 61) (len := 3) (tag := 5) (a := 202) (b := 1) (c := 0) (q := 1593) (by decide +kernel)) (by decide +kernel) rfl (show m_isO 202 304 (SH, _) = true from m_isO_of (by decide +kernel)) (Nat.le_of_ble_eq_true rfl) rfl rfl (ok_m_refuse X (d + 3) F _ _ _ _ hc3) ?_
      obtain ⟨rfl, rfl⟩ := m_some h
      exact m_R_iret (by decide) (m_opb_of (ins := .ireturn) (len := 1) (tag := 1) (a := 0) (b := 0) (c := 0) (q := 0) (by decide +kernel)) (Or.inl rfl)
    · refine m_R_1 (by decide) (m_opb_of (ins := .ifCond .ne 10) (len := 3) (tag := 0) (a := 26) (b := 0) (c := 0) (q := 0) (by decide +kernel)) (if_neg c535) ?_
      refine m_R_sg (by decide) [(.iload_n 2, 1, 0, 2, 0, 0, 0), (.iconst 1, 1, 0, 1, 0, 0, 0), (.sipush 400, 3, 0, 400, 0, 0, 0)] (by decide +kernel) (show m_sgl X _ _ _ _ _ = some (31, [some (.ref 304), some (.int v1), some (.int v2)], [.int (400 : Int32), .int (1 : Int32), .int v2], (SH, q1.2.1, q1.2.2)) from rfl) ?_
      obtain ⟨q4, hc4, h⟩ := Option.bind_eq_some_iff.mp h
      refine m_R_cS (v := (some (.int q4.1))) (h1 := (SH, q4.2)) (rest := []) (lo' := [some (.int v2), some (.int (1 : Int32)), some (.int (400 : Int32))]) (ml := 3) (by decide) (m_opb_of (ins := .invokestatic 57) (len := 3) (tag := 4) (a := 201) (b := 3) (c := 0) (q := 1590) (by decide +kernel)) (by decide +kernel) (Nat.le_of_ble_eq_true rfl) rfl (Nat.le_of_ble_eq_true rfl) rfl rfl (ok_m_in X (d + 3) F _ _ _ _ _ _ hc4) ?_
      rcases m_ite h with ⟨c536, h⟩ | ⟨c536, h⟩
      · refine m_R_1 (by decide) (m_opb_of (ins := .ifCond .eq 22) (len := 3) (tag := 0) (a := 56) (b := 0) (c := 0) (q := 0) (by decide +kernel)) (if_pos c536) ?_
        exact ok_m_present_56 X d F _ _ _ _ _ h
      · refine m_R_1 (by decide) (m_opb_of (ins := .ifCond .eq 22) (len := 3) (tag := 0) (a := 56) (b := 0) (c := 0) (q := 0) (by decide +kernel)) (if_neg c536) ?_
        refine m_R_sg (by decide) [(.aload_n 0, 1, 0, 0, 0, 0, 0), (.iload_n 1, 1, 0, 1, 0, 0, 0)] (by decide +kernel) (show m_sgl X _ _ _ _ _ = some (39, [some (.ref 304), some (.int v1), some (.int v2)], [.int v1, .ref 304], (SH, q4.2.1, q4.2.2)) from rfl) ?_
        obtain ⟨q5, hc5, h⟩ := Option.bind_eq_some_iff.mp h
        refine m_R_cV (v := (some (.int q5.1))) (h1 := (SH, q5.2)) (rest := []) (lo' := [some (.ref 304), some (.int v1)]) (ml := 2) (k0 := 304) (by decide) (Or.inl rfl) (m_opb_of (ins := .invokevirtual 80) (len := 3) (tag := 5) (a := 211) (b := 1) (c := 0) (q := 1629) (by decide +kernel)) (by decide +kernel) rfl (show m_isO 211 304 (SH, _) = true from m_isO_of (by decide +kernel)) (Nat.le_of_ble_eq_true rfl) rfl rfl (ok_m_isUp X (d + 2) F _ _ _ _ hc5) ?_
        rcases m_ite h with ⟨c537, h⟩ | ⟨c537, h⟩
        · refine m_R_1 (by decide) (m_opb_of (ins := .ifCond .eq 14) (len := 3) (tag := 0) (a := 56) (b := 0) (c := 0) (q := 0) (by decide +kernel)) (if_pos c537) ?_
          exact ok_m_present_56 X d F _ _ _ _ _ h
        · refine m_R_1 (by decide) (m_opb_of (ins := .ifCond .eq 14) (len := 3) (tag := 0) (a := 56) (b := 0) (c := 0) (q := 0) (by decide +kernel)) (if_neg c537) ?_
          refine m_R_sg (by decide) [(.aload_n 0, 1, 0, 0, 0, 0, 0), (.getfield 13, 3, 0, 12, 1, 3, 1493), (.bipush 9, 2, 0, 9, 0, 0, 0)] (by decide +kernel) (show m_sgl X _ _ _ _ _ = some (51, [some (.ref 304), some (.int v1), some (.int v2)], [.int (9 : Int32), .ref 305], (SH, q5.2.1, q5.2.2)) from rfl) ?_
          refine m_R_1 (by decide) (m_opb_of (ins := .iaload) (len := 1) (tag := 0) (a := 0) (b := 0) (c := 0) (q := 0) (by decide +kernel)) (m_s_iald sh_305 (by decide) (show ¬ ((9 : Int32) < 0 ∨ 9732 ≤ (9 : Int32).toNatClampNeg) by decide)) ?_
          refine m_R_sg (by decide) [(.iconst (-1), 1, 0, 1, 1, 0, 0)] (by decide +kernel) (show m_sgl X _ _ _ _ _ = some (53, [some (.ref 304), some (.int v1), some (.int v2)], [.int (-1 : Int32), .int (q5.2.1 305 (9 : Int32).toNatClampNeg)], (SH, q5.2.1, q5.2.2)) from rfl) ?_
          rcases m_ite h with ⟨c538, h⟩ | ⟨c538, h⟩
          · refine m_R_1 (by decide) (m_opb_of (ins := .if_icmp .eq 10) (len := 3) (tag := 0) (a := 63) (b := 0) (c := 0) (q := 0) (by decide +kernel)) (if_pos c538) ?_
            refine m_R_sg (by decide) [(.aload_n 0, 1, 0, 0, 0, 0, 0), (.iload_n 1, 1, 0, 1, 0, 0, 0), (.iload_n 2, 1, 0, 2, 0, 0, 0)] (by decide +kernel) (show m_sgl X _ _ _ _ _ = some (66, [some (.ref 304), some (.int v1), some (.int v2)], [.int v2, .int v1, .ref 304], (SH, q5.2.1, q5.2.2)) from rfl) ?_
            obtain ⟨q6, hc6, h⟩ := Option.bind_eq_some_iff.mp h
            refine m_R_cV (v := (some (.int q6.1))) (h1 := (SH, q6.2)) (rest := []) (lo' := [some (.ref 304), some (.int v1), some (.int v2), none, none, none]) (ml := 6) (k0 := 304) (by decide) (Or.inl rfl) (m_opb_of (ins := .invokevirtual 151) (len := 3) (tag := 5) (a := 256) (b := 2) (c := 0) (q := 1842) (by decide +kernel)) (by decide +kernel) rfl (show m_isO 256 304 (SH, _) = true from m_isO_of (by decide +kernel)) (Nat.le_of_ble_eq_true rfl) rfl rfl (ok_m_presents X (d + 0) F _ _ _ _ _ hc6) ?_
            obtain ⟨rfl, rfl⟩ := m_some h
            exact m_R_iret (by decide) (m_opb_of (ins := .ireturn) (len := 1) (tag := 1) (a := 0) (b := 0) (c := 0) (q := 0) (by decide +kernel)) (Or.inl rfl)
          · refine m_R_1 (by decide) (m_opb_of (ins := .if_icmp .eq 10) (len := 3) (tag := 0) (a := 63) (b := 0) (c := 0) (q := 0) (by decide +kernel)) (if_neg c538) ?_
            exact ok_m_present_56 X d F _ _ _ _ _ h
def f_x_isNumber_16 (F : Nat)   (s0 : Int32) (m : mM) : Option (Int32 × mM) := (if s0 = 0 ∨ s0 = 1 then some (s0, m) else none)
theorem ok_x_isNumber_16 (X : mX) (d F : Nat) : ∀ (s0 : Int32) (w0 : Option Value) (m : mM) (r : Int32) (m' : mM), f_x_isNumber_16 F s0 m = some (r, m') → m_R X (d + 0) 62 16 [w0] [.int s0] (SH, m) (some (.int r), (SH, m')) := by
  intro s0 w0 m r m' h
  unfold f_x_isNumber_16 at h
  obtain ⟨c0, h⟩ := m_ite_p h
  obtain ⟨rfl, rfl⟩ := m_some h
  exact m_R_iret (by decide) (m_opb_of (ins := .ireturn) (len := 1) (tag := 1) (a := 1) (b := 0) (c := 0) (q := 0) (by decide +kernel)) (Or.inr c0)
def f_x_isNumber_15 (F : Nat)    (m : mM) : Option (Int32 × mM) := f_x_isNumber_16 F (0 : Int32) m
theorem ok_x_isNumber_15 (X : mX) (d F : Nat) : ∀  (w0 : Option Value) (m : mM) (r : Int32) (m' : mM), f_x_isNumber_15 F  m = some (r, m') → m_R X (d + 0) 62 15 [w0] [] (SH, m) (some (.int r), (SH, m')) := by
  intro w0 m r m' h
  unfold f_x_isNumber_15 at h
  refine m_R_sg (by decide) [(.iconst 0, 1, 0, 0, 0, 0, 0)] (by decide +kernel) (show m_sgl X _ _ _ _ _ = some (16, [w0], [.int (0 : Int32)], (SH, m.1, m.2)) from rfl) ?_
  exact ok_x_isNumber_16 X d F _ _ _ _ _ h
def f_x_isNumber (F : Nat)   (v0 : Int32) (m : mM) : Option (Int32 × mM) := (if v0 < 0 then f_x_isNumber_15 F m else (if (300 : Int32) ≤ v0 then f_x_isNumber_15 F m else f_x_isNumber_16 F (1 : Int32) m))
theorem ok_x_isNumber (X : mX) (d F : Nat) : ∀ (v0 : Int32)  (m : mM) (r : Int32) (m' : mM), f_x_isNumber F v0 m = some (r, m') → m_R X (d + 0) 62 0 [some (.int v0)] [] (SH, m) (some (.int r), (SH, m')) := by
  intro v0 m r m' h
  unfold f_x_isNumber at h
  refine m_R_sg (by decide) [(.iload_n 0, 1, 0, 0, 0, 0, 0)] (by decide +kernel) (show m_sgl X _ _ _ _ _ = some (1, [some (.int v0)], [.int v0], (SH, m.1, m.2)) from rfl) ?_
  rcases m_ite h with ⟨c539, h⟩ | ⟨c539, h⟩
  · refine m_R_1 (by decide) (m_opb_of (ins := .ifCond .lt 14) (len := 3) (tag := 0) (a := 15) (b := 0) (c := 0) (q := 0) (by decide +kernel)) (if_pos c539) ?_
    exact ok_x_isNumber_15 X d F _ _ _ _ h
  · refine m_R_1 (by decide) (m_opb_of (ins := .ifCond .lt 14) (len := 3) (tag := 0) (a := 15) (b := 0) (c := 0) (q := 0) (by decide +kernel)) (if_neg c539) ?_
    refine m_R_sg (by decide) [(.iload_n 0, 1, 0, 0, 0, 0, 0), (.sipush 300, 3, 0, 300, 0, 0, 0)] (by decide +kernel) (show m_sgl X _ _ _ _ _ = some (8, [some (.int v0)], [.int (300 : Int32), .int v0], (SH, m.1, m.2)) from rfl) ?_
    rcases m_ite h with ⟨c540, h⟩ | ⟨c540, h⟩
    · refine m_R_1 (by decide) (m_opb_of (ins := .if_icmp .ge 7) (len := 3) (tag := 0) (a := 15) (b := 0) (c := 0) (q := 0) (by decide +kernel)) (if_pos c540) ?_
      exact ok_x_isNumber_15 X d F _ _ _ _ h
    · refine m_R_1 (by decide) (m_opb_of (ins := .if_icmp .ge 7) (len := 3) (tag := 0) (a := 15) (b := 0) (c := 0) (q := 0) (by decide +kernel)) (if_neg c540) ?_
      refine m_R_sg (by decide) [(.iconst 1, 1, 0, 1, 0, 0, 0), (.goto 4, 3, 0, 16, 0, 0, 0)] (by decide +kernel) (show m_sgl X _ _ _ _ _ = some (16, [some (.int v0)], [.int (1 : Int32)], (SH, m.1, m.2)) from rfl) ?_
      exact ok_x_isNumber_16 X d F _ _ _ _ _ h
def f_x_burn_66 (F : Nat)    (m : mM) : Option (Int32 × mM) := some ((m.1 55 11), m)
theorem ok_x_burn_66 (X : mX) (d F : Nat) : ∀  (w0 : Option Value) (w1 : Option Value) (m : mM) (r : Int32) (m' : mM), f_x_burn_66 F  m = some (r, m') → m_R X (d + 1) 61 66 [w0, w1, some (.ref 55)] [] (SH, m) (some (.int r), (SH, m')) := by
  intro w0 w1 m r m' h
  unfold f_x_burn_66 at h
  refine m_R_sg (by decide) [(.aload_n 2, 1, 0, 2, 0, 0, 0), (.getfield 195, 3, 0, 3, 11, 0, 473)] (by decide +kernel) (show m_sgl X _ _ _ _ _ = some (70, [w0, w1, some (.ref 55)], [.int (m.1 55 11)], (SH, m.1, m.2)) from rfl) ?_
  obtain ⟨rfl, rfl⟩ := m_some h
  exact m_R_iret (by decide) (m_opb_of (ins := .ireturn) (len := 1) (tag := 1) (a := 0) (b := 0) (c := 0) (q := 0) (by decide +kernel)) (Or.inl rfl)
def f_x_burn (F : Nat)   (v1 : Int32) (m : mM) : Option (Int32 × mM) := ((f_x_isNumber F v1 m).bind fun q1 => (if q1.1 = 0 then ((f_x_refuse F (-3 : Int32) q1.2).bind fun q2 => some (q2.1, q2.2)) else (if v1 < 0 ∨ 300 ≤ v1.toNatClampNeg then none else (if (q1.2.1 56 v1.toNatClampNeg) = (2 : Int32) then f_x_burn_66 F ((m_up (m_up (m_up q1.2.1 56 v1.toNatClampNeg (3 : Int32)) 55 10 (((m_up q1.2.1 56 v1.toNatClampNeg (3 : Int32)) 55 10) - (1 : Int32))) 55 11 (((m_up (m_up q1.2.1 56 v1.toNatClampNeg (3 : Int32)) 55 10 (((m_up q1.2.1 56 v1.toNatClampNeg (3 : Int32)) 55 10) - (1 : Int32))) 55 11) + (1 : Int32))), q1.2.2) else ((f_x_refuse F (-7 : Int32) q1.2).bind fun q3 => some (q3.1, q3.2))))))
theorem ok_x_burn (X : mX) (d F : Nat) : ∀ (v1 : Int32)  (m : mM) (r : Int32) (m' : mM), f_x_burn F v1 m = some (r, m') → m_R X (d + 1) 61 0 [some (.ref 0), some (.int v1), none] [] (SH, m) (some (.int r), (SH, m')) := by
  intro v1 m r m' h
  unfold f_x_burn at h
  refine m_R_sg (by decide) [(.aload_n 0, 1, 0, 0, 0, 0, 0), (.getfield 28, 3, 0, 11, 2, 3, 632), (.getfield 134, 3, 0, 10, 8, 3, 519), (.astore_n 2, 1, 0, 2, 0, 0, 0), (.iload_n 1, 1, 0, 1, 0, 0, 0)] (by decide +kernel) (show m_sgl X _ _ _ _ _ = some (9, [some (.ref 0), some (.int v1), some (.ref 55)], [.int v1], (SH, m.1, m.2)) from rfl) ?_
  obtain ⟨q1, hc1, h⟩ := Option.bind_eq_some_iff.mp h
  refine m_R_cS (v := (some (.int q1.1))) (h1 := (SH, q1.2)) (rest := []) (lo' := [some (.int v1)]) (ml := 1) (by decide) (m_opb_of (ins := .invokestatic 186) (len := 3) (tag := 4) (a := 62) (b := 1) (c := 0) (q := 862) (by decide +kernel)) (by decide +kernel) (Nat.le_of_ble_eq_true rfl) rfl (Nat.le_of_ble_eq_true rfl) rfl rfl (ok_x_isNumber X (d + 0) F _ _ _ _ hc1) ?_
  rcases m_ite h with ⟨c541, h⟩ | ⟨c541, h⟩
  · refine m_R_1 (by decide) (m_opb_of (ins := .ifCond .ne 10) (len := 3) (tag := 0) (a := 22) (b := 0) (c := 0) (q := 0) (by decide +kernel)) (if_pos c541) ?_
    refine m_R_sg (by decide) [(.aload_n 0, 1, 0, 0, 0, 0, 0), (.bipush (-3), 2, 0, 3, 1, 0, 0)] (by decide +kernel) (show m_sgl X _ _ _ _ _ = some (18, [some (.ref 0), some (.int v1), some (.ref 55)], [.int (-3 : Int32), .ref 0], (SH, q1.2.1, q1.2.2)) from rfl) ?_
    obtain ⟨q2, hc2, h⟩ := Option.bind_eq_some_iff.mp h
    refine m_R_cV (v := (some (.int q2.1))) (h1 := (SH, q2.2)) (rest := []) (lo' := [some (.ref 0), some (.int (-3 : Int32))]) (ml := 2) (k0 := 0) (by decide) (Or.inl rfl) (m_opb_of (ins := .invokevirtual 76) (len := 3) (tag := 5) (a := 14) (b := 1) (c := 0) (q := 671) (by decide +kernel)) (by decide +kernel) rfl (show m_isO 14 0 (SH, _) = true from m_isO_of (by decide +kernel)) (Nat.le_of_ble_eq_true rfl) rfl rfl (ok_x_refuse X (d + 0) F _ _ _ _ hc2) ?_
    obtain ⟨rfl, rfl⟩ := m_some h
    exact m_R_iret (by decide) (m_opb_of (ins := .ireturn) (len := 1) (tag := 1) (a := 0) (b := 0) (c := 0) (q := 0) (by decide +kernel)) (Or.inl rfl)
  · refine m_R_1 (by decide) (m_opb_of (ins := .ifCond .ne 10) (len := 3) (tag := 0) (a := 22) (b := 0) (c := 0) (q := 0) (by decide +kernel)) (if_neg c541) ?_
    refine m_R_sg (by decide) [(.aload_n 2, 1, 0, 2, 0, 0, 0), (.getfield 189, 3, 0, 3, 1, 3, 451), (.iload_n 1, 1, 0, 1, 0, 0, 0)] (by decide +kernel) (show m_sgl X _ _ _ _ _ = some (27, [some (.ref 0), some (.int v1), some (.ref 55)], [.int v1, .ref 56], (SH, q1.2.1, q1.2.2)) from rfl) ?_
    obtain ⟨c542, h⟩ := m_ite_n h
    refine m_R_1 (by decide) (m_opb_of (ins := .iaload) (len := 1) (tag := 0) (a := 0) (b := 0) (c := 0) (q := 0) (by decide +kernel)) (m_s_iald sh_56 (by decide) c542) ?_
    refine m_R_sg (by decide) [(.iconst 2, 1, 0, 2, 0, 0, 0)] (by decide +kernel) (show m_sgl X _ _ _ _ _ = some (29, [some (.ref 0), some (.int v1), some (.ref 55)], [.int (2 : Int32), .int (q1.2.1 56 v1.toNatClampNeg)], (SH, q1.2.1, q1.2.2)) from rfl) ?_
    rcases m_ite h with ⟨c543, h⟩ | ⟨c543, h⟩
    · refine m_R_1 (by decide) (m_opb_of (ins := .if_icmp .eq 10) (len := 3) (tag := 0) (a := 39) (b := 0) (c := 0) (q := 0) (by decide +kernel)) (if_pos c543) ?_
      refine m_R_sg (by decide) [(.aload_n 2, 1, 0, 2, 0, 0, 0), (.getfield 189, 3, 0, 3, 1, 3, 451), (.iload_n 1, 1, 0, 1, 0, 0, 0), (.iconst 3, 1, 0, 3, 0, 0, 0)] (by decide +kernel) (show m_sgl X _ _ _ _ _ = some (45, [some (.ref 0), some (.int v1), some (.ref 55)], [.int (3 : Int32), .int v1, .ref 56], (SH, q1.2.1, q1.2.2)) from rfl) ?_
      refine m_R_1 (by decide) (m_opb_of (ins := .iastore) (len := 1) (tag := 0) (a := 0) (b := 0) (c := 0) (q := 0) (by decide +kernel)) (m_s_iast sh_56 c542) ?_
      refine m_R_sg (by decide) [(.aload_n 2, 1, 0, 2, 0, 0, 0), (.dup, 1, 0, 0, 0, 0, 0), (.getfield 192, 3, 0, 3, 10, 0, 471), (.iconst 1, 1, 0, 1, 0, 0, 0), (.isub, 1, 0, 0, 0, 0, 0), (.putfield 192, 3, 0, 3, 10, 0, 471), (.aload_n 2, 1, 0, 2, 0, 0, 0), (.dup, 1, 0, 0, 0, 0, 0), (.getfield 195, 3, 0, 3, 11, 0, 473), (.iconst 1, 1, 0, 1, 0, 0, 0), (.iadd, 1, 0, 0, 0, 0, 0), (.putfield 195, 3, 0, 3, 11, 0, 473)] (by decide +kernel) (show m_sgl X _ _ _ _ _ = some (66, [some (.ref 0), some (.int v1), some (.ref 55)], [], (SH, (m_up (m_up (m_up q1.2.1 56 v1.toNatClampNeg (3 : Int32)) 55 10 (((m_up q1.2.1 56 v1.toNatClampNeg (3 : Int32)) 55 10) - (1 : Int32))) 55 11 (((m_up (m_up q1.2.1 56 v1.toNatClampNeg (3 : Int32)) 55 10 (((m_up q1.2.1 56 v1.toNatClampNeg (3 : Int32)) 55 10) - (1 : Int32))) 55 11) + (1 : Int32))), q1.2.2)) from rfl) ?_
      exact ok_x_burn_66 X d F _ _ _ _ _ h
    · refine m_R_1 (by decide) (m_opb_of (ins := .if_icmp .eq 10) (len := 3) (tag := 0) (a := 39) (b := 0) (c := 0) (q := 0) (by decide +kernel)) (if_neg c543) ?_
      refine m_R_sg (by decide) [(.aload_n 0, 1, 0, 0, 0, 0, 0), (.bipush (-7), 2, 0, 7, 1, 0, 0)] (by decide +kernel) (show m_sgl X _ _ _ _ _ = some (35, [some (.ref 0), some (.int v1), some (.ref 55)], [.int (-7 : Int32), .ref 0], (SH, q1.2.1, q1.2.2)) from rfl) ?_
      obtain ⟨q3, hc3, h⟩ := Option.bind_eq_some_iff.mp h
      refine m_R_cV (v := (some (.int q3.1))) (h1 := (SH, q3.2)) (rest := []) (lo' := [some (.ref 0), some (.int (-7 : Int32))]) (ml := 2) (k0 := 0) (by decide) (Or.inl rfl) (m_opb_of (ins := .invokevirtual 76) (len := 3) (tag := 5) (a := 14) (b := 1) (c := 0) (q := 671) (by decide +kernel)) (by decide +kernel) rfl (show m_isO 14 0 (SH, _) = true from m_isO_of (by decide +kernel)) (Nat.le_of_ble_eq_true rfl) rfl rfl (ok_x_refuse X (d + 0) F _ _ _ _ hc3) ?_
      obtain ⟨rfl, rfl⟩ := m_some h
      exact m_R_iret (by decide) (m_opb_of (ins := .ireturn) (len := 1) (tag := 1) (a := 0) (b := 0) (c := 0) (q := 0) (by decide +kernel)) (Or.inl rfl)
def f_m_isNumber (F : Nat)   (v0 : Int32) (m : mM) : Option (Int32 × mM) := ((f_m_in F v0 (0 : Int32) (299 : Int32) m).bind fun q1 => (if q1.1 = 0 ∨ q1.1 = 1 then some (q1.1, q1.2) else none))
theorem ok_m_isNumber (X : mX) (d F : Nat) : ∀ (v0 : Int32)  (m : mM) (r : Int32) (m' : mM), f_m_isNumber F v0 m = some (r, m') → m_R X (d + 1) 258 0 [some (.int v0)] [] (SH, m) (some (.int r), (SH, m')) := by
  intro v0 m r m' h
  unfold f_m_isNumber at h
  refine m_R_sg (by decide) [(.iload_n 0, 1, 0, 0, 0, 0, 0), (.iconst 0, 1, 0, 0, 0, 0, 0), (.sipush 299, 3, 0, 299, 0, 0, 0)] (by decide +kernel) (show m_sgl X _ _ _ _ _ = some (5, [some (.int v0)], [.int (299 : Int32), .int (0 : Int32), .int v0], (SH, m.1, m.2)) from rfl) ?_
  obtain ⟨q1, hc1, h⟩ := Option.bind_eq_some_iff.mp h
  refine m_R_cS (v := (some (.int q1.1))) (h1 := (SH, q1.2)) (rest := []) (lo' := [some (.int v0), some (.int (0 : Int32)), some (.int (299 : Int32))]) (ml := 3) (by decide) (m_opb_of (ins := .invokestatic 57) (len := 3) (tag := 4) (a := 201) (b := 3) (c := 0) (q := 1590) (by decide +kernel)) (by decide +kernel) (Nat.le_of_ble_eq_true rfl) rfl (Nat.le_of_ble_eq_true rfl) rfl rfl (ok_m_in X (d + 0) F _ _ _ _ _ _ hc1) ?_
  obtain ⟨c0, h⟩ := m_ite_p h
  obtain ⟨rfl, rfl⟩ := m_some h
  exact m_R_iret (by decide) (m_opb_of (ins := .ireturn) (len := 1) (tag := 1) (a := 1) (b := 0) (c := 0) (q := 0) (by decide +kernel)) (Or.inr c0)
def f_m_burn (F : Nat)   (v1 : Int32) (m : mM) : Option (Int32 × mM) := ((f_m_isNumber F v1 m).bind fun q1 => (if q1.1 = 0 then ((f_m_refuse F (-3 : Int32) q1.2).bind fun q2 => some (q2.1, q2.2)) else ((f_m_stateOf F v1 q1.2).bind fun q3 => (if q3.1 = (2 : Int32) then (if ((320 : Int32) + ((3 : Int32) * v1)) < 0 ∨ 9732 ≤ ((320 : Int32) + ((3 : Int32) * v1)).toNatClampNeg then none else ((f_m_many F (3 : Int32) ((m_up q3.2.1 305 ((320 : Int32) + ((3 : Int32) * v1)).toNatClampNeg (3 : Int32)), q3.2.2)).bind fun q4 => some (q4.1, q4.2))) else ((f_m_refuse F (-7 : Int32) q3.2).bind fun q5 => some (q5.1, q5.2))))))
theorem ok_m_burn (X : mX) (d F : Nat) : ∀ (v1 : Int32)  (m : mM) (r : Int32) (m' : mM), f_m_burn F v1 m = some (r, m') → m_R X (d + 2) 257 0 [some (.ref 304), some (.int v1)] [] (SH, m) (some (.int r), (SH, m')) := by
  intro v1 m r m' h
  unfold f_m_burn at h
  refine m_R_sg (by decide) [(.iload_n 1, 1, 0, 1, 0, 0, 0)] (by decide +kernel) (show m_sgl X _ _ _ _ _ = some (1, [some (.ref 304), some (.int v1)], [.int v1], (SH, m.1, m.2)) from rfl) ?_
  obtain ⟨q1, hc1, h⟩ := Option.bind_eq_some_iff.mp h
  refine m_R_cS (v := (some (.int q1.1))) (h1 := (SH, q1.2)) (rest := []) (lo' := [some (.int v1)]) (ml := 1) (by decide) (m_opb_of (ins := .invokestatic 154) (len := 3) (tag := 4) (a := 258) (b := 1) (c := 0) (q := 1850) (by decide +kernel)) (by decide +kernel) (Nat.le_of_ble_eq_true rfl) rfl (Nat.le_of_ble_eq_true rfl) rfl rfl (ok_m_isNumber X (d + 0) F _ _ _ _ hc1) ?_
  rcases m_ite h with ⟨c544, h⟩ | ⟨c544, h⟩
  · refine m_R_1 (by decide) (m_opb_of (ins := .ifCond .ne 10) (len := 3) (tag := 0) (a := 14) (b := 0) (c := 0) (q := 0) (by decide +kernel)) (if_pos c544) ?_
    refine m_R_sg (by decide) [(.aload_n 0, 1, 0, 0, 0, 0, 0), (.bipush (-3), 2, 0, 3, 1, 0, 0)] (by decide +kernel) (show m_sgl X _ _ _ _ _ = some (10, [some (.ref 304), some (.int v1)], [.int (-3 : Int32), .ref 304], (SH, q1.2.1, q1.2.2)) from rfl) ?_
    obtain ⟨q2, hc2, h⟩ := Option.bind_eq_some_iff.mp h
    refine m_R_cV (v := (some (.int q2.1))) (h1 := (SH, q2.2)) (rest := []) (lo' := [some (.ref 304), some (.int (-3 : Int32))]) (ml := 2) (k0 := 304) (by decide) (Or.inl rfl) (m_opb_of (ins := .invokevirtual 61) (len := 3) (tag := 5) (a := 202) (b := 1) (c := 0) (q := 1593) (by decide +kernel)) (by decide +kernel) rfl (show m_isO 202 304 (SH, _) = true from m_isO_of (by decide +kernel)) (Nat.le_of_ble_eq_true rfl) rfl rfl (ok_m_refuse X (d + 1) F _ _ _ _ hc2) ?_
    obtain ⟨rfl, rfl⟩ := m_some h
    exact m_R_iret (by decide) (m_opb_of (ins := .ireturn) (len := 1) (tag := 1) (a := 0) (b := 0) (c := 0) (q := 0) (by decide +kernel)) (Or.inl rfl)
  · refine m_R_1 (by decide) (m_opb_of (ins := .ifCond .ne 10) (len := 3) (tag := 0) (a := 14) (b := 0) (c := 0) (q := 0) (by decide +kernel)) (if_neg c544) ?_
    refine m_R_sg (by decide) [(.aload_n 0, 1, 0, 0, 0, 0, 0), (.iload_n 1, 1, 0, 1, 0, 0, 0)] (by decide +kernel) (show m_sgl X _ _ _ _ _ = some (16, [some (.ref 304), some (.int v1)], [.int v1, .ref 304], (SH, q1.2.1, q1.2.2)) from rfl) ?_
    obtain ⟨q3, hc3, h⟩ := Option.bind_eq_some_iff.mp h
    refine m_R_cV (v := (some (.int q3.1))) (h1 := (SH, q3.2)) (rest := []) (lo' := [some (.ref 304), some (.int v1)]) (ml := 2) (k0 := 304) (by decide) (Or.inl rfl) (m_opb_of (ins := .invokevirtual 99) (len := 3) (tag := 5) (a := 224) (b := 1) (c := 0) (q := 1681) (by decide +kernel)) (by decide +kernel) rfl (show m_isO 224 304 (SH, _) = true from m_isO_of (by decide +kernel)) (Nat.le_of_ble_eq_true rfl) rfl rfl (ok_m_stateOf X (d + 1) F _ _ _ _ hc3) ?_
    refine m_R_sg (by decide) [(.iconst 2, 1, 0, 2, 0, 0, 0)] (by decide +kernel) (show m_sgl X _ _ _ _ _ = some (20, [some (.ref 304), some (.int v1)], [.int (2 : Int32), .int q3.1], (SH, q3.2.1, q3.2.2)) from rfl) ?_
    rcases m_ite h with ⟨c545, h⟩ | ⟨c545, h⟩
    · refine m_R_1 (by decide) (m_opb_of (ins := .if_icmp .eq 10) (len := 3) (tag := 0) (a := 30) (b := 0) (c := 0) (q := 0) (by decide +kernel)) (if_pos c545) ?_
      refine m_R_sg (by decide) [(.aload_n 0, 1, 0, 0, 0, 0, 0), (.getfield 13, 3, 0, 12, 1, 3, 1493), (.sipush 320, 3, 0, 320, 0, 0, 0), (.iconst 3, 1, 0, 3, 0, 0, 0), (.iload_n 1, 1, 0, 1, 0, 0, 0), (.imul, 1, 0, 0, 0, 0, 0), (.iadd, 1, 0, 0, 0, 0, 0), (.iconst 3, 1, 0, 3, 0, 0, 0)] (by decide +kernel) (show m_sgl X _ _ _ _ _ = some (42, [some (.ref 304), some (.int v1)], [.int (3 : Int32), .int ((320 : Int32) + ((3 : Int32) * v1)), .ref 305], (SH, q3.2.1, q3.2.2)) from rfl) ?_
      obtain ⟨c546, h⟩ := m_ite_n h
      refine m_R_1 (by decide) (m_opb_of (ins := .iastore) (len := 1) (tag := 0) (a := 0) (b := 0) (c := 0) (q := 0) (by decide +kernel)) (m_s_iast sh_305 c546) ?_
      refine m_R_sg (by decide) [(.aload_n 0, 1, 0, 0, 0, 0, 0), (.iconst 3, 1, 0, 3, 0, 0, 0)] (by decide +kernel) (show m_sgl X _ _ _ _ _ = some (45, [some (.ref 304), some (.int v1)], [.int (3 : Int32), .ref 304], (SH, (m_up q3.2.1 305 ((320 : Int32) + ((3 : Int32) * v1)).toNatClampNeg (3 : Int32)), q3.2.2)) from rfl) ?_
      obtain ⟨q4, hc4, h⟩ := Option.bind_eq_some_iff.mp h
      refine m_R_cV (v := (some (.int q4.1))) (h1 := (SH, q4.2)) (rest := []) (lo' := [some (.ref 304), some (.int (3 : Int32)), none, none]) (ml := 4) (k0 := 304) (by decide) (Or.inl rfl) (m_opb_of (ins := .invokevirtual 109) (len := 3) (tag := 5) (a := 223) (b := 1) (c := 0) (q := 1677) (by decide +kernel)) (by decide +kernel) rfl (show m_isO 223 304 (SH, _) = true from m_isO_of (by decide +kernel)) (Nat.le_of_ble_eq_true rfl) rfl rfl (ok_m_many X (d + 0) F _ _ _ _ hc4) ?_
      obtain ⟨rfl, rfl⟩ := m_some h
      exact m_R_iret (by decide) (m_opb_of (ins := .ireturn) (len := 1) (tag := 1) (a := 0) (b := 0) (c := 0) (q := 0) (by decide +kernel)) (Or.inl rfl)
    · refine m_R_1 (by decide) (m_opb_of (ins := .if_icmp .eq 10) (len := 3) (tag := 0) (a := 30) (b := 0) (c := 0) (q := 0) (by decide +kernel)) (if_neg c545) ?_
      refine m_R_sg (by decide) [(.aload_n 0, 1, 0, 0, 0, 0, 0), (.bipush (-7), 2, 0, 7, 1, 0, 0)] (by decide +kernel) (show m_sgl X _ _ _ _ _ = some (26, [some (.ref 304), some (.int v1)], [.int (-7 : Int32), .ref 304], (SH, q3.2.1, q3.2.2)) from rfl) ?_
      obtain ⟨q5, hc5, h⟩ := Option.bind_eq_some_iff.mp h
      refine m_R_cV (v := (some (.int q5.1))) (h1 := (SH, q5.2)) (rest := []) (lo' := [some (.ref 304), some (.int (-7 : Int32))]) (ml := 2) (k0 := 304) (by decide) (Or.inl rfl) (m_opb_of (ins := .invokevirtual 61) (len := 3) (tag := 5) (a := 202) (b := 1) (c := 0) (q := 1593) (by decide +kernel)) (by decide +kernel) rfl (show m_isO 202 304 (SH, _) = true from m_isO_of (by decide +kernel)) (Nat.le_of_ble_eq_true rfl) rfl rfl (ok_m_refuse X (d + 1) F _ _ _ _ hc5) ?_
      obtain ⟨rfl, rfl⟩ := m_some h
      exact m_R_iret (by decide) (m_opb_of (ins := .ireturn) (len := 1) (tag := 1) (a := 0) (b := 0) (c := 0) (q := 0) (by decide +kernel)) (Or.inl rfl)
def f_Notes_addForged_67 (F : Nat)  (k8 : Int32 → Int32 → Int32 → Int32 → Int32 → mM → Option (Int32 × mM)) (v1 : Int32) (v2 : Int32) (v3 : Int32) (v5 : Int32) (s0 : Int32) (s1 : Int32) (m : mM) : Option (Int32 × mM) := k8 v1 v2 v3 (s0 + s1) (v5 + (1 : Int32)) m
theorem ok_Notes_addForged_67 (X : mX) (d F : Nat) (k8 : Int32 → Int32 → Int32 → Int32 → Int32 → mM → Option (Int32 × mM)) (hk8 : ∀ (v1 : Int32) (v2 : Int32) (v3 : Int32) (v4 : Int32) (v5 : Int32) (m : mM) (r : Int32) (m' : mM), k8 v1 v2 v3 v4 v5 m = some (r, m') → m_R X (d + 1) 64 8 [some (.ref 55), some (.int v1), some (.int v2), some (.int v3), some (.int v4), some (.int v5)] [] (SH, m) (some (.int r), (SH, m'))) : ∀ (v1 : Int32) (v2 : Int32) (v3 : Int32) (v5 : Int32) (s0 : Int32) (s1 : Int32) (w4 : Option Value) (m : mM) (r : Int32) (m' : mM), f_Notes_addForged_67 F k8 v1 v2 v3 v5 s0 s1 m = some (r, m') → m_R X (d + 1) 64 67 [some (.ref 55), some (.int v1), some (.int v2), some (.int v3), w4, some (.int v5)] [.int s1, .int s0] (SH, m) (some (.int r), (SH, m')) := by
  intro v1 v2 v3 v5 s0 s1 w4 m r m' h
  unfold f_Notes_addForged_67 at h
  refine m_R_sg (by decide) [(.iadd, 1, 0, 0, 0, 0, 0), (.istore 4, 2, 0, 4, 0, 0, 0), (.iinc 5 1, 3, 0, 5, 1, 0, 0), (.goto (-65), 3, 0, 8, 0, 0, 0)] (by decide +kernel) (show m_sgl X _ _ _ _ _ = some (8, [some (.ref 55), some (.int v1), some (.int v2), some (.int v3), some (.int (s0 + s1)), some (.int (v5 + (1 : Int32)))], [], (SH, m.1, m.2)) from rfl) ?_
  exact hk8 _ _ _ _ _ _ _ _ h
def f_Notes_addForged_76 (F : Nat)   (v1 : Int32) (v2 : Int32) (v3 : Int32) (v4 : Int32) (m : mM) : Option (Int32 × mM) := ((f_Notes_addCopy F v2 v3 m).bind fun q1 => ((f_Notes_moveTo F q1.1 v1 q1.2).bind fun q2 => some (v4, q2.2)))
theorem ok_Notes_addForged_76 (X : mX) (d F : Nat) : ∀ (v1 : Int32) (v2 : Int32) (v3 : Int32) (v4 : Int32) (w5 : Option Value) (m : mM) (r : Int32) (m' : mM), f_Notes_addForged_76 F v1 v2 v3 v4 m = some (r, m') → m_R X (d + 1) 64 76 [some (.ref 55), some (.int v1), some (.int v2), some (.int v3), some (.int v4), w5] [] (SH, m) (some (.int r), (SH, m')) := by
  intro v1 v2 v3 v4 w5 m r m' h
  unfold f_Notes_addForged_76 at h
  refine m_R_sg (by decide) [(.aload_n 0, 1, 0, 0, 0, 0, 0), (.aload_n 0, 1, 0, 0, 0, 0, 0), (.iload_n 2, 1, 0, 2, 0, 0, 0), (.iload_n 3, 1, 0, 3, 0, 0, 0)] (by decide +kernel) (show m_sgl X _ _ _ _ _ = some (80, [some (.ref 55), some (.int v1), some (.int v2), some (.int v3), some (.int v4), w5], [.int v3, .int v2, .ref 55, .ref 55], (SH, m.1, m.2)) from rfl) ?_
  obtain ⟨q1, hc1, h⟩ := Option.bind_eq_some_iff.mp h
  refine m_R_cV (v := (some (.int q1.1))) (h1 := (SH, q1.2)) (rest := [.ref 55]) (lo' := [some (.ref 55), some (.int v2), some (.int v3), none, none]) (ml := 5) (k0 := 55) (by decide) (Or.inl rfl) (m_opb_of (ins := .invokevirtual 67) (len := 3) (tag := 5) (a := 54) (b := 2) (c := 0) (q := 828) (by decide +kernel)) (by decide +kernel) rfl (show m_isO 54 55 (SH, _) = true from m_isO_of (by decide +kernel)) (Nat.le_of_ble_eq_true rfl) rfl rfl (ok_Notes_addCopy X (d + 0) F _ _ _ _ _ hc1) ?_
  refine m_R_sg (by decide) [(.iload_n 1, 1, 0, 1, 0, 0, 0)] (by decide +kernel) (show m_sgl X _ _ _ _ _ = some (84, [some (.ref 55), some (.int v1), some (.int v2), some (.int v3), some (.int v4), w5], [.int v1, .int q1.1, .ref 55], (SH, q1.2.1, q1.2.2)) from rfl) ?_
  obtain ⟨q2, hc2, h⟩ := Option.bind_eq_some_iff.mp h
  refine m_R_cV (v := none) (h1 := (SH, q2.2)) (rest := []) (lo' := [some (.ref 55), some (.int q1.1), some (.int v1), none]) (ml := 4) (k0 := 55) (by decide) (Or.inl rfl) (m_opb_of (ins := .invokevirtual 63) (len := 3) (tag := 5) (a := 53) (b := 2) (c := 0) (q := 824) (by decide +kernel)) (by decide +kernel) rfl (show m_isO 53 55 (SH, _) = true from m_isO_of (by decide +kernel)) (Nat.le_of_ble_eq_true rfl) rfl rfl (ok_Notes_moveTo X (d + 0) F _ _ _ _ _ hc2) ?_
  refine m_R_sg (by decide) [(.iload 4, 2, 0, 4, 0, 0, 0)] (by decide +kernel) (show m_sgl X _ _ _ _ _ = some (89, [some (.ref 55), some (.int v1), some (.int v2), some (.int v3), some (.int v4), w5], [.int v4], (SH, q2.2.1, q2.2.2)) from rfl) ?_
  obtain ⟨rfl, rfl⟩ := m_some h
  exact m_R_iret (by decide) (m_opb_of (ins := .ireturn) (len := 1) (tag := 1) (a := 0) (b := 0) (c := 0) (q := 0) (by decide +kernel)) (Or.inl rfl)
def f_Notes_addForged_8 (F : Nat)   : Nat → Int32 → Int32 → Int32 → Int32 → Int32 → mM → Option (Int32 × mM)
  | 0, _, _, _, _, _, _ => none
  | n + 1, v1, v2, v3, v4, v5, m => (if (m.1 55 7) ≤ v5 then f_Notes_addForged_76 F v1 v2 v3 v4 m else (if v5 < 0 ∨ 400 ≤ v5.toNatClampNeg then none else (if (m.1 60 v5.toNatClampNeg) < 0 ∨ 400 ≤ (m.1 60 v5.toNatClampNeg).toNatClampNeg then none else (if v2 < (m.1 2 (m.1 60 v5.toNatClampNeg).toNatClampNeg) then f_Notes_addForged_76 F v1 v2 v3 v4 m else (if (m.1 2 (m.1 60 v5.toNatClampNeg).toNatClampNeg) = v2 then f_Notes_addForged_67 F (f_Notes_addForged_8 F n) v1 v2 (v5 + (1 : Int32)) v5 v4 (1 : Int32) m else f_Notes_addForged_67 F (f_Notes_addForged_8 F n) v1 v2 (v5 + (1 : Int32)) v5 v4 (0 : Int32) m)))))
theorem ok_Notes_addForged_8 (X : mX) (d F : Nat) : ∀ (n : Nat) (v1 : Int32) (v2 : Int32) (v3 : Int32) (v4 : Int32) (v5 : Int32)  (m : mM) (r : Int32) (m' : mM), f_Notes_addForged_8 F n v1 v2 v3 v4 v5 m = some (r, m') → m_R X (d + 1) 64 8 [some (.ref 55), some (.int v1), some (.int v2), some (.int v3), some (.int v4), some (.int v5)] [] (SH, m) (some (.int r), (SH, m')) := by
  intro n
  induction n with
  | zero => intro v1 v2 v3 v4 v5 m r m' h; cases h
  | succ n ih =>
    intro v1 v2 v3 v4 v5 m r m' h
    simp only [f_Notes_addForged_8] at h
    refine m_R_sg (by decide) [(.iload 5, 2, 0, 5, 0, 0, 0), (.aload_n 0, 1, 0, 0, 0, 0, 0), (.getfield 38, 3, 0, 3, 7, 0, 463)] (by decide +kernel) (show m_sgl X _ _ _ _ _ = some (14, [some (.ref 55), some (.int v1), some (.int v2), some (.int v3), some (.int v4), some (.int v5)], [.int (m.1 55 7), .int v5], (SH, m.1, m.2)) from rfl) ?_
    rcases m_ite h with ⟨c547, h⟩ | ⟨c547, h⟩
    · refine m_R_1 (by decide) (m_opb_of (ins := .if_icmp .ge 62) (len := 3) (tag := 0) (a := 76) (b := 0) (c := 0) (q := 0) (by decide +kernel)) (if_pos c547) ?_
      exact ok_Notes_addForged_76 X d F _ _ _ _ _ _ _ _ h
    · refine m_R_1 (by decide) (m_opb_of (ins := .if_icmp .ge 62) (len := 3) (tag := 0) (a := 76) (b := 0) (c := 0) (q := 0) (by decide +kernel)) (if_neg c547) ?_
      refine m_R_sg (by decide) [(.aload_n 0, 1, 0, 0, 0, 0, 0), (.getfield 30, 3, 0, 3, 0, 3, 449), (.getfield 70, 3, 0, 6, 0, 3, 161), (.aload_n 0, 1, 0, 0, 0, 0, 0), (.getfield 24, 3, 0, 3, 5, 3, 458), (.iload 5, 2, 0, 5, 0, 0, 0)] (by decide +kernel) (show m_sgl X _ _ _ _ _ = some (30, [some (.ref 55), some (.int v1), some (.int v2), some (.int v3), some (.int v4), some (.int v5)], [.int v5, .ref 60, .ref 2], (SH, m.1, m.2)) from rfl) ?_
      obtain ⟨c548, h⟩ := m_ite_n h
      refine m_R_1 (by decide) (m_opb_of (ins := .iaload) (len := 1) (tag := 0) (a := 0) (b := 0) (c := 0) (q := 0) (by decide +kernel)) (m_s_iald sh_60 (by decide) c548) ?_
      obtain ⟨c549, h⟩ := m_ite_n h
      refine m_R_1 (by decide) (m_opb_of (ins := .iaload) (len := 1) (tag := 0) (a := 0) (b := 0) (c := 0) (q := 0) (by decide +kernel)) (m_s_iald sh_2 (by decide) c549) ?_
      refine m_R_sg (by decide) [(.iload_n 2, 1, 0, 2, 0, 0, 0)] (by decide +kernel) (show m_sgl X _ _ _ _ _ = some (33, [some (.ref 55), some (.int v1), some (.int v2), some (.int v3), some (.int v4), some (.int v5)], [.int v2, .int (m.1 2 (m.1 60 v5.toNatClampNeg).toNatClampNeg)], (SH, m.1, m.2)) from rfl) ?_
      rcases m_ite h with ⟨c550, h⟩ | ⟨c550, h⟩
      · refine m_R_1 (by decide) (m_opb_of (ins := .if_icmp .gt 43) (len := 3) (tag := 0) (a := 76) (b := 0) (c := 0) (q := 0) (by decide +kernel)) (if_pos c550) ?_
        exact ok_Notes_addForged_76 X d F _ _ _ _ _ _ _ _ h
      · refine m_R_1 (by decide) (m_opb_of (ins := .if_icmp .gt 43) (len := 3) (tag := 0) (a := 76) (b := 0) (c := 0) (q := 0) (by decide +kernel)) (if_neg c550) ?_
        refine m_R_sg (by decide) [(.iload 5, 2, 0, 5, 0, 0, 0), (.iconst 1, 1, 0, 1, 0, 0, 0), (.iadd, 1, 0, 0, 0, 0, 0), (.istore_n 3, 1, 0, 3, 0, 0, 0), (.iload 4, 2, 0, 4, 0, 0, 0), (.aload_n 0, 1, 0, 0, 0, 0, 0), (.getfield 30, 3, 0, 3, 0, 3, 449), (.getfield 70, 3, 0, 6, 0, 3, 161), (.aload_n 0, 1, 0, 0, 0, 0, 0), (.getfield 24, 3, 0, 3, 5, 3, 458), (.iload 5, 2, 0, 5, 0, 0, 0)] (by decide +kernel) (show m_sgl X _ _ _ _ _ = some (56, [some (.ref 55), some (.int v1), some (.int v2), some (.int (v5 + (1 : Int32))), some (.int v4), some (.int v5)], [.int v5, .ref 60, .ref 2, .int v4], (SH, m.1, m.2)) from rfl) ?_
        refine m_R_1 (by decide) (m_opb_of (ins := .iaload) (len := 1) (tag := 0) (a := 0) (b := 0) (c := 0) (q := 0) (by decide +kernel)) (m_s_iald sh_60 (by decide) c548) ?_
        refine m_R_1 (by decide) (m_opb_of (ins := .iaload) (len := 1) (tag := 0) (a := 0) (b := 0) (c := 0) (q := 0) (by decide +kernel)) (m_s_iald sh_2 (by decide) c549) ?_
        refine m_R_sg (by decide) [(.iload_n 2, 1, 0, 2, 0, 0, 0)] (by decide +kernel) (show m_sgl X _ _ _ _ _ = some (59, [some (.ref 55), some (.int v1), some (.int v2), some (.int (v5 + (1 : Int32))), some (.int v4), some (.int v5)], [.int v2, .int (m.1 2 (m.1 60 v5.toNatClampNeg).toNatClampNeg), .int v4], (SH, m.1, m.2)) from rfl) ?_
        rcases m_ite h with ⟨c551, h⟩ | ⟨c551, h⟩
        · refine m_R_1 (by decide) (m_opb_of (ins := .if_icmp .ne 7) (len := 3) (tag := 0) (a := 66) (b := 0) (c := 0) (q := 0) (by decide +kernel)) (if_pos c551) ?_
          refine m_R_sg (by decide) [(.iconst 1, 1, 0, 1, 0, 0, 0), (.goto 4, 3, 0, 67, 0, 0, 0)] (by decide +kernel) (show m_sgl X _ _ _ _ _ = some (67, [some (.ref 55), some (.int v1), some (.int v2), some (.int (v5 + (1 : Int32))), some (.int v4), some (.int v5)], [.int (1 : Int32), .int v4], (SH, m.1, m.2)) from rfl) ?_
          exact ok_Notes_addForged_67 X d F _ (fun a0 a1 a2 a3 a4 m r m' h => ih a0 a1 a2 a3 a4 m r m' h) _ _ _ _ _ _ _ _ _ _ h
        · refine m_R_1 (by decide) (m_opb_of (ins := .if_icmp .ne 7) (len := 3) (tag := 0) (a := 66) (b := 0) (c := 0) (q := 0) (by decide +kernel)) (if_neg c551) ?_
          refine m_R_sg (by decide) [(.iconst 0, 1, 0, 0, 0, 0, 0)] (by decide +kernel) (show m_sgl X _ _ _ _ _ = some (67, [some (.ref 55), some (.int v1), some (.int v2), some (.int (v5 + (1 : Int32))), some (.int v4), some (.int v5)], [.int (0 : Int32), .int v4], (SH, m.1, m.2)) from rfl) ?_
          exact ok_Notes_addForged_67 X d F _ (fun a0 a1 a2 a3 a4 m r m' h => ih a0 a1 a2 a3 a4 m r m' h) _ _ _ _ _ _ _ _ _ _ h
def f_Notes_addForged (F : Nat)   (v1 : Int32) (v2 : Int32) (m : mM) : Option (Int32 × mM) := f_Notes_addForged_8 F F v1 v2 (0 : Int32) (0 : Int32) (0 : Int32) m
theorem ok_Notes_addForged (X : mX) (d F : Nat) : ∀ (v1 : Int32) (v2 : Int32)  (m : mM) (r : Int32) (m' : mM), f_Notes_addForged F v1 v2 m = some (r, m') → m_R X (d + 1) 64 0 [some (.ref 55), some (.int v1), some (.int v2), none, none, none] [] (SH, m) (some (.int r), (SH, m')) := by
  intro v1 v2 m r m' h
  unfold f_Notes_addForged at h
  refine m_R_sg (by decide) [(.iconst 0, 1, 0, 0, 0, 0, 0), (.istore_n 3, 1, 0, 3, 0, 0, 0), (.iconst 0, 1, 0, 0, 0, 0, 0), (.istore 4, 2, 0, 4, 0, 0, 0), (.iconst 0, 1, 0, 0, 0, 0, 0), (.istore 5, 2, 0, 5, 0, 0, 0)] (by decide +kernel) (show m_sgl X _ _ _ _ _ = some (8, [some (.ref 55), some (.int v1), some (.int v2), some (.int (0 : Int32)), some (.int (0 : Int32)), some (.int (0 : Int32))], [], (SH, m.1, m.2)) from rfl) ?_
  exact ok_Notes_addForged_8 X d F F _ _ _ _ _ _ _ _ h
def f_x_forge_29 (F : Nat)    (m : mM) : Option (Int32 × mM) := ((f_x_refuse F (-3 : Int32) m).bind fun q7 => some (q7.1, q7.2))
theorem ok_x_forge_29 (X : mX) (d F : Nat) : ∀  (w1 : Option Value) (w2 : Option Value) (w3 : Option Value) (m : mM) (r : Int32) (m' : mM), f_x_forge_29 F  m = some (r, m') → m_R X (d + 2) 63 29 [some (.ref 0), w1, w2, w3] [] (SH, m) (some (.int r), (SH, m')) := by
  intro w1 w2 w3 m r m' h
  unfold f_x_forge_29 at h
  refine m_R_sg (by decide) [(.aload_n 0, 1, 0, 0, 0, 0, 0), (.bipush (-3), 2, 0, 3, 1, 0, 0)] (by decide +kernel) (show m_sgl X _ _ _ _ _ = some (32, [some (.ref 0), w1, w2, w3], [.int (-3 : Int32), .ref 0], (SH, m.1, m.2)) from rfl) ?_
  obtain ⟨q7, hc7, h⟩ := Option.bind_eq_some_iff.mp h
  refine m_R_cV (v := (some (.int q7.1))) (h1 := (SH, q7.2)) (rest := []) (lo' := [some (.ref 0), some (.int (-3 : Int32))]) (ml := 2) (k0 := 0) (by decide) (Or.inl rfl) (m_opb_of (ins := .invokevirtual 76) (len := 3) (tag := 5) (a := 14) (b := 1) (c := 0) (q := 671) (by decide +kernel)) (by decide +kernel) rfl (show m_isO 14 0 (SH, _) = true from m_isO_of (by decide +kernel)) (Nat.le_of_ble_eq_true rfl) rfl rfl (ok_x_refuse X (d + 1) F _ _ _ _ hc7) ?_
  obtain ⟨rfl, rfl⟩ := m_some h
  exact m_R_iret (by decide) (m_opb_of (ins := .ireturn) (len := 1) (tag := 1) (a := 0) (b := 0) (c := 0) (q := 0) (by decide +kernel)) (Or.inl rfl)
def f_x_forge_70 (F : Nat)    (m : mM) : Option (Int32 × mM) := ((f_x_refuse F (-7 : Int32) m).bind fun q8 => some (q8.1, q8.2))
theorem ok_x_forge_70 (X : mX) (d F : Nat) : ∀  (w1 : Option Value) (w2 : Option Value) (w3 : Option Value) (m : mM) (r : Int32) (m' : mM), f_x_forge_70 F  m = some (r, m') → m_R X (d + 2) 63 70 [some (.ref 0), w1, w2, w3] [] (SH, m) (some (.int r), (SH, m')) := by
  intro w1 w2 w3 m r m' h
  unfold f_x_forge_70 at h
  refine m_R_sg (by decide) [(.aload_n 0, 1, 0, 0, 0, 0, 0), (.bipush (-7), 2, 0, 7, 1, 0, 0)] (by decide +kernel) (show m_sgl X _ _ _ _ _ = some (73, [some (.ref 0), w1, w2, w3], [.int (-7 : Int32), .ref 0], (SH, m.1, m.2)) from rfl) ?_
  obtain ⟨q8, hc8, h⟩ := Option.bind_eq_some_iff.mp h
  refine m_R_cV (v := (some (.int q8.1))) (h1 := (SH, q8.2)) (rest := []) (lo' := [some (.ref 0), some (.int (-7 : Int32))]) (ml := 2) (k0 := 0) (by decide) (Or.inl rfl) (m_opb_of (ins := .invokevirtual 76) (len := 3) (tag := 5) (a := 14) (b := 1) (c := 0) (q := 671) (by decide +kernel)) (by decide +kernel) rfl (show m_isO 14 0 (SH, _) = true from m_isO_of (by decide +kernel)) (Nat.le_of_ble_eq_true rfl) rfl rfl (ok_x_refuse X (d + 1) F _ _ _ _ hc8) ?_
  obtain ⟨rfl, rfl⟩ := m_some h
  exact m_R_iret (by decide) (m_opb_of (ins := .ireturn) (len := 1) (tag := 1) (a := 0) (b := 0) (c := 0) (q := 0) (by decide +kernel)) (Or.inl rfl)
def f_x_forge (F : Nat)   (v1 : Int32) (v2 : Int32) (m : mM) : Option (Int32 × mM) := ((f_Houses_isHouse F v1 m).bind fun q1 => (if q1.1 = 0 then f_x_forge_29 F q1.2 else ((f_x_isNumber F v2 q1.2).bind fun q2 => (if q2.1 = 0 then f_x_forge_29 F q2.2 else (if v1 = 0 then ((f_x_refuse F (-5 : Int32) q2.2).bind fun q3 => some (q3.1, q3.2)) else (if v2 < 0 ∨ 300 ≤ v2.toNatClampNeg then none else (if (q2.2.1 56 v2.toNatClampNeg) = 0 then f_x_forge_70 F q2.2 else ((f_Houses_isUp F v1 q2.2).bind fun q4 => (if q4.1 = 0 then f_x_forge_70 F q4.2 else (if (q4.2.1 55 7) < (400 : Int32) then ((f_Notes_addForged F v1 v2 q4.2).bind fun q5 => some (q5.1, q5.2)) else ((f_x_refuse F (-8 : Int32) q4.2).bind fun q6 => some (q6.1, q6.2))))))))))))
theorem ok_x_forge (X : mX) (d F : Nat) : ∀ (v1 : Int32) (v2 : Int32)  (m : mM) (r : Int32) (m' : mM), f_x_forge F v1 v2 m = some (r, m') → m_R X (d + 2) 63 0 [some (.ref 0), some (.int v1), some (.int v2), none] [] (SH, m) (some (.int r), (SH, m')) := by
  intro v1 v2 m r m' h
  unfold f_x_forge at h
  refine m_R_sg (by decide) [(.aload_n 0, 1, 0, 0, 0, 0, 0), (.getfield 28, 3, 0, 11, 2, 3, 632), (.getfield 134, 3, 0, 10, 8, 3, 519), (.astore_n 3, 1, 0, 3, 0, 0, 0), (.aload_n 0, 1, 0, 0, 0, 0, 0), (.getfield 28, 3, 0, 11, 2, 3, 632), (.getfield 95, 3, 0, 10, 1, 3, 507), (.iload_n 1, 1, 0, 1, 0, 0, 0)] (by decide +kernel) (show m_sgl X _ _ _ _ _ = some (16, [some (.ref 0), some (.int v1), some (.int v2), some (.ref 55)], [.int v1, .ref 19], (SH, m.1, m.2)) from rfl) ?_
  obtain ⟨q1, hc1, h⟩ := Option.bind_eq_some_iff.mp h
  refine m_R_cV (v := (some (.int q1.1))) (h1 := (SH, q1.2)) (rest := []) (lo' := [some (.ref 19), some (.int v1)]) (ml := 2) (k0 := 19) (by decide) (Or.inl rfl) (m_opb_of (ins := .invokevirtual 107) (len := 3) (tag := 5) (a := 24) (b := 1) (c := 0) (q := 712) (by decide +kernel)) (by decide +kernel) rfl (show m_isO 24 19 (SH, _) = true from m_isO_of (by decide +kernel)) (Nat.le_of_ble_eq_true rfl) rfl rfl (ok_Houses_isHouse X (d + 1) F _ _ _ _ hc1) ?_
  rcases m_ite h with ⟨c552, h⟩ | ⟨c552, h⟩
  · refine m_R_1 (by decide) (m_opb_of (ins := .ifCond .eq 10) (len := 3) (tag := 0) (a := 29) (b := 0) (c := 0) (q := 0) (by decide +kernel)) (if_pos c552) ?_
    exact ok_x_forge_29 X d F _ _ _ _ _ _ h
  · refine m_R_1 (by decide) (m_opb_of (ins := .ifCond .eq 10) (len := 3) (tag := 0) (a := 29) (b := 0) (c := 0) (q := 0) (by decide +kernel)) (if_neg c552) ?_
    refine m_R_sg (by decide) [(.iload_n 2, 1, 0, 2, 0, 0, 0)] (by decide +kernel) (show m_sgl X _ _ _ _ _ = some (23, [some (.ref 0), some (.int v1), some (.int v2), some (.ref 55)], [.int v2], (SH, q1.2.1, q1.2.2)) from rfl) ?_
    obtain ⟨q2, hc2, h⟩ := Option.bind_eq_some_iff.mp h
    refine m_R_cS (v := (some (.int q2.1))) (h1 := (SH, q2.2)) (rest := []) (lo' := [some (.int v2)]) (ml := 1) (by decide) (m_opb_of (ins := .invokestatic 186) (len := 3) (tag := 4) (a := 62) (b := 1) (c := 0) (q := 862) (by decide +kernel)) (by decide +kernel) (Nat.le_of_ble_eq_true rfl) rfl (Nat.le_of_ble_eq_true rfl) rfl rfl (ok_x_isNumber X (d + 1) F _ _ _ _ hc2) ?_
    rcases m_ite h with ⟨c553, h⟩ | ⟨c553, h⟩
    · refine m_R_1 (by decide) (m_opb_of (ins := .ifCond .ne 10) (len := 3) (tag := 0) (a := 36) (b := 0) (c := 0) (q := 0) (by decide +kernel)) (if_pos c553) ?_
      exact ok_x_forge_29 X d F _ _ _ _ _ _ h
    · refine m_R_1 (by decide) (m_opb_of (ins := .ifCond .ne 10) (len := 3) (tag := 0) (a := 36) (b := 0) (c := 0) (q := 0) (by decide +kernel)) (if_neg c553) ?_
      refine m_R_sg (by decide) [(.iload_n 1, 1, 0, 1, 0, 0, 0)] (by decide +kernel) (show m_sgl X _ _ _ _ _ = some (37, [some (.ref 0), some (.int v1), some (.int v2), some (.ref 55)], [.int v1], (SH, q2.2.1, q2.2.2)) from rfl) ?_
      rcases m_ite h with ⟨c554, h⟩ | ⟨c554, h⟩
      · refine m_R_1 (by decide) (m_opb_of (ins := .ifCond .ne 10) (len := 3) (tag := 0) (a := 47) (b := 0) (c := 0) (q := 0) (by decide +kernel)) (if_pos c554) ?_
        refine m_R_sg (by decide) [(.aload_n 0, 1, 0, 0, 0, 0, 0), (.bipush (-5), 2, 0, 5, 1, 0, 0)] (by decide +kernel) (show m_sgl X _ _ _ _ _ = some (43, [some (.ref 0), some (.int v1), some (.int v2), some (.ref 55)], [.int (-5 : Int32), .ref 0], (SH, q2.2.1, q2.2.2)) from rfl) ?_
        obtain ⟨q3, hc3, h⟩ := Option.bind_eq_some_iff.mp h
        refine m_R_cV (v := (some (.int q3.1))) (h1 := (SH, q3.2)) (rest := []) (lo' := [some (.ref 0), some (.int (-5 : Int32))]) (ml := 2) (k0 := 0) (by decide) (Or.inl rfl) (m_opb_of (ins := .invokevirtual 76) (len := 3) (tag := 5) (a := 14) (b := 1) (c := 0) (q := 671) (by decide +kernel)) (by decide +kernel) rfl (show m_isO 14 0 (SH, _) = true from m_isO_of (by decide +kernel)) (Nat.le_of_ble_eq_true rfl) rfl rfl (ok_x_refuse X (d + 1) F _ _ _ _ hc3) ?_
        obtain ⟨rfl, rfl⟩ := m_some h
        exact m_R_iret (by decide) (m_opb_of (ins := .ireturn) (len := 1) (tag := 1) (a := 0) (b := 0) (c := 0) (q := 0) (by decide +kernel)) (Or.inl rfl)
      · refine m_R_1 (by decide) (m_opb_of (ins := .ifCond .ne 10) (len := 3) (tag := 0) (a := 47) (b := 0) (c := 0) (q := 0) (by decide +kernel)) (if_neg c554) ?_
        refine m_R_sg (by decide) [(.aload_n 3, 1, 0, 3, 0, 0, 0), (.getfield 189, 3, 0, 3, 1, 3, 451), (.iload_n 2, 1, 0, 2, 0, 0, 0)] (by decide +kernel) (show m_sgl X _ _ _ _ _ = some (52, [some (.ref 0), some (.int v1), some (.int v2), some (.ref 55)], [.int v2, .ref 56], (SH, q2.2.1, q2.2.2)) from rfl) ?_
        obtain ⟨c555, h⟩ := m_ite_n h
        refine m_R_1 (by decide) (m_opb_of (ins := .iaload) (len := 1) (tag := 0) (a := 0) (b := 0) (c := 0) (q := 0) (by decide +kernel)) (m_s_iald sh_56 (by decide) c555) ?_
        rcases m_ite h with ⟨c556, h⟩ | ⟨c556, h⟩
        · refine m_R_1 (by decide) (m_opb_of (ins := .ifCond .eq 17) (len := 3) (tag := 0) (a := 70) (b := 0) (c := 0) (q := 0) (by decide +kernel)) (if_pos c556) ?_
          exact ok_x_forge_70 X d F _ _ _ _ _ _ h
        · refine m_R_1 (by decide) (m_opb_of (ins := .ifCond .eq 17) (len := 3) (tag := 0) (a := 70) (b := 0) (c := 0) (q := 0) (by decide +kernel)) (if_neg c556) ?_
          refine m_R_sg (by decide) [(.aload_n 0, 1, 0, 0, 0, 0, 0), (.getfield 28, 3, 0, 11, 2, 3, 632), (.getfield 95, 3, 0, 10, 1, 3, 507), (.iload_n 1, 1, 0, 1, 0, 0, 0)] (by decide +kernel) (show m_sgl X _ _ _ _ _ = some (64, [some (.ref 0), some (.int v1), some (.int v2), some (.ref 55)], [.int v1, .ref 19], (SH, q2.2.1, q2.2.2)) from rfl) ?_
          obtain ⟨q4, hc4, h⟩ := Option.bind_eq_some_iff.mp h
          refine m_R_cV (v := (some (.int q4.1))) (h1 := (SH, q4.2)) (rest := []) (lo' := [some (.ref 19), some (.int v1)]) (ml := 2) (k0 := 19) (by decide) (Or.inl rfl) (m_opb_of (ins := .invokevirtual 110) (len := 3) (tag := 5) (a := 25) (b := 1) (c := 0) (q := 716) (by decide +kernel)) (by decide +kernel) rfl (show m_isO 25 19 (SH, _) = true from m_isO_of (by decide +kernel)) (Nat.le_of_ble_eq_true rfl) rfl rfl (ok_Houses_isUp X (d + 0) F _ _ _ _ hc4) ?_
          rcases m_ite h with ⟨c557, h⟩ | ⟨c557, h⟩
          · refine m_R_1 (by decide) (m_opb_of (ins := .ifCond .ne 10) (len := 3) (tag := 0) (a := 77) (b := 0) (c := 0) (q := 0) (by decide +kernel)) (if_pos c557) ?_
            exact ok_x_forge_70 X d F _ _ _ _ _ _ h
          · refine m_R_1 (by decide) (m_opb_of (ins := .ifCond .ne 10) (len := 3) (tag := 0) (a := 77) (b := 0) (c := 0) (q := 0) (by decide +kernel)) (if_neg c557) ?_
            refine m_R_sg (by decide) [(.aload_n 3, 1, 0, 3, 0, 0, 0), (.getfield 198, 3, 0, 3, 7, 0, 465), (.sipush 400, 3, 0, 400, 0, 0, 0)] (by decide +kernel) (show m_sgl X _ _ _ _ _ = some (84, [some (.ref 0), some (.int v1), some (.int v2), some (.ref 55)], [.int (400 : Int32), .int (q4.2.1 55 7)], (SH, q4.2.1, q4.2.2)) from rfl) ?_
            rcases m_ite h with ⟨c558, h⟩ | ⟨c558, h⟩
            · refine m_R_1 (by decide) (m_opb_of (ins := .if_icmp .lt 10) (len := 3) (tag := 0) (a := 94) (b := 0) (c := 0) (q := 0) (by decide +kernel)) (if_pos c558) ?_
              refine m_R_sg (by decide) [(.aload_n 3, 1, 0, 3, 0, 0, 0), (.iload_n 1, 1, 0, 1, 0, 0, 0), (.iload_n 2, 1, 0, 2, 0, 0, 0)] (by decide +kernel) (show m_sgl X _ _ _ _ _ = some (97, [some (.ref 0), some (.int v1), some (.int v2), some (.ref 55)], [.int v2, .int v1, .ref 55], (SH, q4.2.1, q4.2.2)) from rfl) ?_
              obtain ⟨q5, hc5, h⟩ := Option.bind_eq_some_iff.mp h
              refine m_R_cV (v := (some (.int q5.1))) (h1 := (SH, q5.2)) (rest := []) (lo' := [some (.ref 55), some (.int v1), some (.int v2), none, none, none]) (ml := 6) (k0 := 55) (by decide) (Or.inl rfl) (m_opb_of (ins := .invokevirtual 201) (len := 3) (tag := 5) (a := 64) (b := 2) (c := 0) (q := 869) (by decide +kernel)) (by decide +kernel) rfl (show m_isO 64 55 (SH, _) = true from m_isO_of (by decide +kernel)) (Nat.le_of_ble_eq_true rfl) rfl rfl (ok_Notes_addForged X (d + 0) F _ _ _ _ _ hc5) ?_
              obtain ⟨rfl, rfl⟩ := m_some h
              exact m_R_iret (by decide) (m_opb_of (ins := .ireturn) (len := 1) (tag := 1) (a := 0) (b := 0) (c := 0) (q := 0) (by decide +kernel)) (Or.inl rfl)
            · refine m_R_1 (by decide) (m_opb_of (ins := .if_icmp .lt 10) (len := 3) (tag := 0) (a := 94) (b := 0) (c := 0) (q := 0) (by decide +kernel)) (if_neg c558) ?_
              refine m_R_sg (by decide) [(.aload_n 0, 1, 0, 0, 0, 0, 0), (.bipush (-8), 2, 0, 8, 1, 0, 0)] (by decide +kernel) (show m_sgl X _ _ _ _ _ = some (90, [some (.ref 0), some (.int v1), some (.int v2), some (.ref 55)], [.int (-8 : Int32), .ref 0], (SH, q4.2.1, q4.2.2)) from rfl) ?_
              obtain ⟨q6, hc6, h⟩ := Option.bind_eq_some_iff.mp h
              refine m_R_cV (v := (some (.int q6.1))) (h1 := (SH, q6.2)) (rest := []) (lo' := [some (.ref 0), some (.int (-8 : Int32))]) (ml := 2) (k0 := 0) (by decide) (Or.inl rfl) (m_opb_of (ins := .invokevirtual 76) (len := 3) (tag := 5) (a := 14) (b := 1) (c := 0) (q := 671) (by decide +kernel)) (by decide +kernel) rfl (show m_isO 14 0 (SH, _) = true from m_isO_of (by decide +kernel)) (Nat.le_of_ble_eq_true rfl) rfl rfl (ok_x_refuse X (d + 1) F _ _ _ _ hc6) ?_
              obtain ⟨rfl, rfl⟩ := m_some h
              exact m_R_iret (by decide) (m_opb_of (ins := .ireturn) (len := 1) (tag := 1) (a := 0) (b := 0) (c := 0) (q := 0) (by decide +kernel)) (Or.inl rfl)
def f_m_forge_15 (F : Nat)    (m : mM) : Option (Int32 × mM) := ((f_m_refuse F (-3 : Int32) m).bind fun q8 => some (q8.1, q8.2))
theorem ok_m_forge_15 (X : mX) (d F : Nat) : ∀  (w1 : Option Value) (w2 : Option Value) (m : mM) (r : Int32) (m' : mM), f_m_forge_15 F  m = some (r, m') → m_R X (d + 2) 259 15 [some (.ref 304), w1, w2] [] (SH, m) (some (.int r), (SH, m')) := by
  intro w1 w2 m r m' h
  unfold f_m_forge_15 at h
  refine m_R_sg (by decide) [(.aload_n 0, 1, 0, 0, 0, 0, 0), (.bipush (-3), 2, 0, 3, 1, 0, 0)] (by decide +kernel) (show m_sgl X _ _ _ _ _ = some (18, [some (.ref 304), w1, w2], [.int (-3 : Int32), .ref 304], (SH, m.1, m.2)) from rfl) ?_
  obtain ⟨q8, hc8, h⟩ := Option.bind_eq_some_iff.mp h
  refine m_R_cV (v := (some (.int q8.1))) (h1 := (SH, q8.2)) (rest := []) (lo' := [some (.ref 304), some (.int (-3 : Int32))]) (ml := 2) (k0 := 304) (by decide) (Or.inl rfl) (m_opb_of (ins := .invokevirtual 61) (len := 3) (tag := 5) (a := 202) (b := 1) (c := 0) (q := 1593) (by decide +kernel)) (by decide +kernel) rfl (show m_isO 202 304 (SH, _) = true from m_isO_of (by decide +kernel)) (Nat.le_of_ble_eq_true rfl) rfl rfl (ok_m_refuse X (d + 1) F _ _ _ _ hc8) ?_
  obtain ⟨rfl, rfl⟩ := m_some h
  exact m_R_iret (by decide) (m_opb_of (ins := .ireturn) (len := 1) (tag := 1) (a := 0) (b := 0) (c := 0) (q := 0) (by decide +kernel)) (Or.inl rfl)
def f_m_forge_49 (F : Nat)    (m : mM) : Option (Int32 × mM) := ((f_m_refuse F (-7 : Int32) m).bind fun q9 => some (q9.1, q9.2))
theorem ok_m_forge_49 (X : mX) (d F : Nat) : ∀  (w1 : Option Value) (w2 : Option Value) (m : mM) (r : Int32) (m' : mM), f_m_forge_49 F  m = some (r, m') → m_R X (d + 2) 259 49 [some (.ref 304), w1, w2] [] (SH, m) (some (.int r), (SH, m')) := by
  intro w1 w2 m r m' h
  unfold f_m_forge_49 at h
  refine m_R_sg (by decide) [(.aload_n 0, 1, 0, 0, 0, 0, 0), (.bipush (-7), 2, 0, 7, 1, 0, 0)] (by decide +kernel) (show m_sgl X _ _ _ _ _ = some (52, [some (.ref 304), w1, w2], [.int (-7 : Int32), .ref 304], (SH, m.1, m.2)) from rfl) ?_
  obtain ⟨q9, hc9, h⟩ := Option.bind_eq_some_iff.mp h
  refine m_R_cV (v := (some (.int q9.1))) (h1 := (SH, q9.2)) (rest := []) (lo' := [some (.ref 304), some (.int (-7 : Int32))]) (ml := 2) (k0 := 304) (by decide) (Or.inl rfl) (m_opb_of (ins := .invokevirtual 61) (len := 3) (tag := 5) (a := 202) (b := 1) (c := 0) (q := 1593) (by decide +kernel)) (by decide +kernel) rfl (show m_isO 202 304 (SH, _) = true from m_isO_of (by decide +kernel)) (Nat.le_of_ble_eq_true rfl) rfl rfl (ok_m_refuse X (d + 1) F _ _ _ _ hc9) ?_
  obtain ⟨rfl, rfl⟩ := m_some h
  exact m_R_iret (by decide) (m_opb_of (ins := .ireturn) (len := 1) (tag := 1) (a := 0) (b := 0) (c := 0) (q := 0) (by decide +kernel)) (Or.inl rfl)
def f_m_forge (F : Nat)   (v1 : Int32) (v2 : Int32) (m : mM) : Option (Int32 × mM) := ((f_m_isHouse F v1 m).bind fun q1 => (if q1.1 = 0 then f_m_forge_15 F q1.2 else ((f_m_isNumber F v2 q1.2).bind fun q2 => (if q2.1 = 0 then f_m_forge_15 F q2.2 else (if v1 = 0 then ((f_m_refuse F (-5 : Int32) q2.2).bind fun q3 => some (q3.1, q3.2)) else ((f_m_stateOf F v2 q2.2).bind fun q4 => (if q4.1 = 0 then f_m_forge_49 F q4.2 else ((f_m_isUp F v1 q4.2).bind fun q5 => (if q5.1 = 0 then f_m_forge_49 F q5.2 else (if (q5.2.1 305 (6 : Int32).toNatClampNeg) = (400 : Int32) then ((f_m_refuse F (-8 : Int32) q5.2).bind fun q6 => some (q6.1, q6.2)) else ((f_m_copied F v2 v1 q5.2).bind fun q7 => (if (((1220 : Int32) + ((12 : Int32) * q7.1)) + (1 : Int32)) < 0 ∨ 9732 ≤ (((1220 : Int32) + ((12 : Int32) * q7.1)) + (1 : Int32)).toNatClampNeg then none else some ((q7.2.1 305 (((1220 : Int32) + ((12 : Int32) * q7.1)) + (1 : Int32)).toNatClampNeg), q7.2)))))))))))))
theorem ok_m_forge (X : mX) (d F : Nat) : ∀ (v1 : Int32) (v2 : Int32)  (m : mM) (r : Int32) (m' : mM), f_m_forge F v1 v2 m = some (r, m') → m_R X (d + 2) 259 0 [some (.ref 304), some (.int v1), some (.int v2)] [] (SH, m) (some (.int r), (SH, m')) := by
  intro v1 v2 m r m' h
  unfold f_m_forge at h
  refine m_R_sg (by decide) [(.aload_n 0, 1, 0, 0, 0, 0, 0), (.iload_n 1, 1, 0, 1, 0, 0, 0)] (by decide +kernel) (show m_sgl X _ _ _ _ _ = some (2, [some (.ref 304), some (.int v1), some (.int v2)], [.int v1, .ref 304], (SH, m.1, m.2)) from rfl) ?_
  obtain ⟨q1, hc1, h⟩ := Option.bind_eq_some_iff.mp h
  refine m_R_cV (v := (some (.int q1.1))) (h1 := (SH, q1.2)) (rest := []) (lo' := [some (.ref 304), some (.int v1)]) (ml := 2) (k0 := 304) (by decide) (Or.inl rfl) (m_opb_of (ins := .invokevirtual 77) (len := 3) (tag := 5) (a := 210) (b := 1) (c := 0) (q := 1625) (by decide +kernel)) (by decide +kernel) rfl (show m_isO 210 304 (SH, _) = true from m_isO_of (by decide +kernel)) (Nat.le_of_ble_eq_true rfl) rfl rfl (ok_m_isHouse X (d + 0) F _ _ _ _ hc1) ?_
  rcases m_ite h with ⟨c559, h⟩ | ⟨c559, h⟩
  · refine m_R_1 (by decide) (m_opb_of (ins := .ifCond .eq 10) (len := 3) (tag := 0) (a := 15) (b := 0) (c := 0) (q := 0) (by decide +kernel)) (if_pos c559) ?_
    exact ok_m_forge_15 X d F _ _ _ _ _ h
  · refine m_R_1 (by decide) (m_opb_of (ins := .ifCond .eq 10) (len := 3) (tag := 0) (a := 15) (b := 0) (c := 0) (q := 0) (by decide +kernel)) (if_neg c559) ?_
    refine m_R_sg (by decide) [(.iload_n 2, 1, 0, 2, 0, 0, 0)] (by decide +kernel) (show m_sgl X _ _ _ _ _ = some (9, [some (.ref 304), some (.int v1), some (.int v2)], [.int v2], (SH, q1.2.1, q1.2.2)) from rfl) ?_
    obtain ⟨q2, hc2, h⟩ := Option.bind_eq_some_iff.mp h
    refine m_R_cS (v := (some (.int q2.1))) (h1 := (SH, q2.2)) (rest := []) (lo' := [some (.int v2)]) (ml := 1) (by decide) (m_opb_of (ins := .invokestatic 154) (len := 3) (tag := 4) (a := 258) (b := 1) (c := 0) (q := 1850) (by decide +kernel)) (by decide +kernel) (Nat.le_of_ble_eq_true rfl) rfl (Nat.le_of_ble_eq_true rfl) rfl rfl (ok_m_isNumber X (d + 0) F _ _ _ _ hc2) ?_
    rcases m_ite h with ⟨c560, h⟩ | ⟨c560, h⟩
    · refine m_R_1 (by decide) (m_opb_of (ins := .ifCond .ne 10) (len := 3) (tag := 0) (a := 22) (b := 0) (c := 0) (q := 0) (by decide +kernel)) (if_pos c560) ?_
      exact ok_m_forge_15 X d F _ _ _ _ _ h
    · refine m_R_1 (by decide) (m_opb_of (ins := .ifCond .ne 10) (len := 3) (tag := 0) (a := 22) (b := 0) (c := 0) (q := 0) (by decide +kernel)) (if_neg c560) ?_
      refine m_R_sg (by decide) [(.iload_n 1, 1, 0, 1, 0, 0, 0)] (by decide +kernel) (show m_sgl X _ _ _ _ _ = some (23, [some (.ref 304), some (.int v1), some (.int v2)], [.int v1], (SH, q2.2.1, q2.2.2)) from rfl) ?_
      rcases m_ite h with ⟨c561, h⟩ | ⟨c561, h⟩
      · refine m_R_1 (by decide) (m_opb_of (ins := .ifCond .ne 10) (len := 3) (tag := 0) (a := 33) (b := 0) (c := 0) (q := 0) (by decide +kernel)) (if_pos c561) ?_
        refine m_R_sg (by decide) [(.aload_n 0, 1, 0, 0, 0, 0, 0), (.bipush (-5), 2, 0, 5, 1, 0, 0)] (by decide +kernel) (show m_sgl X _ _ _ _ _ = some (29, [some (.ref 304), some (.int v1), some (.int v2)], [.int (-5 : Int32), .ref 304], (SH, q2.2.1, q2.2.2)) from rfl) ?_
        obtain ⟨q3, hc3, h⟩ := Option.bind_eq_some_iff.mp h
        refine m_R_cV (v := (some (.int q3.1))) (h1 := (SH, q3.2)) (rest := []) (lo' := [some (.ref 304), some (.int (-5 : Int32))]) (ml := 2) (k0 := 304) (by decide) (Or.inl rfl) (m_opb_of (ins := .invokevirtual 61) (len := 3) (tag := 5) (a := 202) (b := 1) (c := 0) (q := 1593) (by decide +kernel)) (by decide +kernel) rfl (show m_isO 202 304 (SH, _) = true from m_isO_of (by decide +kernel)) (Nat.le_of_ble_eq_true rfl) rfl rfl (ok_m_refuse X (d + 1) F _ _ _ _ hc3) ?_
        obtain ⟨rfl, rfl⟩ := m_some h
        exact m_R_iret (by decide) (m_opb_of (ins := .ireturn) (len := 1) (tag := 1) (a := 0) (b := 0) (c := 0) (q := 0) (by decide +kernel)) (Or.inl rfl)
      · refine m_R_1 (by decide) (m_opb_of (ins := .ifCond .ne 10) (len := 3) (tag := 0) (a := 33) (b := 0) (c := 0) (q := 0) (by decide +kernel)) (if_neg c561) ?_
        refine m_R_sg (by decide) [(.aload_n 0, 1, 0, 0, 0, 0, 0), (.iload_n 2, 1, 0, 2, 0, 0, 0)] (by decide +kernel) (show m_sgl X _ _ _ _ _ = some (35, [some (.ref 304), some (.int v1), some (.int v2)], [.int v2, .ref 304], (SH, q2.2.1, q2.2.2)) from rfl) ?_
        obtain ⟨q4, hc4, h⟩ := Option.bind_eq_some_iff.mp h
        refine m_R_cV (v := (some (.int q4.1))) (h1 := (SH, q4.2)) (rest := []) (lo' := [some (.ref 304), some (.int v2)]) (ml := 2) (k0 := 304) (by decide) (Or.inl rfl) (m_opb_of (ins := .invokevirtual 99) (len := 3) (tag := 5) (a := 224) (b := 1) (c := 0) (q := 1681) (by decide +kernel)) (by decide +kernel) rfl (show m_isO 224 304 (SH, _) = true from m_isO_of (by decide +kernel)) (Nat.le_of_ble_eq_true rfl) rfl rfl (ok_m_stateOf X (d + 1) F _ _ _ _ hc4) ?_
        rcases m_ite h with ⟨c562, h⟩ | ⟨c562, h⟩
        · refine m_R_1 (by decide) (m_opb_of (ins := .ifCond .eq 11) (len := 3) (tag := 0) (a := 49) (b := 0) (c := 0) (q := 0) (by decide +kernel)) (if_pos c562) ?_
          exact ok_m_forge_49 X d F _ _ _ _ _ h
        · refine m_R_1 (by decide) (m_opb_of (ins := .ifCond .eq 11) (len := 3) (tag := 0) (a := 49) (b := 0) (c := 0) (q := 0) (by decide +kernel)) (if_neg c562) ?_
          refine m_R_sg (by decide) [(.aload_n 0, 1, 0, 0, 0, 0, 0), (.iload_n 1, 1, 0, 1, 0, 0, 0)] (by decide +kernel) (show m_sgl X _ _ _ _ _ = some (43, [some (.ref 304), some (.int v1), some (.int v2)], [.int v1, .ref 304], (SH, q4.2.1, q4.2.2)) from rfl) ?_
          obtain ⟨q5, hc5, h⟩ := Option.bind_eq_some_iff.mp h
          refine m_R_cV (v := (some (.int q5.1))) (h1 := (SH, q5.2)) (rest := []) (lo' := [some (.ref 304), some (.int v1)]) (ml := 2) (k0 := 304) (by decide) (Or.inl rfl) (m_opb_of (ins := .invokevirtual 80) (len := 3) (tag := 5) (a := 211) (b := 1) (c := 0) (q := 1629) (by decide +kernel)) (by decide +kernel) rfl (show m_isO 211 304 (SH, _) = true from m_isO_of (by decide +kernel)) (Nat.le_of_ble_eq_true rfl) rfl rfl (ok_m_isUp X (d + 0) F _ _ _ _ hc5) ?_
          rcases m_ite h with ⟨c563, h⟩ | ⟨c563, h⟩
          · refine m_R_1 (by decide) (m_opb_of (ins := .ifCond .ne 10) (len := 3) (tag := 0) (a := 56) (b := 0) (c := 0) (q := 0) (by decide +kernel)) (if_pos c563) ?_
            exact ok_m_forge_49 X d F _ _ _ _ _ h
          · refine m_R_1 (by decide) (m_opb_of (ins := .ifCond .ne 10) (len := 3) (tag := 0) (a := 56) (b := 0) (c := 0) (q := 0) (by decide +kernel)) (if_neg c563) ?_
            refine m_R_sg (by decide) [(.aload_n 0, 1, 0, 0, 0, 0, 0), (.getfield 13, 3, 0, 12, 1, 3, 1493), (.bipush 6, 2, 0, 6, 0, 0, 0)] (by decide +kernel) (show m_sgl X _ _ _ _ _ = some (62, [some (.ref 304), some (.int v1), some (.int v2)], [.int (6 : Int32), .ref 305], (SH, q5.2.1, q5.2.2)) from rfl) ?_
            refine m_R_1 (by decide) (m_opb_of (ins := .iaload) (len := 1) (tag := 0) (a := 0) (b := 0) (c := 0) (q := 0) (by decide +kernel)) (m_s_iald sh_305 (by decide) (show ¬ ((6 : Int32) < 0 ∨ 9732 ≤ (6 : Int32).toNatClampNeg) by decide)) ?_
            refine m_R_sg (by decide) [(.sipush 400, 3, 0, 400, 0, 0, 0)] (by decide +kernel) (show m_sgl X _ _ _ _ _ = some (66, [some (.ref 304), some (.int v1), some (.int v2)], [.int (400 : Int32), .int (q5.2.1 305 (6 : Int32).toNatClampNeg)], (SH, q5.2.1, q5.2.2)) from rfl) ?_
            rcases m_ite h with ⟨c564, h⟩ | ⟨c564, h⟩
            · refine m_R_1 (by decide) (m_opb_of (ins := .if_icmp .ne 10) (len := 3) (tag := 0) (a := 76) (b := 0) (c := 0) (q := 0) (by decide +kernel)) (if_pos c564) ?_
              refine m_R_sg (by decide) [(.aload_n 0, 1, 0, 0, 0, 0, 0), (.bipush (-8), 2, 0, 8, 1, 0, 0)] (by decide +kernel) (show m_sgl X _ _ _ _ _ = some (72, [some (.ref 304), some (.int v1), some (.int v2)], [.int (-8 : Int32), .ref 304], (SH, q5.2.1, q5.2.2)) from rfl) ?_
              obtain ⟨q6, hc6, h⟩ := Option.bind_eq_some_iff.mp h
              refine m_R_cV (v := (some (.int q6.1))) (h1 := (SH, q6.2)) (rest := []) (lo' := [some (.ref 304), some (.int (-8 : Int32))]) (ml := 2) (k0 := 304) (by decide) (Or.inl rfl) (m_opb_of (ins := .invokevirtual 61) (len := 3) (tag := 5) (a := 202) (b := 1) (c := 0) (q := 1593) (by decide +kernel)) (by decide +kernel) rfl (show m_isO 202 304 (SH, _) = true from m_isO_of (by decide +kernel)) (Nat.le_of_ble_eq_true rfl) rfl rfl (ok_m_refuse X (d + 1) F _ _ _ _ hc6) ?_
              obtain ⟨rfl, rfl⟩ := m_some h
              exact m_R_iret (by decide) (m_opb_of (ins := .ireturn) (len := 1) (tag := 1) (a := 0) (b := 0) (c := 0) (q := 0) (by decide +kernel)) (Or.inl rfl)
            · refine m_R_1 (by decide) (m_opb_of (ins := .if_icmp .ne 10) (len := 3) (tag := 0) (a := 76) (b := 0) (c := 0) (q := 0) (by decide +kernel)) (if_neg c564) ?_
              refine m_R_sg (by decide) [(.aload_n 0, 1, 0, 0, 0, 0, 0), (.getfield 13, 3, 0, 12, 1, 3, 1493), (.sipush 1220, 3, 0, 1220, 0, 0, 0), (.bipush 12, 2, 0, 12, 0, 0, 0), (.aload_n 0, 1, 0, 0, 0, 0, 0), (.iload_n 2, 1, 0, 2, 0, 0, 0), (.iload_n 1, 1, 0, 1, 0, 0, 0)] (by decide +kernel) (show m_sgl X _ _ _ _ _ = some (88, [some (.ref 304), some (.int v1), some (.int v2)], [.int v1, .int v2, .ref 304, .int (12 : Int32), .int (1220 : Int32), .ref 305], (SH, q5.2.1, q5.2.2)) from rfl) ?_
              obtain ⟨q7, hc7, h⟩ := Option.bind_eq_some_iff.mp h
              refine m_R_cV (v := (some (.int q7.1))) (h1 := (SH, q7.2)) (rest := [.int (12 : Int32), .int (1220 : Int32), .ref 305]) (lo' := [some (.ref 304), some (.int v2), some (.int v1), none, none]) (ml := 5) (k0 := 304) (by decide) (Or.inl rfl) (m_opb_of (ins := .invokevirtual 131) (len := 3) (tag := 5) (a := 252) (b := 2) (c := 0) (q := 1826) (by decide +kernel)) (by decide +kernel) rfl (show m_isO 252 304 (SH, _) = true from m_isO_of (by decide +kernel)) (Nat.le_of_ble_eq_true rfl) rfl rfl (ok_m_copied X (d + 0) F _ _ _ _ _ hc7) ?_
              refine m_R_sg (by decide) [(.imul, 1, 0, 0, 0, 0, 0), (.iadd, 1, 0, 0, 0, 0, 0), (.iconst 1, 1, 0, 1, 0, 0, 0), (.iadd, 1, 0, 0, 0, 0, 0)] (by decide +kernel) (show m_sgl X _ _ _ _ _ = some (95, [some (.ref 304), some (.int v1), some (.int v2)], [.int (((1220 : Int32) + ((12 : Int32) * q7.1)) + (1 : Int32)), .ref 305], (SH, q7.2.1, q7.2.2)) from rfl) ?_
              obtain ⟨c565, h⟩ := m_ite_n h
              refine m_R_1 (by decide) (m_opb_of (ins := .iaload) (len := 1) (tag := 0) (a := 0) (b := 0) (c := 0) (q := 0) (by decide +kernel)) (m_s_iald sh_305 (by decide) c565) ?_
              obtain ⟨rfl, rfl⟩ := m_some h
              exact m_R_iret (by decide) (m_opb_of (ins := .ireturn) (len := 1) (tag := 1) (a := 0) (b := 0) (c := 0) (q := 0) (by decide +kernel)) (Or.inl rfl)
def f_x_number (F : Nat)   (v1 : Int32) (m : mM) : Option (Int32 × mM) := ((f_x_isNumber F v1 m).bind fun q1 => (if q1.1 = 0 then ((f_x_refuse F (-3 : Int32) q1.2).bind fun q2 => some (q2.1, q2.2)) else (if v1 < 0 ∨ 300 ≤ v1.toNatClampNeg then none else some ((q1.2.1 56 v1.toNatClampNeg), q1.2))))
theorem ok_x_number (X : mX) (d F : Nat) : ∀ (v1 : Int32)  (m : mM) (r : Int32) (m' : mM), f_x_number F v1 m = some (r, m') → m_R X (d + 1) 65 0 [some (.ref 0), some (.int v1)] [] (SH, m) (some (.int r), (SH, m')) := by
  intro v1 m r m' h
  unfold f_x_number at h
  refine m_R_sg (by decide) [(.iload_n 1, 1, 0, 1, 0, 0, 0)] (by decide +kernel) (show m_sgl X _ _ _ _ _ = some (1, [some (.ref 0), some (.int v1)], [.int v1], (SH, m.1, m.2)) from rfl) ?_
  obtain ⟨q1, hc1, h⟩ := Option.bind_eq_some_iff.mp h
  refine m_R_cS (v := (some (.int q1.1))) (h1 := (SH, q1.2)) (rest := []) (lo' := [some (.int v1)]) (ml := 1) (by decide) (m_opb_of (ins := .invokestatic 186) (len := 3) (tag := 4) (a := 62) (b := 1) (c := 0) (q := 862) (by decide +kernel)) (by decide +kernel) (Nat.le_of_ble_eq_true rfl) rfl (Nat.le_of_ble_eq_true rfl) rfl rfl (ok_x_isNumber X (d + 0) F _ _ _ _ hc1) ?_
  rcases m_ite h with ⟨c566, h⟩ | ⟨c566, h⟩
  · refine m_R_1 (by decide) (m_opb_of (ins := .ifCond .ne 10) (len := 3) (tag := 0) (a := 14) (b := 0) (c := 0) (q := 0) (by decide +kernel)) (if_pos c566) ?_
    refine m_R_sg (by decide) [(.aload_n 0, 1, 0, 0, 0, 0, 0), (.bipush (-3), 2, 0, 3, 1, 0, 0)] (by decide +kernel) (show m_sgl X _ _ _ _ _ = some (10, [some (.ref 0), some (.int v1)], [.int (-3 : Int32), .ref 0], (SH, q1.2.1, q1.2.2)) from rfl) ?_
    obtain ⟨q2, hc2, h⟩ := Option.bind_eq_some_iff.mp h
    refine m_R_cV (v := (some (.int q2.1))) (h1 := (SH, q2.2)) (rest := []) (lo' := [some (.ref 0), some (.int (-3 : Int32))]) (ml := 2) (k0 := 0) (by decide) (Or.inl rfl) (m_opb_of (ins := .invokevirtual 76) (len := 3) (tag := 5) (a := 14) (b := 1) (c := 0) (q := 671) (by decide +kernel)) (by decide +kernel) rfl (show m_isO 14 0 (SH, _) = true from m_isO_of (by decide +kernel)) (Nat.le_of_ble_eq_true rfl) rfl rfl (ok_x_refuse X (d + 0) F _ _ _ _ hc2) ?_
    obtain ⟨rfl, rfl⟩ := m_some h
    exact m_R_iret (by decide) (m_opb_of (ins := .ireturn) (len := 1) (tag := 1) (a := 0) (b := 0) (c := 0) (q := 0) (by decide +kernel)) (Or.inl rfl)
  · refine m_R_1 (by decide) (m_opb_of (ins := .ifCond .ne 10) (len := 3) (tag := 0) (a := 14) (b := 0) (c := 0) (q := 0) (by decide +kernel)) (if_neg c566) ?_
    refine m_R_sg (by decide) [(.aload_n 0, 1, 0, 0, 0, 0, 0), (.getfield 28, 3, 0, 11, 2, 3, 632), (.getfield 134, 3, 0, 10, 8, 3, 519), (.getfield 189, 3, 0, 3, 1, 3, 451), (.iload_n 1, 1, 0, 1, 0, 0, 0)] (by decide +kernel) (show m_sgl X _ _ _ _ _ = some (25, [some (.ref 0), some (.int v1)], [.int v1, .ref 56], (SH, q1.2.1, q1.2.2)) from rfl) ?_
    obtain ⟨c567, h⟩ := m_ite_n h
    refine m_R_1 (by decide) (m_opb_of (ins := .iaload) (len := 1) (tag := 0) (a := 0) (b := 0) (c := 0) (q := 0) (by decide +kernel)) (m_s_iald sh_56 (by decide) c567) ?_
    obtain ⟨rfl, rfl⟩ := m_some h
    exact m_R_iret (by decide) (m_opb_of (ins := .ireturn) (len := 1) (tag := 1) (a := 0) (b := 0) (c := 0) (q := 0) (by decide +kernel)) (Or.inl rfl)
def f_m_number_21 (F : Nat)   (s0 : Int32) (m : mM) : Option (Int32 × mM) := some (s0, m)
theorem ok_m_number_21 (X : mX) (d F : Nat) : ∀ (s0 : Int32) (w0 : Option Value) (w1 : Option Value) (m : mM) (r : Int32) (m' : mM), f_m_number_21 F s0 m = some (r, m') → m_R X (d + 2) 260 21 [w0, w1] [.int s0] (SH, m) (some (.int r), (SH, m')) := by
  intro s0 w0 w1 m r m' h
  unfold f_m_number_21 at h
  obtain ⟨rfl, rfl⟩ := m_some h
  exact m_R_iret (by decide) (m_opb_of (ins := .ireturn) (len := 1) (tag := 1) (a := 0) (b := 0) (c := 0) (q := 0) (by decide +kernel)) (Or.inl rfl)
def f_m_number (F : Nat)   (v1 : Int32) (m : mM) : Option (Int32 × mM) := ((f_m_isNumber F v1 m).bind fun q1 => (if q1.1 = 0 then ((f_m_refuse F (-3 : Int32) q1.2).bind fun q2 => f_m_number_21 F q2.1 q2.2) else ((f_m_stateOf F v1 q1.2).bind fun q3 => f_m_number_21 F q3.1 q3.2)))
theorem ok_m_number (X : mX) (d F : Nat) : ∀ (v1 : Int32)  (m : mM) (r : Int32) (m' : mM), f_m_number F v1 m = some (r, m') → m_R X (d + 2) 260 0 [some (.ref 304), some (.int v1)] [] (SH, m) (some (.int r), (SH, m')) := by
  intro v1 m r m' h
  unfold f_m_number at h
  refine m_R_sg (by decide) [(.iload_n 1, 1, 0, 1, 0, 0, 0)] (by decide +kernel) (show m_sgl X _ _ _ _ _ = some (1, [some (.ref 304), some (.int v1)], [.int v1], (SH, m.1, m.2)) from rfl) ?_
  obtain ⟨q1, hc1, h⟩ := Option.bind_eq_some_iff.mp h
  refine m_R_cS (v := (some (.int q1.1))) (h1 := (SH, q1.2)) (rest := []) (lo' := [some (.int v1)]) (ml := 1) (by decide) (m_opb_of (ins := .invokestatic 154) (len := 3) (tag := 4) (a := 258) (b := 1) (c := 0) (q := 1850) (by decide +kernel)) (by decide +kernel) (Nat.le_of_ble_eq_true rfl) rfl (Nat.le_of_ble_eq_true rfl) rfl rfl (ok_m_isNumber X (d + 0) F _ _ _ _ hc1) ?_
  rcases m_ite h with ⟨c568, h⟩ | ⟨c568, h⟩
  · refine m_R_1 (by decide) (m_opb_of (ins := .ifCond .eq 11) (len := 3) (tag := 0) (a := 15) (b := 0) (c := 0) (q := 0) (by decide +kernel)) (if_pos c568) ?_
    refine m_R_sg (by decide) [(.aload_n 0, 1, 0, 0, 0, 0, 0), (.bipush (-3), 2, 0, 3, 1, 0, 0)] (by decide +kernel) (show m_sgl X _ _ _ _ _ = some (18, [some (.ref 304), some (.int v1)], [.int (-3 : Int32), .ref 304], (SH, q1.2.1, q1.2.2)) from rfl) ?_
    obtain ⟨q2, hc2, h⟩ := Option.bind_eq_some_iff.mp h
    refine m_R_cV (v := (some (.int q2.1))) (h1 := (SH, q2.2)) (rest := []) (lo' := [some (.ref 304), some (.int (-3 : Int32))]) (ml := 2) (k0 := 304) (by decide) (Or.inl rfl) (m_opb_of (ins := .invokevirtual 61) (len := 3) (tag := 5) (a := 202) (b := 1) (c := 0) (q := 1593) (by decide +kernel)) (by decide +kernel) rfl (show m_isO 202 304 (SH, _) = true from m_isO_of (by decide +kernel)) (Nat.le_of_ble_eq_true rfl) rfl rfl (ok_m_refuse X (d + 1) F _ _ _ _ hc2) ?_
    exact ok_m_number_21 X d F _ _ _ _ _ _ h
  · refine m_R_1 (by decide) (m_opb_of (ins := .ifCond .eq 11) (len := 3) (tag := 0) (a := 15) (b := 0) (c := 0) (q := 0) (by decide +kernel)) (if_neg c568) ?_
    refine m_R_sg (by decide) [(.aload_n 0, 1, 0, 0, 0, 0, 0), (.iload_n 1, 1, 0, 1, 0, 0, 0)] (by decide +kernel) (show m_sgl X _ _ _ _ _ = some (9, [some (.ref 304), some (.int v1)], [.int v1, .ref 304], (SH, q1.2.1, q1.2.2)) from rfl) ?_
    obtain ⟨q3, hc3, h⟩ := Option.bind_eq_some_iff.mp h
    refine m_R_cV (v := (some (.int q3.1))) (h1 := (SH, q3.2)) (rest := []) (lo' := [some (.ref 304), some (.int v1)]) (ml := 2) (k0 := 304) (by decide) (Or.inl rfl) (m_opb_of (ins := .invokevirtual 99) (len := 3) (tag := 5) (a := 224) (b := 1) (c := 0) (q := 1681) (by decide +kernel)) (by decide +kernel) rfl (show m_isO 224 304 (SH, _) = true from m_isO_of (by decide +kernel)) (Nat.le_of_ble_eq_true rfl) rfl rfl (ok_m_stateOf X (d + 1) F _ _ _ _ hc3) ?_
    refine m_R_sg (by decide) [(.goto 9, 3, 0, 21, 0, 0, 0)] (by decide +kernel) (show m_sgl X _ _ _ _ _ = some (21, [some (.ref 304), some (.int v1)], [.int q3.1], (SH, q3.2.1, q3.2.2)) from rfl) ?_
    exact ok_m_number_21 X d F _ _ _ _ _ _ h
def f_Notes_copyOf_49 (F : Nat)  (k5 : Int32 → Int32 → Int32 → Int32 → mM → Option (Int32 × mM)) (v1 : Int32) (v2 : Int32) (v3 : Int32) (v4 : Int32) (m : mM) : Option (Int32 × mM) := k5 v1 v2 v3 (v4 + (1 : Int32)) m
theorem ok_Notes_copyOf_49 (X : mX) (d F : Nat) (k5 : Int32 → Int32 → Int32 → Int32 → mM → Option (Int32 × mM)) (hk5 : ∀ (v1 : Int32) (v2 : Int32) (v3 : Int32) (v4 : Int32) (m : mM) (r : Int32) (m' : mM), k5 v1 v2 v3 v4 m = some (r, m') → m_R X (d + 0) 67 5 [some (.ref 55), some (.int v1), some (.int v2), some (.int v3), some (.int v4)] [] (SH, m) (some (.int r), (SH, m'))) : ∀ (v1 : Int32) (v2 : Int32) (v3 : Int32) (v4 : Int32)  (m : mM) (r : Int32) (m' : mM), f_Notes_copyOf_49 F k5 v1 v2 v3 v4 m = some (r, m') → m_R X (d + 0) 67 49 [some (.ref 55), some (.int v1), some (.int v2), some (.int v3), some (.int v4)] [] (SH, m) (some (.int r), (SH, m')) := by
  intro v1 v2 v3 v4 m r m' h
  unfold f_Notes_copyOf_49 at h
  refine m_R_sg (by decide) [(.iinc 4 1, 3, 0, 4, 1, 0, 0), (.goto (-47), 3, 0, 5, 0, 0, 0)] (by decide +kernel) (show m_sgl X _ _ _ _ _ = some (5, [some (.ref 55), some (.int v1), some (.int v2), some (.int v3), some (.int (v4 + (1 : Int32)))], [], (SH, m.1, m.2)) from rfl) ?_
  exact hk5 _ _ _ _ _ _ _ h
def f_Notes_copyOf_5 (F : Nat)   : Nat → Int32 → Int32 → Int32 → Int32 → mM → Option (Int32 × mM)
  | 0, _, _, _, _, _ => none
  | n + 1, v1, v2, v3, v4, m => (if (m.1 55 7) ≤ v4 then some ((-1 : Int32), m) else (if v4 < 0 ∨ 400 ≤ v4.toNatClampNeg then none else (if (m.1 60 v4.toNatClampNeg) < 0 ∨ 400 ≤ (m.1 60 v4.toNatClampNeg).toNatClampNeg then none else (if (m.1 2 (m.1 60 v4.toNatClampNeg).toNatClampNeg) = v1 then (if v3 = v2 then some ((m.1 60 v4.toNatClampNeg), m) else f_Notes_copyOf_49 F (f_Notes_copyOf_5 F n) v1 v2 (v3 + (1 : Int32)) v4 m) else f_Notes_copyOf_49 F (f_Notes_copyOf_5 F n) v1 v2 v3 v4 m))))
theorem ok_Notes_copyOf_5 (X : mX) (d F : Nat) : ∀ (n : Nat) (v1 : Int32) (v2 : Int32) (v3 : Int32) (v4 : Int32)  (m : mM) (r : Int32) (m' : mM), f_Notes_copyOf_5 F n v1 v2 v3 v4 m = some (r, m') → m_R X (d + 0) 67 5 [some (.ref 55), some (.int v1), some (.int v2), some (.int v3), some (.int v4)] [] (SH, m) (some (.int r), (SH, m')) := by
  intro n
  induction n with
  | zero => intro v1 v2 v3 v4 m r m' h; cases h
  | succ n ih =>
    intro v1 v2 v3 v4 m r m' h
    simp only [f_Notes_copyOf_5] at h
    refine m_R_sg (by decide) [(.iload 4, 2, 0, 4, 0, 0, 0), (.aload_n 0, 1, 0, 0, 0, 0, 0), (.getfield 38, 3, 0, 3, 7, 0, 463)] (by decide +kernel) (show m_sgl X _ _ _ _ _ = some (11, [some (.ref 55), some (.int v1), some (.int v2), some (.int v3), some (.int v4)], [.int (m.1 55 7), .int v4], (SH, m.1, m.2)) from rfl) ?_
    rcases m_ite h with ⟨c569, h⟩ | ⟨c569, h⟩
    · refine m_R_1 (by decide) (m_opb_of (ins := .if_icmp .ge 44) (len := 3) (tag := 0) (a := 55) (b := 0) (c := 0) (q := 0) (by decide +kernel)) (if_pos c569) ?_
      refine m_R_sg (by decide) [(.iconst (-1), 1, 0, 1, 1, 0, 0)] (by decide +kernel) (show m_sgl X _ _ _ _ _ = some (56, [some (.ref 55), some (.int v1), some (.int v2), some (.int v3), some (.int v4)], [.int (-1 : Int32)], (SH, m.1, m.2)) from rfl) ?_
      obtain ⟨rfl, rfl⟩ := m_some h
      exact m_R_iret (by decide) (m_opb_of (ins := .ireturn) (len := 1) (tag := 1) (a := 0) (b := 0) (c := 0) (q := 0) (by decide +kernel)) (Or.inl rfl)
    · refine m_R_1 (by decide) (m_opb_of (ins := .if_icmp .ge 44) (len := 3) (tag := 0) (a := 55) (b := 0) (c := 0) (q := 0) (by decide +kernel)) (if_neg c569) ?_
      refine m_R_sg (by decide) [(.aload_n 0, 1, 0, 0, 0, 0, 0), (.getfield 30, 3, 0, 3, 0, 3, 449), (.getfield 70, 3, 0, 6, 0, 3, 161), (.aload_n 0, 1, 0, 0, 0, 0, 0), (.getfield 24, 3, 0, 3, 5, 3, 458), (.iload 4, 2, 0, 4, 0, 0, 0)] (by decide +kernel) (show m_sgl X _ _ _ _ _ = some (27, [some (.ref 55), some (.int v1), some (.int v2), some (.int v3), some (.int v4)], [.int v4, .ref 60, .ref 2], (SH, m.1, m.2)) from rfl) ?_
      obtain ⟨c570, h⟩ := m_ite_n h
      refine m_R_1 (by decide) (m_opb_of (ins := .iaload) (len := 1) (tag := 0) (a := 0) (b := 0) (c := 0) (q := 0) (by decide +kernel)) (m_s_iald sh_60 (by decide) c570) ?_
      obtain ⟨c571, h⟩ := m_ite_n h
      refine m_R_1 (by decide) (m_opb_of (ins := .iaload) (len := 1) (tag := 0) (a := 0) (b := 0) (c := 0) (q := 0) (by decide +kernel)) (m_s_iald sh_2 (by decide) c571) ?_
      refine m_R_sg (by decide) [(.iload_n 1, 1, 0, 1, 0, 0, 0)] (by decide +kernel) (show m_sgl X _ _ _ _ _ = some (30, [some (.ref 55), some (.int v1), some (.int v2), some (.int v3), some (.int v4)], [.int v1, .int (m.1 2 (m.1 60 v4.toNatClampNeg).toNatClampNeg)], (SH, m.1, m.2)) from rfl) ?_
      rcases m_ite h with ⟨c572, h⟩ | ⟨c572, h⟩
      · refine m_R_1 (by decide) (m_opb_of (ins := .if_icmp .ne 19) (len := 3) (tag := 0) (a := 49) (b := 0) (c := 0) (q := 0) (by decide +kernel)) (if_pos c572) ?_
        refine m_R_sg (by decide) [(.iload_n 3, 1, 0, 3, 0, 0, 0), (.iload_n 2, 1, 0, 2, 0, 0, 0)] (by decide +kernel) (show m_sgl X _ _ _ _ _ = some (35, [some (.ref 55), some (.int v1), some (.int v2), some (.int v3), some (.int v4)], [.int v2, .int v3], (SH, m.1, m.2)) from rfl) ?_
        rcases m_ite h with ⟨c573, h⟩ | ⟨c573, h⟩
        · refine m_R_1 (by decide) (m_opb_of (ins := .if_icmp .ne 11) (len := 3) (tag := 0) (a := 46) (b := 0) (c := 0) (q := 0) (by decide +kernel)) (if_pos c573) ?_
          refine m_R_sg (by decide) [(.aload_n 0, 1, 0, 0, 0, 0, 0), (.getfield 24, 3, 0, 3, 5, 3, 458), (.iload 4, 2, 0, 4, 0, 0, 0)] (by decide +kernel) (show m_sgl X _ _ _ _ _ = some (44, [some (.ref 55), some (.int v1), some (.int v2), some (.int v3), some (.int v4)], [.int v4, .ref 60], (SH, m.1, m.2)) from rfl) ?_
          refine m_R_1 (by decide) (m_opb_of (ins := .iaload) (len := 1) (tag := 0) (a := 0) (b := 0) (c := 0) (q := 0) (by decide +kernel)) (m_s_iald sh_60 (by decide) c570) ?_
          obtain ⟨rfl, rfl⟩ := m_some h
          exact m_R_iret (by decide) (m_opb_of (ins := .ireturn) (len := 1) (tag := 1) (a := 0) (b := 0) (c := 0) (q := 0) (by decide +kernel)) (Or.inl rfl)
        · refine m_R_1 (by decide) (m_opb_of (ins := .if_icmp .ne 11) (len := 3) (tag := 0) (a := 46) (b := 0) (c := 0) (q := 0) (by decide +kernel)) (if_neg c573) ?_
          refine m_R_sg (by decide) [(.iinc 3 1, 3, 0, 3, 1, 0, 0)] (by decide +kernel) (show m_sgl X _ _ _ _ _ = some (49, [some (.ref 55), some (.int v1), some (.int v2), some (.int (v3 + (1 : Int32))), some (.int v4)], [], (SH, m.1, m.2)) from rfl) ?_
          exact ok_Notes_copyOf_49 X d F _ (fun a0 a1 a2 a3 m r m' h => ih a0 a1 a2 a3 m r m' h) _ _ _ _ _ _ _ h
      · refine m_R_1 (by decide) (m_opb_of (ins := .if_icmp .ne 19) (len := 3) (tag := 0) (a := 49) (b := 0) (c := 0) (q := 0) (by decide +kernel)) (if_neg c572) ?_
        exact ok_Notes_copyOf_49 X d F _ (fun a0 a1 a2 a3 m r m' h => ih a0 a1 a2 a3 m r m' h) _ _ _ _ _ _ _ h
def f_Notes_copyOf (F : Nat)   (v1 : Int32) (v2 : Int32) (m : mM) : Option (Int32 × mM) := f_Notes_copyOf_5 F F v1 v2 (0 : Int32) (0 : Int32) m
theorem ok_Notes_copyOf (X : mX) (d F : Nat) : ∀ (v1 : Int32) (v2 : Int32)  (m : mM) (r : Int32) (m' : mM), f_Notes_copyOf F v1 v2 m = some (r, m') → m_R X (d + 0) 67 0 [some (.ref 55), some (.int v1), some (.int v2), none, none] [] (SH, m) (some (.int r), (SH, m')) := by
  intro v1 v2 m r m' h
  unfold f_Notes_copyOf at h
  refine m_R_sg (by decide) [(.iconst 0, 1, 0, 0, 0, 0, 0), (.istore_n 3, 1, 0, 3, 0, 0, 0), (.iconst 0, 1, 0, 0, 0, 0, 0), (.istore 4, 2, 0, 4, 0, 0, 0)] (by decide +kernel) (show m_sgl X _ _ _ _ _ = some (5, [some (.ref 55), some (.int v1), some (.int v2), some (.int (0 : Int32)), some (.int (0 : Int32))], [], (SH, m.1, m.2)) from rfl) ?_
  exact ok_Notes_copyOf_5 X d F F _ _ _ _ _ _ _ h
def f_x_copyAt (F : Nat)   (v1 : Int32) (v2 : Int32) (m : mM) : Option (Int32 × mM) := ((f_Notes_copyOf F v1 v2 m).bind fun q1 => (if q1.1 = (-1 : Int32) then ((f_x_refuse F (-3 : Int32) q1.2).bind fun q2 => some (q2.1, q2.2)) else (if q1.1 < 0 ∨ 400 ≤ q1.1.toNatClampNeg then none else some ((q1.2.1 58 q1.1.toNatClampNeg), q1.2))))
theorem ok_x_copyAt (X : mX) (d F : Nat) : ∀ (v1 : Int32) (v2 : Int32)  (m : mM) (r : Int32) (m' : mM), f_x_copyAt F v1 v2 m = some (r, m') → m_R X (d + 1) 66 0 [some (.ref 0), some (.int v1), some (.int v2), none] [] (SH, m) (some (.int r), (SH, m')) := by
  intro v1 v2 m r m' h
  unfold f_x_copyAt at h
  refine m_R_sg (by decide) [(.aload_n 0, 1, 0, 0, 0, 0, 0), (.getfield 28, 3, 0, 11, 2, 3, 632), (.getfield 134, 3, 0, 10, 8, 3, 519), (.iload_n 1, 1, 0, 1, 0, 0, 0), (.iload_n 2, 1, 0, 2, 0, 0, 0)] (by decide +kernel) (show m_sgl X _ _ _ _ _ = some (9, [some (.ref 0), some (.int v1), some (.int v2), none], [.int v2, .int v1, .ref 55], (SH, m.1, m.2)) from rfl) ?_
  obtain ⟨q1, hc1, h⟩ := Option.bind_eq_some_iff.mp h
  refine m_R_cV (v := (some (.int q1.1))) (h1 := (SH, q1.2)) (rest := []) (lo' := [some (.ref 55), some (.int v1), some (.int v2), none, none]) (ml := 5) (k0 := 55) (by decide) (Or.inl rfl) (m_opb_of (ins := .invokevirtual 204) (len := 3) (tag := 5) (a := 67) (b := 2) (c := 0) (q := 881) (by decide +kernel)) (by decide +kernel) rfl (show m_isO 67 55 (SH, _) = true from m_isO_of (by decide +kernel)) (Nat.le_of_ble_eq_true rfl) rfl rfl (ok_Notes_copyOf X (d + 0) F _ _ _ _ _ hc1) ?_
  refine m_R_sg (by decide) [(.istore_n 3, 1, 0, 3, 0, 0, 0), (.iload_n 3, 1, 0, 3, 0, 0, 0), (.iconst (-1), 1, 0, 1, 1, 0, 0)] (by decide +kernel) (show m_sgl X _ _ _ _ _ = some (15, [some (.ref 0), some (.int v1), some (.int v2), some (.int q1.1)], [.int (-1 : Int32), .int q1.1], (SH, q1.2.1, q1.2.2)) from rfl) ?_
  rcases m_ite h with ⟨c574, h⟩ | ⟨c574, h⟩
  · refine m_R_1 (by decide) (m_opb_of (ins := .if_icmp .ne 10) (len := 3) (tag := 0) (a := 25) (b := 0) (c := 0) (q := 0) (by decide +kernel)) (if_pos c574) ?_
    refine m_R_sg (by decide) [(.aload_n 0, 1, 0, 0, 0, 0, 0), (.bipush (-3), 2, 0, 3, 1, 0, 0)] (by decide +kernel) (show m_sgl X _ _ _ _ _ = some (21, [some (.ref 0), some (.int v1), some (.int v2), some (.int q1.1)], [.int (-3 : Int32), .ref 0], (SH, q1.2.1, q1.2.2)) from rfl) ?_
    obtain ⟨q2, hc2, h⟩ := Option.bind_eq_some_iff.mp h
    refine m_R_cV (v := (some (.int q2.1))) (h1 := (SH, q2.2)) (rest := []) (lo' := [some (.ref 0), some (.int (-3 : Int32))]) (ml := 2) (k0 := 0) (by decide) (Or.inl rfl) (m_opb_of (ins := .invokevirtual 76) (len := 3) (tag := 5) (a := 14) (b := 1) (c := 0) (q := 671) (by decide +kernel)) (by decide +kernel) rfl (show m_isO 14 0 (SH, _) = true from m_isO_of (by decide +kernel)) (Nat.le_of_ble_eq_true rfl) rfl rfl (ok_x_refuse X (d + 0) F _ _ _ _ hc2) ?_
    obtain ⟨rfl, rfl⟩ := m_some h
    exact m_R_iret (by decide) (m_opb_of (ins := .ireturn) (len := 1) (tag := 1) (a := 0) (b := 0) (c := 0) (q := 0) (by decide +kernel)) (Or.inl rfl)
  · refine m_R_1 (by decide) (m_opb_of (ins := .if_icmp .ne 10) (len := 3) (tag := 0) (a := 25) (b := 0) (c := 0) (q := 0) (by decide +kernel)) (if_neg c574) ?_
    refine m_R_sg (by decide) [(.aload_n 0, 1, 0, 0, 0, 0, 0), (.getfield 28, 3, 0, 11, 2, 3, 632), (.getfield 134, 3, 0, 10, 8, 3, 519), (.getfield 207, 3, 0, 3, 3, 3, 455), (.iload_n 3, 1, 0, 3, 0, 0, 0)] (by decide +kernel) (show m_sgl X _ _ _ _ _ = some (36, [some (.ref 0), some (.int v1), some (.int v2), some (.int q1.1)], [.int q1.1, .ref 58], (SH, q1.2.1, q1.2.2)) from rfl) ?_
    obtain ⟨c575, h⟩ := m_ite_n h
    refine m_R_1 (by decide) (m_opb_of (ins := .iaload) (len := 1) (tag := 0) (a := 0) (b := 0) (c := 0) (q := 0) (by decide +kernel)) (m_s_iald sh_58 (by decide) c575) ?_
    obtain ⟨rfl, rfl⟩ := m_some h
    exact m_R_iret (by decide) (m_opb_of (ins := .ireturn) (len := 1) (tag := 1) (a := 0) (b := 0) (c := 0) (q := 0) (by decide +kernel)) (Or.inl rfl)
def f_m_copyOf_31 (F : Nat)    (m : mM) : Option (Int32 × mM) := some ((-1 : Int32), m)
theorem ok_m_copyOf_31 (X : mX) (d F : Nat) : ∀  (w0 : Option Value) (w1 : Option Value) (w2 : Option Value) (w3 : Option Value) (m : mM) (r : Int32) (m' : mM), f_m_copyOf_31 F  m = some (r, m') → m_R X (d + 2) 262 31 [w0, w1, w2, w3] [] (SH, m) (some (.int r), (SH, m')) := by
  intro w0 w1 w2 w3 m r m' h
  unfold f_m_copyOf_31 at h
  refine m_R_sg (by decide) [(.iconst (-1), 1, 0, 1, 1, 0, 0)] (by decide +kernel) (show m_sgl X _ _ _ _ _ = some (32, [w0, w1, w2, w3], [.int (-1 : Int32)], (SH, m.1, m.2)) from rfl) ?_
  obtain ⟨rfl, rfl⟩ := m_some h
  exact m_R_iret (by decide) (m_opb_of (ins := .ireturn) (len := 1) (tag := 1) (a := 0) (b := 0) (c := 0) (q := 0) (by decide +kernel)) (Or.inl rfl)
def f_m_copyOf_71 (F : Nat)  (k35 : Int32 → Int32 → Int32 → mM → Option (Int32 × mM)) (v1 : Int32) (v2 : Int32) (v3 : Int32) (m : mM) : Option (Int32 × mM) := k35 v1 v2 (v3 + (1 : Int32)) m
theorem ok_m_copyOf_71 (X : mX) (d F : Nat) (k35 : Int32 → Int32 → Int32 → mM → Option (Int32 × mM)) (hk35 : ∀ (v1 : Int32) (v2 : Int32) (v3 : Int32) (m : mM) (r : Int32) (m' : mM), k35 v1 v2 v3 m = some (r, m') → m_R X (d + 2) 262 35 [some (.ref 304), some (.int v1), some (.int v2), some (.int v3)] [] (SH, m) (some (.int r), (SH, m'))) : ∀ (v1 : Int32) (v2 : Int32) (v3 : Int32)  (m : mM) (r : Int32) (m' : mM), f_m_copyOf_71 F k35 v1 v2 v3 m = some (r, m') → m_R X (d + 2) 262 71 [some (.ref 304), some (.int v1), some (.int v2), some (.int v3)] [] (SH, m) (some (.int r), (SH, m')) := by
  intro v1 v2 v3 m r m' h
  unfold f_m_copyOf_71 at h
  refine m_R_sg (by decide) [(.iinc 3 1, 3, 0, 3, 1, 0, 0), (.goto (-39), 3, 0, 35, 0, 0, 0)] (by decide +kernel) (show m_sgl X _ _ _ _ _ = some (35, [some (.ref 304), some (.int v1), some (.int v2), some (.int (v3 + (1 : Int32)))], [], (SH, m.1, m.2)) from rfl) ?_
  exact hk35 _ _ _ _ _ _ h
def f_m_copyOf_35 (F : Nat)   : Nat → Int32 → Int32 → Int32 → mM → Option (Int32 × mM)
  | 0, _, _, _, _ => none
  | n + 1, v1, v2, v3, m => (if ((1220 : Int32) + ((12 : Int32) * v3)) < 0 ∨ 9732 ≤ ((1220 : Int32) + ((12 : Int32) * v3)).toNatClampNeg then none else (if (m.1 305 ((1220 : Int32) + ((12 : Int32) * v3)).toNatClampNeg) = v1 then (if (((1220 : Int32) + ((12 : Int32) * v3)) + (1 : Int32)) < 0 ∨ 9732 ≤ (((1220 : Int32) + ((12 : Int32) * v3)) + (1 : Int32)).toNatClampNeg then none else (if (m.1 305 (((1220 : Int32) + ((12 : Int32) * v3)) + (1 : Int32)).toNatClampNeg) = v2 then some (v3, m) else f_m_copyOf_71 F (f_m_copyOf_35 F n) v1 v2 v3 m)) else f_m_copyOf_71 F (f_m_copyOf_35 F n) v1 v2 v3 m))
theorem ok_m_copyOf_35 (X : mX) (d F : Nat) : ∀ (n : Nat) (v1 : Int32) (v2 : Int32) (v3 : Int32)  (m : mM) (r : Int32) (m' : mM), f_m_copyOf_35 F n v1 v2 v3 m = some (r, m') → m_R X (d + 2) 262 35 [some (.ref 304), some (.int v1), some (.int v2), some (.int v3)] [] (SH, m) (some (.int r), (SH, m')) := by
  intro n
  induction n with
  | zero => intro v1 v2 v3 m r m' h; cases h
  | succ n ih =>
    intro v1 v2 v3 m r m' h
    simp only [f_m_copyOf_35] at h
    refine m_R_sg (by decide) [(.aload_n 0, 1, 0, 0, 0, 0, 0), (.getfield 13, 3, 0, 12, 1, 3, 1493), (.sipush 1220, 3, 0, 1220, 0, 0, 0), (.bipush 12, 2, 0, 12, 0, 0, 0), (.iload_n 3, 1, 0, 3, 0, 0, 0), (.imul, 1, 0, 0, 0, 0, 0), (.iadd, 1, 0, 0, 0, 0, 0)] (by decide +kernel) (show m_sgl X _ _ _ _ _ = some (47, [some (.ref 304), some (.int v1), some (.int v2), some (.int v3)], [.int ((1220 : Int32) + ((12 : Int32) * v3)), .ref 305], (SH, m.1, m.2)) from rfl) ?_
    obtain ⟨c576, h⟩ := m_ite_n h
    refine m_R_1 (by decide) (m_opb_of (ins := .iaload) (len := 1) (tag := 0) (a := 0) (b := 0) (c := 0) (q := 0) (by decide +kernel)) (m_s_iald sh_305 (by decide) c576) ?_
    refine m_R_sg (by decide) [(.iload_n 1, 1, 0, 1, 0, 0, 0)] (by decide +kernel) (show m_sgl X _ _ _ _ _ = some (49, [some (.ref 304), some (.int v1), some (.int v2), some (.int v3)], [.int v1, .int (m.1 305 ((1220 : Int32) + ((12 : Int32) * v3)).toNatClampNeg)], (SH, m.1, m.2)) from rfl) ?_
    rcases m_ite h with ⟨c577, h⟩ | ⟨c577, h⟩
    · refine m_R_1 (by decide) (m_opb_of (ins := .if_icmp .ne 22) (len := 3) (tag := 0) (a := 71) (b := 0) (c := 0) (q := 0) (by decide +kernel)) (if_pos c577) ?_
      refine m_R_sg (by decide) [(.aload_n 0, 1, 0, 0, 0, 0, 0), (.getfield 13, 3, 0, 12, 1, 3, 1493), (.sipush 1220, 3, 0, 1220, 0, 0, 0), (.bipush 12, 2, 0, 12, 0, 0, 0), (.iload_n 3, 1, 0, 3, 0, 0, 0), (.imul, 1, 0, 0, 0, 0, 0), (.iadd, 1, 0, 0, 0, 0, 0), (.iconst 1, 1, 0, 1, 0, 0, 0), (.iadd, 1, 0, 0, 0, 0, 0)] (by decide +kernel) (show m_sgl X _ _ _ _ _ = some (66, [some (.ref 304), some (.int v1), some (.int v2), some (.int v3)], [.int (((1220 : Int32) + ((12 : Int32) * v3)) + (1 : Int32)), .ref 305], (SH, m.1, m.2)) from rfl) ?_
      obtain ⟨c578, h⟩ := m_ite_n h
      refine m_R_1 (by decide) (m_opb_of (ins := .iaload) (len := 1) (tag := 0) (a := 0) (b := 0) (c := 0) (q := 0) (by decide +kernel)) (m_s_iald sh_305 (by decide) c578) ?_
      refine m_R_sg (by decide) [(.iload_n 2, 1, 0, 2, 0, 0, 0)] (by decide +kernel) (show m_sgl X _ _ _ _ _ = some (68, [some (.ref 304), some (.int v1), some (.int v2), some (.int v3)], [.int v2, .int (m.1 305 (((1220 : Int32) + ((12 : Int32) * v3)) + (1 : Int32)).toNatClampNeg)], (SH, m.1, m.2)) from rfl) ?_
      rcases m_ite h with ⟨c579, h⟩ | ⟨c579, h⟩
      · refine m_R_1 (by decide) (m_opb_of (ins := .if_icmp .eq 9) (len := 3) (tag := 0) (a := 77) (b := 0) (c := 0) (q := 0) (by decide +kernel)) (if_pos c579) ?_
        refine m_R_sg (by decide) [(.iload_n 3, 1, 0, 3, 0, 0, 0)] (by decide +kernel) (show m_sgl X _ _ _ _ _ = some (78, [some (.ref 304), some (.int v1), some (.int v2), some (.int v3)], [.int v3], (SH, m.1, m.2)) from rfl) ?_
        obtain ⟨rfl, rfl⟩ := m_some h
        exact m_R_iret (by decide) (m_opb_of (ins := .ireturn) (len := 1) (tag := 1) (a := 0) (b := 0) (c := 0) (q := 0) (by decide +kernel)) (Or.inl rfl)
      · refine m_R_1 (by decide) (m_opb_of (ins := .if_icmp .eq 9) (len := 3) (tag := 0) (a := 77) (b := 0) (c := 0) (q := 0) (by decide +kernel)) (if_neg c579) ?_
        exact ok_m_copyOf_71 X d F _ (fun a0 a1 a2 m r m' h => ih a0 a1 a2 m r m' h) _ _ _ _ _ _ h
    · refine m_R_1 (by decide) (m_opb_of (ins := .if_icmp .ne 22) (len := 3) (tag := 0) (a := 71) (b := 0) (c := 0) (q := 0) (by decide +kernel)) (if_neg c577) ?_
      exact ok_m_copyOf_71 X d F _ (fun a0 a1 a2 m r m' h => ih a0 a1 a2 m r m' h) _ _ _ _ _ _ h
def f_m_copyOf (F : Nat)   (v1 : Int32) (v2 : Int32) (m : mM) : Option (Int32 × mM) := ((f_m_isNumber F v1 m).bind fun q1 => (if q1.1 = 0 then f_m_copyOf_31 F q1.2 else (if (((320 : Int32) + ((3 : Int32) * v1)) + (2 : Int32)) < 0 ∨ 9732 ≤ (((320 : Int32) + ((3 : Int32) * v1)) + (2 : Int32)).toNatClampNeg then none else ((f_m_in F v2 (0 : Int32) ((q1.2.1 305 (((320 : Int32) + ((3 : Int32) * v1)) + (2 : Int32)).toNatClampNeg) - (1 : Int32)) q1.2).bind fun q2 => (if q2.1 = 0 then f_m_copyOf_31 F q2.2 else f_m_copyOf_35 F F v1 v2 (0 : Int32) q2.2)))))
theorem ok_m_copyOf (X : mX) (d F : Nat) : ∀ (v1 : Int32) (v2 : Int32)  (m : mM) (r : Int32) (m' : mM), f_m_copyOf F v1 v2 m = some (r, m') → m_R X (d + 2) 262 0 [some (.ref 304), some (.int v1), some (.int v2), none] [] (SH, m) (some (.int r), (SH, m')) := by
  intro v1 v2 m r m' h
  unfold f_m_copyOf at h
  refine m_R_sg (by decide) [(.iload_n 1, 1, 0, 1, 0, 0, 0)] (by decide +kernel) (show m_sgl X _ _ _ _ _ = some (1, [some (.ref 304), some (.int v1), some (.int v2), none], [.int v1], (SH, m.1, m.2)) from rfl) ?_
  obtain ⟨q1, hc1, h⟩ := Option.bind_eq_some_iff.mp h
  refine m_R_cS (v := (some (.int q1.1))) (h1 := (SH, q1.2)) (rest := []) (lo' := [some (.int v1)]) (ml := 1) (by decide) (m_opb_of (ins := .invokestatic 154) (len := 3) (tag := 4) (a := 258) (b := 1) (c := 0) (q := 1850) (by decide +kernel)) (by decide +kernel) (Nat.le_of_ble_eq_true rfl) rfl (Nat.le_of_ble_eq_true rfl) rfl rfl (ok_m_isNumber X (d + 0) F _ _ _ _ hc1) ?_
  rcases m_ite h with ⟨c580, h⟩ | ⟨c580, h⟩
  · refine m_R_1 (by decide) (m_opb_of (ins := .ifCond .eq 27) (len := 3) (tag := 0) (a := 31) (b := 0) (c := 0) (q := 0) (by decide +kernel)) (if_pos c580) ?_
    exact ok_m_copyOf_31 X d F _ _ _ _ _ _ _ h
  · refine m_R_1 (by decide) (m_opb_of (ins := .ifCond .eq 27) (len := 3) (tag := 0) (a := 31) (b := 0) (c := 0) (q := 0) (by decide +kernel)) (if_neg c580) ?_
    refine m_R_sg (by decide) [(.iload_n 2, 1, 0, 2, 0, 0, 0), (.iconst 0, 1, 0, 0, 0, 0, 0), (.aload_n 0, 1, 0, 0, 0, 0, 0), (.getfield 13, 3, 0, 12, 1, 3, 1493), (.sipush 320, 3, 0, 320, 0, 0, 0), (.iconst 3, 1, 0, 3, 0, 0, 0), (.iload_n 1, 1, 0, 1, 0, 0, 0), (.imul, 1, 0, 0, 0, 0, 0), (.iadd, 1, 0, 0, 0, 0, 0), (.iconst 2, 1, 0, 2, 0, 0, 0), (.iadd, 1, 0, 0, 0, 0, 0)] (by decide +kernel) (show m_sgl X _ _ _ _ _ = some (22, [some (.ref 304), some (.int v1), some (.int v2), none], [.int (((320 : Int32) + ((3 : Int32) * v1)) + (2 : Int32)), .ref 305, .int (0 : Int32), .int v2], (SH, q1.2.1, q1.2.2)) from rfl) ?_
    obtain ⟨c581, h⟩ := m_ite_n h
    refine m_R_1 (by decide) (m_opb_of (ins := .iaload) (len := 1) (tag := 0) (a := 0) (b := 0) (c := 0) (q := 0) (by decide +kernel)) (m_s_iald sh_305 (by decide) c581) ?_
    refine m_R_sg (by decide) [(.iconst 1, 1, 0, 1, 0, 0, 0), (.isub, 1, 0, 0, 0, 0, 0)] (by decide +kernel) (show m_sgl X _ _ _ _ _ = some (25, [some (.ref 304), some (.int v1), some (.int v2), none], [.int ((q1.2.1 305 (((320 : Int32) + ((3 : Int32) * v1)) + (2 : Int32)).toNatClampNeg) - (1 : Int32)), .int (0 : Int32), .int v2], (SH, q1.2.1, q1.2.2)) from rfl) ?_
    obtain ⟨q2, hc2, h⟩ := Option.bind_eq_some_iff.mp h
    refine m_R_cS (v := (some (.int q2.1))) (h1 := (SH, q2.2)) (rest := []) (lo' := [some (.int v2), some (.int (0 : Int32)), some (.int ((q1.2.1 305 (((320 : Int32) + ((3 : Int32) * v1)) + (2 : Int32)).toNatClampNeg) - (1 : Int32)))]) (ml := 3) (by decide) (m_opb_of (ins := .invokestatic 57) (len := 3) (tag := 4) (a := 201) (b := 3) (c := 0) (q := 1590) (by decide +kernel)) (by decide +kernel) (Nat.le_of_ble_eq_true rfl) rfl (Nat.le_of_ble_eq_true rfl) rfl rfl (ok_m_in X (d + 1) F _ _ _ _ _ _ hc2) ?_
    rcases m_ite h with ⟨c582, h⟩ | ⟨c582, h⟩
    · refine m_R_1 (by decide) (m_opb_of (ins := .ifCond .ne 5) (len := 3) (tag := 0) (a := 33) (b := 0) (c := 0) (q := 0) (by decide +kernel)) (if_pos c582) ?_
      exact ok_m_copyOf_31 X d F _ _ _ _ _ _ _ h
    · refine m_R_1 (by decide) (m_opb_of (ins := .ifCond .ne 5) (len := 3) (tag := 0) (a := 33) (b := 0) (c := 0) (q := 0) (by decide +kernel)) (if_neg c582) ?_
      refine m_R_sg (by decide) [(.iconst 0, 1, 0, 0, 0, 0, 0), (.istore_n 3, 1, 0, 3, 0, 0, 0)] (by decide +kernel) (show m_sgl X _ _ _ _ _ = some (35, [some (.ref 304), some (.int v1), some (.int v2), some (.int (0 : Int32))], [], (SH, q2.2.1, q2.2.2)) from rfl) ?_
      exact ok_m_copyOf_35 X d F F _ _ _ _ _ _ h
def f_m_copyAt_36 (F : Nat)   (s0 : Int32) (m : mM) : Option (Int32 × mM) := some (s0, m)
theorem ok_m_copyAt_36 (X : mX) (d F : Nat) : ∀ (s0 : Int32) (w0 : Option Value) (w1 : Option Value) (w2 : Option Value) (w3 : Option Value) (m : mM) (r : Int32) (m' : mM), f_m_copyAt_36 F s0 m = some (r, m') → m_R X (d + 3) 261 36 [w0, w1, w2, w3] [.int s0] (SH, m) (some (.int r), (SH, m')) := by
  intro s0 w0 w1 w2 w3 m r m' h
  unfold f_m_copyAt_36 at h
  obtain ⟨rfl, rfl⟩ := m_some h
  exact m_R_iret (by decide) (m_opb_of (ins := .ireturn) (len := 1) (tag := 1) (a := 0) (b := 0) (c := 0) (q := 0) (by decide +kernel)) (Or.inl rfl)
def f_m_copyAt (F : Nat)   (v1 : Int32) (v2 : Int32) (m : mM) : Option (Int32 × mM) := ((f_m_copyOf F v1 v2 m).bind fun q1 => (if q1.1 = (-1 : Int32) then ((f_m_refuse F (-3 : Int32) q1.2).bind fun q2 => f_m_copyAt_36 F q2.1 q2.2) else (if (((1220 : Int32) + ((12 : Int32) * q1.1)) + (2 : Int32)) < 0 ∨ 9732 ≤ (((1220 : Int32) + ((12 : Int32) * q1.1)) + (2 : Int32)).toNatClampNeg then none else f_m_copyAt_36 F (q1.2.1 305 (((1220 : Int32) + ((12 : Int32) * q1.1)) + (2 : Int32)).toNatClampNeg) q1.2)))
theorem ok_m_copyAt (X : mX) (d F : Nat) : ∀ (v1 : Int32) (v2 : Int32)  (m : mM) (r : Int32) (m' : mM), f_m_copyAt F v1 v2 m = some (r, m') → m_R X (d + 3) 261 0 [some (.ref 304), some (.int v1), some (.int v2), none] [] (SH, m) (some (.int r), (SH, m')) := by
  intro v1 v2 m r m' h
  unfold f_m_copyAt at h
  refine m_R_sg (by decide) [(.aload_n 0, 1, 0, 0, 0, 0, 0), (.iload_n 1, 1, 0, 1, 0, 0, 0), (.iload_n 2, 1, 0, 2, 0, 0, 0)] (by decide +kernel) (show m_sgl X _ _ _ _ _ = some (3, [some (.ref 304), some (.int v1), some (.int v2), none], [.int v2, .int v1, .ref 304], (SH, m.1, m.2)) from rfl) ?_
  obtain ⟨q1, hc1, h⟩ := Option.bind_eq_some_iff.mp h
  refine m_R_cV (v := (some (.int q1.1))) (h1 := (SH, q1.2)) (rest := []) (lo' := [some (.ref 304), some (.int v1), some (.int v2), none]) (ml := 4) (k0 := 304) (by decide) (Or.inl rfl) (m_opb_of (ins := .invokevirtual 157) (len := 3) (tag := 5) (a := 262) (b := 2) (c := 0) (q := 1865) (by decide +kernel)) (by decide +kernel) rfl (show m_isO 262 304 (SH, _) = true from m_isO_of (by decide +kernel)) (Nat.le_of_ble_eq_true rfl) rfl rfl (ok_m_copyOf X (d + 0) F _ _ _ _ _ hc1) ?_
  refine m_R_sg (by decide) [(.istore_n 3, 1, 0, 3, 0, 0, 0), (.iload_n 3, 1, 0, 3, 0, 0, 0), (.iconst (-1), 1, 0, 1, 1, 0, 0)] (by decide +kernel) (show m_sgl X _ _ _ _ _ = some (9, [some (.ref 304), some (.int v1), some (.int v2), some (.int q1.1)], [.int (-1 : Int32), .int q1.1], (SH, q1.2.1, q1.2.2)) from rfl) ?_
  rcases m_ite h with ⟨c583, h⟩ | ⟨c583, h⟩
  · refine m_R_1 (by decide) (m_opb_of (ins := .if_icmp .ne 12) (len := 3) (tag := 0) (a := 21) (b := 0) (c := 0) (q := 0) (by decide +kernel)) (if_pos c583) ?_
    refine m_R_sg (by decide) [(.aload_n 0, 1, 0, 0, 0, 0, 0), (.bipush (-3), 2, 0, 3, 1, 0, 0)] (by decide +kernel) (show m_sgl X _ _ _ _ _ = some (15, [some (.ref 304), some (.int v1), some (.int v2), some (.int q1.1)], [.int (-3 : Int32), .ref 304], (SH, q1.2.1, q1.2.2)) from rfl) ?_
    obtain ⟨q2, hc2, h⟩ := Option.bind_eq_some_iff.mp h
    refine m_R_cV (v := (some (.int q2.1))) (h1 := (SH, q2.2)) (rest := []) (lo' := [some (.ref 304), some (.int (-3 : Int32))]) (ml := 2) (k0 := 304) (by decide) (Or.inl rfl) (m_opb_of (ins := .invokevirtual 61) (len := 3) (tag := 5) (a := 202) (b := 1) (c := 0) (q := 1593) (by decide +kernel)) (by decide +kernel) rfl (show m_isO 202 304 (SH, _) = true from m_isO_of (by decide +kernel)) (Nat.le_of_ble_eq_true rfl) rfl rfl (ok_m_refuse X (d + 2) F _ _ _ _ hc2) ?_
    refine m_R_sg (by decide) [(.goto 18, 3, 0, 36, 0, 0, 0)] (by decide +kernel) (show m_sgl X _ _ _ _ _ = some (36, [some (.ref 304), some (.int v1), some (.int v2), some (.int q1.1)], [.int q2.1], (SH, q2.2.1, q2.2.2)) from rfl) ?_
    exact ok_m_copyAt_36 X d F _ _ _ _ _ _ _ _ h
  · refine m_R_1 (by decide) (m_opb_of (ins := .if_icmp .ne 12) (len := 3) (tag := 0) (a := 21) (b := 0) (c := 0) (q := 0) (by decide +kernel)) (if_neg c583) ?_
    refine m_R_sg (by decide) [(.aload_n 0, 1, 0, 0, 0, 0, 0), (.getfield 13, 3, 0, 12, 1, 3, 1493), (.sipush 1220, 3, 0, 1220, 0, 0, 0), (.bipush 12, 2, 0, 12, 0, 0, 0), (.iload_n 3, 1, 0, 3, 0, 0, 0), (.imul, 1, 0, 0, 0, 0, 0), (.iadd, 1, 0, 0, 0, 0, 0), (.iconst 2, 1, 0, 2, 0, 0, 0), (.iadd, 1, 0, 0, 0, 0, 0)] (by decide +kernel) (show m_sgl X _ _ _ _ _ = some (35, [some (.ref 304), some (.int v1), some (.int v2), some (.int q1.1)], [.int (((1220 : Int32) + ((12 : Int32) * q1.1)) + (2 : Int32)), .ref 305], (SH, q1.2.1, q1.2.2)) from rfl) ?_
    obtain ⟨c584, h⟩ := m_ite_n h
    refine m_R_1 (by decide) (m_opb_of (ins := .iaload) (len := 1) (tag := 0) (a := 0) (b := 0) (c := 0) (q := 0) (by decide +kernel)) (m_s_iald sh_305 (by decide) c584) ?_
    exact ok_m_copyAt_36 X d F _ _ _ _ _ _ _ _ h
def f_x_trail_41 (F : Nat)    (m : mM) : Option (Int32 × mM) := ((f_x_refuse F (-3 : Int32) m).bind fun q2 => some (q2.1, q2.2))
theorem ok_x_trail_41 (X : mX) (d F : Nat) : ∀  (w1 : Option Value) (w2 : Option Value) (w3 : Option Value) (w4 : Option Value) (m : mM) (r : Int32) (m' : mM), f_x_trail_41 F  m = some (r, m') → m_R X (d + 1) 68 41 [some (.ref 0), w1, w2, w3, w4] [] (SH, m) (some (.int r), (SH, m')) := by
  intro w1 w2 w3 w4 m r m' h
  unfold f_x_trail_41 at h
  refine m_R_sg (by decide) [(.aload_n 0, 1, 0, 0, 0, 0, 0), (.bipush (-3), 2, 0, 3, 1, 0, 0)] (by decide +kernel) (show m_sgl X _ _ _ _ _ = some (44, [some (.ref 0), w1, w2, w3, w4], [.int (-3 : Int32), .ref 0], (SH, m.1, m.2)) from rfl) ?_
  obtain ⟨q2, hc2, h⟩ := Option.bind_eq_some_iff.mp h
  refine m_R_cV (v := (some (.int q2.1))) (h1 := (SH, q2.2)) (rest := []) (lo' := [some (.ref 0), some (.int (-3 : Int32))]) (ml := 2) (k0 := 0) (by decide) (Or.inl rfl) (m_opb_of (ins := .invokevirtual 76) (len := 3) (tag := 5) (a := 14) (b := 1) (c := 0) (q := 671) (by decide +kernel)) (by decide +kernel) rfl (show m_isO 14 0 (SH, _) = true from m_isO_of (by decide +kernel)) (Nat.le_of_ble_eq_true rfl) rfl rfl (ok_x_refuse X (d + 0) F _ _ _ _ hc2) ?_
  obtain ⟨rfl, rfl⟩ := m_some h
  exact m_R_iret (by decide) (m_opb_of (ins := .ireturn) (len := 1) (tag := 1) (a := 0) (b := 0) (c := 0) (q := 0) (by decide +kernel)) (Or.inl rfl)
def f_x_trail (F : Nat)   (v1 : Int32) (v2 : Int32) (v3 : Int32) (m : mM) : Option (Int32 × mM) := ((f_Notes_copyOf F v1 v2 m).bind fun q1 => (if q1.1 = (-1 : Int32) then f_x_trail_41 F q1.2 else (if v3 < 0 then f_x_trail_41 F q1.2 else (if q1.1 < 0 ∨ 400 ≤ q1.1.toNatClampNeg then none else (if v3 < (q1.2.1 59 q1.1.toNatClampNeg) then (if ((q1.1 * (8 : Int32)) + v3) < 0 ∨ 3200 ≤ ((q1.1 * (8 : Int32)) + v3).toNatClampNeg then none else some ((q1.2.1 3 ((q1.1 * (8 : Int32)) + v3).toNatClampNeg), q1.2)) else f_x_trail_41 F q1.2)))))
theorem ok_x_trail (X : mX) (d F : Nat) : ∀ (v1 : Int32) (v2 : Int32) (v3 : Int32)  (m : mM) (r : Int32) (m' : mM), f_x_trail F v1 v2 v3 m = some (r, m') → m_R X (d + 1) 68 0 [some (.ref 0), some (.int v1), some (.int v2), some (.int v3), none] [] (SH, m) (some (.int r), (SH, m')) := by
  intro v1 v2 v3 m r m' h
  unfold f_x_trail at h
  refine m_R_sg (by decide) [(.aload_n 0, 1, 0, 0, 0, 0, 0), (.getfield 28, 3, 0, 11, 2, 3, 632), (.getfield 134, 3, 0, 10, 8, 3, 519), (.iload_n 1, 1, 0, 1, 0, 0, 0), (.iload_n 2, 1, 0, 2, 0, 0, 0)] (by decide +kernel) (show m_sgl X _ _ _ _ _ = some (9, [some (.ref 0), some (.int v1), some (.int v2), some (.int v3), none], [.int v2, .int v1, .ref 55], (SH, m.1, m.2)) from rfl) ?_
  obtain ⟨q1, hc1, h⟩ := Option.bind_eq_some_iff.mp h
  refine m_R_cV (v := (some (.int q1.1))) (h1 := (SH, q1.2)) (rest := []) (lo' := [some (.ref 55), some (.int v1), some (.int v2), none, none]) (ml := 5) (k0 := 55) (by decide) (Or.inl rfl) (m_opb_of (ins := .invokevirtual 204) (len := 3) (tag := 5) (a := 67) (b := 2) (c := 0) (q := 881) (by decide +kernel)) (by decide +kernel) rfl (show m_isO 67 55 (SH, _) = true from m_isO_of (by decide +kernel)) (Nat.le_of_ble_eq_true rfl) rfl rfl (ok_Notes_copyOf X (d + 0) F _ _ _ _ _ hc1) ?_
  refine m_R_sg (by decide) [(.istore 4, 2, 0, 4, 0, 0, 0), (.iload 4, 2, 0, 4, 0, 0, 0), (.iconst (-1), 1, 0, 1, 1, 0, 0)] (by decide +kernel) (show m_sgl X _ _ _ _ _ = some (17, [some (.ref 0), some (.int v1), some (.int v2), some (.int v3), some (.int q1.1)], [.int (-1 : Int32), .int q1.1], (SH, q1.2.1, q1.2.2)) from rfl) ?_
  rcases m_ite h with ⟨c585, h⟩ | ⟨c585, h⟩
  · refine m_R_1 (by decide) (m_opb_of (ins := .if_icmp .eq 24) (len := 3) (tag := 0) (a := 41) (b := 0) (c := 0) (q := 0) (by decide +kernel)) (if_pos c585) ?_
    exact ok_x_trail_41 X d F _ _ _ _ _ _ _ h
  · refine m_R_1 (by decide) (m_opb_of (ins := .if_icmp .eq 24) (len := 3) (tag := 0) (a := 41) (b := 0) (c := 0) (q := 0) (by decide +kernel)) (if_neg c585) ?_
    refine m_R_sg (by decide) [(.iload_n 3, 1, 0, 3, 0, 0, 0)] (by decide +kernel) (show m_sgl X _ _ _ _ _ = some (21, [some (.ref 0), some (.int v1), some (.int v2), some (.int v3), some (.int q1.1)], [.int v3], (SH, q1.2.1, q1.2.2)) from rfl) ?_
    rcases m_ite h with ⟨c586, h⟩ | ⟨c586, h⟩
    · refine m_R_1 (by decide) (m_opb_of (ins := .ifCond .lt 20) (len := 3) (tag := 0) (a := 41) (b := 0) (c := 0) (q := 0) (by decide +kernel)) (if_pos c586) ?_
      exact ok_x_trail_41 X d F _ _ _ _ _ _ _ h
    · refine m_R_1 (by decide) (m_opb_of (ins := .ifCond .lt 20) (len := 3) (tag := 0) (a := 41) (b := 0) (c := 0) (q := 0) (by decide +kernel)) (if_neg c586) ?_
      refine m_R_sg (by decide) [(.iload_n 3, 1, 0, 3, 0, 0, 0), (.aload_n 0, 1, 0, 0, 0, 0, 0), (.getfield 28, 3, 0, 11, 2, 3, 632), (.getfield 134, 3, 0, 10, 8, 3, 519), (.getfield 210, 3, 0, 3, 4, 3, 457), (.iload 4, 2, 0, 4, 0, 0, 0)] (by decide +kernel) (show m_sgl X _ _ _ _ _ = some (37, [some (.ref 0), some (.int v1), some (.int v2), some (.int v3), some (.int q1.1)], [.int q1.1, .ref 59, .int v3], (SH, q1.2.1, q1.2.2)) from rfl) ?_
      obtain ⟨c587, h⟩ := m_ite_n h
      refine m_R_1 (by decide) (m_opb_of (ins := .iaload) (len := 1) (tag := 0) (a := 0) (b := 0) (c := 0) (q := 0) (by decide +kernel)) (m_s_iald sh_59 (by decide) c587) ?_
      rcases m_ite h with ⟨c588, h⟩ | ⟨c588, h⟩
      · refine m_R_1 (by decide) (m_opb_of (ins := .if_icmp .lt 10) (len := 3) (tag := 0) (a := 48) (b := 0) (c := 0) (q := 0) (by decide +kernel)) (if_pos c588) ?_
        refine m_R_sg (by decide) [(.aload_n 0, 1, 0, 0, 0, 0, 0), (.getfield 10, 3, 0, 11, 0, 3, 630), (.getfield 213, 3, 0, 6, 1, 3, 164), (.iload 4, 2, 0, 4, 0, 0, 0), (.bipush 8, 2, 0, 8, 0, 0, 0), (.imul, 1, 0, 0, 0, 0, 0), (.iload_n 3, 1, 0, 3, 0, 0, 0), (.iadd, 1, 0, 0, 0, 0, 0)] (by decide +kernel) (show m_sgl X _ _ _ _ _ = some (62, [some (.ref 0), some (.int v1), some (.int v2), some (.int v3), some (.int q1.1)], [.int ((q1.1 * (8 : Int32)) + v3), .ref 3], (SH, q1.2.1, q1.2.2)) from rfl) ?_
        obtain ⟨c589, h⟩ := m_ite_n h
        refine m_R_1 (by decide) (m_opb_of (ins := .iaload) (len := 1) (tag := 0) (a := 0) (b := 0) (c := 0) (q := 0) (by decide +kernel)) (m_s_iald sh_3 (by decide) c589) ?_
        obtain ⟨rfl, rfl⟩ := m_some h
        exact m_R_iret (by decide) (m_opb_of (ins := .ireturn) (len := 1) (tag := 1) (a := 0) (b := 0) (c := 0) (q := 0) (by decide +kernel)) (Or.inl rfl)
      · refine m_R_1 (by decide) (m_opb_of (ins := .if_icmp .lt 10) (len := 3) (tag := 0) (a := 48) (b := 0) (c := 0) (q := 0) (by decide +kernel)) (if_neg c588) ?_
        exact ok_x_trail_41 X d F _ _ _ _ _ _ _ h
def f_m_trail_40 (F : Nat)    (m : mM) : Option (Int32 × mM) := ((f_m_refuse F (-3 : Int32) m).bind fun q3 => some (q3.1, q3.2))
theorem ok_m_trail_40 (X : mX) (d F : Nat) : ∀  (w1 : Option Value) (w2 : Option Value) (w3 : Option Value) (w4 : Option Value) (m : mM) (r : Int32) (m' : mM), f_m_trail_40 F  m = some (r, m') → m_R X (d + 3) 263 40 [some (.ref 304), w1, w2, w3, w4] [] (SH, m) (some (.int r), (SH, m')) := by
  intro w1 w2 w3 w4 m r m' h
  unfold f_m_trail_40 at h
  refine m_R_sg (by decide) [(.aload_n 0, 1, 0, 0, 0, 0, 0), (.bipush (-3), 2, 0, 3, 1, 0, 0)] (by decide +kernel) (show m_sgl X _ _ _ _ _ = some (43, [some (.ref 304), w1, w2, w3, w4], [.int (-3 : Int32), .ref 304], (SH, m.1, m.2)) from rfl) ?_
  obtain ⟨q3, hc3, h⟩ := Option.bind_eq_some_iff.mp h
  refine m_R_cV (v := (some (.int q3.1))) (h1 := (SH, q3.2)) (rest := []) (lo' := [some (.ref 304), some (.int (-3 : Int32))]) (ml := 2) (k0 := 304) (by decide) (Or.inl rfl) (m_opb_of (ins := .invokevirtual 61) (len := 3) (tag := 5) (a := 202) (b := 1) (c := 0) (q := 1593) (by decide +kernel)) (by decide +kernel) rfl (show m_isO 202 304 (SH, _) = true from m_isO_of (by decide +kernel)) (Nat.le_of_ble_eq_true rfl) rfl rfl (ok_m_refuse X (d + 2) F _ _ _ _ hc3) ?_
  obtain ⟨rfl, rfl⟩ := m_some h
  exact m_R_iret (by decide) (m_opb_of (ins := .ireturn) (len := 1) (tag := 1) (a := 0) (b := 0) (c := 0) (q := 0) (by decide +kernel)) (Or.inl rfl)
def f_m_trail (F : Nat)   (v1 : Int32) (v2 : Int32) (v3 : Int32) (m : mM) : Option (Int32 × mM) := ((f_m_copyOf F v1 v2 m).bind fun q1 => (if q1.1 = (-1 : Int32) then f_m_trail_40 F q1.2 else (if (((1220 : Int32) + ((12 : Int32) * q1.1)) + (3 : Int32)) < 0 ∨ 9732 ≤ (((1220 : Int32) + ((12 : Int32) * q1.1)) + (3 : Int32)).toNatClampNeg then none else ((f_m_in F v3 (0 : Int32) ((q1.2.1 305 (((1220 : Int32) + ((12 : Int32) * q1.1)) + (3 : Int32)).toNatClampNeg) - (1 : Int32)) q1.2).bind fun q2 => (if q2.1 = 0 then f_m_trail_40 F q2.2 else (if ((((1220 : Int32) + ((12 : Int32) * q1.1)) + (4 : Int32)) + v3) < 0 ∨ 9732 ≤ ((((1220 : Int32) + ((12 : Int32) * q1.1)) + (4 : Int32)) + v3).toNatClampNeg then none else some ((q2.2.1 305 ((((1220 : Int32) + ((12 : Int32) * q1.1)) + (4 : Int32)) + v3).toNatClampNeg), q2.2)))))))
theorem ok_m_trail (X : mX) (d F : Nat) : ∀ (v1 : Int32) (v2 : Int32) (v3 : Int32)  (m : mM) (r : Int32) (m' : mM), f_m_trail F v1 v2 v3 m = some (r, m') → m_R X (d + 3) 263 0 [some (.ref 304), some (.int v1), some (.int v2), some (.int v3), none] [] (SH, m) (some (.int r), (SH, m')) := by
  intro v1 v2 v3 m r m' h
  unfold f_m_trail at h
  refine m_R_sg (by decide) [(.aload_n 0, 1, 0, 0, 0, 0, 0), (.iload_n 1, 1, 0, 1, 0, 0, 0), (.iload_n 2, 1, 0, 2, 0, 0, 0)] (by decide +kernel) (show m_sgl X _ _ _ _ _ = some (3, [some (.ref 304), some (.int v1), some (.int v2), some (.int v3), none], [.int v2, .int v1, .ref 304], (SH, m.1, m.2)) from rfl) ?_
  obtain ⟨q1, hc1, h⟩ := Option.bind_eq_some_iff.mp h
  refine m_R_cV (v := (some (.int q1.1))) (h1 := (SH, q1.2)) (rest := []) (lo' := [some (.ref 304), some (.int v1), some (.int v2), none]) (ml := 4) (k0 := 304) (by decide) (Or.inl rfl) (m_opb_of (ins := .invokevirtual 157) (len := 3) (tag := 5) (a := 262) (b := 2) (c := 0) (q := 1865) (by decide +kernel)) (by decide +kernel) rfl (show m_isO 262 304 (SH, _) = true from m_isO_of (by decide +kernel)) (Nat.le_of_ble_eq_true rfl) rfl rfl (ok_m_copyOf X (d + 0) F _ _ _ _ _ hc1) ?_
  refine m_R_sg (by decide) [(.istore 4, 2, 0, 4, 0, 0, 0), (.iload 4, 2, 0, 4, 0, 0, 0), (.iconst (-1), 1, 0, 1, 1, 0, 0)] (by decide +kernel) (show m_sgl X _ _ _ _ _ = some (11, [some (.ref 304), some (.int v1), some (.int v2), some (.int v3), some (.int q1.1)], [.int (-1 : Int32), .int q1.1], (SH, q1.2.1, q1.2.2)) from rfl) ?_
  rcases m_ite h with ⟨c590, h⟩ | ⟨c590, h⟩
  · refine m_R_1 (by decide) (m_opb_of (ins := .if_icmp .eq 29) (len := 3) (tag := 0) (a := 40) (b := 0) (c := 0) (q := 0) (by decide +kernel)) (if_pos c590) ?_
    exact ok_m_trail_40 X d F _ _ _ _ _ _ _ h
  · refine m_R_1 (by decide) (m_opb_of (ins := .if_icmp .eq 29) (len := 3) (tag := 0) (a := 40) (b := 0) (c := 0) (q := 0) (by decide +kernel)) (if_neg c590) ?_
    refine m_R_sg (by decide) [(.iload_n 3, 1, 0, 3, 0, 0, 0), (.iconst 0, 1, 0, 0, 0, 0, 0), (.aload_n 0, 1, 0, 0, 0, 0, 0), (.getfield 13, 3, 0, 12, 1, 3, 1493), (.sipush 1220, 3, 0, 1220, 0, 0, 0), (.bipush 12, 2, 0, 12, 0, 0, 0), (.iload 4, 2, 0, 4, 0, 0, 0), (.imul, 1, 0, 0, 0, 0, 0), (.iadd, 1, 0, 0, 0, 0, 0), (.iconst 3, 1, 0, 3, 0, 0, 0), (.iadd, 1, 0, 0, 0, 0, 0)] (by decide +kernel) (show m_sgl X _ _ _ _ _ = some (31, [some (.ref 304), some (.int v1), some (.int v2), some (.int v3), some (.int q1.1)], [.int (((1220 : Int32) + ((12 : Int32) * q1.1)) + (3 : Int32)), .ref 305, .int (0 : Int32), .int v3], (SH, q1.2.1, q1.2.2)) from rfl) ?_
    obtain ⟨c591, h⟩ := m_ite_n h
    refine m_R_1 (by decide) (m_opb_of (ins := .iaload) (len := 1) (tag := 0) (a := 0) (b := 0) (c := 0) (q := 0) (by decide +kernel)) (m_s_iald sh_305 (by decide) c591) ?_
    refine m_R_sg (by decide) [(.iconst 1, 1, 0, 1, 0, 0, 0), (.isub, 1, 0, 0, 0, 0, 0)] (by decide +kernel) (show m_sgl X _ _ _ _ _ = some (34, [some (.ref 304), some (.int v1), some (.int v2), some (.int v3), some (.int q1.1)], [.int ((q1.2.1 305 (((1220 : Int32) + ((12 : Int32) * q1.1)) + (3 : Int32)).toNatClampNeg) - (1 : Int32)), .int (0 : Int32), .int v3], (SH, q1.2.1, q1.2.2)) from rfl) ?_
    obtain ⟨q2, hc2, h⟩ := Option.bind_eq_some_iff.mp h
    refine m_R_cS (v := (some (.int q2.1))) (h1 := (SH, q2.2)) (rest := []) (lo' := [some (.int v3), some (.int (0 : Int32)), some (.int ((q1.2.1 305 (((1220 : Int32) + ((12 : Int32) * q1.1)) + (3 : Int32)).toNatClampNeg) - (1 : Int32)))]) (ml := 3) (by decide) (m_opb_of (ins := .invokestatic 57) (len := 3) (tag := 4) (a := 201) (b := 3) (c := 0) (q := 1590) (by decide +kernel)) (by decide +kernel) (Nat.le_of_ble_eq_true rfl) rfl (Nat.le_of_ble_eq_true rfl) rfl rfl (ok_m_in X (d + 2) F _ _ _ _ _ _ hc2) ?_
    rcases m_ite h with ⟨c592, h⟩ | ⟨c592, h⟩
    · refine m_R_1 (by decide) (m_opb_of (ins := .ifCond .ne 10) (len := 3) (tag := 0) (a := 47) (b := 0) (c := 0) (q := 0) (by decide +kernel)) (if_pos c592) ?_
      exact ok_m_trail_40 X d F _ _ _ _ _ _ _ h
    · refine m_R_1 (by decide) (m_opb_of (ins := .ifCond .ne 10) (len := 3) (tag := 0) (a := 47) (b := 0) (c := 0) (q := 0) (by decide +kernel)) (if_neg c592) ?_
      refine m_R_sg (by decide) [(.aload_n 0, 1, 0, 0, 0, 0, 0), (.getfield 13, 3, 0, 12, 1, 3, 1493), (.sipush 1220, 3, 0, 1220, 0, 0, 0), (.bipush 12, 2, 0, 12, 0, 0, 0), (.iload 4, 2, 0, 4, 0, 0, 0), (.imul, 1, 0, 0, 0, 0, 0), (.iadd, 1, 0, 0, 0, 0, 0), (.iconst 4, 1, 0, 4, 0, 0, 0), (.iadd, 1, 0, 0, 0, 0, 0), (.iload_n 3, 1, 0, 3, 0, 0, 0), (.iadd, 1, 0, 0, 0, 0, 0)] (by decide +kernel) (show m_sgl X _ _ _ _ _ = some (64, [some (.ref 304), some (.int v1), some (.int v2), some (.int v3), some (.int q1.1)], [.int ((((1220 : Int32) + ((12 : Int32) * q1.1)) + (4 : Int32)) + v3), .ref 305], (SH, q2.2.1, q2.2.2)) from rfl) ?_
      obtain ⟨c593, h⟩ := m_ite_n h
      refine m_R_1 (by decide) (m_opb_of (ins := .iaload) (len := 1) (tag := 0) (a := 0) (b := 0) (c := 0) (q := 0) (by decide +kernel)) (m_s_iald sh_305 (by decide) c593) ?_
      obtain ⟨rfl, rfl⟩ := m_some h
      exact m_R_iret (by decide) (m_opb_of (ins := .ireturn) (len := 1) (tag := 1) (a := 0) (b := 0) (c := 0) (q := 0) (by decide +kernel)) (Or.inl rfl)
def f_x_found_23 (F : Nat)    (m : mM) : Option (Int32 × mM) := ((f_x_refuse F (-3 : Int32) m).bind fun q3 => some (q3.1, q3.2))
theorem ok_x_found_23 (X : mX) (d F : Nat) : ∀  (w1 : Option Value) (w2 : Option Value) (m : mM) (r : Int32) (m' : mM), f_x_found_23 F  m = some (r, m') → m_R X (d + 1) 69 23 [some (.ref 0), w1, w2] [] (SH, m) (some (.int r), (SH, m')) := by
  intro w1 w2 m r m' h
  unfold f_x_found_23 at h
  refine m_R_sg (by decide) [(.aload_n 0, 1, 0, 0, 0, 0, 0), (.bipush (-3), 2, 0, 3, 1, 0, 0)] (by decide +kernel) (show m_sgl X _ _ _ _ _ = some (26, [some (.ref 0), w1, w2], [.int (-3 : Int32), .ref 0], (SH, m.1, m.2)) from rfl) ?_
  obtain ⟨q3, hc3, h⟩ := Option.bind_eq_some_iff.mp h
  refine m_R_cV (v := (some (.int q3.1))) (h1 := (SH, q3.2)) (rest := []) (lo' := [some (.ref 0), some (.int (-3 : Int32))]) (ml := 2) (k0 := 0) (by decide) (Or.inl rfl) (m_opb_of (ins := .invokevirtual 76) (len := 3) (tag := 5) (a := 14) (b := 1) (c := 0) (q := 671) (by decide +kernel)) (by decide +kernel) rfl (show m_isO 14 0 (SH, _) = true from m_isO_of (by decide +kernel)) (Nat.le_of_ble_eq_true rfl) rfl rfl (ok_x_refuse X (d + 0) F _ _ _ _ hc3) ?_
  obtain ⟨rfl, rfl⟩ := m_some h
  exact m_R_iret (by decide) (m_opb_of (ins := .ireturn) (len := 1) (tag := 1) (a := 0) (b := 0) (c := 0) (q := 0) (by decide +kernel)) (Or.inl rfl)
def f_x_found (F : Nat)   (v1 : Int32) (v2 : Int32) (m : mM) : Option (Int32 × mM) := (if v1 < 0 then f_x_found_23 F m else ((f_Math_min_II F (60 : Int32) (m.1 55 12) m).bind fun q1 => (if v1 < q1.1 then (if v2 = (0 : Int32) then (if v1 < 0 ∨ 60 ≤ v1.toNatClampNeg then none else some ((q1.2.1 4 v1.toNatClampNeg), q1.2)) else (if v2 = (1 : Int32) then (if v1 < 0 ∨ 60 ≤ v1.toNatClampNeg then none else some ((q1.2.1 5 v1.toNatClampNeg), q1.2)) else (if v2 = (2 : Int32) then (if v1 < 0 ∨ 60 ≤ v1.toNatClampNeg then none else some ((q1.2.1 6 v1.toNatClampNeg), q1.2)) else ((f_x_refuse F (-7 : Int32) q1.2).bind fun q2 => some (q2.1, q2.2))))) else f_x_found_23 F q1.2)))
theorem ok_x_found (X : mX) (d F : Nat) : ∀ (v1 : Int32) (v2 : Int32)  (m : mM) (r : Int32) (m' : mM), f_x_found F v1 v2 m = some (r, m') → m_R X (d + 1) 69 0 [some (.ref 0), some (.int v1), some (.int v2)] [] (SH, m) (some (.int r), (SH, m')) := by
  intro v1 v2 m r m' h
  unfold f_x_found at h
  refine m_R_sg (by decide) [(.iload_n 1, 1, 0, 1, 0, 0, 0)] (by decide +kernel) (show m_sgl X _ _ _ _ _ = some (1, [some (.ref 0), some (.int v1), some (.int v2)], [.int v1], (SH, m.1, m.2)) from rfl) ?_
  rcases m_ite h with ⟨c594, h⟩ | ⟨c594, h⟩
  · refine m_R_1 (by decide) (m_opb_of (ins := .ifCond .lt 22) (len := 3) (tag := 0) (a := 23) (b := 0) (c := 0) (q := 0) (by decide +kernel)) (if_pos c594) ?_
    exact ok_x_found_23 X d F _ _ _ _ _ h
  · refine m_R_1 (by decide) (m_opb_of (ins := .ifCond .lt 22) (len := 3) (tag := 0) (a := 23) (b := 0) (c := 0) (q := 0) (by decide +kernel)) (if_neg c594) ?_
    refine m_R_sg (by decide) [(.iload_n 1, 1, 0, 1, 0, 0, 0), (.bipush 60, 2, 0, 60, 0, 0, 0), (.aload_n 0, 1, 0, 0, 0, 0, 0), (.getfield 28, 3, 0, 11, 2, 3, 632), (.getfield 134, 3, 0, 10, 8, 3, 519), (.getfield 216, 3, 0, 3, 12, 0, 475)] (by decide +kernel) (show m_sgl X _ _ _ _ _ = some (17, [some (.ref 0), some (.int v1), some (.int v2)], [.int (m.1 55 12), .int (60 : Int32), .int v1], (SH, m.1, m.2)) from rfl) ?_
    obtain ⟨q1, hc1, h⟩ := Option.bind_eq_some_iff.mp h
    refine m_R_cS (v := (some (.int q1.1))) (h1 := (SH, q1.2)) (rest := [.int v1]) (lo' := [some (.int (60 : Int32)), some (.int (m.1 55 12))]) (ml := 2) (by decide) (m_opb_of (ins := .invokestatic 219) (len := 3) (tag := 4) (a := 50) (b := 2) (c := 0) (q := 893) (by decide +kernel)) (by decide +kernel) (Nat.le_of_ble_eq_true rfl) rfl (Nat.le_of_ble_eq_true rfl) rfl rfl (ok_Math_min_II X (d + 0) F _ _ _ _ _ hc1) ?_
    rcases m_ite h with ⟨c595, h⟩ | ⟨c595, h⟩
    · refine m_R_1 (by decide) (m_opb_of (ins := .if_icmp .lt 10) (len := 3) (tag := 0) (a := 30) (b := 0) (c := 0) (q := 0) (by decide +kernel)) (if_pos c595) ?_
      refine m_R_sg (by decide) [(.iload_n 2, 1, 0, 2, 0, 0, 0)] (by decide +kernel) (show m_sgl X _ _ _ _ _ = some (31, [some (.ref 0), some (.int v1), some (.int v2)], [.int v2], (SH, q1.2.1, q1.2.2)) from rfl) ?_
      rcases m_ite h with ⟨c0, h⟩ | ⟨d0, h⟩
      · refine m_R_1 (by decide) (m_opb_of (ins := .tableswitch 55 0 2 #[25, 35, 45]) (len := 25) (tag := 0) (a := 0) (b := 0) (c := 0) (q := 0) (by decide +kernel)) (m_s_sw (by rw [c0]; decide) (by rw [c0]; rfl) (by decide) (t := 56) rfl) ?_
        refine m_R_sg (by decide) [(.aload_n 0, 1, 0, 0, 0, 0, 0), (.getfield 10, 3, 0, 11, 0, 3, 630), (.getfield 223, 3, 0, 6, 2, 3, 167), (.iload_n 1, 1, 0, 1, 0, 0, 0)] (by decide +kernel) (show m_sgl X _ _ _ _ _ = some (64, [some (.ref 0), some (.int v1), some (.int v2)], [.int v1, .ref 4], (SH, q1.2.1, q1.2.2)) from rfl) ?_
        obtain ⟨c596, h⟩ := m_ite_n h
        refine m_R_1 (by decide) (m_opb_of (ins := .iaload) (len := 1) (tag := 0) (a := 0) (b := 0) (c := 0) (q := 0) (by decide +kernel)) (m_s_iald sh_4 (by decide) c596) ?_
        obtain ⟨rfl, rfl⟩ := m_some h
        exact m_R_iret (by decide) (m_opb_of (ins := .ireturn) (len := 1) (tag := 1) (a := 0) (b := 0) (c := 0) (q := 0) (by decide +kernel)) (Or.inl rfl)
      rcases m_ite h with ⟨c0, h⟩ | ⟨d1, h⟩
      · refine m_R_1 (by decide) (m_opb_of (ins := .tableswitch 55 0 2 #[25, 35, 45]) (len := 25) (tag := 0) (a := 0) (b := 0) (c := 0) (q := 0) (by decide +kernel)) (m_s_sw (by rw [c0]; decide) (by rw [c0]; rfl) (by decide) (t := 66) rfl) ?_
        refine m_R_sg (by decide) [(.aload_n 0, 1, 0, 0, 0, 0, 0), (.getfield 10, 3, 0, 11, 0, 3, 630), (.getfield 226, 3, 0, 6, 3, 3, 170), (.iload_n 1, 1, 0, 1, 0, 0, 0)] (by decide +kernel) (show m_sgl X _ _ _ _ _ = some (74, [some (.ref 0), some (.int v1), some (.int v2)], [.int v1, .ref 5], (SH, q1.2.1, q1.2.2)) from rfl) ?_
        obtain ⟨c597, h⟩ := m_ite_n h
        refine m_R_1 (by decide) (m_opb_of (ins := .iaload) (len := 1) (tag := 0) (a := 0) (b := 0) (c := 0) (q := 0) (by decide +kernel)) (m_s_iald sh_5 (by decide) c597) ?_
        obtain ⟨rfl, rfl⟩ := m_some h
        exact m_R_iret (by decide) (m_opb_of (ins := .ireturn) (len := 1) (tag := 1) (a := 0) (b := 0) (c := 0) (q := 0) (by decide +kernel)) (Or.inl rfl)
      rcases m_ite h with ⟨c0, h⟩ | ⟨d2, h⟩
      · refine m_R_1 (by decide) (m_opb_of (ins := .tableswitch 55 0 2 #[25, 35, 45]) (len := 25) (tag := 0) (a := 0) (b := 0) (c := 0) (q := 0) (by decide +kernel)) (m_s_sw (by rw [c0]; decide) (by rw [c0]; rfl) (by decide) (t := 76) rfl) ?_
        refine m_R_sg (by decide) [(.aload_n 0, 1, 0, 0, 0, 0, 0), (.getfield 10, 3, 0, 11, 0, 3, 630), (.getfield 229, 3, 0, 6, 4, 3, 173), (.iload_n 1, 1, 0, 1, 0, 0, 0)] (by decide +kernel) (show m_sgl X _ _ _ _ _ = some (84, [some (.ref 0), some (.int v1), some (.int v2)], [.int v1, .ref 6], (SH, q1.2.1, q1.2.2)) from rfl) ?_
        obtain ⟨c598, h⟩ := m_ite_n h
        refine m_R_1 (by decide) (m_opb_of (ins := .iaload) (len := 1) (tag := 0) (a := 0) (b := 0) (c := 0) (q := 0) (by decide +kernel)) (m_s_iald sh_6 (by decide) c598) ?_
        obtain ⟨rfl, rfl⟩ := m_some h
        exact m_R_iret (by decide) (m_opb_of (ins := .ireturn) (len := 1) (tag := 1) (a := 0) (b := 0) (c := 0) (q := 0) (by decide +kernel)) (Or.inl rfl)
      refine m_R_1 (by decide) (m_opb_of (ins := .tableswitch 55 0 2 #[25, 35, 45]) (len := 25) (tag := 0) (a := 0) (b := 0) (c := 0) (q := 0) (by decide +kernel)) (m_s_swd (m_swx 3 (fun j hj => match j, hj with | 0, _ => fun e => d0 (e.trans (by decide)) | 1, _ => fun e => d1 (e.trans (by decide)) | 2, _ => fun e => d2 (e.trans (by decide)) | j + 3, hj => absurd hj (by omega))) (by decide) (t := 86) rfl) ?_
      refine m_R_sg (by decide) [(.aload_n 0, 1, 0, 0, 0, 0, 0), (.bipush (-7), 2, 0, 7, 1, 0, 0)] (by decide +kernel) (show m_sgl X _ _ _ _ _ = some (89, [some (.ref 0), some (.int v1), some (.int v2)], [.int (-7 : Int32), .ref 0], (SH, q1.2.1, q1.2.2)) from rfl) ?_
      obtain ⟨q2, hc2, h⟩ := Option.bind_eq_some_iff.mp h
      refine m_R_cV (v := (some (.int q2.1))) (h1 := (SH, q2.2)) (rest := []) (lo' := [some (.ref 0), some (.int (-7 : Int32))]) (ml := 2) (k0 := 0) (by decide) (Or.inl rfl) (m_opb_of (ins := .invokevirtual 76) (len := 3) (tag := 5) (a := 14) (b := 1) (c := 0) (q := 671) (by decide +kernel)) (by decide +kernel) rfl (show m_isO 14 0 (SH, _) = true from m_isO_of (by decide +kernel)) (Nat.le_of_ble_eq_true rfl) rfl rfl (ok_x_refuse X (d + 0) F _ _ _ _ hc2) ?_
      obtain ⟨rfl, rfl⟩ := m_some h
      exact m_R_iret (by decide) (m_opb_of (ins := .ireturn) (len := 1) (tag := 1) (a := 0) (b := 0) (c := 0) (q := 0) (by decide +kernel)) (Or.inl rfl)
    · refine m_R_1 (by decide) (m_opb_of (ins := .if_icmp .lt 10) (len := 3) (tag := 0) (a := 30) (b := 0) (c := 0) (q := 0) (by decide +kernel)) (if_neg c595) ?_
      exact ok_x_found_23 X d F _ _ _ _ _ h
def f_m_found_21 (F : Nat)    (m : mM) : Option (Int32 × mM) := ((f_m_refuse F (-3 : Int32) m).bind fun q3 => some (q3.1, q3.2))
theorem ok_m_found_21 (X : mX) (d F : Nat) : ∀  (w1 : Option Value) (w2 : Option Value) (m : mM) (r : Int32) (m' : mM), f_m_found_21 F  m = some (r, m') → m_R X (d + 1) 264 21 [some (.ref 304), w1, w2] [] (SH, m) (some (.int r), (SH, m')) := by
  intro w1 w2 m r m' h
  unfold f_m_found_21 at h
  refine m_R_sg (by decide) [(.aload_n 0, 1, 0, 0, 0, 0, 0), (.bipush (-3), 2, 0, 3, 1, 0, 0)] (by decide +kernel) (show m_sgl X _ _ _ _ _ = some (24, [some (.ref 304), w1, w2], [.int (-3 : Int32), .ref 304], (SH, m.1, m.2)) from rfl) ?_
  obtain ⟨q3, hc3, h⟩ := Option.bind_eq_some_iff.mp h
  refine m_R_cV (v := (some (.int q3.1))) (h1 := (SH, q3.2)) (rest := []) (lo' := [some (.ref 304), some (.int (-3 : Int32))]) (ml := 2) (k0 := 304) (by decide) (Or.inl rfl) (m_opb_of (ins := .invokevirtual 61) (len := 3) (tag := 5) (a := 202) (b := 1) (c := 0) (q := 1593) (by decide +kernel)) (by decide +kernel) rfl (show m_isO 202 304 (SH, _) = true from m_isO_of (by decide +kernel)) (Nat.le_of_ble_eq_true rfl) rfl rfl (ok_m_refuse X (d + 0) F _ _ _ _ hc3) ?_
  obtain ⟨rfl, rfl⟩ := m_some h
  exact m_R_iret (by decide) (m_opb_of (ins := .ireturn) (len := 1) (tag := 1) (a := 0) (b := 0) (c := 0) (q := 0) (by decide +kernel)) (Or.inl rfl)
def f_m_found_60 (F : Nat)   (s0 : Int32) (m : mM) : Option (Int32 × mM) := some (s0, m)
theorem ok_m_found_60 (X : mX) (d F : Nat) : ∀ (s0 : Int32) (w0 : Option Value) (w1 : Option Value) (w2 : Option Value) (m : mM) (r : Int32) (m' : mM), f_m_found_60 F s0 m = some (r, m') → m_R X (d + 1) 264 60 [w0, w1, w2] [.int s0] (SH, m) (some (.int r), (SH, m')) := by
  intro s0 w0 w1 w2 m r m' h
  unfold f_m_found_60 at h
  obtain ⟨rfl, rfl⟩ := m_some h
  exact m_R_iret (by decide) (m_opb_of (ins := .ireturn) (len := 1) (tag := 1) (a := 0) (b := 0) (c := 0) (q := 0) (by decide +kernel)) (Or.inl rfl)
def f_m_found (F : Nat)   (v1 : Int32) (v2 : Int32) (m : mM) : Option (Int32 × mM) := (if v1 < 0 then f_m_found_21 F m else (if (m.1 305 (7 : Int32).toNatClampNeg) ≤ v1 then f_m_found_21 F m else (if v1 < (60 : Int32) then ((f_m_in F v2 (0 : Int32) (2 : Int32) m).bind fun q1 => (if q1.1 = 0 then ((f_m_refuse F (-7 : Int32) q1.2).bind fun q2 => f_m_found_60 F q2.1 q2.2) else (if (((6020 : Int32) + ((3 : Int32) * v1)) + v2) < 0 ∨ 9732 ≤ (((6020 : Int32) + ((3 : Int32) * v1)) + v2).toNatClampNeg then none else f_m_found_60 F (q1.2.1 305 (((6020 : Int32) + ((3 : Int32) * v1)) + v2).toNatClampNeg) q1.2))) else f_m_found_21 F m)))
theorem ok_m_found (X : mX) (d F : Nat) : ∀ (v1 : Int32) (v2 : Int32)  (m : mM) (r : Int32) (m' : mM), f_m_found F v1 v2 m = some (r, m') → m_R X (d + 1) 264 0 [some (.ref 304), some (.int v1), some (.int v2)] [] (SH, m) (some (.int r), (SH, m')) := by
  intro v1 v2 m r m' h
  unfold f_m_found at h
  refine m_R_sg (by decide) [(.iload_n 1, 1, 0, 1, 0, 0, 0)] (by decide +kernel) (show m_sgl X _ _ _ _ _ = some (1, [some (.ref 304), some (.int v1), some (.int v2)], [.int v1], (SH, m.1, m.2)) from rfl) ?_
  rcases m_ite h with ⟨c599, h⟩ | ⟨c599, h⟩
  · refine m_R_1 (by decide) (m_opb_of (ins := .ifCond .lt 20) (len := 3) (tag := 0) (a := 21) (b := 0) (c := 0) (q := 0) (by decide +kernel)) (if_pos c599) ?_
    exact ok_m_found_21 X d F _ _ _ _ _ h
  · refine m_R_1 (by decide) (m_opb_of (ins := .ifCond .lt 20) (len := 3) (tag := 0) (a := 21) (b := 0) (c := 0) (q := 0) (by decide +kernel)) (if_neg c599) ?_
    refine m_R_sg (by decide) [(.iload_n 1, 1, 0, 1, 0, 0, 0), (.aload_n 0, 1, 0, 0, 0, 0, 0), (.getfield 13, 3, 0, 12, 1, 3, 1493), (.bipush 7, 2, 0, 7, 0, 0, 0)] (by decide +kernel) (show m_sgl X _ _ _ _ _ = some (11, [some (.ref 304), some (.int v1), some (.int v2)], [.int (7 : Int32), .ref 305, .int v1], (SH, m.1, m.2)) from rfl) ?_
    refine m_R_1 (by decide) (m_opb_of (ins := .iaload) (len := 1) (tag := 0) (a := 0) (b := 0) (c := 0) (q := 0) (by decide +kernel)) (m_s_iald sh_305 (by decide) (show ¬ ((7 : Int32) < 0 ∨ 9732 ≤ (7 : Int32).toNatClampNeg) by decide)) ?_
    rcases m_ite h with ⟨c600, h⟩ | ⟨c600, h⟩
    · refine m_R_1 (by decide) (m_opb_of (ins := .if_icmp .ge 9) (len := 3) (tag := 0) (a := 21) (b := 0) (c := 0) (q := 0) (by decide +kernel)) (if_pos c600) ?_
      exact ok_m_found_21 X d F _ _ _ _ _ h
    · refine m_R_1 (by decide) (m_opb_of (ins := .if_icmp .ge 9) (len := 3) (tag := 0) (a := 21) (b := 0) (c := 0) (q := 0) (by decide +kernel)) (if_neg c600) ?_
      refine m_R_sg (by decide) [(.iload_n 1, 1, 0, 1, 0, 0, 0), (.bipush 60, 2, 0, 60, 0, 0, 0)] (by decide +kernel) (show m_sgl X _ _ _ _ _ = some (18, [some (.ref 304), some (.int v1), some (.int v2)], [.int (60 : Int32), .int v1], (SH, m.1, m.2)) from rfl) ?_
      rcases m_ite h with ⟨c601, h⟩ | ⟨c601, h⟩
      · refine m_R_1 (by decide) (m_opb_of (ins := .if_icmp .lt 10) (len := 3) (tag := 0) (a := 28) (b := 0) (c := 0) (q := 0) (by decide +kernel)) (if_pos c601) ?_
        refine m_R_sg (by decide) [(.iload_n 2, 1, 0, 2, 0, 0, 0), (.iconst 0, 1, 0, 0, 0, 0, 0), (.iconst 2, 1, 0, 2, 0, 0, 0)] (by decide +kernel) (show m_sgl X _ _ _ _ _ = some (31, [some (.ref 304), some (.int v1), some (.int v2)], [.int (2 : Int32), .int (0 : Int32), .int v2], (SH, m.1, m.2)) from rfl) ?_
        obtain ⟨q1, hc1, h⟩ := Option.bind_eq_some_iff.mp h
        refine m_R_cS (v := (some (.int q1.1))) (h1 := (SH, q1.2)) (rest := []) (lo' := [some (.int v2), some (.int (0 : Int32)), some (.int (2 : Int32))]) (ml := 3) (by decide) (m_opb_of (ins := .invokestatic 57) (len := 3) (tag := 4) (a := 201) (b := 3) (c := 0) (q := 1590) (by decide +kernel)) (by decide +kernel) (Nat.le_of_ble_eq_true rfl) rfl (Nat.le_of_ble_eq_true rfl) rfl rfl (ok_m_in X (d + 0) F _ _ _ _ _ _ hc1) ?_
        rcases m_ite h with ⟨c602, h⟩ | ⟨c602, h⟩
        · refine m_R_1 (by decide) (m_opb_of (ins := .ifCond .eq 20) (len := 3) (tag := 0) (a := 54) (b := 0) (c := 0) (q := 0) (by decide +kernel)) (if_pos c602) ?_
          refine m_R_sg (by decide) [(.aload_n 0, 1, 0, 0, 0, 0, 0), (.bipush (-7), 2, 0, 7, 1, 0, 0)] (by decide +kernel) (show m_sgl X _ _ _ _ _ = some (57, [some (.ref 304), some (.int v1), some (.int v2)], [.int (-7 : Int32), .ref 304], (SH, q1.2.1, q1.2.2)) from rfl) ?_
          obtain ⟨q2, hc2, h⟩ := Option.bind_eq_some_iff.mp h
          refine m_R_cV (v := (some (.int q2.1))) (h1 := (SH, q2.2)) (rest := []) (lo' := [some (.ref 304), some (.int (-7 : Int32))]) (ml := 2) (k0 := 304) (by decide) (Or.inl rfl) (m_opb_of (ins := .invokevirtual 61) (len := 3) (tag := 5) (a := 202) (b := 1) (c := 0) (q := 1593) (by decide +kernel)) (by decide +kernel) rfl (show m_isO 202 304 (SH, _) = true from m_isO_of (by decide +kernel)) (Nat.le_of_ble_eq_true rfl) rfl rfl (ok_m_refuse X (d + 0) F _ _ _ _ hc2) ?_
          exact ok_m_found_60 X d F _ _ _ _ _ _ _ h
        · refine m_R_1 (by decide) (m_opb_of (ins := .ifCond .eq 20) (len := 3) (tag := 0) (a := 54) (b := 0) (c := 0) (q := 0) (by decide +kernel)) (if_neg c602) ?_
          refine m_R_sg (by decide) [(.aload_n 0, 1, 0, 0, 0, 0, 0), (.getfield 13, 3, 0, 12, 1, 3, 1493), (.sipush 6020, 3, 0, 6020, 0, 0, 0), (.iconst 3, 1, 0, 3, 0, 0, 0), (.iload_n 1, 1, 0, 1, 0, 0, 0), (.imul, 1, 0, 0, 0, 0, 0), (.iadd, 1, 0, 0, 0, 0, 0), (.iload_n 2, 1, 0, 2, 0, 0, 0), (.iadd, 1, 0, 0, 0, 0, 0)] (by decide +kernel) (show m_sgl X _ _ _ _ _ = some (50, [some (.ref 304), some (.int v1), some (.int v2)], [.int (((6020 : Int32) + ((3 : Int32) * v1)) + v2), .ref 305], (SH, q1.2.1, q1.2.2)) from rfl) ?_
          obtain ⟨c603, h⟩ := m_ite_n h
          refine m_R_1 (by decide) (m_opb_of (ins := .iaload) (len := 1) (tag := 0) (a := 0) (b := 0) (c := 0) (q := 0) (by decide +kernel)) (m_s_iald sh_305 (by decide) c603) ?_
          refine m_R_sg (by decide) [(.goto 9, 3, 0, 60, 0, 0, 0)] (by decide +kernel) (show m_sgl X _ _ _ _ _ = some (60, [some (.ref 304), some (.int v1), some (.int v2)], [.int (q1.2.1 305 (((6020 : Int32) + ((3 : Int32) * v1)) + v2).toNatClampNeg)], (SH, q1.2.1, q1.2.2)) from rfl) ?_
          exact ok_m_found_60 X d F _ _ _ _ _ _ _ h
      · refine m_R_1 (by decide) (m_opb_of (ins := .if_icmp .lt 10) (len := 3) (tag := 0) (a := 28) (b := 0) (c := 0) (q := 0) (by decide +kernel)) (if_neg c601) ?_
        exact ok_m_found_21 X d F _ _ _ _ _ h
def f_x_isTerm_16 (F : Nat)   (s0 : Int32) (m : mM) : Option (Int32 × mM) := (if s0 = 0 ∨ s0 = 1 then some (s0, m) else none)
theorem ok_x_isTerm_16 (X : mX) (d F : Nat) : ∀ (s0 : Int32) (w0 : Option Value) (m : mM) (r : Int32) (m' : mM), f_x_isTerm_16 F s0 m = some (r, m') → m_R X (d + 0) 72 16 [w0] [.int s0] (SH, m) (some (.int r), (SH, m')) := by
  intro s0 w0 m r m' h
  unfold f_x_isTerm_16 at h
  obtain ⟨c0, h⟩ := m_ite_p h
  obtain ⟨rfl, rfl⟩ := m_some h
  exact m_R_iret (by decide) (m_opb_of (ins := .ireturn) (len := 1) (tag := 1) (a := 1) (b := 0) (c := 0) (q := 0) (by decide +kernel)) (Or.inr c0)
def f_x_isTerm_15 (F : Nat)    (m : mM) : Option (Int32 × mM) := f_x_isTerm_16 F (0 : Int32) m
theorem ok_x_isTerm_15 (X : mX) (d F : Nat) : ∀  (w0 : Option Value) (m : mM) (r : Int32) (m' : mM), f_x_isTerm_15 F  m = some (r, m') → m_R X (d + 0) 72 15 [w0] [] (SH, m) (some (.int r), (SH, m')) := by
  intro w0 m r m' h
  unfold f_x_isTerm_15 at h
  refine m_R_sg (by decide) [(.iconst 0, 1, 0, 0, 0, 0, 0)] (by decide +kernel) (show m_sgl X _ _ _ _ _ = some (16, [w0], [.int (0 : Int32)], (SH, m.1, m.2)) from rfl) ?_
  exact ok_x_isTerm_16 X d F _ _ _ _ _ h
def f_x_isTerm (F : Nat)   (v0 : Int32) (m : mM) : Option (Int32 × mM) := (if v0 < (1 : Int32) then f_x_isTerm_15 F m else (if (60 : Int32) < v0 then f_x_isTerm_15 F m else f_x_isTerm_16 F (1 : Int32) m))
theorem ok_x_isTerm (X : mX) (d F : Nat) : ∀ (v0 : Int32)  (m : mM) (r : Int32) (m' : mM), f_x_isTerm F v0 m = some (r, m') → m_R X (d + 0) 72 0 [some (.int v0)] [] (SH, m) (some (.int r), (SH, m')) := by
  intro v0 m r m' h
  unfold f_x_isTerm at h
  refine m_R_sg (by decide) [(.iload_n 0, 1, 0, 0, 0, 0, 0), (.iconst 1, 1, 0, 1, 0, 0, 0)] (by decide +kernel) (show m_sgl X _ _ _ _ _ = some (2, [some (.int v0)], [.int (1 : Int32), .int v0], (SH, m.1, m.2)) from rfl) ?_
  rcases m_ite h with ⟨c604, h⟩ | ⟨c604, h⟩
  · refine m_R_1 (by decide) (m_opb_of (ins := .if_icmp .lt 13) (len := 3) (tag := 0) (a := 15) (b := 0) (c := 0) (q := 0) (by decide +kernel)) (if_pos c604) ?_
    exact ok_x_isTerm_15 X d F _ _ _ _ h
  · refine m_R_1 (by decide) (m_opb_of (ins := .if_icmp .lt 13) (len := 3) (tag := 0) (a := 15) (b := 0) (c := 0) (q := 0) (by decide +kernel)) (if_neg c604) ?_
    refine m_R_sg (by decide) [(.iload_n 0, 1, 0, 0, 0, 0, 0), (.bipush 60, 2, 0, 60, 0, 0, 0)] (by decide +kernel) (show m_sgl X _ _ _ _ _ = some (8, [some (.int v0)], [.int (60 : Int32), .int v0], (SH, m.1, m.2)) from rfl) ?_
    rcases m_ite h with ⟨c605, h⟩ | ⟨c605, h⟩
    · refine m_R_1 (by decide) (m_opb_of (ins := .if_icmp .gt 7) (len := 3) (tag := 0) (a := 15) (b := 0) (c := 0) (q := 0) (by decide +kernel)) (if_pos c605) ?_
      exact ok_x_isTerm_15 X d F _ _ _ _ h
    · refine m_R_1 (by decide) (m_opb_of (ins := .if_icmp .gt 7) (len := 3) (tag := 0) (a := 15) (b := 0) (c := 0) (q := 0) (by decide +kernel)) (if_neg c605) ?_
      refine m_R_sg (by decide) [(.iconst 1, 1, 0, 1, 0, 0, 0), (.goto 4, 3, 0, 16, 0, 0, 0)] (by decide +kernel) (show m_sgl X _ _ _ _ _ = some (16, [some (.int v0)], [.int (1 : Int32)], (SH, m.1, m.2)) from rfl) ?_
      exact ok_x_isTerm_16 X d F _ _ _ _ _ h
def f_Papers_isFull_14 (F : Nat)   (s0 : Int32) (m : mM) : Option (Int32 × mM) := (if s0 = 0 ∨ s0 = 1 then some (s0, m) else none)
theorem ok_Papers_isFull_14 (X : mX) (d F : Nat) : ∀ (s0 : Int32) (w0 : Option Value) (m : mM) (r : Int32) (m' : mM), f_Papers_isFull_14 F s0 m = some (r, m') → m_R X (d + 0) 73 14 [w0] [.int s0] (SH, m) (some (.int r), (SH, m')) := by
  intro s0 w0 m r m' h
  unfold f_Papers_isFull_14 at h
  obtain ⟨c0, h⟩ := m_ite_p h
  obtain ⟨rfl, rfl⟩ := m_some h
  exact m_R_iret (by decide) (m_opb_of (ins := .ireturn) (len := 1) (tag := 1) (a := 1) (b := 0) (c := 0) (q := 0) (by decide +kernel)) (Or.inr c0)
def f_Papers_isFull (F : Nat)    (m : mM) : Option (Int32 × mM) := (if (m.1 31 14) < (60 : Int32) then f_Papers_isFull_14 F (0 : Int32) m else f_Papers_isFull_14 F (1 : Int32) m)
theorem ok_Papers_isFull (X : mX) (d F : Nat) : ∀   (m : mM) (r : Int32) (m' : mM), f_Papers_isFull F  m = some (r, m') → m_R X (d + 0) 73 0 [some (.ref 31)] [] (SH, m) (some (.int r), (SH, m')) := by
  intro m r m' h
  unfold f_Papers_isFull at h
  refine m_R_sg (by decide) [(.aload_n 0, 1, 0, 0, 0, 0, 0), (.getfield 59, 3, 0, 4, 14, 0, 361), (.bipush 60, 2, 0, 60, 0, 0, 0)] (by decide +kernel) (show m_sgl X _ _ _ _ _ = some (6, [some (.ref 31)], [.int (60 : Int32), .int (m.1 31 14)], (SH, m.1, m.2)) from rfl) ?_
  rcases m_ite h with ⟨c606, h⟩ | ⟨c606, h⟩
  · refine m_R_1 (by decide) (m_opb_of (ins := .if_icmp .lt 7) (len := 3) (tag := 0) (a := 13) (b := 0) (c := 0) (q := 0) (by decide +kernel)) (if_pos c606) ?_
    refine m_R_sg (by decide) [(.iconst 0, 1, 0, 0, 0, 0, 0)] (by decide +kernel) (show m_sgl X _ _ _ _ _ = some (14, [some (.ref 31)], [.int (0 : Int32)], (SH, m.1, m.2)) from rfl) ?_
    exact ok_Papers_isFull_14 X d F _ _ _ _ _ h
  · refine m_R_1 (by decide) (m_opb_of (ins := .if_icmp .lt 7) (len := 3) (tag := 0) (a := 13) (b := 0) (c := 0) (q := 0) (by decide +kernel)) (if_neg c606) ?_
    refine m_R_sg (by decide) [(.iconst 1, 1, 0, 1, 0, 0, 0), (.goto 4, 3, 0, 14, 0, 0, 0)] (by decide +kernel) (show m_sgl X _ _ _ _ _ = some (14, [some (.ref 31)], [.int (1 : Int32)], (SH, m.1, m.2)) from rfl) ?_
    exact ok_Papers_isFull_14 X d F _ _ _ _ _ h
def f_Papers_addPaper_162 (F : Nat)   (v6 : Int32) (m : mM) : Option (Int32 × mM) := ((f_Math_max F (m.1 31 15) (v6 + (1 : Int32)) m).bind fun q1 => some (v6, ((m_up q1.2.1 31 15 q1.1), q1.2.2)))
theorem ok_Papers_addPaper_162 (X : mX) (d F : Nat) : ∀ (v6 : Int32) (w1 : Option Value) (w2 : Option Value) (w3 : Option Value) (w4 : Option Value) (w5 : Option Value) (m : mM) (r : Int32) (m' : mM), f_Papers_addPaper_162 F v6 m = some (r, m') → m_R X (d + 1) 74 162 [some (.ref 31), w1, w2, w3, w4, w5, some (.int v6)] [] (SH, m) (some (.int r), (SH, m')) := by
  intro v6 w1 w2 w3 w4 w5 m r m' h
  unfold f_Papers_addPaper_162 at h
  refine m_R_sg (by decide) [(.aload_n 0, 1, 0, 0, 0, 0, 0), (.aload_n 0, 1, 0, 0, 0, 0, 0), (.getfield 63, 3, 0, 4, 15, 0, 363), (.iload 6, 2, 0, 6, 0, 0, 0), (.iconst 1, 1, 0, 1, 0, 0, 0), (.iadd, 1, 0, 0, 0, 0, 0)] (by decide +kernel) (show m_sgl X _ _ _ _ _ = some (171, [some (.ref 31), w1, w2, w3, w4, w5, some (.int v6)], [.int (v6 + (1 : Int32)), .int (m.1 31 15), .ref 31], (SH, m.1, m.2)) from rfl) ?_
  obtain ⟨q1, hc1, h⟩ := Option.bind_eq_some_iff.mp h
  refine m_R_cS (v := (some (.int q1.1))) (h1 := (SH, q1.2)) (rest := [.ref 31]) (lo' := [some (.int (m.1 31 15)), some (.int (v6 + (1 : Int32)))]) (ml := 2) (by decide) (m_opb_of (ins := .invokestatic 66) (len := 3) (tag := 4) (a := 38) (b := 2) (c := 0) (q := 913) (by decide +kernel)) (by decide +kernel) (Nat.le_of_ble_eq_true rfl) rfl (Nat.le_of_ble_eq_true rfl) rfl rfl (ok_Math_max X (d + 0) F _ _ _ _ _ hc1) ?_
  refine m_R_sg (by decide) [(.putfield 63, 3, 0, 4, 15, 0, 363), (.iload 6, 2, 0, 6, 0, 0, 0)] (by decide +kernel) (show m_sgl X _ _ _ _ _ = some (179, [some (.ref 31), w1, w2, w3, w4, w5, some (.int v6)], [.int v6], (SH, (m_up q1.2.1 31 15 q1.1), q1.2.2)) from rfl) ?_
  obtain ⟨rfl, rfl⟩ := m_some h
  exact m_R_iret (by decide) (m_opb_of (ins := .ireturn) (len := 1) (tag := 1) (a := 0) (b := 0) (c := 0) (q := 0) (by decide +kernel)) (Or.inl rfl)
def f_Papers_addPaper_128 (F : Nat)   (v6 : Int32) (m : mM) : Option (Int32 × mM) := (if v6 < 0 ∨ 60 ≤ v6.toNatClampNeg then none else f_Papers_addPaper_162 F v6 ((m_up (m_up (m_up (m_up m.1 42 v6.toNatClampNeg (-1 : Int32)) 43 v6.toNatClampNeg (0 : Int32)) 44 v6.toNatClampNeg (-1 : Int32)) 31 14 (((m_up (m_up (m_up m.1 42 v6.toNatClampNeg (-1 : Int32)) 43 v6.toNatClampNeg (0 : Int32)) 44 v6.toNatClampNeg (-1 : Int32)) 31 14) + (1 : Int32))), m.2))
theorem ok_Papers_addPaper_128 (X : mX) (d F : Nat) : ∀ (v6 : Int32) (w1 : Option Value) (w2 : Option Value) (w3 : Option Value) (w4 : Option Value) (w5 : Option Value) (m : mM) (r : Int32) (m' : mM), f_Papers_addPaper_128 F v6 m = some (r, m') → m_R X (d + 1) 74 128 [some (.ref 31), w1, w2, w3, w4, w5, some (.int v6)] [] (SH, m) (some (.int r), (SH, m')) := by
  intro v6 w1 w2 w3 w4 w5 m r m' h
  unfold f_Papers_addPaper_128 at h
  refine m_R_sg (by decide) [(.aload_n 0, 1, 0, 0, 0, 0, 0), (.getfield 42, 3, 0, 4, 10, 3, 351), (.iload 6, 2, 0, 6, 0, 0, 0), (.iconst (-1), 1, 0, 1, 1, 0, 0)] (by decide +kernel) (show m_sgl X _ _ _ _ _ = some (135, [some (.ref 31), w1, w2, w3, w4, w5, some (.int v6)], [.int (-1 : Int32), .int v6, .ref 42], (SH, m.1, m.2)) from rfl) ?_
  obtain ⟨c607, h⟩ := m_ite_n h
  refine m_R_1 (by decide) (m_opb_of (ins := .iastore) (len := 1) (tag := 0) (a := 0) (b := 0) (c := 0) (q := 0) (by decide +kernel)) (m_s_iast sh_42 c607) ?_
  refine m_R_sg (by decide) [(.aload_n 0, 1, 0, 0, 0, 0, 0), (.getfield 45, 3, 0, 4, 11, 3, 354), (.iload 6, 2, 0, 6, 0, 0, 0), (.iconst 0, 1, 0, 0, 0, 0, 0)] (by decide +kernel) (show m_sgl X _ _ _ _ _ = some (143, [some (.ref 31), w1, w2, w3, w4, w5, some (.int v6)], [.int (0 : Int32), .int v6, .ref 43], (SH, (m_up m.1 42 v6.toNatClampNeg (-1 : Int32)), m.2)) from rfl) ?_
  refine m_R_1 (by decide) (m_opb_of (ins := .iastore) (len := 1) (tag := 0) (a := 0) (b := 0) (c := 0) (q := 0) (by decide +kernel)) (m_s_iast sh_43 c607) ?_
  refine m_R_sg (by decide) [(.aload_n 0, 1, 0, 0, 0, 0, 0), (.getfield 48, 3, 0, 4, 12, 3, 357), (.iload 6, 2, 0, 6, 0, 0, 0), (.iconst (-1), 1, 0, 1, 1, 0, 0)] (by decide +kernel) (show m_sgl X _ _ _ _ _ = some (151, [some (.ref 31), w1, w2, w3, w4, w5, some (.int v6)], [.int (-1 : Int32), .int v6, .ref 44], (SH, (m_up (m_up m.1 42 v6.toNatClampNeg (-1 : Int32)) 43 v6.toNatClampNeg (0 : Int32)), m.2)) from rfl) ?_
  refine m_R_1 (by decide) (m_opb_of (ins := .iastore) (len := 1) (tag := 0) (a := 0) (b := 0) (c := 0) (q := 0) (by decide +kernel)) (m_s_iast sh_44 c607) ?_
  refine m_R_sg (by decide) [(.aload_n 0, 1, 0, 0, 0, 0, 0), (.dup, 1, 0, 0, 0, 0, 0), (.getfield 59, 3, 0, 4, 14, 0, 361), (.iconst 1, 1, 0, 1, 0, 0, 0), (.iadd, 1, 0, 0, 0, 0, 0), (.putfield 59, 3, 0, 4, 14, 0, 361)] (by decide +kernel) (show m_sgl X _ _ _ _ _ = some (162, [some (.ref 31), w1, w2, w3, w4, w5, some (.int v6)], [], (SH, (m_up (m_up (m_up (m_up m.1 42 v6.toNatClampNeg (-1 : Int32)) 43 v6.toNatClampNeg (0 : Int32)) 44 v6.toNatClampNeg (-1 : Int32)) 31 14 (((m_up (m_up (m_up m.1 42 v6.toNatClampNeg (-1 : Int32)) 43 v6.toNatClampNeg (0 : Int32)) 44 v6.toNatClampNeg (-1 : Int32)) 31 14) + (1 : Int32))), m.2)) from rfl) ?_
  exact ok_Papers_addPaper_162 X d F _ _ _ _ _ _ _ _ _ h
def f_Papers_addPaper_87 (F : Nat)   (v2 : Int32) (v3 : Int32) (v6 : Int32) (s1 : Int32) (s2 : Int32) (m : mM) : Option (Int32 × mM) := (if s1 < 0 ∨ 60 ≤ s1.toNatClampNeg then none else (if (v6 * (6 : Int32)) < 0 ∨ 360 ≤ (v6 * (6 : Int32)).toNatClampNeg then none else (if ((v6 * (6 : Int32)) + (1 : Int32)) < 0 ∨ 360 ≤ ((v6 * (6 : Int32)) + (1 : Int32)).toNatClampNeg then none else (if v6 < 0 ∨ 60 ≤ v6.toNatClampNeg then none else f_Papers_addPaper_128 F v6 ((m_up (m_up (m_up (m_up (m_up m.1 39 s1.toNatClampNeg s2) 38 (v6 * (6 : Int32)).toNatClampNeg v2) 38 ((v6 * (6 : Int32)) + (1 : Int32)).toNatClampNeg v3) 40 v6.toNatClampNeg (0 : Int32)) 41 v6.toNatClampNeg (-1 : Int32)), m.2)))))
theorem ok_Papers_addPaper_87 (X : mX) (d F : Nat) : ∀ (v2 : Int32) (v3 : Int32) (v6 : Int32) (s1 : Int32) (s2 : Int32) (w1 : Option Value) (w4 : Option Value) (w5 : Option Value) (m : mM) (r : Int32) (m' : mM), f_Papers_addPaper_87 F v2 v3 v6 s1 s2 m = some (r, m') → m_R X (d + 1) 74 87 [some (.ref 31), w1, some (.int v2), some (.int v3), w4, w5, some (.int v6)] [.int s2, .int s1, .ref 39] (SH, m) (some (.int r), (SH, m')) := by
  intro v2 v3 v6 s1 s2 w1 w4 w5 m r m' h
  unfold f_Papers_addPaper_87 at h
  obtain ⟨c608, h⟩ := m_ite_n h
  refine m_R_1 (by decide) (m_opb_of (ins := .iastore) (len := 1) (tag := 0) (a := 0) (b := 0) (c := 0) (q := 0) (by decide +kernel)) (m_s_iast sh_39 c608) ?_
  refine m_R_sg (by decide) [(.aload_n 0, 1, 0, 0, 0, 0, 0), (.getfield 30, 3, 0, 4, 6, 3, 339), (.iload 6, 2, 0, 6, 0, 0, 0), (.bipush 6, 2, 0, 6, 0, 0, 0), (.imul, 1, 0, 0, 0, 0, 0), (.iload_n 2, 1, 0, 2, 0, 0, 0)] (by decide +kernel) (show m_sgl X _ _ _ _ _ = some (98, [some (.ref 31), w1, some (.int v2), some (.int v3), w4, w5, some (.int v6)], [.int v2, .int (v6 * (6 : Int32)), .ref 38], (SH, (m_up m.1 39 s1.toNatClampNeg s2), m.2)) from rfl) ?_
  obtain ⟨c609, h⟩ := m_ite_n h
  refine m_R_1 (by decide) (m_opb_of (ins := .iastore) (len := 1) (tag := 0) (a := 0) (b := 0) (c := 0) (q := 0) (by decide +kernel)) (m_s_iast sh_38 c609) ?_
  refine m_R_sg (by decide) [(.aload_n 0, 1, 0, 0, 0, 0, 0), (.getfield 30, 3, 0, 4, 6, 3, 339), (.iload 6, 2, 0, 6, 0, 0, 0), (.bipush 6, 2, 0, 6, 0, 0, 0), (.imul, 1, 0, 0, 0, 0, 0), (.iconst 1, 1, 0, 1, 0, 0, 0), (.iadd, 1, 0, 0, 0, 0, 0), (.iload_n 3, 1, 0, 3, 0, 0, 0)] (by decide +kernel) (show m_sgl X _ _ _ _ _ = some (111, [some (.ref 31), w1, some (.int v2), some (.int v3), w4, w5, some (.int v6)], [.int v3, .int ((v6 * (6 : Int32)) + (1 : Int32)), .ref 38], (SH, (m_up (m_up m.1 39 s1.toNatClampNeg s2) 38 (v6 * (6 : Int32)).toNatClampNeg v2), m.2)) from rfl) ?_
  obtain ⟨c610, h⟩ := m_ite_n h
  refine m_R_1 (by decide) (m_opb_of (ins := .iastore) (len := 1) (tag := 0) (a := 0) (b := 0) (c := 0) (q := 0) (by decide +kernel)) (m_s_iast sh_38 c610) ?_
  refine m_R_sg (by decide) [(.aload_n 0, 1, 0, 0, 0, 0, 0), (.getfield 36, 3, 0, 4, 8, 3, 345), (.iload 6, 2, 0, 6, 0, 0, 0), (.iconst 0, 1, 0, 0, 0, 0, 0)] (by decide +kernel) (show m_sgl X _ _ _ _ _ = some (119, [some (.ref 31), w1, some (.int v2), some (.int v3), w4, w5, some (.int v6)], [.int (0 : Int32), .int v6, .ref 40], (SH, (m_up (m_up (m_up m.1 39 s1.toNatClampNeg s2) 38 (v6 * (6 : Int32)).toNatClampNeg v2) 38 ((v6 * (6 : Int32)) + (1 : Int32)).toNatClampNeg v3), m.2)) from rfl) ?_
  obtain ⟨c611, h⟩ := m_ite_n h
  refine m_R_1 (by decide) (m_opb_of (ins := .iastore) (len := 1) (tag := 0) (a := 0) (b := 0) (c := 0) (q := 0) (by decide +kernel)) (m_s_iast sh_40 c611) ?_
  refine m_R_sg (by decide) [(.aload_n 0, 1, 0, 0, 0, 0, 0), (.getfield 39, 3, 0, 4, 9, 3, 348), (.iload 6, 2, 0, 6, 0, 0, 0), (.iconst (-1), 1, 0, 1, 1, 0, 0)] (by decide +kernel) (show m_sgl X _ _ _ _ _ = some (127, [some (.ref 31), w1, some (.int v2), some (.int v3), w4, w5, some (.int v6)], [.int (-1 : Int32), .int v6, .ref 41], (SH, (m_up (m_up (m_up (m_up m.1 39 s1.toNatClampNeg s2) 38 (v6 * (6 : Int32)).toNatClampNeg v2) 38 ((v6 * (6 : Int32)) + (1 : Int32)).toNatClampNeg v3) 40 v6.toNatClampNeg (0 : Int32)), m.2)) from rfl) ?_
  refine m_R_1 (by decide) (m_opb_of (ins := .iastore) (len := 1) (tag := 0) (a := 0) (b := 0) (c := 0) (q := 0) (by decide +kernel)) (m_s_iast sh_41 c611) ?_
  exact ok_Papers_addPaper_128 X d F _ _ _ _ _ _ _ _ _ h
def f_Papers_addPaper_3 (F : Nat)   : Nat → Int32 → Int32 → Int32 → Int32 → Int32 → Int32 → mM → Option (Int32 × mM)
  | 0, _, _, _, _, _, _, _ => none
  | n + 1, v1, v2, v3, v4, v5, v6, m => (if (60 : Int32) ≤ v6 then some ((-1 : Int32), m) else (if v6 < 0 ∨ 60 ≤ v6.toNatClampNeg then none else (if (m.1 32 v6.toNatClampNeg) = (-1 : Int32) then (if v1 = (1 : Int32) then f_Papers_addPaper_87 F v2 v3 v6 v6 (2 : Int32) ((m_up (m_up (m_up (m_up (m_up (m_up m.1 32 v6.toNatClampNeg v1) 33 v6.toNatClampNeg v4) 34 v6.toNatClampNeg v2) 35 v6.toNatClampNeg v3) 36 v6.toNatClampNeg v5) 37 v6.toNatClampNeg (0 : Int32)), m.2) else f_Papers_addPaper_87 F v2 v3 v6 v6 (0 : Int32) ((m_up (m_up (m_up (m_up (m_up (m_up m.1 32 v6.toNatClampNeg v1) 33 v6.toNatClampNeg v4) 34 v6.toNatClampNeg v2) 35 v6.toNatClampNeg v3) 36 v6.toNatClampNeg v5) 37 v6.toNatClampNeg (0 : Int32)), m.2)) else f_Papers_addPaper_3 F n v1 v2 v3 v4 v5 (v6 + (1 : Int32)) m)))
theorem ok_Papers_addPaper_3 (X : mX) (d F : Nat) : ∀ (n : Nat) (v1 : Int32) (v2 : Int32) (v3 : Int32) (v4 : Int32) (v5 : Int32) (v6 : Int32)  (m : mM) (r : Int32) (m' : mM), f_Papers_addPaper_3 F n v1 v2 v3 v4 v5 v6 m = some (r, m') → m_R X (d + 1) 74 3 [some (.ref 31), some (.int v1), some (.int v2), some (.int v3), some (.int v4), some (.int v5), some (.int v6)] [] (SH, m) (some (.int r), (SH, m')) := by
  intro n
  induction n with
  | zero => intro v1 v2 v3 v4 v5 v6 m r m' h; cases h
  | succ n ih =>
    intro v1 v2 v3 v4 v5 v6 m r m' h
    simp only [f_Papers_addPaper_3] at h
    refine m_R_sg (by decide) [(.iload 6, 2, 0, 6, 0, 0, 0), (.bipush 60, 2, 0, 60, 0, 0, 0)] (by decide +kernel) (show m_sgl X _ _ _ _ _ = some (7, [some (.ref 31), some (.int v1), some (.int v2), some (.int v3), some (.int v4), some (.int v5), some (.int v6)], [.int (60 : Int32), .int v6], (SH, m.1, m.2)) from rfl) ?_
    rcases m_ite h with ⟨c612, h⟩ | ⟨c612, h⟩
    · refine m_R_1 (by decide) (m_opb_of (ins := .if_icmp .ge 179) (len := 3) (tag := 0) (a := 186) (b := 0) (c := 0) (q := 0) (by decide +kernel)) (if_pos c612) ?_
      refine m_R_sg (by decide) [(.iconst (-1), 1, 0, 1, 1, 0, 0)] (by decide +kernel) (show m_sgl X _ _ _ _ _ = some (187, [some (.ref 31), some (.int v1), some (.int v2), some (.int v3), some (.int v4), some (.int v5), some (.int v6)], [.int (-1 : Int32)], (SH, m.1, m.2)) from rfl) ?_
      obtain ⟨rfl, rfl⟩ := m_some h
      exact m_R_iret (by decide) (m_opb_of (ins := .ireturn) (len := 1) (tag := 1) (a := 0) (b := 0) (c := 0) (q := 0) (by decide +kernel)) (Or.inl rfl)
    · refine m_R_1 (by decide) (m_opb_of (ins := .if_icmp .ge 179) (len := 3) (tag := 0) (a := 186) (b := 0) (c := 0) (q := 0) (by decide +kernel)) (if_neg c612) ?_
      refine m_R_sg (by decide) [(.aload_n 0, 1, 0, 0, 0, 0, 0), (.getfield 9, 3, 0, 4, 0, 3, 317), (.iload 6, 2, 0, 6, 0, 0, 0)] (by decide +kernel) (show m_sgl X _ _ _ _ _ = some (16, [some (.ref 31), some (.int v1), some (.int v2), some (.int v3), some (.int v4), some (.int v5), some (.int v6)], [.int v6, .ref 32], (SH, m.1, m.2)) from rfl) ?_
      obtain ⟨c613, h⟩ := m_ite_n h
      refine m_R_1 (by decide) (m_opb_of (ins := .iaload) (len := 1) (tag := 0) (a := 0) (b := 0) (c := 0) (q := 0) (by decide +kernel)) (m_s_iald sh_32 (by decide) c613) ?_
      refine m_R_sg (by decide) [(.iconst (-1), 1, 0, 1, 1, 0, 0)] (by decide +kernel) (show m_sgl X _ _ _ _ _ = some (18, [some (.ref 31), some (.int v1), some (.int v2), some (.int v3), some (.int v4), some (.int v5), some (.int v6)], [.int (-1 : Int32), .int (m.1 32 v6.toNatClampNeg)], (SH, m.1, m.2)) from rfl) ?_
      rcases m_ite h with ⟨c614, h⟩ | ⟨c614, h⟩
      · refine m_R_1 (by decide) (m_opb_of (ins := .if_icmp .ne 162) (len := 3) (tag := 0) (a := 180) (b := 0) (c := 0) (q := 0) (by decide +kernel)) (if_pos c614) ?_
        refine m_R_sg (by decide) [(.aload_n 0, 1, 0, 0, 0, 0, 0), (.getfield 9, 3, 0, 4, 0, 3, 317), (.iload 6, 2, 0, 6, 0, 0, 0), (.iload_n 1, 1, 0, 1, 0, 0, 0)] (by decide +kernel) (show m_sgl X _ _ _ _ _ = some (28, [some (.ref 31), some (.int v1), some (.int v2), some (.int v3), some (.int v4), some (.int v5), some (.int v6)], [.int v1, .int v6, .ref 32], (SH, m.1, m.2)) from rfl) ?_
        refine m_R_1 (by decide) (m_opb_of (ins := .iastore) (len := 1) (tag := 0) (a := 0) (b := 0) (c := 0) (q := 0) (by decide +kernel)) (m_s_iast sh_32 c613) ?_
        refine m_R_sg (by decide) [(.aload_n 0, 1, 0, 0, 0, 0, 0), (.getfield 15, 3, 0, 4, 1, 3, 321), (.iload 6, 2, 0, 6, 0, 0, 0), (.iload 4, 2, 0, 4, 0, 0, 0)] (by decide +kernel) (show m_sgl X _ _ _ _ _ = some (37, [some (.ref 31), some (.int v1), some (.int v2), some (.int v3), some (.int v4), some (.int v5), some (.int v6)], [.int v4, .int v6, .ref 33], (SH, (m_up m.1 32 v6.toNatClampNeg v1), m.2)) from rfl) ?_
        refine m_R_1 (by decide) (m_opb_of (ins := .iastore) (len := 1) (tag := 0) (a := 0) (b := 0) (c := 0) (q := 0) (by decide +kernel)) (m_s_iast sh_33 c613) ?_
        refine m_R_sg (by decide) [(.aload_n 0, 1, 0, 0, 0, 0, 0), (.getfield 18, 3, 0, 4, 2, 3, 325), (.iload 6, 2, 0, 6, 0, 0, 0), (.iload_n 2, 1, 0, 2, 0, 0, 0)] (by decide +kernel) (show m_sgl X _ _ _ _ _ = some (45, [some (.ref 31), some (.int v1), some (.int v2), some (.int v3), some (.int v4), some (.int v5), some (.int v6)], [.int v2, .int v6, .ref 34], (SH, (m_up (m_up m.1 32 v6.toNatClampNeg v1) 33 v6.toNatClampNeg v4), m.2)) from rfl) ?_
        refine m_R_1 (by decide) (m_opb_of (ins := .iastore) (len := 1) (tag := 0) (a := 0) (b := 0) (c := 0) (q := 0) (by decide +kernel)) (m_s_iast sh_34 c613) ?_
        refine m_R_sg (by decide) [(.aload_n 0, 1, 0, 0, 0, 0, 0), (.getfield 21, 3, 0, 4, 3, 3, 329), (.iload 6, 2, 0, 6, 0, 0, 0), (.iload_n 3, 1, 0, 3, 0, 0, 0)] (by decide +kernel) (show m_sgl X _ _ _ _ _ = some (53, [some (.ref 31), some (.int v1), some (.int v2), some (.int v3), some (.int v4), some (.int v5), some (.int v6)], [.int v3, .int v6, .ref 35], (SH, (m_up (m_up (m_up m.1 32 v6.toNatClampNeg v1) 33 v6.toNatClampNeg v4) 34 v6.toNatClampNeg v2), m.2)) from rfl) ?_
        refine m_R_1 (by decide) (m_opb_of (ins := .iastore) (len := 1) (tag := 0) (a := 0) (b := 0) (c := 0) (q := 0) (by decide +kernel)) (m_s_iast sh_35 c613) ?_
        refine m_R_sg (by decide) [(.aload_n 0, 1, 0, 0, 0, 0, 0), (.getfield 24, 3, 0, 4, 4, 3, 333), (.iload 6, 2, 0, 6, 0, 0, 0), (.iload 5, 2, 0, 5, 0, 0, 0)] (by decide +kernel) (show m_sgl X _ _ _ _ _ = some (62, [some (.ref 31), some (.int v1), some (.int v2), some (.int v3), some (.int v4), some (.int v5), some (.int v6)], [.int v5, .int v6, .ref 36], (SH, (m_up (m_up (m_up (m_up m.1 32 v6.toNatClampNeg v1) 33 v6.toNatClampNeg v4) 34 v6.toNatClampNeg v2) 35 v6.toNatClampNeg v3), m.2)) from rfl) ?_
        refine m_R_1 (by decide) (m_opb_of (ins := .iastore) (len := 1) (tag := 0) (a := 0) (b := 0) (c := 0) (q := 0) (by decide +kernel)) (m_s_iast sh_36 c613) ?_
        refine m_R_sg (by decide) [(.aload_n 0, 1, 0, 0, 0, 0, 0), (.getfield 27, 3, 0, 4, 5, 3, 336), (.iload 6, 2, 0, 6, 0, 0, 0), (.iconst 0, 1, 0, 0, 0, 0, 0)] (by decide +kernel) (show m_sgl X _ _ _ _ _ = some (70, [some (.ref 31), some (.int v1), some (.int v2), some (.int v3), some (.int v4), some (.int v5), some (.int v6)], [.int (0 : Int32), .int v6, .ref 37], (SH, (m_up (m_up (m_up (m_up (m_up m.1 32 v6.toNatClampNeg v1) 33 v6.toNatClampNeg v4) 34 v6.toNatClampNeg v2) 35 v6.toNatClampNeg v3) 36 v6.toNatClampNeg v5), m.2)) from rfl) ?_
        refine m_R_1 (by decide) (m_opb_of (ins := .iastore) (len := 1) (tag := 0) (a := 0) (b := 0) (c := 0) (q := 0) (by decide +kernel)) (m_s_iast sh_37 c613) ?_
        refine m_R_sg (by decide) [(.aload_n 0, 1, 0, 0, 0, 0, 0), (.getfield 33, 3, 0, 4, 7, 3, 342), (.iload 6, 2, 0, 6, 0, 0, 0), (.iload_n 1, 1, 0, 1, 0, 0, 0), (.iconst 1, 1, 0, 1, 0, 0, 0)] (by decide +kernel) (show m_sgl X _ _ _ _ _ = some (79, [some (.ref 31), some (.int v1), some (.int v2), some (.int v3), some (.int v4), some (.int v5), some (.int v6)], [.int (1 : Int32), .int v1, .int v6, .ref 39], (SH, (m_up (m_up (m_up (m_up (m_up (m_up m.1 32 v6.toNatClampNeg v1) 33 v6.toNatClampNeg v4) 34 v6.toNatClampNeg v2) 35 v6.toNatClampNeg v3) 36 v6.toNatClampNeg v5) 37 v6.toNatClampNeg (0 : Int32)), m.2)) from rfl) ?_
        rcases m_ite h with ⟨c615, h⟩ | ⟨c615, h⟩
        · refine m_R_1 (by decide) (m_opb_of (ins := .if_icmp .ne 7) (len := 3) (tag := 0) (a := 86) (b := 0) (c := 0) (q := 0) (by decide +kernel)) (if_pos c615) ?_
          refine m_R_sg (by decide) [(.iconst 2, 1, 0, 2, 0, 0, 0), (.goto 4, 3, 0, 87, 0, 0, 0)] (by decide +kernel) (show m_sgl X _ _ _ _ _ = some (87, [some (.ref 31), some (.int v1), some (.int v2), some (.int v3), some (.int v4), some (.int v5), some (.int v6)], [.int (2 : Int32), .int v6, .ref 39], (SH, (m_up (m_up (m_up (m_up (m_up (m_up m.1 32 v6.toNatClampNeg v1) 33 v6.toNatClampNeg v4) 34 v6.toNatClampNeg v2) 35 v6.toNatClampNeg v3) 36 v6.toNatClampNeg v5) 37 v6.toNatClampNeg (0 : Int32)), m.2)) from rfl) ?_
          exact ok_Papers_addPaper_87 X d F _ _ _ _ _ _ _ _ _ _ _ h
        · refine m_R_1 (by decide) (m_opb_of (ins := .if_icmp .ne 7) (len := 3) (tag := 0) (a := 86) (b := 0) (c := 0) (q := 0) (by decide +kernel)) (if_neg c615) ?_
          refine m_R_sg (by decide) [(.iconst 0, 1, 0, 0, 0, 0, 0)] (by decide +kernel) (show m_sgl X _ _ _ _ _ = some (87, [some (.ref 31), some (.int v1), some (.int v2), some (.int v3), some (.int v4), some (.int v5), some (.int v6)], [.int (0 : Int32), .int v6, .ref 39], (SH, (m_up (m_up (m_up (m_up (m_up (m_up m.1 32 v6.toNatClampNeg v1) 33 v6.toNatClampNeg v4) 34 v6.toNatClampNeg v2) 35 v6.toNatClampNeg v3) 36 v6.toNatClampNeg v5) 37 v6.toNatClampNeg (0 : Int32)), m.2)) from rfl) ?_
          exact ok_Papers_addPaper_87 X d F _ _ _ _ _ _ _ _ _ _ _ h
      · refine m_R_1 (by decide) (m_opb_of (ins := .if_icmp .ne 162) (len := 3) (tag := 0) (a := 180) (b := 0) (c := 0) (q := 0) (by decide +kernel)) (if_neg c614) ?_
        refine m_R_sg (by decide) [(.iinc 6 1, 3, 0, 6, 1, 0, 0), (.goto (-180), 3, 0, 3, 0, 0, 0)] (by decide +kernel) (show m_sgl X _ _ _ _ _ = some (3, [some (.ref 31), some (.int v1), some (.int v2), some (.int v3), some (.int v4), some (.int v5), some (.int (v6 + (1 : Int32)))], [], (SH, m.1, m.2)) from rfl) ?_
        exact ih _ _ _ _ _ _ _ _ _ h
def f_Papers_addPaper (F : Nat)   (v1 : Int32) (v2 : Int32) (v3 : Int32) (v4 : Int32) (v5 : Int32) (m : mM) : Option (Int32 × mM) := f_Papers_addPaper_3 F F v1 v2 v3 v4 v5 (0 : Int32) m
theorem ok_Papers_addPaper (X : mX) (d F : Nat) : ∀ (v1 : Int32) (v2 : Int32) (v3 : Int32) (v4 : Int32) (v5 : Int32)  (m : mM) (r : Int32) (m' : mM), f_Papers_addPaper F v1 v2 v3 v4 v5 m = some (r, m') → m_R X (d + 1) 74 0 [some (.ref 31), some (.int v1), some (.int v2), some (.int v3), some (.int v4), some (.int v5), none] [] (SH, m) (some (.int r), (SH, m')) := by
  intro v1 v2 v3 v4 v5 m r m' h
  unfold f_Papers_addPaper at h
  refine m_R_sg (by decide) [(.iconst 0, 1, 0, 0, 0, 0, 0), (.istore 6, 2, 0, 6, 0, 0, 0)] (by decide +kernel) (show m_sgl X _ _ _ _ _ = some (3, [some (.ref 31), some (.int v1), some (.int v2), some (.int v3), some (.int v4), some (.int v5), some (.int (0 : Int32))], [], (SH, m.1, m.2)) from rfl) ?_
  exact ok_Papers_addPaper_3 X d F F _ _ _ _ _ _ _ _ _ h
def f_x_drawn_27 (F : Nat)    (m : mM) : Option (Int32 × mM) := ((f_x_refuse F (-3 : Int32) m).bind fun q10 => some (q10.1, q10.2))
theorem ok_x_drawn_27 (X : mX) (d F : Nat) : ∀  (w1 : Option Value) (w2 : Option Value) (w3 : Option Value) (w4 : Option Value) (w5 : Option Value) (w6 : Option Value) (m : mM) (r : Int32) (m' : mM), f_x_drawn_27 F  m = some (r, m') → m_R X (d + 2) 71 27 [some (.ref 0), w1, w2, w3, w4, w5, w6] [] (SH, m) (some (.int r), (SH, m')) := by
  intro w1 w2 w3 w4 w5 w6 m r m' h
  unfold f_x_drawn_27 at h
  refine m_R_sg (by decide) [(.aload_n 0, 1, 0, 0, 0, 0, 0), (.bipush (-3), 2, 0, 3, 1, 0, 0)] (by decide +kernel) (show m_sgl X _ _ _ _ _ = some (30, [some (.ref 0), w1, w2, w3, w4, w5, w6], [.int (-3 : Int32), .ref 0], (SH, m.1, m.2)) from rfl) ?_
  obtain ⟨q10, hc10, h⟩ := Option.bind_eq_some_iff.mp h
  refine m_R_cV (v := (some (.int q10.1))) (h1 := (SH, q10.2)) (rest := []) (lo' := [some (.ref 0), some (.int (-3 : Int32))]) (ml := 2) (k0 := 0) (by decide) (Or.inl rfl) (m_opb_of (ins := .invokevirtual 76) (len := 3) (tag := 5) (a := 14) (b := 1) (c := 0) (q := 671) (by decide +kernel)) (by decide +kernel) rfl (show m_isO 14 0 (SH, _) = true from m_isO_of (by decide +kernel)) (Nat.le_of_ble_eq_true rfl) rfl rfl (ok_x_refuse X (d + 1) F _ _ _ _ hc10) ?_
  obtain ⟨rfl, rfl⟩ := m_some h
  exact m_R_iret (by decide) (m_opb_of (ins := .ireturn) (len := 1) (tag := 1) (a := 0) (b := 0) (c := 0) (q := 0) (by decide +kernel)) (Or.inl rfl)
def f_x_drawn_42 (F : Nat)    (m : mM) : Option (Int32 × mM) := ((f_x_refuse F (-5 : Int32) m).bind fun q11 => some (q11.1, q11.2))
theorem ok_x_drawn_42 (X : mX) (d F : Nat) : ∀  (w1 : Option Value) (w2 : Option Value) (w3 : Option Value) (w4 : Option Value) (w5 : Option Value) (w6 : Option Value) (m : mM) (r : Int32) (m' : mM), f_x_drawn_42 F  m = some (r, m') → m_R X (d + 2) 71 42 [some (.ref 0), w1, w2, w3, w4, w5, w6] [] (SH, m) (some (.int r), (SH, m')) := by
  intro w1 w2 w3 w4 w5 w6 m r m' h
  unfold f_x_drawn_42 at h
  refine m_R_sg (by decide) [(.aload_n 0, 1, 0, 0, 0, 0, 0), (.bipush (-5), 2, 0, 5, 1, 0, 0)] (by decide +kernel) (show m_sgl X _ _ _ _ _ = some (45, [some (.ref 0), w1, w2, w3, w4, w5, w6], [.int (-5 : Int32), .ref 0], (SH, m.1, m.2)) from rfl) ?_
  obtain ⟨q11, hc11, h⟩ := Option.bind_eq_some_iff.mp h
  refine m_R_cV (v := (some (.int q11.1))) (h1 := (SH, q11.2)) (rest := []) (lo' := [some (.ref 0), some (.int (-5 : Int32))]) (ml := 2) (k0 := 0) (by decide) (Or.inl rfl) (m_opb_of (ins := .invokevirtual 76) (len := 3) (tag := 5) (a := 14) (b := 1) (c := 0) (q := 671) (by decide +kernel)) (by decide +kernel) rfl (show m_isO 14 0 (SH, _) = true from m_isO_of (by decide +kernel)) (Nat.le_of_ble_eq_true rfl) rfl rfl (ok_x_refuse X (d + 1) F _ _ _ _ hc11) ?_
  obtain ⟨rfl, rfl⟩ := m_some h
  exact m_R_iret (by decide) (m_opb_of (ins := .ireturn) (len := 1) (tag := 1) (a := 0) (b := 0) (c := 0) (q := 0) (by decide +kernel)) (Or.inl rfl)
def f_x_drawn_88 (F : Nat)    (m : mM) : Option (Int32 × mM) := ((f_x_refuse F (-7 : Int32) m).bind fun q12 => some (q12.1, q12.2))
theorem ok_x_drawn_88 (X : mX) (d F : Nat) : ∀  (w1 : Option Value) (w2 : Option Value) (w3 : Option Value) (w4 : Option Value) (w5 : Option Value) (w6 : Option Value) (m : mM) (r : Int32) (m' : mM), f_x_drawn_88 F  m = some (r, m') → m_R X (d + 2) 71 88 [some (.ref 0), w1, w2, w3, w4, w5, w6] [] (SH, m) (some (.int r), (SH, m')) := by
  intro w1 w2 w3 w4 w5 w6 m r m' h
  unfold f_x_drawn_88 at h
  refine m_R_sg (by decide) [(.aload_n 0, 1, 0, 0, 0, 0, 0), (.bipush (-7), 2, 0, 7, 1, 0, 0)] (by decide +kernel) (show m_sgl X _ _ _ _ _ = some (91, [some (.ref 0), w1, w2, w3, w4, w5, w6], [.int (-7 : Int32), .ref 0], (SH, m.1, m.2)) from rfl) ?_
  obtain ⟨q12, hc12, h⟩ := Option.bind_eq_some_iff.mp h
  refine m_R_cV (v := (some (.int q12.1))) (h1 := (SH, q12.2)) (rest := []) (lo' := [some (.ref 0), some (.int (-7 : Int32))]) (ml := 2) (k0 := 0) (by decide) (Or.inl rfl) (m_opb_of (ins := .invokevirtual 76) (len := 3) (tag := 5) (a := 14) (b := 1) (c := 0) (q := 671) (by decide +kernel)) (by decide +kernel) rfl (show m_isO 14 0 (SH, _) = true from m_isO_of (by decide +kernel)) (Nat.le_of_ble_eq_true rfl) rfl rfl (ok_x_refuse X (d + 1) F _ _ _ _ hc12) ?_
  obtain ⟨rfl, rfl⟩ := m_some h
  exact m_R_iret (by decide) (m_opb_of (ins := .ireturn) (len := 1) (tag := 1) (a := 0) (b := 0) (c := 0) (q := 0) (by decide +kernel)) (Or.inl rfl)
def f_x_drawn (F : Nat)   (v1 : Int32) (v2 : Int32) (v3 : Int32) (v4 : Int32) (v5 : Int32) (m : mM) : Option (Int32 × mM) := ((f_Houses_isHouse F v2 m).bind fun q1 => (if q1.1 = 0 then f_x_drawn_27 F q1.2 else ((f_Houses_isHouse F v3 q1.2).bind fun q2 => (if q2.1 = 0 then f_x_drawn_27 F q2.2 else (if v2 = 0 then f_x_drawn_42 F q2.2 else (if v3 = 0 then f_x_drawn_42 F q2.2 else ((f_x_isSum F v4 q2.2).bind fun q3 => (if q3.1 = 0 then f_x_drawn_88 F q3.2 else ((f_x_isTerm F v5 q3.2).bind fun q4 => (if q4.1 = 0 then f_x_drawn_88 F q4.2 else (if v2 = v3 then f_x_drawn_88 F q4.2 else ((f_Houses_isUp F v2 q4.2).bind fun q5 => (if q5.1 = 0 then f_x_drawn_88 F q5.2 else ((f_Houses_isUp F v3 q5.2).bind fun q6 => (if q6.1 = 0 then f_x_drawn_88 F q6.2 else ((f_Papers_isFull F q6.2).bind fun q7 => (if q7.1 = 0 then ((f_Papers_addPaper F v1 v2 v3 v4 ((q7.2.1 16 9) + v5) q7.2).bind fun q8 => some (q8.1, q8.2)) else ((f_x_refuse F (-8 : Int32) q7.2).bind fun q9 => some (q9.1, q9.2)))))))))))))))))))
theorem ok_x_drawn (X : mX) (d F : Nat) : ∀ (v1 : Int32) (v2 : Int32) (v3 : Int32) (v4 : Int32) (v5 : Int32)  (m : mM) (r : Int32) (m' : mM), f_x_drawn F v1 v2 v3 v4 v5 m = some (r, m') → m_R X (d + 2) 71 0 [some (.ref 0), some (.int v1), some (.int v2), some (.int v3), some (.int v4), some (.int v5), none] [] (SH, m) (some (.int r), (SH, m')) := by
  intro v1 v2 v3 v4 v5 m r m' h
  unfold f_x_drawn at h
  refine m_R_sg (by decide) [(.aload_n 0, 1, 0, 0, 0, 0, 0), (.getfield 28, 3, 0, 11, 2, 3, 632), (.getfield 95, 3, 0, 10, 1, 3, 507), (.astore 6, 2, 0, 6, 0, 0, 0), (.aload 6, 2, 0, 6, 0, 0, 0), (.iload_n 2, 1, 0, 2, 0, 0, 0)] (by decide +kernel) (show m_sgl X _ _ _ _ _ = some (12, [some (.ref 0), some (.int v1), some (.int v2), some (.int v3), some (.int v4), some (.int v5), some (.ref 19)], [.int v2, .ref 19], (SH, m.1, m.2)) from rfl) ?_
  obtain ⟨q1, hc1, h⟩ := Option.bind_eq_some_iff.mp h
  refine m_R_cV (v := (some (.int q1.1))) (h1 := (SH, q1.2)) (rest := []) (lo' := [some (.ref 19), some (.int v2)]) (ml := 2) (k0 := 19) (by decide) (Or.inl rfl) (m_opb_of (ins := .invokevirtual 107) (len := 3) (tag := 5) (a := 24) (b := 1) (c := 0) (q := 712) (by decide +kernel)) (by decide +kernel) rfl (show m_isO 24 19 (SH, _) = true from m_isO_of (by decide +kernel)) (Nat.le_of_ble_eq_true rfl) rfl rfl (ok_Houses_isHouse X (d + 1) F _ _ _ _ hc1) ?_
  rcases m_ite h with ⟨c616, h⟩ | ⟨c616, h⟩
  · refine m_R_1 (by decide) (m_opb_of (ins := .ifCond .eq 12) (len := 3) (tag := 0) (a := 27) (b := 0) (c := 0) (q := 0) (by decide +kernel)) (if_pos c616) ?_
    exact ok_x_drawn_27 X d F _ _ _ _ _ _ _ _ _ h
  · refine m_R_1 (by decide) (m_opb_of (ins := .ifCond .eq 12) (len := 3) (tag := 0) (a := 27) (b := 0) (c := 0) (q := 0) (by decide +kernel)) (if_neg c616) ?_
    refine m_R_sg (by decide) [(.aload 6, 2, 0, 6, 0, 0, 0), (.iload_n 3, 1, 0, 3, 0, 0, 0)] (by decide +kernel) (show m_sgl X _ _ _ _ _ = some (21, [some (.ref 0), some (.int v1), some (.int v2), some (.int v3), some (.int v4), some (.int v5), some (.ref 19)], [.int v3, .ref 19], (SH, q1.2.1, q1.2.2)) from rfl) ?_
    obtain ⟨q2, hc2, h⟩ := Option.bind_eq_some_iff.mp h
    refine m_R_cV (v := (some (.int q2.1))) (h1 := (SH, q2.2)) (rest := []) (lo' := [some (.ref 19), some (.int v3)]) (ml := 2) (k0 := 19) (by decide) (Or.inl rfl) (m_opb_of (ins := .invokevirtual 107) (len := 3) (tag := 5) (a := 24) (b := 1) (c := 0) (q := 712) (by decide +kernel)) (by decide +kernel) rfl (show m_isO 24 19 (SH, _) = true from m_isO_of (by decide +kernel)) (Nat.le_of_ble_eq_true rfl) rfl rfl (ok_Houses_isHouse X (d + 1) F _ _ _ _ hc2) ?_
    rcases m_ite h with ⟨c617, h⟩ | ⟨c617, h⟩
    · refine m_R_1 (by decide) (m_opb_of (ins := .ifCond .ne 10) (len := 3) (tag := 0) (a := 34) (b := 0) (c := 0) (q := 0) (by decide +kernel)) (if_pos c617) ?_
      exact ok_x_drawn_27 X d F _ _ _ _ _ _ _ _ _ h
    · refine m_R_1 (by decide) (m_opb_of (ins := .ifCond .ne 10) (len := 3) (tag := 0) (a := 34) (b := 0) (c := 0) (q := 0) (by decide +kernel)) (if_neg c617) ?_
      refine m_R_sg (by decide) [(.iload_n 2, 1, 0, 2, 0, 0, 0)] (by decide +kernel) (show m_sgl X _ _ _ _ _ = some (35, [some (.ref 0), some (.int v1), some (.int v2), some (.int v3), some (.int v4), some (.int v5), some (.ref 19)], [.int v2], (SH, q2.2.1, q2.2.2)) from rfl) ?_
      rcases m_ite h with ⟨c618, h⟩ | ⟨c618, h⟩
      · refine m_R_1 (by decide) (m_opb_of (ins := .ifCond .eq 7) (len := 3) (tag := 0) (a := 42) (b := 0) (c := 0) (q := 0) (by decide +kernel)) (if_pos c618) ?_
        exact ok_x_drawn_42 X d F _ _ _ _ _ _ _ _ _ h
      · refine m_R_1 (by decide) (m_opb_of (ins := .ifCond .eq 7) (len := 3) (tag := 0) (a := 42) (b := 0) (c := 0) (q := 0) (by decide +kernel)) (if_neg c618) ?_
        refine m_R_sg (by decide) [(.iload_n 3, 1, 0, 3, 0, 0, 0)] (by decide +kernel) (show m_sgl X _ _ _ _ _ = some (39, [some (.ref 0), some (.int v1), some (.int v2), some (.int v3), some (.int v4), some (.int v5), some (.ref 19)], [.int v3], (SH, q2.2.1, q2.2.2)) from rfl) ?_
        rcases m_ite h with ⟨c619, h⟩ | ⟨c619, h⟩
        · refine m_R_1 (by decide) (m_opb_of (ins := .ifCond .ne 10) (len := 3) (tag := 0) (a := 49) (b := 0) (c := 0) (q := 0) (by decide +kernel)) (if_pos c619) ?_
          exact ok_x_drawn_42 X d F _ _ _ _ _ _ _ _ _ h
        · refine m_R_1 (by decide) (m_opb_of (ins := .ifCond .ne 10) (len := 3) (tag := 0) (a := 49) (b := 0) (c := 0) (q := 0) (by decide +kernel)) (if_neg c619) ?_
          refine m_R_sg (by decide) [(.iload 4, 2, 0, 4, 0, 0, 0)] (by decide +kernel) (show m_sgl X _ _ _ _ _ = some (51, [some (.ref 0), some (.int v1), some (.int v2), some (.int v3), some (.int v4), some (.int v5), some (.ref 19)], [.int v4], (SH, q2.2.1, q2.2.2)) from rfl) ?_
          obtain ⟨q3, hc3, h⟩ := Option.bind_eq_some_iff.mp h
          refine m_R_cS (v := (some (.int q3.1))) (h1 := (SH, q3.2)) (rest := []) (lo' := [some (.int v4)]) (ml := 1) (by decide) (m_opb_of (ins := .invokestatic 170) (len := 3) (tag := 4) (a := 34) (b := 1) (c := 0) (q := 753) (by decide +kernel)) (by decide +kernel) (Nat.le_of_ble_eq_true rfl) rfl (Nat.le_of_ble_eq_true rfl) rfl rfl (ok_x_isSum X (d + 1) F _ _ _ _ hc3) ?_
          rcases m_ite h with ⟨c620, h⟩ | ⟨c620, h⟩
          · refine m_R_1 (by decide) (m_opb_of (ins := .ifCond .eq 34) (len := 3) (tag := 0) (a := 88) (b := 0) (c := 0) (q := 0) (by decide +kernel)) (if_pos c620) ?_
            exact ok_x_drawn_88 X d F _ _ _ _ _ _ _ _ _ h
          · refine m_R_1 (by decide) (m_opb_of (ins := .ifCond .eq 34) (len := 3) (tag := 0) (a := 88) (b := 0) (c := 0) (q := 0) (by decide +kernel)) (if_neg c620) ?_
            refine m_R_sg (by decide) [(.iload 5, 2, 0, 5, 0, 0, 0)] (by decide +kernel) (show m_sgl X _ _ _ _ _ = some (59, [some (.ref 0), some (.int v1), some (.int v2), some (.int v3), some (.int v4), some (.int v5), some (.ref 19)], [.int v5], (SH, q3.2.1, q3.2.2)) from rfl) ?_
            obtain ⟨q4, hc4, h⟩ := Option.bind_eq_some_iff.mp h
            refine m_R_cS (v := (some (.int q4.1))) (h1 := (SH, q4.2)) (rest := []) (lo' := [some (.int v5)]) (ml := 1) (by decide) (m_opb_of (ins := .invokestatic 315) (len := 3) (tag := 4) (a := 72) (b := 1) (c := 0) (q := 902) (by decide +kernel)) (by decide +kernel) (Nat.le_of_ble_eq_true rfl) rfl (Nat.le_of_ble_eq_true rfl) rfl rfl (ok_x_isTerm X (d + 1) F _ _ _ _ hc4) ?_
            rcases m_ite h with ⟨c621, h⟩ | ⟨c621, h⟩
            · refine m_R_1 (by decide) (m_opb_of (ins := .ifCond .eq 26) (len := 3) (tag := 0) (a := 88) (b := 0) (c := 0) (q := 0) (by decide +kernel)) (if_pos c621) ?_
              exact ok_x_drawn_88 X d F _ _ _ _ _ _ _ _ _ h
            · refine m_R_1 (by decide) (m_opb_of (ins := .ifCond .eq 26) (len := 3) (tag := 0) (a := 88) (b := 0) (c := 0) (q := 0) (by decide +kernel)) (if_neg c621) ?_
              refine m_R_sg (by decide) [(.iload_n 2, 1, 0, 2, 0, 0, 0), (.iload_n 3, 1, 0, 3, 0, 0, 0)] (by decide +kernel) (show m_sgl X _ _ _ _ _ = some (67, [some (.ref 0), some (.int v1), some (.int v2), some (.int v3), some (.int v4), some (.int v5), some (.ref 19)], [.int v3, .int v2], (SH, q4.2.1, q4.2.2)) from rfl) ?_
              rcases m_ite h with ⟨c622, h⟩ | ⟨c622, h⟩
              · refine m_R_1 (by decide) (m_opb_of (ins := .if_icmp .eq 21) (len := 3) (tag := 0) (a := 88) (b := 0) (c := 0) (q := 0) (by decide +kernel)) (if_pos c622) ?_
                exact ok_x_drawn_88 X d F _ _ _ _ _ _ _ _ _ h
              · refine m_R_1 (by decide) (m_opb_of (ins := .if_icmp .eq 21) (len := 3) (tag := 0) (a := 88) (b := 0) (c := 0) (q := 0) (by decide +kernel)) (if_neg c622) ?_
                refine m_R_sg (by decide) [(.aload 6, 2, 0, 6, 0, 0, 0), (.iload_n 2, 1, 0, 2, 0, 0, 0)] (by decide +kernel) (show m_sgl X _ _ _ _ _ = some (73, [some (.ref 0), some (.int v1), some (.int v2), some (.int v3), some (.int v4), some (.int v5), some (.ref 19)], [.int v2, .ref 19], (SH, q4.2.1, q4.2.2)) from rfl) ?_
                obtain ⟨q5, hc5, h⟩ := Option.bind_eq_some_iff.mp h
                refine m_R_cV (v := (some (.int q5.1))) (h1 := (SH, q5.2)) (rest := []) (lo' := [some (.ref 19), some (.int v2)]) (ml := 2) (k0 := 19) (by decide) (Or.inl rfl) (m_opb_of (ins := .invokevirtual 110) (len := 3) (tag := 5) (a := 25) (b := 1) (c := 0) (q := 716) (by decide +kernel)) (by decide +kernel) rfl (show m_isO 25 19 (SH, _) = true from m_isO_of (by decide +kernel)) (Nat.le_of_ble_eq_true rfl) rfl rfl (ok_Houses_isUp X (d + 0) F _ _ _ _ hc5) ?_
                rcases m_ite h with ⟨c623, h⟩ | ⟨c623, h⟩
                · refine m_R_1 (by decide) (m_opb_of (ins := .ifCond .eq 12) (len := 3) (tag := 0) (a := 88) (b := 0) (c := 0) (q := 0) (by decide +kernel)) (if_pos c623) ?_
                  exact ok_x_drawn_88 X d F _ _ _ _ _ _ _ _ _ h
                · refine m_R_1 (by decide) (m_opb_of (ins := .ifCond .eq 12) (len := 3) (tag := 0) (a := 88) (b := 0) (c := 0) (q := 0) (by decide +kernel)) (if_neg c623) ?_
                  refine m_R_sg (by decide) [(.aload 6, 2, 0, 6, 0, 0, 0), (.iload_n 3, 1, 0, 3, 0, 0, 0)] (by decide +kernel) (show m_sgl X _ _ _ _ _ = some (82, [some (.ref 0), some (.int v1), some (.int v2), some (.int v3), some (.int v4), some (.int v5), some (.ref 19)], [.int v3, .ref 19], (SH, q5.2.1, q5.2.2)) from rfl) ?_
                  obtain ⟨q6, hc6, h⟩ := Option.bind_eq_some_iff.mp h
                  refine m_R_cV (v := (some (.int q6.1))) (h1 := (SH, q6.2)) (rest := []) (lo' := [some (.ref 19), some (.int v3)]) (ml := 2) (k0 := 19) (by decide) (Or.inl rfl) (m_opb_of (ins := .invokevirtual 110) (len := 3) (tag := 5) (a := 25) (b := 1) (c := 0) (q := 716) (by decide +kernel)) (by decide +kernel) rfl (show m_isO 25 19 (SH, _) = true from m_isO_of (by decide +kernel)) (Nat.le_of_ble_eq_true rfl) rfl rfl (ok_Houses_isUp X (d + 0) F _ _ _ _ hc6) ?_
                  rcases m_ite h with ⟨c624, h⟩ | ⟨c624, h⟩
                  · refine m_R_1 (by decide) (m_opb_of (ins := .ifCond .ne 10) (len := 3) (tag := 0) (a := 95) (b := 0) (c := 0) (q := 0) (by decide +kernel)) (if_pos c624) ?_
                    exact ok_x_drawn_88 X d F _ _ _ _ _ _ _ _ _ h
                  · refine m_R_1 (by decide) (m_opb_of (ins := .ifCond .ne 10) (len := 3) (tag := 0) (a := 95) (b := 0) (c := 0) (q := 0) (by decide +kernel)) (if_neg c624) ?_
                    refine m_R_sg (by decide) [(.aload_n 0, 1, 0, 0, 0, 0, 0), (.getfield 28, 3, 0, 11, 2, 3, 632), (.getfield 146, 3, 0, 10, 2, 3, 510)] (by decide +kernel) (show m_sgl X _ _ _ _ _ = some (102, [some (.ref 0), some (.int v1), some (.int v2), some (.int v3), some (.int v4), some (.int v5), some (.ref 19)], [.ref 31], (SH, q6.2.1, q6.2.2)) from rfl) ?_
                    obtain ⟨q7, hc7, h⟩ := Option.bind_eq_some_iff.mp h
                    refine m_R_cV (v := (some (.int q7.1))) (h1 := (SH, q7.2)) (rest := []) (lo' := [some (.ref 31)]) (ml := 1) (k0 := 31) (by decide) (Or.inl rfl) (m_opb_of (ins := .invokevirtual 239) (len := 3) (tag := 5) (a := 73) (b := 0) (c := 0) (q := 905) (by decide +kernel)) (by decide +kernel) rfl (show m_isO 73 31 (SH, _) = true from m_isO_of (by decide +kernel)) (Nat.le_of_ble_eq_true rfl) rfl rfl (ok_Papers_isFull X (d + 1) F _ _ _ hc7) ?_
                    rcases m_ite h with ⟨c625, h⟩ | ⟨c625, h⟩
                    · refine m_R_1 (by decide) (m_opb_of (ins := .ifCond .eq 10) (len := 3) (tag := 0) (a := 115) (b := 0) (c := 0) (q := 0) (by decide +kernel)) (if_pos c625) ?_
                      refine m_R_sg (by decide) [(.aload_n 0, 1, 0, 0, 0, 0, 0), (.getfield 28, 3, 0, 11, 2, 3, 632), (.getfield 146, 3, 0, 10, 2, 3, 510), (.iload_n 1, 1, 0, 1, 0, 0, 0), (.iload_n 2, 1, 0, 2, 0, 0, 0), (.iload_n 3, 1, 0, 3, 0, 0, 0), (.iload 4, 2, 0, 4, 0, 0, 0), (.aload_n 0, 1, 0, 0, 0, 0, 0), (.getfield 28, 3, 0, 11, 2, 3, 632), (.getfield 255, 3, 0, 10, 9, 0, 521), (.iload 5, 2, 0, 5, 0, 0, 0), (.iadd, 1, 0, 0, 0, 0, 0)] (by decide +kernel) (show m_sgl X _ _ _ _ _ = some (137, [some (.ref 0), some (.int v1), some (.int v2), some (.int v3), some (.int v4), some (.int v5), some (.ref 19)], [.int ((q7.2.1 16 9) + v5), .int v4, .int v3, .int v2, .int v1, .ref 31], (SH, q7.2.1, q7.2.2)) from rfl) ?_
                      obtain ⟨q8, hc8, h⟩ := Option.bind_eq_some_iff.mp h
                      refine m_R_cV (v := (some (.int q8.1))) (h1 := (SH, q8.2)) (rest := []) (lo' := [some (.ref 31), some (.int v1), some (.int v2), some (.int v3), some (.int v4), some (.int ((q7.2.1 16 9) + v5)), none]) (ml := 7) (k0 := 31) (by decide) (Or.inl rfl) (m_opb_of (ins := .invokevirtual 243) (len := 3) (tag := 5) (a := 74) (b := 5) (c := 0) (q := 909) (by decide +kernel)) (by decide +kernel) rfl (show m_isO 74 31 (SH, _) = true from m_isO_of (by decide +kernel)) (Nat.le_of_ble_eq_true rfl) rfl rfl (ok_Papers_addPaper X (d + 0) F _ _ _ _ _ _ _ _ hc8) ?_
                      obtain ⟨rfl, rfl⟩ := m_some h
                      exact m_R_iret (by decide) (m_opb_of (ins := .ireturn) (len := 1) (tag := 1) (a := 0) (b := 0) (c := 0) (q := 0) (by decide +kernel)) (Or.inl rfl)
                    · refine m_R_1 (by decide) (m_opb_of (ins := .ifCond .eq 10) (len := 3) (tag := 0) (a := 115) (b := 0) (c := 0) (q := 0) (by decide +kernel)) (if_neg c625) ?_
                      refine m_R_sg (by decide) [(.aload_n 0, 1, 0, 0, 0, 0, 0), (.bipush (-8), 2, 0, 8, 1, 0, 0)] (by decide +kernel) (show m_sgl X _ _ _ _ _ = some (111, [some (.ref 0), some (.int v1), some (.int v2), some (.int v3), some (.int v4), some (.int v5), some (.ref 19)], [.int (-8 : Int32), .ref 0], (SH, q7.2.1, q7.2.2)) from rfl) ?_
                      obtain ⟨q9, hc9, h⟩ := Option.bind_eq_some_iff.mp h
                      refine m_R_cV (v := (some (.int q9.1))) (h1 := (SH, q9.2)) (rest := []) (lo' := [some (.ref 0), some (.int (-8 : Int32))]) (ml := 2) (k0 := 0) (by decide) (Or.inl rfl) (m_opb_of (ins := .invokevirtual 76) (len := 3) (tag := 5) (a := 14) (b := 1) (c := 0) (q := 671) (by decide +kernel)) (by decide +kernel) rfl (show m_isO 14 0 (SH, _) = true from m_isO_of (by decide +kernel)) (Nat.le_of_ble_eq_true rfl) rfl rfl (ok_x_refuse X (d + 1) F _ _ _ _ hc9) ?_
                      obtain ⟨rfl, rfl⟩ := m_some h
                      exact m_R_iret (by decide) (m_opb_of (ins := .ireturn) (len := 1) (tag := 1) (a := 0) (b := 0) (c := 0) (q := 0) (by decide +kernel)) (Or.inl rfl)
def f_x_promise (F : Nat)   (v1 : Int32) (v2 : Int32) (v3 : Int32) (v4 : Int32) (m : mM) : Option (Int32 × mM) := ((f_x_drawn F (0 : Int32) v1 v2 v3 v4 m).bind fun q1 => some (q1.1, q1.2))
theorem ok_x_promise (X : mX) (d F : Nat) : ∀ (v1 : Int32) (v2 : Int32) (v3 : Int32) (v4 : Int32)  (m : mM) (r : Int32) (m' : mM), f_x_promise F v1 v2 v3 v4 m = some (r, m') → m_R X (d + 3) 70 0 [some (.ref 0), some (.int v1), some (.int v2), some (.int v3), some (.int v4)] [] (SH, m) (some (.int r), (SH, m')) := by
  intro v1 v2 v3 v4 m r m' h
  unfold f_x_promise at h
  refine m_R_sg (by decide) [(.aload_n 0, 1, 0, 0, 0, 0, 0), (.iconst 0, 1, 0, 0, 0, 0, 0), (.iload_n 1, 1, 0, 1, 0, 0, 0), (.iload_n 2, 1, 0, 2, 0, 0, 0), (.iload_n 3, 1, 0, 3, 0, 0, 0), (.iload 4, 2, 0, 4, 0, 0, 0)] (by decide +kernel) (show m_sgl X _ _ _ _ _ = some (7, [some (.ref 0), some (.int v1), some (.int v2), some (.int v3), some (.int v4)], [.int v4, .int v3, .int v2, .int v1, .int (0 : Int32), .ref 0], (SH, m.1, m.2)) from rfl) ?_
  obtain ⟨q1, hc1, h⟩ := Option.bind_eq_some_iff.mp h
  refine m_R_cV (v := (some (.int q1.1))) (h1 := (SH, q1.2)) (rest := []) (lo' := [some (.ref 0), some (.int (0 : Int32)), some (.int v1), some (.int v2), some (.int v3), some (.int v4), none]) (ml := 7) (k0 := 0) (by decide) (Or.inl rfl) (m_opb_of (ins := .invokevirtual 232) (len := 3) (tag := 5) (a := 71) (b := 5) (c := 0) (q := 898) (by decide +kernel)) (by decide +kernel) rfl (show m_isO 71 0 (SH, _) = true from m_isO_of (by decide +kernel)) (Nat.le_of_ble_eq_true rfl) rfl rfl (ok_x_drawn X (d + 0) F _ _ _ _ _ _ _ _ hc1) ?_
  obtain ⟨rfl, rfl⟩ := m_some h
  exact m_R_iret (by decide) (m_opb_of (ins := .ireturn) (len := 1) (tag := 1) (a := 0) (b := 0) (c := 0) (q := 0) (by decide +kernel)) (Or.inl rfl)
def f_m_free_24 (F : Nat)   (v1 : Int32) (m : mM) : Option (Int32 × mM) := some (v1, m)
theorem ok_m_free_24 (X : mX) (d F : Nat) : ∀ (v1 : Int32) (w0 : Option Value) (m : mM) (r : Int32) (m' : mM), f_m_free_24 F v1 m = some (r, m') → m_R X (d + 1) 267 24 [w0, some (.int v1)] [] (SH, m) (some (.int r), (SH, m')) := by
  intro v1 w0 m r m' h
  unfold f_m_free_24 at h
  refine m_R_sg (by decide) [(.iload_n 1, 1, 0, 1, 0, 0, 0)] (by decide +kernel) (show m_sgl X _ _ _ _ _ = some (25, [w0, some (.int v1)], [.int v1], (SH, m.1, m.2)) from rfl) ?_
  obtain ⟨rfl, rfl⟩ := m_some h
  exact m_R_iret (by decide) (m_opb_of (ins := .ireturn) (len := 1) (tag := 1) (a := 0) (b := 0) (c := 0) (q := 0) (by decide +kernel)) (Or.inl rfl)
def f_m_free_2 (F : Nat)   : Nat → Int32 → mM → Option (Int32 × mM)
  | 0, _, _ => none
  | n + 1, v1, m => (if (60 : Int32) ≤ v1 then f_m_free_24 F v1 m else ((f_m_paper F v1 (0 : Int32) m).bind fun q1 => (if q1.1 = (1 : Int32) then f_m_free_2 F n (v1 + (1 : Int32)) q1.2 else f_m_free_24 F v1 q1.2)))
theorem ok_m_free_2 (X : mX) (d F : Nat) : ∀ (n : Nat) (v1 : Int32)  (m : mM) (r : Int32) (m' : mM), f_m_free_2 F n v1 m = some (r, m') → m_R X (d + 1) 267 2 [some (.ref 304), some (.int v1)] [] (SH, m) (some (.int r), (SH, m')) := by
  intro n
  induction n with
  | zero => intro v1 m r m' h; cases h
  | succ n ih =>
    intro v1 m r m' h
    simp only [f_m_free_2] at h
    refine m_R_sg (by decide) [(.iload_n 1, 1, 0, 1, 0, 0, 0), (.bipush 60, 2, 0, 60, 0, 0, 0)] (by decide +kernel) (show m_sgl X _ _ _ _ _ = some (5, [some (.ref 304), some (.int v1)], [.int (60 : Int32), .int v1], (SH, m.1, m.2)) from rfl) ?_
    rcases m_ite h with ⟨c626, h⟩ | ⟨c626, h⟩
    · refine m_R_1 (by decide) (m_opb_of (ins := .if_icmp .ge 19) (len := 3) (tag := 0) (a := 24) (b := 0) (c := 0) (q := 0) (by decide +kernel)) (if_pos c626) ?_
      exact ok_m_free_24 X d F _ _ _ _ _ h
    · refine m_R_1 (by decide) (m_opb_of (ins := .if_icmp .ge 19) (len := 3) (tag := 0) (a := 24) (b := 0) (c := 0) (q := 0) (by decide +kernel)) (if_neg c626) ?_
      refine m_R_sg (by decide) [(.aload_n 0, 1, 0, 0, 0, 0, 0), (.iload_n 1, 1, 0, 1, 0, 0, 0), (.iconst 0, 1, 0, 0, 0, 0, 0)] (by decide +kernel) (show m_sgl X _ _ _ _ _ = some (11, [some (.ref 304), some (.int v1)], [.int (0 : Int32), .int v1, .ref 304], (SH, m.1, m.2)) from rfl) ?_
      obtain ⟨q1, hc1, h⟩ := Option.bind_eq_some_iff.mp h
      refine m_R_cV (v := (some (.int q1.1))) (h1 := (SH, q1.2)) (rest := []) (lo' := [some (.ref 304), some (.int v1), some (.int (0 : Int32))]) (ml := 3) (k0 := 304) (by decide) (Or.inl rfl) (m_opb_of (ins := .invokevirtual 160) (len := 3) (tag := 5) (a := 246) (b := 2) (c := 0) (q := 1791) (by decide +kernel)) (by decide +kernel) rfl (show m_isO 246 304 (SH, _) = true from m_isO_of (by decide +kernel)) (Nat.le_of_ble_eq_true rfl) rfl rfl (ok_m_paper X (d + 0) F _ _ _ _ _ hc1) ?_
      refine m_R_sg (by decide) [(.iconst 1, 1, 0, 1, 0, 0, 0)] (by decide +kernel) (show m_sgl X _ _ _ _ _ = some (15, [some (.ref 304), some (.int v1)], [.int (1 : Int32), .int q1.1], (SH, q1.2.1, q1.2.2)) from rfl) ?_
      rcases m_ite h with ⟨c627, h⟩ | ⟨c627, h⟩
      · refine m_R_1 (by decide) (m_opb_of (ins := .if_icmp .ne 9) (len := 3) (tag := 0) (a := 24) (b := 0) (c := 0) (q := 0) (by decide +kernel)) (if_pos c627) ?_
        refine m_R_sg (by decide) [(.iinc 1 1, 3, 0, 1, 1, 0, 0), (.goto (-19), 3, 0, 2, 0, 0, 0)] (by decide +kernel) (show m_sgl X _ _ _ _ _ = some (2, [some (.ref 304), some (.int (v1 + (1 : Int32)))], [], (SH, q1.2.1, q1.2.2)) from rfl) ?_
        exact ih _ _ _ _ h
      · refine m_R_1 (by decide) (m_opb_of (ins := .if_icmp .ne 9) (len := 3) (tag := 0) (a := 24) (b := 0) (c := 0) (q := 0) (by decide +kernel)) (if_neg c627) ?_
        exact ok_m_free_24 X d F _ _ _ _ _ h
def f_m_free (F : Nat)    (m : mM) : Option (Int32 × mM) := f_m_free_2 F F (0 : Int32) m
theorem ok_m_free (X : mX) (d F : Nat) : ∀   (m : mM) (r : Int32) (m' : mM), f_m_free F  m = some (r, m') → m_R X (d + 1) 267 0 [some (.ref 304), none] [] (SH, m) (some (.int r), (SH, m')) := by
  intro m r m' h
  unfold f_m_free at h
  refine m_R_sg (by decide) [(.iconst 0, 1, 0, 0, 0, 0, 0), (.istore_n 1, 1, 0, 1, 0, 0, 0)] (by decide +kernel) (show m_sgl X _ _ _ _ _ = some (2, [some (.ref 304), some (.int (0 : Int32))], [], (SH, m.1, m.2)) from rfl) ?_
  exact ok_m_free_2 X d F F _ _ _ _ h
def f_m_makes_185 (F : Nat)   (v6 : Int32) (m : mM) : Option (Int32 × mM) := some (v6, m)
theorem ok_m_makes_185 (X : mX) (d F : Nat) : ∀ (v6 : Int32) (w0 : Option Value) (w1 : Option Value) (w2 : Option Value) (w3 : Option Value) (w4 : Option Value) (w5 : Option Value) (w7 : Option Value) (w8 : Option Value) (m : mM) (r : Int32) (m' : mM), f_m_makes_185 F v6 m = some (r, m') → m_R X (d + 2) 268 185 [w0, w1, w2, w3, w4, w5, some (.int v6), w7, w8] [] (SH, m) (some (.int r), (SH, m')) := by
  intro v6 w0 w1 w2 w3 w4 w5 w7 w8 m r m' h
  unfold f_m_makes_185 at h
  refine m_R_sg (by decide) [(.iload 6, 2, 0, 6, 0, 0, 0)] (by decide +kernel) (show m_sgl X _ _ _ _ _ = some (187, [w0, w1, w2, w3, w4, w5, some (.int v6), w7, w8], [.int v6], (SH, m.1, m.2)) from rfl) ?_
  obtain ⟨rfl, rfl⟩ := m_some h
  exact m_R_iret (by decide) (m_opb_of (ins := .ireturn) (len := 1) (tag := 1) (a := 0) (b := 0) (c := 0) (q := 0) (by decide +kernel)) (Or.inl rfl)
def f_m_makes_133 (F : Nat)   (v1 : Int32) (v3 : Int32) (v4 : Int32) (v6 : Int32) (v7 : Int32) (m : mM) : Option (Int32 × mM) := (if (v7 + (17 : Int32)) < 0 ∨ 9732 ≤ (v7 + (17 : Int32)).toNatClampNeg then none else (if v1 = (1 : Int32) then (if (v7 + (7 : Int32)) < 0 ∨ 9732 ≤ (v7 + (7 : Int32)).toNatClampNeg then none else (if (v7 + (8 : Int32)) < 0 ∨ 9732 ≤ (v7 + (8 : Int32)).toNatClampNeg then none else (if ((v7 + (8 : Int32)) + (1 : Int32)) < 0 ∨ 9732 ≤ ((v7 + (8 : Int32)) + (1 : Int32)).toNatClampNeg then none else f_m_makes_185 F v6 ((m_up (m_up (m_up (m_up m.1 305 (v7 + (17 : Int32)).toNatClampNeg (-1 : Int32)) 305 (v7 + (7 : Int32)).toNatClampNeg (2 : Int32)) 305 (v7 + (8 : Int32)).toNatClampNeg v3) 305 ((v7 + (8 : Int32)) + (1 : Int32)).toNatClampNeg v4), m.2)))) else f_m_makes_185 F v6 ((m_up m.1 305 (v7 + (17 : Int32)).toNatClampNeg (-1 : Int32)), m.2)))
theorem ok_m_makes_133 (X : mX) (d F : Nat) : ∀ (v1 : Int32) (v3 : Int32) (v4 : Int32) (v6 : Int32) (v7 : Int32) (w2 : Option Value) (w5 : Option Value) (w8 : Option Value) (m : mM) (r : Int32) (m' : mM), f_m_makes_133 F v1 v3 v4 v6 v7 m = some (r, m') → m_R X (d + 2) 268 133 [some (.ref 304), some (.int v1), w2, some (.int v3), some (.int v4), w5, some (.int v6), some (.int v7), w8] [] (SH, m) (some (.int r), (SH, m')) := by
  intro v1 v3 v4 v6 v7 w2 w5 w8 m r m' h
  unfold f_m_makes_133 at h
  refine m_R_sg (by decide) [(.aload_n 0, 1, 0, 0, 0, 0, 0), (.getfield 13, 3, 0, 12, 1, 3, 1493), (.iload 7, 2, 0, 7, 0, 0, 0), (.bipush 17, 2, 0, 17, 0, 0, 0), (.iadd, 1, 0, 0, 0, 0, 0), (.iconst (-1), 1, 0, 1, 1, 0, 0)] (by decide +kernel) (show m_sgl X _ _ _ _ _ = some (143, [some (.ref 304), some (.int v1), w2, some (.int v3), some (.int v4), w5, some (.int v6), some (.int v7), w8], [.int (-1 : Int32), .int (v7 + (17 : Int32)), .ref 305], (SH, m.1, m.2)) from rfl) ?_
  obtain ⟨c628, h⟩ := m_ite_n h
  refine m_R_1 (by decide) (m_opb_of (ins := .iastore) (len := 1) (tag := 0) (a := 0) (b := 0) (c := 0) (q := 0) (by decide +kernel)) (m_s_iast sh_305 c628) ?_
  refine m_R_sg (by decide) [(.iload_n 1, 1, 0, 1, 0, 0, 0), (.iconst 1, 1, 0, 1, 0, 0, 0)] (by decide +kernel) (show m_sgl X _ _ _ _ _ = some (146, [some (.ref 304), some (.int v1), w2, some (.int v3), some (.int v4), w5, some (.int v6), some (.int v7), w8], [.int (1 : Int32), .int v1], (SH, (m_up m.1 305 (v7 + (17 : Int32)).toNatClampNeg (-1 : Int32)), m.2)) from rfl) ?_
  rcases m_ite h with ⟨c629, h⟩ | ⟨c629, h⟩
  · refine m_R_1 (by decide) (m_opb_of (ins := .if_icmp .ne 39) (len := 3) (tag := 0) (a := 185) (b := 0) (c := 0) (q := 0) (by decide +kernel)) (if_pos c629) ?_
    refine m_R_sg (by decide) [(.aload_n 0, 1, 0, 0, 0, 0, 0), (.getfield 13, 3, 0, 12, 1, 3, 1493), (.iload 7, 2, 0, 7, 0, 0, 0), (.bipush 7, 2, 0, 7, 0, 0, 0), (.iadd, 1, 0, 0, 0, 0, 0), (.iconst 2, 1, 0, 2, 0, 0, 0)] (by decide +kernel) (show m_sgl X _ _ _ _ _ = some (159, [some (.ref 304), some (.int v1), w2, some (.int v3), some (.int v4), w5, some (.int v6), some (.int v7), w8], [.int (2 : Int32), .int (v7 + (7 : Int32)), .ref 305], (SH, (m_up m.1 305 (v7 + (17 : Int32)).toNatClampNeg (-1 : Int32)), m.2)) from rfl) ?_
    obtain ⟨c630, h⟩ := m_ite_n h
    refine m_R_1 (by decide) (m_opb_of (ins := .iastore) (len := 1) (tag := 0) (a := 0) (b := 0) (c := 0) (q := 0) (by decide +kernel)) (m_s_iast sh_305 c630) ?_
    refine m_R_sg (by decide) [(.aload_n 0, 1, 0, 0, 0, 0, 0), (.getfield 13, 3, 0, 12, 1, 3, 1493), (.iload 7, 2, 0, 7, 0, 0, 0), (.bipush 8, 2, 0, 8, 0, 0, 0), (.iadd, 1, 0, 0, 0, 0, 0), (.iload_n 3, 1, 0, 3, 0, 0, 0)] (by decide +kernel) (show m_sgl X _ _ _ _ _ = some (170, [some (.ref 304), some (.int v1), w2, some (.int v3), some (.int v4), w5, some (.int v6), some (.int v7), w8], [.int v3, .int (v7 + (8 : Int32)), .ref 305], (SH, (m_up (m_up m.1 305 (v7 + (17 : Int32)).toNatClampNeg (-1 : Int32)) 305 (v7 + (7 : Int32)).toNatClampNeg (2 : Int32)), m.2)) from rfl) ?_
    obtain ⟨c631, h⟩ := m_ite_n h
    refine m_R_1 (by decide) (m_opb_of (ins := .iastore) (len := 1) (tag := 0) (a := 0) (b := 0) (c := 0) (q := 0) (by decide +kernel)) (m_s_iast sh_305 c631) ?_
    refine m_R_sg (by decide) [(.aload_n 0, 1, 0, 0, 0, 0, 0), (.getfield 13, 3, 0, 12, 1, 3, 1493), (.iload 7, 2, 0, 7, 0, 0, 0), (.bipush 8, 2, 0, 8, 0, 0, 0), (.iadd, 1, 0, 0, 0, 0, 0), (.iconst 1, 1, 0, 1, 0, 0, 0), (.iadd, 1, 0, 0, 0, 0, 0), (.iload 4, 2, 0, 4, 0, 0, 0)] (by decide +kernel) (show m_sgl X _ _ _ _ _ = some (184, [some (.ref 304), some (.int v1), w2, some (.int v3), some (.int v4), w5, some (.int v6), some (.int v7), w8], [.int v4, .int ((v7 + (8 : Int32)) + (1 : Int32)), .ref 305], (SH, (m_up (m_up (m_up m.1 305 (v7 + (17 : Int32)).toNatClampNeg (-1 : Int32)) 305 (v7 + (7 : Int32)).toNatClampNeg (2 : Int32)) 305 (v7 + (8 : Int32)).toNatClampNeg v3), m.2)) from rfl) ?_
    obtain ⟨c632, h⟩ := m_ite_n h
    refine m_R_1 (by decide) (m_opb_of (ins := .iastore) (len := 1) (tag := 0) (a := 0) (b := 0) (c := 0) (q := 0) (by decide +kernel)) (m_s_iast sh_305 c632) ?_
    exact ok_m_makes_185 X d F _ _ _ _ _ _ _ _ _ _ _ _ h
  · refine m_R_1 (by decide) (m_opb_of (ins := .if_icmp .ne 39) (len := 3) (tag := 0) (a := 185) (b := 0) (c := 0) (q := 0) (by decide +kernel)) (if_neg c629) ?_
    exact ok_m_makes_185 X d F _ _ _ _ _ _ _ _ _ _ _ _ h
def f_m_makes_84 (F : Nat)   (v1 : Int32) (v3 : Int32) (v4 : Int32) (v5 : Int32) (v6 : Int32) (v7 : Int32) (m : mM) : Option (Int32 × mM) := (if (v7 + (4 : Int32)) < 0 ∨ 9732 ≤ (v7 + (4 : Int32)).toNatClampNeg then none else (if (v7 + (5 : Int32)) < 0 ∨ 9732 ≤ (v7 + (5 : Int32)).toNatClampNeg then none else (if (v7 + (15 : Int32)) < 0 ∨ 9732 ≤ (v7 + (15 : Int32)).toNatClampNeg then none else (if (v7 + (16 : Int32)) < 0 ∨ 9732 ≤ (v7 + (16 : Int32)).toNatClampNeg then none else f_m_makes_133 F v1 v3 v4 v6 v7 ((m_up (m_up (m_up (m_up m.1 305 (v7 + (4 : Int32)).toNatClampNeg v4) 305 (v7 + (5 : Int32)).toNatClampNeg v5) 305 (v7 + (15 : Int32)).toNatClampNeg (-1 : Int32)) 305 (v7 + (16 : Int32)).toNatClampNeg ((m_up (m_up (m_up m.1 305 (v7 + (4 : Int32)).toNatClampNeg v4) 305 (v7 + (5 : Int32)).toNatClampNeg v5) 305 (v7 + (15 : Int32)).toNatClampNeg (-1 : Int32)) 305 (0 : Int32).toNatClampNeg)), m.2)))))
theorem ok_m_makes_84 (X : mX) (d F : Nat) : ∀ (v1 : Int32) (v3 : Int32) (v4 : Int32) (v5 : Int32) (v6 : Int32) (v7 : Int32) (w2 : Option Value) (w8 : Option Value) (m : mM) (r : Int32) (m' : mM), f_m_makes_84 F v1 v3 v4 v5 v6 v7 m = some (r, m') → m_R X (d + 2) 268 84 [some (.ref 304), some (.int v1), w2, some (.int v3), some (.int v4), some (.int v5), some (.int v6), some (.int v7), w8] [] (SH, m) (some (.int r), (SH, m')) := by
  intro v1 v3 v4 v5 v6 v7 w2 w8 m r m' h
  unfold f_m_makes_84 at h
  refine m_R_sg (by decide) [(.aload_n 0, 1, 0, 0, 0, 0, 0), (.getfield 13, 3, 0, 12, 1, 3, 1493), (.iload 7, 2, 0, 7, 0, 0, 0), (.iconst 4, 1, 0, 4, 0, 0, 0), (.iadd, 1, 0, 0, 0, 0, 0), (.iload 4, 2, 0, 4, 0, 0, 0)] (by decide +kernel) (show m_sgl X _ _ _ _ _ = some (94, [some (.ref 304), some (.int v1), w2, some (.int v3), some (.int v4), some (.int v5), some (.int v6), some (.int v7), w8], [.int v4, .int (v7 + (4 : Int32)), .ref 305], (SH, m.1, m.2)) from rfl) ?_
  obtain ⟨c633, h⟩ := m_ite_n h
  refine m_R_1 (by decide) (m_opb_of (ins := .iastore) (len := 1) (tag := 0) (a := 0) (b := 0) (c := 0) (q := 0) (by decide +kernel)) (m_s_iast sh_305 c633) ?_
  refine m_R_sg (by decide) [(.aload_n 0, 1, 0, 0, 0, 0, 0), (.getfield 13, 3, 0, 12, 1, 3, 1493), (.iload 7, 2, 0, 7, 0, 0, 0), (.iconst 5, 1, 0, 5, 0, 0, 0), (.iadd, 1, 0, 0, 0, 0, 0), (.iload 5, 2, 0, 5, 0, 0, 0)] (by decide +kernel) (show m_sgl X _ _ _ _ _ = some (105, [some (.ref 304), some (.int v1), w2, some (.int v3), some (.int v4), some (.int v5), some (.int v6), some (.int v7), w8], [.int v5, .int (v7 + (5 : Int32)), .ref 305], (SH, (m_up m.1 305 (v7 + (4 : Int32)).toNatClampNeg v4), m.2)) from rfl) ?_
  obtain ⟨c634, h⟩ := m_ite_n h
  refine m_R_1 (by decide) (m_opb_of (ins := .iastore) (len := 1) (tag := 0) (a := 0) (b := 0) (c := 0) (q := 0) (by decide +kernel)) (m_s_iast sh_305 c634) ?_
  refine m_R_sg (by decide) [(.aload_n 0, 1, 0, 0, 0, 0, 0), (.getfield 13, 3, 0, 12, 1, 3, 1493), (.iload 7, 2, 0, 7, 0, 0, 0), (.bipush 15, 2, 0, 15, 0, 0, 0), (.iadd, 1, 0, 0, 0, 0, 0), (.iconst (-1), 1, 0, 1, 1, 0, 0)] (by decide +kernel) (show m_sgl X _ _ _ _ _ = some (116, [some (.ref 304), some (.int v1), w2, some (.int v3), some (.int v4), some (.int v5), some (.int v6), some (.int v7), w8], [.int (-1 : Int32), .int (v7 + (15 : Int32)), .ref 305], (SH, (m_up (m_up m.1 305 (v7 + (4 : Int32)).toNatClampNeg v4) 305 (v7 + (5 : Int32)).toNatClampNeg v5), m.2)) from rfl) ?_
  obtain ⟨c635, h⟩ := m_ite_n h
  refine m_R_1 (by decide) (m_opb_of (ins := .iastore) (len := 1) (tag := 0) (a := 0) (b := 0) (c := 0) (q := 0) (by decide +kernel)) (m_s_iast sh_305 c635) ?_
  refine m_R_sg (by decide) [(.aload_n 0, 1, 0, 0, 0, 0, 0), (.getfield 13, 3, 0, 12, 1, 3, 1493), (.iload 7, 2, 0, 7, 0, 0, 0), (.bipush 16, 2, 0, 16, 0, 0, 0), (.iadd, 1, 0, 0, 0, 0, 0), (.aload_n 0, 1, 0, 0, 0, 0, 0), (.getfield 13, 3, 0, 12, 1, 3, 1493), (.iconst 0, 1, 0, 0, 0, 0, 0)] (by decide +kernel) (show m_sgl X _ _ _ _ _ = some (131, [some (.ref 304), some (.int v1), w2, some (.int v3), some (.int v4), some (.int v5), some (.int v6), some (.int v7), w8], [.int (0 : Int32), .ref 305, .int (v7 + (16 : Int32)), .ref 305], (SH, (m_up (m_up (m_up m.1 305 (v7 + (4 : Int32)).toNatClampNeg v4) 305 (v7 + (5 : Int32)).toNatClampNeg v5) 305 (v7 + (15 : Int32)).toNatClampNeg (-1 : Int32)), m.2)) from rfl) ?_
  refine m_R_1 (by decide) (m_opb_of (ins := .iaload) (len := 1) (tag := 0) (a := 0) (b := 0) (c := 0) (q := 0) (by decide +kernel)) (m_s_iald sh_305 (by decide) (show ¬ ((0 : Int32) < 0 ∨ 9732 ≤ (0 : Int32).toNatClampNeg) by decide)) ?_
  obtain ⟨c636, h⟩ := m_ite_n h
  refine m_R_1 (by decide) (m_opb_of (ins := .iastore) (len := 1) (tag := 0) (a := 0) (b := 0) (c := 0) (q := 0) (by decide +kernel)) (m_s_iast sh_305 c636) ?_
  exact ok_m_makes_133 X d F _ _ _ _ _ _ _ _ _ _ _ h
def f_m_makes_20 (F : Nat)   : Nat → Int32 → Int32 → Int32 → Int32 → Int32 → Int32 → Int32 → Int32 → mM → Option (Int32 × mM)
  | 0, _, _, _, _, _, _, _, _, _ => none
  | n + 1, v1, v2, v3, v4, v5, v6, v7, v8, m => (if (20 : Int32) ≤ v8 then (if (v7 + (0 : Int32)) < 0 ∨ 9732 ≤ (v7 + (0 : Int32)).toNatClampNeg then none else (if (v7 + (1 : Int32)) < 0 ∨ 9732 ≤ (v7 + (1 : Int32)).toNatClampNeg then none else (if (v7 + (2 : Int32)) < 0 ∨ 9732 ≤ (v7 + (2 : Int32)).toNatClampNeg then none else (if (v7 + (3 : Int32)) < 0 ∨ 9732 ≤ (v7 + (3 : Int32)).toNatClampNeg then none else f_m_makes_84 F v1 v3 v4 v5 v6 v7 ((m_up (m_up (m_up (m_up m.1 305 (v7 + (0 : Int32)).toNatClampNeg (1 : Int32)) 305 (v7 + (1 : Int32)).toNatClampNeg v1) 305 (v7 + (2 : Int32)).toNatClampNeg v2) 305 (v7 + (3 : Int32)).toNatClampNeg v3), m.2))))) else (if (v7 + v8) < 0 ∨ 9732 ≤ (v7 + v8).toNatClampNeg then none else f_m_makes_20 F n v1 v2 v3 v4 v5 v6 v7 (v8 + (1 : Int32)) ((m_up m.1 305 (v7 + v8).toNatClampNeg (0 : Int32)), m.2)))
theorem ok_m_makes_20 (X : mX) (d F : Nat) : ∀ (n : Nat) (v1 : Int32) (v2 : Int32) (v3 : Int32) (v4 : Int32) (v5 : Int32) (v6 : Int32) (v7 : Int32) (v8 : Int32)  (m : mM) (r : Int32) (m' : mM), f_m_makes_20 F n v1 v2 v3 v4 v5 v6 v7 v8 m = some (r, m') → m_R X (d + 2) 268 20 [some (.ref 304), some (.int v1), some (.int v2), some (.int v3), some (.int v4), some (.int v5), some (.int v6), some (.int v7), some (.int v8)] [] (SH, m) (some (.int r), (SH, m')) := by
  intro n
  induction n with
  | zero => intro v1 v2 v3 v4 v5 v6 v7 v8 m r m' h; cases h
  | succ n ih =>
    intro v1 v2 v3 v4 v5 v6 v7 v8 m r m' h
    simp only [f_m_makes_20] at h
    refine m_R_sg (by decide) [(.iload 8, 2, 0, 8, 0, 0, 0), (.bipush 20, 2, 0, 20, 0, 0, 0)] (by decide +kernel) (show m_sgl X _ _ _ _ _ = some (24, [some (.ref 304), some (.int v1), some (.int v2), some (.int v3), some (.int v4), some (.int v5), some (.int v6), some (.int v7), some (.int v8)], [.int (20 : Int32), .int v8], (SH, m.1, m.2)) from rfl) ?_
    rcases m_ite h with ⟨c637, h⟩ | ⟨c637, h⟩
    · refine m_R_1 (by decide) (m_opb_of (ins := .if_icmp .ge 20) (len := 3) (tag := 0) (a := 44) (b := 0) (c := 0) (q := 0) (by decide +kernel)) (if_pos c637) ?_
      refine m_R_sg (by decide) [(.aload_n 0, 1, 0, 0, 0, 0, 0), (.getfield 13, 3, 0, 12, 1, 3, 1493), (.iload 7, 2, 0, 7, 0, 0, 0), (.iconst 0, 1, 0, 0, 0, 0, 0), (.iadd, 1, 0, 0, 0, 0, 0), (.iconst 1, 1, 0, 1, 0, 0, 0)] (by decide +kernel) (show m_sgl X _ _ _ _ _ = some (53, [some (.ref 304), some (.int v1), some (.int v2), some (.int v3), some (.int v4), some (.int v5), some (.int v6), some (.int v7), some (.int v8)], [.int (1 : Int32), .int (v7 + (0 : Int32)), .ref 305], (SH, m.1, m.2)) from rfl) ?_
      obtain ⟨c638, h⟩ := m_ite_n h
      refine m_R_1 (by decide) (m_opb_of (ins := .iastore) (len := 1) (tag := 0) (a := 0) (b := 0) (c := 0) (q := 0) (by decide +kernel)) (m_s_iast sh_305 c638) ?_
      refine m_R_sg (by decide) [(.aload_n 0, 1, 0, 0, 0, 0, 0), (.getfield 13, 3, 0, 12, 1, 3, 1493), (.iload 7, 2, 0, 7, 0, 0, 0), (.iconst 1, 1, 0, 1, 0, 0, 0), (.iadd, 1, 0, 0, 0, 0, 0), (.iload_n 1, 1, 0, 1, 0, 0, 0)] (by decide +kernel) (show m_sgl X _ _ _ _ _ = some (63, [some (.ref 304), some (.int v1), some (.int v2), some (.int v3), some (.int v4), some (.int v5), some (.int v6), some (.int v7), some (.int v8)], [.int v1, .int (v7 + (1 : Int32)), .ref 305], (SH, (m_up m.1 305 (v7 + (0 : Int32)).toNatClampNeg (1 : Int32)), m.2)) from rfl) ?_
      obtain ⟨c639, h⟩ := m_ite_n h
      refine m_R_1 (by decide) (m_opb_of (ins := .iastore) (len := 1) (tag := 0) (a := 0) (b := 0) (c := 0) (q := 0) (by decide +kernel)) (m_s_iast sh_305 c639) ?_
      refine m_R_sg (by decide) [(.aload_n 0, 1, 0, 0, 0, 0, 0), (.getfield 13, 3, 0, 12, 1, 3, 1493), (.iload 7, 2, 0, 7, 0, 0, 0), (.iconst 2, 1, 0, 2, 0, 0, 0), (.iadd, 1, 0, 0, 0, 0, 0), (.iload_n 2, 1, 0, 2, 0, 0, 0)] (by decide +kernel) (show m_sgl X _ _ _ _ _ = some (73, [some (.ref 304), some (.int v1), some (.int v2), some (.int v3), some (.int v4), some (.int v5), some (.int v6), some (.int v7), some (.int v8)], [.int v2, .int (v7 + (2 : Int32)), .ref 305], (SH, (m_up (m_up m.1 305 (v7 + (0 : Int32)).toNatClampNeg (1 : Int32)) 305 (v7 + (1 : Int32)).toNatClampNeg v1), m.2)) from rfl) ?_
      obtain ⟨c640, h⟩ := m_ite_n h
      refine m_R_1 (by decide) (m_opb_of (ins := .iastore) (len := 1) (tag := 0) (a := 0) (b := 0) (c := 0) (q := 0) (by decide +kernel)) (m_s_iast sh_305 c640) ?_
      refine m_R_sg (by decide) [(.aload_n 0, 1, 0, 0, 0, 0, 0), (.getfield 13, 3, 0, 12, 1, 3, 1493), (.iload 7, 2, 0, 7, 0, 0, 0), (.iconst 3, 1, 0, 3, 0, 0, 0), (.iadd, 1, 0, 0, 0, 0, 0), (.iload_n 3, 1, 0, 3, 0, 0, 0)] (by decide +kernel) (show m_sgl X _ _ _ _ _ = some (83, [some (.ref 304), some (.int v1), some (.int v2), some (.int v3), some (.int v4), some (.int v5), some (.int v6), some (.int v7), some (.int v8)], [.int v3, .int (v7 + (3 : Int32)), .ref 305], (SH, (m_up (m_up (m_up m.1 305 (v7 + (0 : Int32)).toNatClampNeg (1 : Int32)) 305 (v7 + (1 : Int32)).toNatClampNeg v1) 305 (v7 + (2 : Int32)).toNatClampNeg v2), m.2)) from rfl) ?_
      obtain ⟨c641, h⟩ := m_ite_n h
      refine m_R_1 (by decide) (m_opb_of (ins := .iastore) (len := 1) (tag := 0) (a := 0) (b := 0) (c := 0) (q := 0) (by decide +kernel)) (m_s_iast sh_305 c641) ?_
      exact ok_m_makes_84 X d F _ _ _ _ _ _ _ _ _ _ _ h
    · refine m_R_1 (by decide) (m_opb_of (ins := .if_icmp .ge 20) (len := 3) (tag := 0) (a := 44) (b := 0) (c := 0) (q := 0) (by decide +kernel)) (if_neg c637) ?_
      refine m_R_sg (by decide) [(.aload_n 0, 1, 0, 0, 0, 0, 0), (.getfield 13, 3, 0, 12, 1, 3, 1493), (.iload 7, 2, 0, 7, 0, 0, 0), (.iload 8, 2, 0, 8, 0, 0, 0), (.iadd, 1, 0, 0, 0, 0, 0), (.iconst 0, 1, 0, 0, 0, 0, 0)] (by decide +kernel) (show m_sgl X _ _ _ _ _ = some (37, [some (.ref 304), some (.int v1), some (.int v2), some (.int v3), some (.int v4), some (.int v5), some (.int v6), some (.int v7), some (.int v8)], [.int (0 : Int32), .int (v7 + v8), .ref 305], (SH, m.1, m.2)) from rfl) ?_
      obtain ⟨c642, h⟩ := m_ite_n h
      refine m_R_1 (by decide) (m_opb_of (ins := .iastore) (len := 1) (tag := 0) (a := 0) (b := 0) (c := 0) (q := 0) (by decide +kernel)) (m_s_iast sh_305 c642) ?_
      refine m_R_sg (by decide) [(.iinc 8 1, 3, 0, 8, 1, 0, 0), (.goto (-21), 3, 0, 20, 0, 0, 0)] (by decide +kernel) (show m_sgl X _ _ _ _ _ = some (20, [some (.ref 304), some (.int v1), some (.int v2), some (.int v3), some (.int v4), some (.int v5), some (.int v6), some (.int v7), some (.int (v8 + (1 : Int32)))], [], (SH, (m_up m.1 305 (v7 + v8).toNatClampNeg (0 : Int32)), m.2)) from rfl) ?_
      exact ih _ _ _ _ _ _ _ _ _ _ _ h
def f_m_makes (F : Nat)   (v1 : Int32) (v2 : Int32) (v3 : Int32) (v4 : Int32) (v5 : Int32) (m : mM) : Option (Int32 × mM) := ((f_m_free F m).bind fun q1 => f_m_makes_20 F F v1 v2 v3 v4 v5 q1.1 ((6200 : Int32) + ((20 : Int32) * q1.1)) (0 : Int32) q1.2)
theorem ok_m_makes (X : mX) (d F : Nat) : ∀ (v1 : Int32) (v2 : Int32) (v3 : Int32) (v4 : Int32) (v5 : Int32)  (m : mM) (r : Int32) (m' : mM), f_m_makes F v1 v2 v3 v4 v5 m = some (r, m') → m_R X (d + 2) 268 0 [some (.ref 304), some (.int v1), some (.int v2), some (.int v3), some (.int v4), some (.int v5), none, none, none] [] (SH, m) (some (.int r), (SH, m')) := by
  intro v1 v2 v3 v4 v5 m r m' h
  unfold f_m_makes at h
  refine m_R_sg (by decide) [(.aload_n 0, 1, 0, 0, 0, 0, 0)] (by decide +kernel) (show m_sgl X _ _ _ _ _ = some (1, [some (.ref 304), some (.int v1), some (.int v2), some (.int v3), some (.int v4), some (.int v5), none, none, none], [.ref 304], (SH, m.1, m.2)) from rfl) ?_
  obtain ⟨q1, hc1, h⟩ := Option.bind_eq_some_iff.mp h
  refine m_R_cV (v := (some (.int q1.1))) (h1 := (SH, q1.2)) (rest := []) (lo' := [some (.ref 304), none]) (ml := 2) (k0 := 304) (by decide) (Or.inl rfl) (m_opb_of (ins := .invokevirtual 163) (len := 3) (tag := 5) (a := 267) (b := 0) (c := 0) (q := 1885) (by decide +kernel)) (by decide +kernel) rfl (show m_isO 267 304 (SH, _) = true from m_isO_of (by decide +kernel)) (Nat.le_of_ble_eq_true rfl) rfl rfl (ok_m_free X (d + 0) F _ _ _ hc1) ?_
  refine m_R_sg (by decide) [(.istore 6, 2, 0, 6, 0, 0, 0), (.sipush 6200, 3, 0, 6200, 0, 0, 0), (.bipush 20, 2, 0, 20, 0, 0, 0), (.iload 6, 2, 0, 6, 0, 0, 0), (.imul, 1, 0, 0, 0, 0, 0), (.iadd, 1, 0, 0, 0, 0, 0), (.istore 7, 2, 0, 7, 0, 0, 0), (.iconst 0, 1, 0, 0, 0, 0, 0), (.istore 8, 2, 0, 8, 0, 0, 0)] (by decide +kernel) (show m_sgl X _ _ _ _ _ = some (20, [some (.ref 304), some (.int v1), some (.int v2), some (.int v3), some (.int v4), some (.int v5), some (.int q1.1), some (.int ((6200 : Int32) + ((20 : Int32) * q1.1))), some (.int (0 : Int32))], [], (SH, q1.2.1, q1.2.2)) from rfl) ?_
  exact ok_m_makes_20 X d F F _ _ _ _ _ _ _ _ _ _ _ h
def f_m_promised_16 (F : Nat)    (m : mM) : Option (Int32 × mM) := ((f_m_refuse F (-3 : Int32) m).bind fun q10 => some (q10.1, q10.2))
theorem ok_m_promised_16 (X : mX) (d F : Nat) : ∀  (w1 : Option Value) (w2 : Option Value) (w3 : Option Value) (w4 : Option Value) (w5 : Option Value) (m : mM) (r : Int32) (m' : mM), f_m_promised_16 F  m = some (r, m') → m_R X (d + 3) 266 16 [some (.ref 304), w1, w2, w3, w4, w5] [] (SH, m) (some (.int r), (SH, m')) := by
  intro w1 w2 w3 w4 w5 m r m' h
  unfold f_m_promised_16 at h
  refine m_R_sg (by decide) [(.aload_n 0, 1, 0, 0, 0, 0, 0), (.bipush (-3), 2, 0, 3, 1, 0, 0)] (by decide +kernel) (show m_sgl X _ _ _ _ _ = some (19, [some (.ref 304), w1, w2, w3, w4, w5], [.int (-3 : Int32), .ref 304], (SH, m.1, m.2)) from rfl) ?_
  obtain ⟨q10, hc10, h⟩ := Option.bind_eq_some_iff.mp h
  refine m_R_cV (v := (some (.int q10.1))) (h1 := (SH, q10.2)) (rest := []) (lo' := [some (.ref 304), some (.int (-3 : Int32))]) (ml := 2) (k0 := 304) (by decide) (Or.inl rfl) (m_opb_of (ins := .invokevirtual 61) (len := 3) (tag := 5) (a := 202) (b := 1) (c := 0) (q := 1593) (by decide +kernel)) (by decide +kernel) rfl (show m_isO 202 304 (SH, _) = true from m_isO_of (by decide +kernel)) (Nat.le_of_ble_eq_true rfl) rfl rfl (ok_m_refuse X (d + 2) F _ _ _ _ hc10) ?_
  obtain ⟨rfl, rfl⟩ := m_some h
  exact m_R_iret (by decide) (m_opb_of (ins := .ireturn) (len := 1) (tag := 1) (a := 0) (b := 0) (c := 0) (q := 0) (by decide +kernel)) (Or.inl rfl)
def f_m_promised_31 (F : Nat)    (m : mM) : Option (Int32 × mM) := ((f_m_refuse F (-5 : Int32) m).bind fun q11 => some (q11.1, q11.2))
theorem ok_m_promised_31 (X : mX) (d F : Nat) : ∀  (w1 : Option Value) (w2 : Option Value) (w3 : Option Value) (w4 : Option Value) (w5 : Option Value) (m : mM) (r : Int32) (m' : mM), f_m_promised_31 F  m = some (r, m') → m_R X (d + 3) 266 31 [some (.ref 304), w1, w2, w3, w4, w5] [] (SH, m) (some (.int r), (SH, m')) := by
  intro w1 w2 w3 w4 w5 m r m' h
  unfold f_m_promised_31 at h
  refine m_R_sg (by decide) [(.aload_n 0, 1, 0, 0, 0, 0, 0), (.bipush (-5), 2, 0, 5, 1, 0, 0)] (by decide +kernel) (show m_sgl X _ _ _ _ _ = some (34, [some (.ref 304), w1, w2, w3, w4, w5], [.int (-5 : Int32), .ref 304], (SH, m.1, m.2)) from rfl) ?_
  obtain ⟨q11, hc11, h⟩ := Option.bind_eq_some_iff.mp h
  refine m_R_cV (v := (some (.int q11.1))) (h1 := (SH, q11.2)) (rest := []) (lo' := [some (.ref 304), some (.int (-5 : Int32))]) (ml := 2) (k0 := 304) (by decide) (Or.inl rfl) (m_opb_of (ins := .invokevirtual 61) (len := 3) (tag := 5) (a := 202) (b := 1) (c := 0) (q := 1593) (by decide +kernel)) (by decide +kernel) rfl (show m_isO 202 304 (SH, _) = true from m_isO_of (by decide +kernel)) (Nat.le_of_ble_eq_true rfl) rfl rfl (ok_m_refuse X (d + 2) F _ _ _ _ hc11) ?_
  obtain ⟨rfl, rfl⟩ := m_some h
  exact m_R_iret (by decide) (m_opb_of (ins := .ireturn) (len := 1) (tag := 1) (a := 0) (b := 0) (c := 0) (q := 0) (by decide +kernel)) (Or.inl rfl)
def f_m_promised_82 (F : Nat)    (m : mM) : Option (Int32 × mM) := ((f_m_refuse F (-7 : Int32) m).bind fun q12 => some (q12.1, q12.2))
theorem ok_m_promised_82 (X : mX) (d F : Nat) : ∀  (w1 : Option Value) (w2 : Option Value) (w3 : Option Value) (w4 : Option Value) (w5 : Option Value) (m : mM) (r : Int32) (m' : mM), f_m_promised_82 F  m = some (r, m') → m_R X (d + 3) 266 82 [some (.ref 304), w1, w2, w3, w4, w5] [] (SH, m) (some (.int r), (SH, m')) := by
  intro w1 w2 w3 w4 w5 m r m' h
  unfold f_m_promised_82 at h
  refine m_R_sg (by decide) [(.aload_n 0, 1, 0, 0, 0, 0, 0), (.bipush (-7), 2, 0, 7, 1, 0, 0)] (by decide +kernel) (show m_sgl X _ _ _ _ _ = some (85, [some (.ref 304), w1, w2, w3, w4, w5], [.int (-7 : Int32), .ref 304], (SH, m.1, m.2)) from rfl) ?_
  obtain ⟨q12, hc12, h⟩ := Option.bind_eq_some_iff.mp h
  refine m_R_cV (v := (some (.int q12.1))) (h1 := (SH, q12.2)) (rest := []) (lo' := [some (.ref 304), some (.int (-7 : Int32))]) (ml := 2) (k0 := 304) (by decide) (Or.inl rfl) (m_opb_of (ins := .invokevirtual 61) (len := 3) (tag := 5) (a := 202) (b := 1) (c := 0) (q := 1593) (by decide +kernel)) (by decide +kernel) rfl (show m_isO 202 304 (SH, _) = true from m_isO_of (by decide +kernel)) (Nat.le_of_ble_eq_true rfl) rfl rfl (ok_m_refuse X (d + 2) F _ _ _ _ hc12) ?_
  obtain ⟨rfl, rfl⟩ := m_some h
  exact m_R_iret (by decide) (m_opb_of (ins := .ireturn) (len := 1) (tag := 1) (a := 0) (b := 0) (c := 0) (q := 0) (by decide +kernel)) (Or.inl rfl)
def f_m_promised_125 (F : Nat)   (s0 : Int32) (m : mM) : Option (Int32 × mM) := some (s0, m)
theorem ok_m_promised_125 (X : mX) (d F : Nat) : ∀ (s0 : Int32) (w0 : Option Value) (w1 : Option Value) (w2 : Option Value) (w3 : Option Value) (w4 : Option Value) (w5 : Option Value) (m : mM) (r : Int32) (m' : mM), f_m_promised_125 F s0 m = some (r, m') → m_R X (d + 3) 266 125 [w0, w1, w2, w3, w4, w5] [.int s0] (SH, m) (some (.int r), (SH, m')) := by
  intro s0 w0 w1 w2 w3 w4 w5 m r m' h
  unfold f_m_promised_125 at h
  obtain ⟨rfl, rfl⟩ := m_some h
  exact m_R_iret (by decide) (m_opb_of (ins := .ireturn) (len := 1) (tag := 1) (a := 0) (b := 0) (c := 0) (q := 0) (by decide +kernel)) (Or.inl rfl)
def f_m_promised (F : Nat)   (v1 : Int32) (v2 : Int32) (v3 : Int32) (v4 : Int32) (v5 : Int32) (m : mM) : Option (Int32 × mM) := ((f_m_isHouse F v2 m).bind fun q1 => (if q1.1 = 0 then f_m_promised_16 F q1.2 else ((f_m_isHouse F v3 q1.2).bind fun q2 => (if q2.1 = 0 then f_m_promised_16 F q2.2 else (if v2 = 0 then f_m_promised_31 F q2.2 else (if v3 = 0 then f_m_promised_31 F q2.2 else ((f_m_in F v4 (1 : Int32) (9999 : Int32) q2.2).bind fun q3 => (if q3.1 = 0 then f_m_promised_82 F q3.2 else ((f_m_in F v5 (1 : Int32) (60 : Int32) q3.2).bind fun q4 => (if q4.1 = 0 then f_m_promised_82 F q4.2 else (if v2 = v3 then f_m_promised_82 F q4.2 else ((f_m_isUp F v2 q4.2).bind fun q5 => (if q5.1 = 0 then f_m_promised_82 F q5.2 else ((f_m_isUp F v3 q5.2).bind fun q6 => (if q6.1 = 0 then f_m_promised_82 F q6.2 else ((f_m_free F q6.2).bind fun q7 => (if q7.1 = (60 : Int32) then ((f_m_refuse F (-8 : Int32) q7.2).bind fun q8 => f_m_promised_125 F q8.1 q8.2) else ((f_m_makes F v1 v4 v2 v3 ((q7.2.1 305 (0 : Int32).toNatClampNeg) + v5) q7.2).bind fun q9 => f_m_promised_125 F q9.1 q9.2))))))))))))))))))
theorem ok_m_promised (X : mX) (d F : Nat) : ∀ (v1 : Int32) (v2 : Int32) (v3 : Int32) (v4 : Int32) (v5 : Int32)  (m : mM) (r : Int32) (m' : mM), f_m_promised F v1 v2 v3 v4 v5 m = some (r, m') → m_R X (d + 3) 266 0 [some (.ref 304), some (.int v1), some (.int v2), some (.int v3), some (.int v4), some (.int v5)] [] (SH, m) (some (.int r), (SH, m')) := by
  intro v1 v2 v3 v4 v5 m r m' h
  unfold f_m_promised at h
  refine m_R_sg (by decide) [(.aload_n 0, 1, 0, 0, 0, 0, 0), (.iload_n 2, 1, 0, 2, 0, 0, 0)] (by decide +kernel) (show m_sgl X _ _ _ _ _ = some (2, [some (.ref 304), some (.int v1), some (.int v2), some (.int v3), some (.int v4), some (.int v5)], [.int v2, .ref 304], (SH, m.1, m.2)) from rfl) ?_
  obtain ⟨q1, hc1, h⟩ := Option.bind_eq_some_iff.mp h
  refine m_R_cV (v := (some (.int q1.1))) (h1 := (SH, q1.2)) (rest := []) (lo' := [some (.ref 304), some (.int v2)]) (ml := 2) (k0 := 304) (by decide) (Or.inl rfl) (m_opb_of (ins := .invokevirtual 77) (len := 3) (tag := 5) (a := 210) (b := 1) (c := 0) (q := 1625) (by decide +kernel)) (by decide +kernel) rfl (show m_isO 210 304 (SH, _) = true from m_isO_of (by decide +kernel)) (Nat.le_of_ble_eq_true rfl) rfl rfl (ok_m_isHouse X (d + 1) F _ _ _ _ hc1) ?_
  rcases m_ite h with ⟨c643, h⟩ | ⟨c643, h⟩
  · refine m_R_1 (by decide) (m_opb_of (ins := .ifCond .eq 11) (len := 3) (tag := 0) (a := 16) (b := 0) (c := 0) (q := 0) (by decide +kernel)) (if_pos c643) ?_
    exact ok_m_promised_16 X d F _ _ _ _ _ _ _ _ h
  · refine m_R_1 (by decide) (m_opb_of (ins := .ifCond .eq 11) (len := 3) (tag := 0) (a := 16) (b := 0) (c := 0) (q := 0) (by decide +kernel)) (if_neg c643) ?_
    refine m_R_sg (by decide) [(.aload_n 0, 1, 0, 0, 0, 0, 0), (.iload_n 3, 1, 0, 3, 0, 0, 0)] (by decide +kernel) (show m_sgl X _ _ _ _ _ = some (10, [some (.ref 304), some (.int v1), some (.int v2), some (.int v3), some (.int v4), some (.int v5)], [.int v3, .ref 304], (SH, q1.2.1, q1.2.2)) from rfl) ?_
    obtain ⟨q2, hc2, h⟩ := Option.bind_eq_some_iff.mp h
    refine m_R_cV (v := (some (.int q2.1))) (h1 := (SH, q2.2)) (rest := []) (lo' := [some (.ref 304), some (.int v3)]) (ml := 2) (k0 := 304) (by decide) (Or.inl rfl) (m_opb_of (ins := .invokevirtual 77) (len := 3) (tag := 5) (a := 210) (b := 1) (c := 0) (q := 1625) (by decide +kernel)) (by decide +kernel) rfl (show m_isO 210 304 (SH, _) = true from m_isO_of (by decide +kernel)) (Nat.le_of_ble_eq_true rfl) rfl rfl (ok_m_isHouse X (d + 1) F _ _ _ _ hc2) ?_
    rcases m_ite h with ⟨c644, h⟩ | ⟨c644, h⟩
    · refine m_R_1 (by decide) (m_opb_of (ins := .ifCond .ne 10) (len := 3) (tag := 0) (a := 23) (b := 0) (c := 0) (q := 0) (by decide +kernel)) (if_pos c644) ?_
      exact ok_m_promised_16 X d F _ _ _ _ _ _ _ _ h
    · refine m_R_1 (by decide) (m_opb_of (ins := .ifCond .ne 10) (len := 3) (tag := 0) (a := 23) (b := 0) (c := 0) (q := 0) (by decide +kernel)) (if_neg c644) ?_
      refine m_R_sg (by decide) [(.iload_n 2, 1, 0, 2, 0, 0, 0)] (by decide +kernel) (show m_sgl X _ _ _ _ _ = some (24, [some (.ref 304), some (.int v1), some (.int v2), some (.int v3), some (.int v4), some (.int v5)], [.int v2], (SH, q2.2.1, q2.2.2)) from rfl) ?_
      rcases m_ite h with ⟨c645, h⟩ | ⟨c645, h⟩
      · refine m_R_1 (by decide) (m_opb_of (ins := .ifCond .eq 7) (len := 3) (tag := 0) (a := 31) (b := 0) (c := 0) (q := 0) (by decide +kernel)) (if_pos c645) ?_
        exact ok_m_promised_31 X d F _ _ _ _ _ _ _ _ h
      · refine m_R_1 (by decide) (m_opb_of (ins := .ifCond .eq 7) (len := 3) (tag := 0) (a := 31) (b := 0) (c := 0) (q := 0) (by decide +kernel)) (if_neg c645) ?_
        refine m_R_sg (by decide) [(.iload_n 3, 1, 0, 3, 0, 0, 0)] (by decide +kernel) (show m_sgl X _ _ _ _ _ = some (28, [some (.ref 304), some (.int v1), some (.int v2), some (.int v3), some (.int v4), some (.int v5)], [.int v3], (SH, q2.2.1, q2.2.2)) from rfl) ?_
        rcases m_ite h with ⟨c646, h⟩ | ⟨c646, h⟩
        · refine m_R_1 (by decide) (m_opb_of (ins := .ifCond .ne 10) (len := 3) (tag := 0) (a := 38) (b := 0) (c := 0) (q := 0) (by decide +kernel)) (if_pos c646) ?_
          exact ok_m_promised_31 X d F _ _ _ _ _ _ _ _ h
        · refine m_R_1 (by decide) (m_opb_of (ins := .ifCond .ne 10) (len := 3) (tag := 0) (a := 38) (b := 0) (c := 0) (q := 0) (by decide +kernel)) (if_neg c646) ?_
          refine m_R_sg (by decide) [(.iload 4, 2, 0, 4, 0, 0, 0), (.iconst 1, 1, 0, 1, 0, 0, 0), (.sipush 9999, 3, 0, 9999, 0, 0, 0)] (by decide +kernel) (show m_sgl X _ _ _ _ _ = some (44, [some (.ref 304), some (.int v1), some (.int v2), some (.int v3), some (.int v4), some (.int v5)], [.int (9999 : Int32), .int (1 : Int32), .int v4], (SH, q2.2.1, q2.2.2)) from rfl) ?_
          obtain ⟨q3, hc3, h⟩ := Option.bind_eq_some_iff.mp h
          refine m_R_cS (v := (some (.int q3.1))) (h1 := (SH, q3.2)) (rest := []) (lo' := [some (.int v4), some (.int (1 : Int32)), some (.int (9999 : Int32))]) (ml := 3) (by decide) (m_opb_of (ins := .invokestatic 57) (len := 3) (tag := 4) (a := 201) (b := 3) (c := 0) (q := 1590) (by decide +kernel)) (by decide +kernel) (Nat.le_of_ble_eq_true rfl) rfl (Nat.le_of_ble_eq_true rfl) rfl rfl (ok_m_in X (d + 2) F _ _ _ _ _ _ hc3) ?_
          rcases m_ite h with ⟨c647, h⟩ | ⟨c647, h⟩
          · refine m_R_1 (by decide) (m_opb_of (ins := .ifCond .eq 35) (len := 3) (tag := 0) (a := 82) (b := 0) (c := 0) (q := 0) (by decide +kernel)) (if_pos c647) ?_
            exact ok_m_promised_82 X d F _ _ _ _ _ _ _ _ h
          · refine m_R_1 (by decide) (m_opb_of (ins := .ifCond .eq 35) (len := 3) (tag := 0) (a := 82) (b := 0) (c := 0) (q := 0) (by decide +kernel)) (if_neg c647) ?_
            refine m_R_sg (by decide) [(.iload 5, 2, 0, 5, 0, 0, 0), (.iconst 1, 1, 0, 1, 0, 0, 0), (.bipush 60, 2, 0, 60, 0, 0, 0)] (by decide +kernel) (show m_sgl X _ _ _ _ _ = some (55, [some (.ref 304), some (.int v1), some (.int v2), some (.int v3), some (.int v4), some (.int v5)], [.int (60 : Int32), .int (1 : Int32), .int v5], (SH, q3.2.1, q3.2.2)) from rfl) ?_
            obtain ⟨q4, hc4, h⟩ := Option.bind_eq_some_iff.mp h
            refine m_R_cS (v := (some (.int q4.1))) (h1 := (SH, q4.2)) (rest := []) (lo' := [some (.int v5), some (.int (1 : Int32)), some (.int (60 : Int32))]) (ml := 3) (by decide) (m_opb_of (ins := .invokestatic 57) (len := 3) (tag := 4) (a := 201) (b := 3) (c := 0) (q := 1590) (by decide +kernel)) (by decide +kernel) (Nat.le_of_ble_eq_true rfl) rfl (Nat.le_of_ble_eq_true rfl) rfl rfl (ok_m_in X (d + 2) F _ _ _ _ _ _ hc4) ?_
            rcases m_ite h with ⟨c648, h⟩ | ⟨c648, h⟩
            · refine m_R_1 (by decide) (m_opb_of (ins := .ifCond .eq 24) (len := 3) (tag := 0) (a := 82) (b := 0) (c := 0) (q := 0) (by decide +kernel)) (if_pos c648) ?_
              exact ok_m_promised_82 X d F _ _ _ _ _ _ _ _ h
            · refine m_R_1 (by decide) (m_opb_of (ins := .ifCond .eq 24) (len := 3) (tag := 0) (a := 82) (b := 0) (c := 0) (q := 0) (by decide +kernel)) (if_neg c648) ?_
              refine m_R_sg (by decide) [(.iload_n 2, 1, 0, 2, 0, 0, 0), (.iload_n 3, 1, 0, 3, 0, 0, 0)] (by decide +kernel) (show m_sgl X _ _ _ _ _ = some (63, [some (.ref 304), some (.int v1), some (.int v2), some (.int v3), some (.int v4), some (.int v5)], [.int v3, .int v2], (SH, q4.2.1, q4.2.2)) from rfl) ?_
              rcases m_ite h with ⟨c649, h⟩ | ⟨c649, h⟩
              · refine m_R_1 (by decide) (m_opb_of (ins := .if_icmp .eq 19) (len := 3) (tag := 0) (a := 82) (b := 0) (c := 0) (q := 0) (by decide +kernel)) (if_pos c649) ?_
                exact ok_m_promised_82 X d F _ _ _ _ _ _ _ _ h
              · refine m_R_1 (by decide) (m_opb_of (ins := .if_icmp .eq 19) (len := 3) (tag := 0) (a := 82) (b := 0) (c := 0) (q := 0) (by decide +kernel)) (if_neg c649) ?_
                refine m_R_sg (by decide) [(.aload_n 0, 1, 0, 0, 0, 0, 0), (.iload_n 2, 1, 0, 2, 0, 0, 0)] (by decide +kernel) (show m_sgl X _ _ _ _ _ = some (68, [some (.ref 304), some (.int v1), some (.int v2), some (.int v3), some (.int v4), some (.int v5)], [.int v2, .ref 304], (SH, q4.2.1, q4.2.2)) from rfl) ?_
                obtain ⟨q5, hc5, h⟩ := Option.bind_eq_some_iff.mp h
                refine m_R_cV (v := (some (.int q5.1))) (h1 := (SH, q5.2)) (rest := []) (lo' := [some (.ref 304), some (.int v2)]) (ml := 2) (k0 := 304) (by decide) (Or.inl rfl) (m_opb_of (ins := .invokevirtual 80) (len := 3) (tag := 5) (a := 211) (b := 1) (c := 0) (q := 1629) (by decide +kernel)) (by decide +kernel) rfl (show m_isO 211 304 (SH, _) = true from m_isO_of (by decide +kernel)) (Nat.le_of_ble_eq_true rfl) rfl rfl (ok_m_isUp X (d + 1) F _ _ _ _ hc5) ?_
                rcases m_ite h with ⟨c650, h⟩ | ⟨c650, h⟩
                · refine m_R_1 (by decide) (m_opb_of (ins := .ifCond .eq 11) (len := 3) (tag := 0) (a := 82) (b := 0) (c := 0) (q := 0) (by decide +kernel)) (if_pos c650) ?_
                  exact ok_m_promised_82 X d F _ _ _ _ _ _ _ _ h
                · refine m_R_1 (by decide) (m_opb_of (ins := .ifCond .eq 11) (len := 3) (tag := 0) (a := 82) (b := 0) (c := 0) (q := 0) (by decide +kernel)) (if_neg c650) ?_
                  refine m_R_sg (by decide) [(.aload_n 0, 1, 0, 0, 0, 0, 0), (.iload_n 3, 1, 0, 3, 0, 0, 0)] (by decide +kernel) (show m_sgl X _ _ _ _ _ = some (76, [some (.ref 304), some (.int v1), some (.int v2), some (.int v3), some (.int v4), some (.int v5)], [.int v3, .ref 304], (SH, q5.2.1, q5.2.2)) from rfl) ?_
                  obtain ⟨q6, hc6, h⟩ := Option.bind_eq_some_iff.mp h
                  refine m_R_cV (v := (some (.int q6.1))) (h1 := (SH, q6.2)) (rest := []) (lo' := [some (.ref 304), some (.int v3)]) (ml := 2) (k0 := 304) (by decide) (Or.inl rfl) (m_opb_of (ins := .invokevirtual 80) (len := 3) (tag := 5) (a := 211) (b := 1) (c := 0) (q := 1629) (by decide +kernel)) (by decide +kernel) rfl (show m_isO 211 304 (SH, _) = true from m_isO_of (by decide +kernel)) (Nat.le_of_ble_eq_true rfl) rfl rfl (ok_m_isUp X (d + 1) F _ _ _ _ hc6) ?_
                  rcases m_ite h with ⟨c651, h⟩ | ⟨c651, h⟩
                  · refine m_R_1 (by decide) (m_opb_of (ins := .ifCond .ne 10) (len := 3) (tag := 0) (a := 89) (b := 0) (c := 0) (q := 0) (by decide +kernel)) (if_pos c651) ?_
                    exact ok_m_promised_82 X d F _ _ _ _ _ _ _ _ h
                  · refine m_R_1 (by decide) (m_opb_of (ins := .ifCond .ne 10) (len := 3) (tag := 0) (a := 89) (b := 0) (c := 0) (q := 0) (by decide +kernel)) (if_neg c651) ?_
                    refine m_R_sg (by decide) [(.aload_n 0, 1, 0, 0, 0, 0, 0)] (by decide +kernel) (show m_sgl X _ _ _ _ _ = some (90, [some (.ref 304), some (.int v1), some (.int v2), some (.int v3), some (.int v4), some (.int v5)], [.ref 304], (SH, q6.2.1, q6.2.2)) from rfl) ?_
                    obtain ⟨q7, hc7, h⟩ := Option.bind_eq_some_iff.mp h
                    refine m_R_cV (v := (some (.int q7.1))) (h1 := (SH, q7.2)) (rest := []) (lo' := [some (.ref 304), none]) (ml := 2) (k0 := 304) (by decide) (Or.inl rfl) (m_opb_of (ins := .invokevirtual 163) (len := 3) (tag := 5) (a := 267) (b := 0) (c := 0) (q := 1885) (by decide +kernel)) (by decide +kernel) rfl (show m_isO 267 304 (SH, _) = true from m_isO_of (by decide +kernel)) (Nat.le_of_ble_eq_true rfl) rfl rfl (ok_m_free X (d + 1) F _ _ _ hc7) ?_
                    refine m_R_sg (by decide) [(.bipush 60, 2, 0, 60, 0, 0, 0)] (by decide +kernel) (show m_sgl X _ _ _ _ _ = some (95, [some (.ref 304), some (.int v1), some (.int v2), some (.int v3), some (.int v4), some (.int v5)], [.int (60 : Int32), .int q7.1], (SH, q7.2.1, q7.2.2)) from rfl) ?_
                    rcases m_ite h with ⟨c652, h⟩ | ⟨c652, h⟩
                    · refine m_R_1 (by decide) (m_opb_of (ins := .if_icmp .ne 12) (len := 3) (tag := 0) (a := 107) (b := 0) (c := 0) (q := 0) (by decide +kernel)) (if_pos c652) ?_
                      refine m_R_sg (by decide) [(.aload_n 0, 1, 0, 0, 0, 0, 0), (.bipush (-8), 2, 0, 8, 1, 0, 0)] (by decide +kernel) (show m_sgl X _ _ _ _ _ = some (101, [some (.ref 304), some (.int v1), some (.int v2), some (.int v3), some (.int v4), some (.int v5)], [.int (-8 : Int32), .ref 304], (SH, q7.2.1, q7.2.2)) from rfl) ?_
                      obtain ⟨q8, hc8, h⟩ := Option.bind_eq_some_iff.mp h
                      refine m_R_cV (v := (some (.int q8.1))) (h1 := (SH, q8.2)) (rest := []) (lo' := [some (.ref 304), some (.int (-8 : Int32))]) (ml := 2) (k0 := 304) (by decide) (Or.inl rfl) (m_opb_of (ins := .invokevirtual 61) (len := 3) (tag := 5) (a := 202) (b := 1) (c := 0) (q := 1593) (by decide +kernel)) (by decide +kernel) rfl (show m_isO 202 304 (SH, _) = true from m_isO_of (by decide +kernel)) (Nat.le_of_ble_eq_true rfl) rfl rfl (ok_m_refuse X (d + 2) F _ _ _ _ hc8) ?_
                      refine m_R_sg (by decide) [(.goto 21, 3, 0, 125, 0, 0, 0)] (by decide +kernel) (show m_sgl X _ _ _ _ _ = some (125, [some (.ref 304), some (.int v1), some (.int v2), some (.int v3), some (.int v4), some (.int v5)], [.int q8.1], (SH, q8.2.1, q8.2.2)) from rfl) ?_
                      exact ok_m_promised_125 X d F _ _ _ _ _ _ _ _ _ _ h
                    · refine m_R_1 (by decide) (m_opb_of (ins := .if_icmp .ne 12) (len := 3) (tag := 0) (a := 107) (b := 0) (c := 0) (q := 0) (by decide +kernel)) (if_neg c652) ?_
                      refine m_R_sg (by decide) [(.aload_n 0, 1, 0, 0, 0, 0, 0), (.iload_n 1, 1, 0, 1, 0, 0, 0), (.iload 4, 2, 0, 4, 0, 0, 0), (.iload_n 2, 1, 0, 2, 0, 0, 0), (.iload_n 3, 1, 0, 3, 0, 0, 0), (.aload_n 0, 1, 0, 0, 0, 0, 0), (.getfield 13, 3, 0, 12, 1, 3, 1493), (.iconst 0, 1, 0, 0, 0, 0, 0)] (by decide +kernel) (show m_sgl X _ _ _ _ _ = some (118, [some (.ref 304), some (.int v1), some (.int v2), some (.int v3), some (.int v4), some (.int v5)], [.int (0 : Int32), .ref 305, .int v3, .int v2, .int v4, .int v1, .ref 304], (SH, q7.2.1, q7.2.2)) from rfl) ?_
                      refine m_R_1 (by decide) (m_opb_of (ins := .iaload) (len := 1) (tag := 0) (a := 0) (b := 0) (c := 0) (q := 0) (by decide +kernel)) (m_s_iald sh_305 (by decide) (show ¬ ((0 : Int32) < 0 ∨ 9732 ≤ (0 : Int32).toNatClampNeg) by decide)) ?_
                      refine m_R_sg (by decide) [(.iload 5, 2, 0, 5, 0, 0, 0), (.iadd, 1, 0, 0, 0, 0, 0)] (by decide +kernel) (show m_sgl X _ _ _ _ _ = some (122, [some (.ref 304), some (.int v1), some (.int v2), some (.int v3), some (.int v4), some (.int v5)], [.int ((q7.2.1 305 (0 : Int32).toNatClampNeg) + v5), .int v3, .int v2, .int v4, .int v1, .ref 304], (SH, q7.2.1, q7.2.2)) from rfl) ?_
                      obtain ⟨q9, hc9, h⟩ := Option.bind_eq_some_iff.mp h
                      refine m_R_cV (v := (some (.int q9.1))) (h1 := (SH, q9.2)) (rest := []) (lo' := [some (.ref 304), some (.int v1), some (.int v4), some (.int v2), some (.int v3), some (.int ((q7.2.1 305 (0 : Int32).toNatClampNeg) + v5)), none, none, none]) (ml := 9) (k0 := 304) (by decide) (Or.inl rfl) (m_opb_of (ins := .invokevirtual 166) (len := 3) (tag := 5) (a := 268) (b := 5) (c := 0) (q := 1889) (by decide +kernel)) (by decide +kernel) rfl (show m_isO 268 304 (SH, _) = true from m_isO_of (by decide +kernel)) (Nat.le_of_ble_eq_true rfl) rfl rfl (ok_m_makes X (d + 0) F _ _ _ _ _ _ _ _ hc9) ?_
                      exact ok_m_promised_125 X d F _ _ _ _ _ _ _ _ _ _ h
def f_m_promise (F : Nat)   (v1 : Int32) (v2 : Int32) (v3 : Int32) (v4 : Int32) (m : mM) : Option (Int32 × mM) := ((f_m_promised F (0 : Int32) v1 v2 v3 v4 m).bind fun q1 => some (q1.1, q1.2))
theorem ok_m_promise (X : mX) (d F : Nat) : ∀ (v1 : Int32) (v2 : Int32) (v3 : Int32) (v4 : Int32)  (m : mM) (r : Int32) (m' : mM), f_m_promise F v1 v2 v3 v4 m = some (r, m') → m_R X (d + 4) 265 0 [some (.ref 304), some (.int v1), some (.int v2), some (.int v3), some (.int v4)] [] (SH, m) (some (.int r), (SH, m')) := by
  intro v1 v2 v3 v4 m r m' h
  unfold f_m_promise at h
  refine m_R_sg (by decide) [(.aload_n 0, 1, 0, 0, 0, 0, 0), (.iconst 0, 1, 0, 0, 0, 0, 0), (.iload_n 1, 1, 0, 1, 0, 0, 0), (.iload_n 2, 1, 0, 2, 0, 0, 0), (.iload_n 3, 1, 0, 3, 0, 0, 0), (.iload 4, 2, 0, 4, 0, 0, 0)] (by decide +kernel) (show m_sgl X _ _ _ _ _ = some (7, [some (.ref 304), some (.int v1), some (.int v2), some (.int v3), some (.int v4)], [.int v4, .int v3, .int v2, .int v1, .int (0 : Int32), .ref 304], (SH, m.1, m.2)) from rfl) ?_
  obtain ⟨q1, hc1, h⟩ := Option.bind_eq_some_iff.mp h
  refine m_R_cV (v := (some (.int q1.1))) (h1 := (SH, q1.2)) (rest := []) (lo' := [some (.ref 304), some (.int (0 : Int32)), some (.int v1), some (.int v2), some (.int v3), some (.int v4)]) (ml := 6) (k0 := 304) (by decide) (Or.inl rfl) (m_opb_of (ins := .invokevirtual 170) (len := 3) (tag := 5) (a := 266) (b := 5) (c := 0) (q := 1881) (by decide +kernel)) (by decide +kernel) rfl (show m_isO 266 304 (SH, _) = true from m_isO_of (by decide +kernel)) (Nat.le_of_ble_eq_true rfl) rfl rfl (ok_m_promised X (d + 0) F _ _ _ _ _ _ _ _ hc1) ?_
  obtain ⟨rfl, rfl⟩ := m_some h
  exact m_R_iret (by decide) (m_opb_of (ins := .ireturn) (len := 1) (tag := 1) (a := 0) (b := 0) (c := 0) (q := 0) (by decide +kernel)) (Or.inl rfl)
def f_x_bill (F : Nat)   (v1 : Int32) (v2 : Int32) (v3 : Int32) (v4 : Int32) (m : mM) : Option (Int32 × mM) := ((f_x_drawn F (1 : Int32) v1 v2 v3 v4 m).bind fun q1 => some (q1.1, q1.2))
theorem ok_x_bill (X : mX) (d F : Nat) : ∀ (v1 : Int32) (v2 : Int32) (v3 : Int32) (v4 : Int32)  (m : mM) (r : Int32) (m' : mM), f_x_bill F v1 v2 v3 v4 m = some (r, m') → m_R X (d + 3) 75 0 [some (.ref 0), some (.int v1), some (.int v2), some (.int v3), some (.int v4)] [] (SH, m) (some (.int r), (SH, m')) := by
  intro v1 v2 v3 v4 m r m' h
  unfold f_x_bill at h
  refine m_R_sg (by decide) [(.aload_n 0, 1, 0, 0, 0, 0, 0), (.iconst 1, 1, 0, 1, 0, 0, 0), (.iload_n 1, 1, 0, 1, 0, 0, 0), (.iload_n 2, 1, 0, 2, 0, 0, 0), (.iload_n 3, 1, 0, 3, 0, 0, 0), (.iload 4, 2, 0, 4, 0, 0, 0)] (by decide +kernel) (show m_sgl X _ _ _ _ _ = some (7, [some (.ref 0), some (.int v1), some (.int v2), some (.int v3), some (.int v4)], [.int v4, .int v3, .int v2, .int v1, .int (1 : Int32), .ref 0], (SH, m.1, m.2)) from rfl) ?_
  obtain ⟨q1, hc1, h⟩ := Option.bind_eq_some_iff.mp h
  refine m_R_cV (v := (some (.int q1.1))) (h1 := (SH, q1.2)) (rest := []) (lo' := [some (.ref 0), some (.int (1 : Int32)), some (.int v1), some (.int v2), some (.int v3), some (.int v4), none]) (ml := 7) (k0 := 0) (by decide) (Or.inl rfl) (m_opb_of (ins := .invokevirtual 232) (len := 3) (tag := 5) (a := 71) (b := 5) (c := 0) (q := 898) (by decide +kernel)) (by decide +kernel) rfl (show m_isO 71 0 (SH, _) = true from m_isO_of (by decide +kernel)) (Nat.le_of_ble_eq_true rfl) rfl rfl (ok_x_drawn X (d + 0) F _ _ _ _ _ _ _ _ hc1) ?_
  obtain ⟨rfl, rfl⟩ := m_some h
  exact m_R_iret (by decide) (m_opb_of (ins := .ireturn) (len := 1) (tag := 1) (a := 0) (b := 0) (c := 0) (q := 0) (by decide +kernel)) (Or.inl rfl)
def f_m_bill (F : Nat)   (v1 : Int32) (v2 : Int32) (v3 : Int32) (v4 : Int32) (m : mM) : Option (Int32 × mM) := ((f_m_promised F (1 : Int32) v1 v2 v3 v4 m).bind fun q1 => some (q1.1, q1.2))
theorem ok_m_bill (X : mX) (d F : Nat) : ∀ (v1 : Int32) (v2 : Int32) (v3 : Int32) (v4 : Int32)  (m : mM) (r : Int32) (m' : mM), f_m_bill F v1 v2 v3 v4 m = some (r, m') → m_R X (d + 4) 269 0 [some (.ref 304), some (.int v1), some (.int v2), some (.int v3), some (.int v4)] [] (SH, m) (some (.int r), (SH, m')) := by
  intro v1 v2 v3 v4 m r m' h
  unfold f_m_bill at h
  refine m_R_sg (by decide) [(.aload_n 0, 1, 0, 0, 0, 0, 0), (.iconst 1, 1, 0, 1, 0, 0, 0), (.iload_n 1, 1, 0, 1, 0, 0, 0), (.iload_n 2, 1, 0, 2, 0, 0, 0), (.iload_n 3, 1, 0, 3, 0, 0, 0), (.iload 4, 2, 0, 4, 0, 0, 0)] (by decide +kernel) (show m_sgl X _ _ _ _ _ = some (7, [some (.ref 304), some (.int v1), some (.int v2), some (.int v3), some (.int v4)], [.int v4, .int v3, .int v2, .int v1, .int (1 : Int32), .ref 304], (SH, m.1, m.2)) from rfl) ?_
  obtain ⟨q1, hc1, h⟩ := Option.bind_eq_some_iff.mp h
  refine m_R_cV (v := (some (.int q1.1))) (h1 := (SH, q1.2)) (rest := []) (lo' := [some (.ref 304), some (.int (1 : Int32)), some (.int v1), some (.int v2), some (.int v3), some (.int v4)]) (ml := 6) (k0 := 304) (by decide) (Or.inl rfl) (m_opb_of (ins := .invokevirtual 170) (len := 3) (tag := 5) (a := 266) (b := 5) (c := 0) (q := 1881) (by decide +kernel)) (by decide +kernel) rfl (show m_isO 266 304 (SH, _) = true from m_isO_of (by decide +kernel)) (Nat.le_of_ble_eq_true rfl) rfl rfl (ok_m_promised X (d + 0) F _ _ _ _ _ _ _ _ hc1) ?_
  obtain ⟨rfl, rfl⟩ := m_some h
  exact m_R_iret (by decide) (m_opb_of (ins := .ireturn) (len := 1) (tag := 1) (a := 0) (b := 0) (c := 0) (q := 0) (by decide +kernel)) (Or.inl rfl)
def f_x_deposit_27 (F : Nat)    (m : mM) : Option (Int32 × mM) := ((f_x_refuse F (-3 : Int32) m).bind fun q11 => some (q11.1, q11.2))
theorem ok_x_deposit_27 (X : mX) (d F : Nat) : ∀  (w1 : Option Value) (w2 : Option Value) (w3 : Option Value) (w4 : Option Value) (m : mM) (r : Int32) (m' : mM), f_x_deposit_27 F  m = some (r, m') → m_R X (d + 3) 76 27 [some (.ref 0), w1, w2, w3, w4] [] (SH, m) (some (.int r), (SH, m')) := by
  intro w1 w2 w3 w4 m r m' h
  unfold f_x_deposit_27 at h
  refine m_R_sg (by decide) [(.aload_n 0, 1, 0, 0, 0, 0, 0), (.bipush (-3), 2, 0, 3, 1, 0, 0)] (by decide +kernel) (show m_sgl X _ _ _ _ _ = some (30, [some (.ref 0), w1, w2, w3, w4], [.int (-3 : Int32), .ref 0], (SH, m.1, m.2)) from rfl) ?_
  obtain ⟨q11, hc11, h⟩ := Option.bind_eq_some_iff.mp h
  refine m_R_cV (v := (some (.int q11.1))) (h1 := (SH, q11.2)) (rest := []) (lo' := [some (.ref 0), some (.int (-3 : Int32))]) (ml := 2) (k0 := 0) (by decide) (Or.inl rfl) (m_opb_of (ins := .invokevirtual 76) (len := 3) (tag := 5) (a := 14) (b := 1) (c := 0) (q := 671) (by decide +kernel)) (by decide +kernel) rfl (show m_isO 14 0 (SH, _) = true from m_isO_of (by decide +kernel)) (Nat.le_of_ble_eq_true rfl) rfl rfl (ok_x_refuse X (d + 2) F _ _ _ _ hc11) ?_
  obtain ⟨rfl, rfl⟩ := m_some h
  exact m_R_iret (by decide) (m_opb_of (ins := .ireturn) (len := 1) (tag := 1) (a := 0) (b := 0) (c := 0) (q := 0) (by decide +kernel)) (Or.inl rfl)
def f_x_deposit_49 (F : Nat)    (m : mM) : Option (Int32 × mM) := ((f_x_refuse F (-5 : Int32) m).bind fun q12 => some (q12.1, q12.2))
theorem ok_x_deposit_49 (X : mX) (d F : Nat) : ∀  (w1 : Option Value) (w2 : Option Value) (w3 : Option Value) (w4 : Option Value) (m : mM) (r : Int32) (m' : mM), f_x_deposit_49 F  m = some (r, m') → m_R X (d + 3) 76 49 [some (.ref 0), w1, w2, w3, w4] [] (SH, m) (some (.int r), (SH, m')) := by
  intro w1 w2 w3 w4 m r m' h
  unfold f_x_deposit_49 at h
  refine m_R_sg (by decide) [(.aload_n 0, 1, 0, 0, 0, 0, 0), (.bipush (-5), 2, 0, 5, 1, 0, 0)] (by decide +kernel) (show m_sgl X _ _ _ _ _ = some (52, [some (.ref 0), w1, w2, w3, w4], [.int (-5 : Int32), .ref 0], (SH, m.1, m.2)) from rfl) ?_
  obtain ⟨q12, hc12, h⟩ := Option.bind_eq_some_iff.mp h
  refine m_R_cV (v := (some (.int q12.1))) (h1 := (SH, q12.2)) (rest := []) (lo' := [some (.ref 0), some (.int (-5 : Int32))]) (ml := 2) (k0 := 0) (by decide) (Or.inl rfl) (m_opb_of (ins := .invokevirtual 76) (len := 3) (tag := 5) (a := 14) (b := 1) (c := 0) (q := 671) (by decide +kernel)) (by decide +kernel) rfl (show m_isO 14 0 (SH, _) = true from m_isO_of (by decide +kernel)) (Nat.le_of_ble_eq_true rfl) rfl rfl (ok_x_refuse X (d + 2) F _ _ _ _ hc12) ?_
  obtain ⟨rfl, rfl⟩ := m_some h
  exact m_R_iret (by decide) (m_opb_of (ins := .ireturn) (len := 1) (tag := 1) (a := 0) (b := 0) (c := 0) (q := 0) (by decide +kernel)) (Or.inl rfl)
def f_x_deposit_99 (F : Nat)    (m : mM) : Option (Int32 × mM) := ((f_x_refuse F (-7 : Int32) m).bind fun q13 => some (q13.1, q13.2))
theorem ok_x_deposit_99 (X : mX) (d F : Nat) : ∀  (w1 : Option Value) (w2 : Option Value) (w3 : Option Value) (w4 : Option Value) (m : mM) (r : Int32) (m' : mM), f_x_deposit_99 F  m = some (r, m') → m_R X (d + 3) 76 99 [some (.ref 0), w1, w2, w3, w4] [] (SH, m) (some (.int r), (SH, m')) := by
  intro w1 w2 w3 w4 m r m' h
  unfold f_x_deposit_99 at h
  refine m_R_sg (by decide) [(.aload_n 0, 1, 0, 0, 0, 0, 0), (.bipush (-7), 2, 0, 7, 1, 0, 0)] (by decide +kernel) (show m_sgl X _ _ _ _ _ = some (102, [some (.ref 0), w1, w2, w3, w4], [.int (-7 : Int32), .ref 0], (SH, m.1, m.2)) from rfl) ?_
  obtain ⟨q13, hc13, h⟩ := Option.bind_eq_some_iff.mp h
  refine m_R_cV (v := (some (.int q13.1))) (h1 := (SH, q13.2)) (rest := []) (lo' := [some (.ref 0), some (.int (-7 : Int32))]) (ml := 2) (k0 := 0) (by decide) (Or.inl rfl) (m_opb_of (ins := .invokevirtual 76) (len := 3) (tag := 5) (a := 14) (b := 1) (c := 0) (q := 671) (by decide +kernel)) (by decide +kernel) rfl (show m_isO 14 0 (SH, _) = true from m_isO_of (by decide +kernel)) (Nat.le_of_ble_eq_true rfl) rfl rfl (ok_x_refuse X (d + 2) F _ _ _ _ hc13) ?_
  obtain ⟨rfl, rfl⟩ := m_some h
  exact m_R_iret (by decide) (m_opb_of (ins := .ireturn) (len := 1) (tag := 1) (a := 0) (b := 0) (c := 0) (q := 0) (by decide +kernel)) (Or.inl rfl)
def f_x_deposit (F : Nat)   (v1 : Int32) (v2 : Int32) (v3 : Int32) (m : mM) : Option (Int32 × mM) := ((f_Houses_isHouse F v1 m).bind fun q1 => (if q1.1 = 0 then f_x_deposit_27 F q1.2 else ((f_Houses_isHouse F v2 q1.2).bind fun q2 => (if q2.1 = 0 then f_x_deposit_27 F q2.2 else (if v1 = 0 then f_x_deposit_49 F q2.2 else (if v2 < 0 ∨ 16 ≤ v2.toNatClampNeg then none else (if (q2.2.1 20 v2.toNatClampNeg) = (1 : Int32) then ((f_x_isSum F v3 q2.2).bind fun q3 => (if q3.1 = 0 then f_x_deposit_99 F q3.2 else (if v1 = v2 then f_x_deposit_99 F q3.2 else ((f_Houses_isUp F v1 q3.2).bind fun q4 => (if q4.1 = 0 then f_x_deposit_99 F q4.2 else ((f_Houses_isUp F v2 q4.2).bind fun q5 => (if q5.1 = 0 then f_x_deposit_99 F q5.2 else ((f_World_houseCan F v1 v2 v3 q5.2).bind fun q6 => (if q6.1 = 0 then f_x_deposit_99 F q6.2 else ((f_Papers_isFull F q6.2).bind fun q7 => (if q7.1 = 0 then ((f_World_transfer F v1 v2 v3 q7.2).bind fun q8 => ((f_Papers_addPaper F (2 : Int32) v2 v1 v3 (-1 : Int32) q8.2).bind fun q9 => some (q9.1, q9.2))) else ((f_x_refuse F (-8 : Int32) q7.2).bind fun q10 => some (q10.1, q10.2))))))))))))) else f_x_deposit_49 F q2.2)))))))
theorem ok_x_deposit (X : mX) (d F : Nat) : ∀ (v1 : Int32) (v2 : Int32) (v3 : Int32)  (m : mM) (r : Int32) (m' : mM), f_x_deposit F v1 v2 v3 m = some (r, m') → m_R X (d + 3) 76 0 [some (.ref 0), some (.int v1), some (.int v2), some (.int v3), none] [] (SH, m) (some (.int r), (SH, m')) := by
  intro v1 v2 v3 m r m' h
  unfold f_x_deposit at h
  refine m_R_sg (by decide) [(.aload_n 0, 1, 0, 0, 0, 0, 0), (.getfield 28, 3, 0, 11, 2, 3, 632), (.getfield 95, 3, 0, 10, 1, 3, 507), (.astore 4, 2, 0, 4, 0, 0, 0), (.aload 4, 2, 0, 4, 0, 0, 0), (.iload_n 1, 1, 0, 1, 0, 0, 0)] (by decide +kernel) (show m_sgl X _ _ _ _ _ = some (12, [some (.ref 0), some (.int v1), some (.int v2), some (.int v3), some (.ref 19)], [.int v1, .ref 19], (SH, m.1, m.2)) from rfl) ?_
  obtain ⟨q1, hc1, h⟩ := Option.bind_eq_some_iff.mp h
  refine m_R_cV (v := (some (.int q1.1))) (h1 := (SH, q1.2)) (rest := []) (lo' := [some (.ref 19), some (.int v1)]) (ml := 2) (k0 := 19) (by decide) (Or.inl rfl) (m_opb_of (ins := .invokevirtual 107) (len := 3) (tag := 5) (a := 24) (b := 1) (c := 0) (q := 712) (by decide +kernel)) (by decide +kernel) rfl (show m_isO 24 19 (SH, _) = true from m_isO_of (by decide +kernel)) (Nat.le_of_ble_eq_true rfl) rfl rfl (ok_Houses_isHouse X (d + 2) F _ _ _ _ hc1) ?_
  rcases m_ite h with ⟨c653, h⟩ | ⟨c653, h⟩
  · refine m_R_1 (by decide) (m_opb_of (ins := .ifCond .eq 12) (len := 3) (tag := 0) (a := 27) (b := 0) (c := 0) (q := 0) (by decide +kernel)) (if_pos c653) ?_
    exact ok_x_deposit_27 X d F _ _ _ _ _ _ _ h
  · refine m_R_1 (by decide) (m_opb_of (ins := .ifCond .eq 12) (len := 3) (tag := 0) (a := 27) (b := 0) (c := 0) (q := 0) (by decide +kernel)) (if_neg c653) ?_
    refine m_R_sg (by decide) [(.aload 4, 2, 0, 4, 0, 0, 0), (.iload_n 2, 1, 0, 2, 0, 0, 0)] (by decide +kernel) (show m_sgl X _ _ _ _ _ = some (21, [some (.ref 0), some (.int v1), some (.int v2), some (.int v3), some (.ref 19)], [.int v2, .ref 19], (SH, q1.2.1, q1.2.2)) from rfl) ?_
    obtain ⟨q2, hc2, h⟩ := Option.bind_eq_some_iff.mp h
    refine m_R_cV (v := (some (.int q2.1))) (h1 := (SH, q2.2)) (rest := []) (lo' := [some (.ref 19), some (.int v2)]) (ml := 2) (k0 := 19) (by decide) (Or.inl rfl) (m_opb_of (ins := .invokevirtual 107) (len := 3) (tag := 5) (a := 24) (b := 1) (c := 0) (q := 712) (by decide +kernel)) (by decide +kernel) rfl (show m_isO 24 19 (SH, _) = true from m_isO_of (by decide +kernel)) (Nat.le_of_ble_eq_true rfl) rfl rfl (ok_Houses_isHouse X (d + 2) F _ _ _ _ hc2) ?_
    rcases m_ite h with ⟨c654, h⟩ | ⟨c654, h⟩
    · refine m_R_1 (by decide) (m_opb_of (ins := .ifCond .ne 10) (len := 3) (tag := 0) (a := 34) (b := 0) (c := 0) (q := 0) (by decide +kernel)) (if_pos c654) ?_
      exact ok_x_deposit_27 X d F _ _ _ _ _ _ _ h
    · refine m_R_1 (by decide) (m_opb_of (ins := .ifCond .ne 10) (len := 3) (tag := 0) (a := 34) (b := 0) (c := 0) (q := 0) (by decide +kernel)) (if_neg c654) ?_
      refine m_R_sg (by decide) [(.iload_n 1, 1, 0, 1, 0, 0, 0)] (by decide +kernel) (show m_sgl X _ _ _ _ _ = some (35, [some (.ref 0), some (.int v1), some (.int v2), some (.int v3), some (.ref 19)], [.int v1], (SH, q2.2.1, q2.2.2)) from rfl) ?_
      rcases m_ite h with ⟨c655, h⟩ | ⟨c655, h⟩
      · refine m_R_1 (by decide) (m_opb_of (ins := .ifCond .eq 14) (len := 3) (tag := 0) (a := 49) (b := 0) (c := 0) (q := 0) (by decide +kernel)) (if_pos c655) ?_
        exact ok_x_deposit_49 X d F _ _ _ _ _ _ _ h
      · refine m_R_1 (by decide) (m_opb_of (ins := .ifCond .eq 14) (len := 3) (tag := 0) (a := 49) (b := 0) (c := 0) (q := 0) (by decide +kernel)) (if_neg c655) ?_
        refine m_R_sg (by decide) [(.aload 4, 2, 0, 4, 0, 0, 0), (.getfield 116, 3, 0, 1, 0, 3, 250), (.iload_n 2, 1, 0, 2, 0, 0, 0)] (by decide +kernel) (show m_sgl X _ _ _ _ _ = some (44, [some (.ref 0), some (.int v1), some (.int v2), some (.int v3), some (.ref 19)], [.int v2, .ref 20], (SH, q2.2.1, q2.2.2)) from rfl) ?_
        obtain ⟨c656, h⟩ := m_ite_n h
        refine m_R_1 (by decide) (m_opb_of (ins := .iaload) (len := 1) (tag := 0) (a := 0) (b := 0) (c := 0) (q := 0) (by decide +kernel)) (m_s_iald sh_20 (by decide) c656) ?_
        refine m_R_sg (by decide) [(.iconst 1, 1, 0, 1, 0, 0, 0)] (by decide +kernel) (show m_sgl X _ _ _ _ _ = some (46, [some (.ref 0), some (.int v1), some (.int v2), some (.int v3), some (.ref 19)], [.int (1 : Int32), .int (q2.2.1 20 v2.toNatClampNeg)], (SH, q2.2.1, q2.2.2)) from rfl) ?_
        rcases m_ite h with ⟨c657, h⟩ | ⟨c657, h⟩
        · refine m_R_1 (by decide) (m_opb_of (ins := .if_icmp .eq 10) (len := 3) (tag := 0) (a := 56) (b := 0) (c := 0) (q := 0) (by decide +kernel)) (if_pos c657) ?_
          refine m_R_sg (by decide) [(.iload_n 3, 1, 0, 3, 0, 0, 0)] (by decide +kernel) (show m_sgl X _ _ _ _ _ = some (57, [some (.ref 0), some (.int v1), some (.int v2), some (.int v3), some (.ref 19)], [.int v3], (SH, q2.2.1, q2.2.2)) from rfl) ?_
          obtain ⟨q3, hc3, h⟩ := Option.bind_eq_some_iff.mp h
          refine m_R_cS (v := (some (.int q3.1))) (h1 := (SH, q3.2)) (rest := []) (lo' := [some (.int v3)]) (ml := 1) (by decide) (m_opb_of (ins := .invokestatic 170) (len := 3) (tag := 4) (a := 34) (b := 1) (c := 0) (q := 753) (by decide +kernel)) (by decide +kernel) (Nat.le_of_ble_eq_true rfl) rfl (Nat.le_of_ble_eq_true rfl) rfl rfl (ok_x_isSum X (d + 2) F _ _ _ _ hc3) ?_
          rcases m_ite h with ⟨c658, h⟩ | ⟨c658, h⟩
          · refine m_R_1 (by decide) (m_opb_of (ins := .ifCond .eq 39) (len := 3) (tag := 0) (a := 99) (b := 0) (c := 0) (q := 0) (by decide +kernel)) (if_pos c658) ?_
            exact ok_x_deposit_99 X d F _ _ _ _ _ _ _ h
          · refine m_R_1 (by decide) (m_opb_of (ins := .ifCond .eq 39) (len := 3) (tag := 0) (a := 99) (b := 0) (c := 0) (q := 0) (by decide +kernel)) (if_neg c658) ?_
            refine m_R_sg (by decide) [(.iload_n 1, 1, 0, 1, 0, 0, 0), (.iload_n 2, 1, 0, 2, 0, 0, 0)] (by decide +kernel) (show m_sgl X _ _ _ _ _ = some (65, [some (.ref 0), some (.int v1), some (.int v2), some (.int v3), some (.ref 19)], [.int v2, .int v1], (SH, q3.2.1, q3.2.2)) from rfl) ?_
            rcases m_ite h with ⟨c659, h⟩ | ⟨c659, h⟩
            · refine m_R_1 (by decide) (m_opb_of (ins := .if_icmp .eq 34) (len := 3) (tag := 0) (a := 99) (b := 0) (c := 0) (q := 0) (by decide +kernel)) (if_pos c659) ?_
              exact ok_x_deposit_99 X d F _ _ _ _ _ _ _ h
            · refine m_R_1 (by decide) (m_opb_of (ins := .if_icmp .eq 34) (len := 3) (tag := 0) (a := 99) (b := 0) (c := 0) (q := 0) (by decide +kernel)) (if_neg c659) ?_
              refine m_R_sg (by decide) [(.aload 4, 2, 0, 4, 0, 0, 0), (.iload_n 1, 1, 0, 1, 0, 0, 0)] (by decide +kernel) (show m_sgl X _ _ _ _ _ = some (71, [some (.ref 0), some (.int v1), some (.int v2), some (.int v3), some (.ref 19)], [.int v1, .ref 19], (SH, q3.2.1, q3.2.2)) from rfl) ?_
              obtain ⟨q4, hc4, h⟩ := Option.bind_eq_some_iff.mp h
              refine m_R_cV (v := (some (.int q4.1))) (h1 := (SH, q4.2)) (rest := []) (lo' := [some (.ref 19), some (.int v1)]) (ml := 2) (k0 := 19) (by decide) (Or.inl rfl) (m_opb_of (ins := .invokevirtual 110) (len := 3) (tag := 5) (a := 25) (b := 1) (c := 0) (q := 716) (by decide +kernel)) (by decide +kernel) rfl (show m_isO 25 19 (SH, _) = true from m_isO_of (by decide +kernel)) (Nat.le_of_ble_eq_true rfl) rfl rfl (ok_Houses_isUp X (d + 1) F _ _ _ _ hc4) ?_
              rcases m_ite h with ⟨c660, h⟩ | ⟨c660, h⟩
              · refine m_R_1 (by decide) (m_opb_of (ins := .ifCond .eq 25) (len := 3) (tag := 0) (a := 99) (b := 0) (c := 0) (q := 0) (by decide +kernel)) (if_pos c660) ?_
                exact ok_x_deposit_99 X d F _ _ _ _ _ _ _ h
              · refine m_R_1 (by decide) (m_opb_of (ins := .ifCond .eq 25) (len := 3) (tag := 0) (a := 99) (b := 0) (c := 0) (q := 0) (by decide +kernel)) (if_neg c660) ?_
                refine m_R_sg (by decide) [(.aload 4, 2, 0, 4, 0, 0, 0), (.iload_n 2, 1, 0, 2, 0, 0, 0)] (by decide +kernel) (show m_sgl X _ _ _ _ _ = some (80, [some (.ref 0), some (.int v1), some (.int v2), some (.int v3), some (.ref 19)], [.int v2, .ref 19], (SH, q4.2.1, q4.2.2)) from rfl) ?_
                obtain ⟨q5, hc5, h⟩ := Option.bind_eq_some_iff.mp h
                refine m_R_cV (v := (some (.int q5.1))) (h1 := (SH, q5.2)) (rest := []) (lo' := [some (.ref 19), some (.int v2)]) (ml := 2) (k0 := 19) (by decide) (Or.inl rfl) (m_opb_of (ins := .invokevirtual 110) (len := 3) (tag := 5) (a := 25) (b := 1) (c := 0) (q := 716) (by decide +kernel)) (by decide +kernel) rfl (show m_isO 25 19 (SH, _) = true from m_isO_of (by decide +kernel)) (Nat.le_of_ble_eq_true rfl) rfl rfl (ok_Houses_isUp X (d + 1) F _ _ _ _ hc5) ?_
                rcases m_ite h with ⟨c661, h⟩ | ⟨c661, h⟩
                · refine m_R_1 (by decide) (m_opb_of (ins := .ifCond .eq 16) (len := 3) (tag := 0) (a := 99) (b := 0) (c := 0) (q := 0) (by decide +kernel)) (if_pos c661) ?_
                  exact ok_x_deposit_99 X d F _ _ _ _ _ _ _ h
                · refine m_R_1 (by decide) (m_opb_of (ins := .ifCond .eq 16) (len := 3) (tag := 0) (a := 99) (b := 0) (c := 0) (q := 0) (by decide +kernel)) (if_neg c661) ?_
                  refine m_R_sg (by decide) [(.aload_n 0, 1, 0, 0, 0, 0, 0), (.getfield 28, 3, 0, 11, 2, 3, 632), (.iload_n 1, 1, 0, 1, 0, 0, 0), (.iload_n 2, 1, 0, 2, 0, 0, 0), (.iload_n 3, 1, 0, 3, 0, 0, 0)] (by decide +kernel) (show m_sgl X _ _ _ _ _ = some (93, [some (.ref 0), some (.int v1), some (.int v2), some (.int v3), some (.ref 19)], [.int v3, .int v2, .int v1, .ref 16], (SH, q5.2.1, q5.2.2)) from rfl) ?_
                  obtain ⟨q6, hc6, h⟩ := Option.bind_eq_some_iff.mp h
                  refine m_R_cV (v := (some (.int q6.1))) (h1 := (SH, q6.2)) (rest := []) (lo' := [some (.ref 16), some (.int v1), some (.int v2), some (.int v3), none]) (ml := 5) (k0 := 16) (by decide) (Or.inl rfl) (m_opb_of (ins := .invokevirtual 236) (len := 3) (tag := 5) (a := 48) (b := 3) (c := 0) (q := 922) (by decide +kernel)) (by decide +kernel) rfl (show m_isO 48 16 (SH, _) = true from m_isO_of (by decide +kernel)) (Nat.le_of_ble_eq_true rfl) rfl rfl (ok_World_houseCan X (d + 1) F _ _ _ _ _ _ hc6) ?_
                  rcases m_ite h with ⟨c662, h⟩ | ⟨c662, h⟩
                  · refine m_R_1 (by decide) (m_opb_of (ins := .ifCond .ne 10) (len := 3) (tag := 0) (a := 106) (b := 0) (c := 0) (q := 0) (by decide +kernel)) (if_pos c662) ?_
                    exact ok_x_deposit_99 X d F _ _ _ _ _ _ _ h
                  · refine m_R_1 (by decide) (m_opb_of (ins := .ifCond .ne 10) (len := 3) (tag := 0) (a := 106) (b := 0) (c := 0) (q := 0) (by decide +kernel)) (if_neg c662) ?_
                    refine m_R_sg (by decide) [(.aload_n 0, 1, 0, 0, 0, 0, 0), (.getfield 28, 3, 0, 11, 2, 3, 632), (.getfield 146, 3, 0, 10, 2, 3, 510)] (by decide +kernel) (show m_sgl X _ _ _ _ _ = some (113, [some (.ref 0), some (.int v1), some (.int v2), some (.int v3), some (.ref 19)], [.ref 31], (SH, q6.2.1, q6.2.2)) from rfl) ?_
                    obtain ⟨q7, hc7, h⟩ := Option.bind_eq_some_iff.mp h
                    refine m_R_cV (v := (some (.int q7.1))) (h1 := (SH, q7.2)) (rest := []) (lo' := [some (.ref 31)]) (ml := 1) (k0 := 31) (by decide) (Or.inl rfl) (m_opb_of (ins := .invokevirtual 239) (len := 3) (tag := 5) (a := 73) (b := 0) (c := 0) (q := 905) (by decide +kernel)) (by decide +kernel) rfl (show m_isO 73 31 (SH, _) = true from m_isO_of (by decide +kernel)) (Nat.le_of_ble_eq_true rfl) rfl rfl (ok_Papers_isFull X (d + 2) F _ _ _ hc7) ?_
                    rcases m_ite h with ⟨c663, h⟩ | ⟨c663, h⟩
                    · refine m_R_1 (by decide) (m_opb_of (ins := .ifCond .eq 10) (len := 3) (tag := 0) (a := 126) (b := 0) (c := 0) (q := 0) (by decide +kernel)) (if_pos c663) ?_
                      refine m_R_sg (by decide) [(.aload_n 0, 1, 0, 0, 0, 0, 0), (.getfield 28, 3, 0, 11, 2, 3, 632), (.iload_n 1, 1, 0, 1, 0, 0, 0), (.iload_n 2, 1, 0, 2, 0, 0, 0), (.iload_n 3, 1, 0, 3, 0, 0, 0)] (by decide +kernel) (show m_sgl X _ _ _ _ _ = some (133, [some (.ref 0), some (.int v1), some (.int v2), some (.int v3), some (.ref 19)], [.int v3, .int v2, .int v1, .ref 16], (SH, q7.2.1, q7.2.2)) from rfl) ?_
                      obtain ⟨q8, hc8, h⟩ := Option.bind_eq_some_iff.mp h
                      refine m_R_cV (v := none) (h1 := (SH, q8.2)) (rest := []) (lo' := [some (.ref 16), some (.int v1), some (.int v2), some (.int v3), none]) (ml := 5) (k0 := 16) (by decide) (Or.inl rfl) (m_opb_of (ins := .invokevirtual 177) (len := 3) (tag := 5) (a := 51) (b := 3) (c := 0) (q := 816) (by decide +kernel)) (by decide +kernel) rfl (show m_isO 51 16 (SH, _) = true from m_isO_of (by decide +kernel)) (Nat.le_of_ble_eq_true rfl) rfl rfl (ok_World_transfer X (d + 0) F _ _ _ _ _ _ hc8) ?_
                      refine m_R_sg (by decide) [(.aload_n 0, 1, 0, 0, 0, 0, 0), (.getfield 28, 3, 0, 11, 2, 3, 632), (.getfield 146, 3, 0, 10, 2, 3, 510), (.iconst 2, 1, 0, 2, 0, 0, 0), (.iload_n 2, 1, 0, 2, 0, 0, 0), (.iload_n 1, 1, 0, 1, 0, 0, 0), (.iload_n 3, 1, 0, 3, 0, 0, 0), (.iconst (-1), 1, 0, 1, 1, 0, 0)] (by decide +kernel) (show m_sgl X _ _ _ _ _ = some (148, [some (.ref 0), some (.int v1), some (.int v2), some (.int v3), some (.ref 19)], [.int (-1 : Int32), .int v3, .int v1, .int v2, .int (2 : Int32), .ref 31], (SH, q8.2.1, q8.2.2)) from rfl) ?_
                      obtain ⟨q9, hc9, h⟩ := Option.bind_eq_some_iff.mp h
                      refine m_R_cV (v := (some (.int q9.1))) (h1 := (SH, q9.2)) (rest := []) (lo' := [some (.ref 31), some (.int (2 : Int32)), some (.int v2), some (.int v1), some (.int v3), some (.int (-1 : Int32)), none]) (ml := 7) (k0 := 31) (by decide) (Or.inl rfl) (m_opb_of (ins := .invokevirtual 243) (len := 3) (tag := 5) (a := 74) (b := 5) (c := 0) (q := 909) (by decide +kernel)) (by decide +kernel) rfl (show m_isO 74 31 (SH, _) = true from m_isO_of (by decide +kernel)) (Nat.le_of_ble_eq_true rfl) rfl rfl (ok_Papers_addPaper X (d + 1) F _ _ _ _ _ _ _ _ hc9) ?_
                      obtain ⟨rfl, rfl⟩ := m_some h
                      exact m_R_iret (by decide) (m_opb_of (ins := .ireturn) (len := 1) (tag := 1) (a := 0) (b := 0) (c := 0) (q := 0) (by decide +kernel)) (Or.inl rfl)
                    · refine m_R_1 (by decide) (m_opb_of (ins := .ifCond .eq 10) (len := 3) (tag := 0) (a := 126) (b := 0) (c := 0) (q := 0) (by decide +kernel)) (if_neg c663) ?_
                      refine m_R_sg (by decide) [(.aload_n 0, 1, 0, 0, 0, 0, 0), (.bipush (-8), 2, 0, 8, 1, 0, 0)] (by decide +kernel) (show m_sgl X _ _ _ _ _ = some (122, [some (.ref 0), some (.int v1), some (.int v2), some (.int v3), some (.ref 19)], [.int (-8 : Int32), .ref 0], (SH, q7.2.1, q7.2.2)) from rfl) ?_
                      obtain ⟨q10, hc10, h⟩ := Option.bind_eq_some_iff.mp h
                      refine m_R_cV (v := (some (.int q10.1))) (h1 := (SH, q10.2)) (rest := []) (lo' := [some (.ref 0), some (.int (-8 : Int32))]) (ml := 2) (k0 := 0) (by decide) (Or.inl rfl) (m_opb_of (ins := .invokevirtual 76) (len := 3) (tag := 5) (a := 14) (b := 1) (c := 0) (q := 671) (by decide +kernel)) (by decide +kernel) rfl (show m_isO 14 0 (SH, _) = true from m_isO_of (by decide +kernel)) (Nat.le_of_ble_eq_true rfl) rfl rfl (ok_x_refuse X (d + 2) F _ _ _ _ hc10) ?_
                      obtain ⟨rfl, rfl⟩ := m_some h
                      exact m_R_iret (by decide) (m_opb_of (ins := .ireturn) (len := 1) (tag := 1) (a := 0) (b := 0) (c := 0) (q := 0) (by decide +kernel)) (Or.inl rfl)
        · refine m_R_1 (by decide) (m_opb_of (ins := .if_icmp .eq 10) (len := 3) (tag := 0) (a := 56) (b := 0) (c := 0) (q := 0) (by decide +kernel)) (if_neg c657) ?_
          exact ok_x_deposit_49 X d F _ _ _ _ _ _ _ h
def f_m_deposit_16 (F : Nat)    (m : mM) : Option (Int32 × mM) := ((f_m_refuse F (-3 : Int32) m).bind fun q12 => some (q12.1, q12.2))
theorem ok_m_deposit_16 (X : mX) (d F : Nat) : ∀  (w1 : Option Value) (w2 : Option Value) (w3 : Option Value) (m : mM) (r : Int32) (m' : mM), f_m_deposit_16 F  m = some (r, m') → m_R X (d + 72) 270 16 [some (.ref 304), w1, w2, w3] [] (SH, m) (some (.int r), (SH, m')) := by
  intro w1 w2 w3 m r m' h
  unfold f_m_deposit_16 at h
  refine m_R_sg (by decide) [(.aload_n 0, 1, 0, 0, 0, 0, 0), (.bipush (-3), 2, 0, 3, 1, 0, 0)] (by decide +kernel) (show m_sgl X _ _ _ _ _ = some (19, [some (.ref 304), w1, w2, w3], [.int (-3 : Int32), .ref 304], (SH, m.1, m.2)) from rfl) ?_
  obtain ⟨q12, hc12, h⟩ := Option.bind_eq_some_iff.mp h
  refine m_R_cV (v := (some (.int q12.1))) (h1 := (SH, q12.2)) (rest := []) (lo' := [some (.ref 304), some (.int (-3 : Int32))]) (ml := 2) (k0 := 304) (by decide) (Or.inl rfl) (m_opb_of (ins := .invokevirtual 61) (len := 3) (tag := 5) (a := 202) (b := 1) (c := 0) (q := 1593) (by decide +kernel)) (by decide +kernel) rfl (show m_isO 202 304 (SH, _) = true from m_isO_of (by decide +kernel)) (Nat.le_of_ble_eq_true rfl) rfl rfl (ok_m_refuse X (d + 71) F _ _ _ _ hc12) ?_
  obtain ⟨rfl, rfl⟩ := m_some h
  exact m_R_iret (by decide) (m_opb_of (ins := .ireturn) (len := 1) (tag := 1) (a := 0) (b := 0) (c := 0) (q := 0) (by decide +kernel)) (Or.inl rfl)
def f_m_deposit_37 (F : Nat)    (m : mM) : Option (Int32 × mM) := ((f_m_refuse F (-5 : Int32) m).bind fun q13 => some (q13.1, q13.2))
theorem ok_m_deposit_37 (X : mX) (d F : Nat) : ∀  (w1 : Option Value) (w2 : Option Value) (w3 : Option Value) (m : mM) (r : Int32) (m' : mM), f_m_deposit_37 F  m = some (r, m') → m_R X (d + 72) 270 37 [some (.ref 304), w1, w2, w3] [] (SH, m) (some (.int r), (SH, m')) := by
  intro w1 w2 w3 m r m' h
  unfold f_m_deposit_37 at h
  refine m_R_sg (by decide) [(.aload_n 0, 1, 0, 0, 0, 0, 0), (.bipush (-5), 2, 0, 5, 1, 0, 0)] (by decide +kernel) (show m_sgl X _ _ _ _ _ = some (40, [some (.ref 304), w1, w2, w3], [.int (-5 : Int32), .ref 304], (SH, m.1, m.2)) from rfl) ?_
  obtain ⟨q13, hc13, h⟩ := Option.bind_eq_some_iff.mp h
  refine m_R_cV (v := (some (.int q13.1))) (h1 := (SH, q13.2)) (rest := []) (lo' := [some (.ref 304), some (.int (-5 : Int32))]) (ml := 2) (k0 := 304) (by decide) (Or.inl rfl) (m_opb_of (ins := .invokevirtual 61) (len := 3) (tag := 5) (a := 202) (b := 1) (c := 0) (q := 1593) (by decide +kernel)) (by decide +kernel) rfl (show m_isO 202 304 (SH, _) = true from m_isO_of (by decide +kernel)) (Nat.le_of_ble_eq_true rfl) rfl rfl (ok_m_refuse X (d + 71) F _ _ _ _ hc13) ?_
  obtain ⟨rfl, rfl⟩ := m_some h
  exact m_R_iret (by decide) (m_opb_of (ins := .ireturn) (len := 1) (tag := 1) (a := 0) (b := 0) (c := 0) (q := 0) (by decide +kernel)) (Or.inl rfl)
def f_m_deposit_86 (F : Nat)    (m : mM) : Option (Int32 × mM) := ((f_m_refuse F (-7 : Int32) m).bind fun q14 => some (q14.1, q14.2))
theorem ok_m_deposit_86 (X : mX) (d F : Nat) : ∀  (w1 : Option Value) (w2 : Option Value) (w3 : Option Value) (m : mM) (r : Int32) (m' : mM), f_m_deposit_86 F  m = some (r, m') → m_R X (d + 72) 270 86 [some (.ref 304), w1, w2, w3] [] (SH, m) (some (.int r), (SH, m')) := by
  intro w1 w2 w3 m r m' h
  unfold f_m_deposit_86 at h
  refine m_R_sg (by decide) [(.aload_n 0, 1, 0, 0, 0, 0, 0), (.bipush (-7), 2, 0, 7, 1, 0, 0)] (by decide +kernel) (show m_sgl X _ _ _ _ _ = some (89, [some (.ref 304), w1, w2, w3], [.int (-7 : Int32), .ref 304], (SH, m.1, m.2)) from rfl) ?_
  obtain ⟨q14, hc14, h⟩ := Option.bind_eq_some_iff.mp h
  refine m_R_cV (v := (some (.int q14.1))) (h1 := (SH, q14.2)) (rest := []) (lo' := [some (.ref 304), some (.int (-7 : Int32))]) (ml := 2) (k0 := 304) (by decide) (Or.inl rfl) (m_opb_of (ins := .invokevirtual 61) (len := 3) (tag := 5) (a := 202) (b := 1) (c := 0) (q := 1593) (by decide +kernel)) (by decide +kernel) rfl (show m_isO 202 304 (SH, _) = true from m_isO_of (by decide +kernel)) (Nat.le_of_ble_eq_true rfl) rfl rfl (ok_m_refuse X (d + 71) F _ _ _ _ hc14) ?_
  obtain ⟨rfl, rfl⟩ := m_some h
  exact m_R_iret (by decide) (m_opb_of (ins := .ireturn) (len := 1) (tag := 1) (a := 0) (b := 0) (c := 0) (q := 0) (by decide +kernel)) (Or.inl rfl)
def f_m_deposit (F : Nat)   (v1 : Int32) (v2 : Int32) (v3 : Int32) (m : mM) : Option (Int32 × mM) := ((f_m_isHouse F v1 m).bind fun q1 => (if q1.1 = 0 then f_m_deposit_16 F q1.2 else ((f_m_isHouse F v2 q1.2).bind fun q2 => (if q2.1 = 0 then f_m_deposit_16 F q2.2 else (if v1 = 0 then f_m_deposit_37 F q2.2 else ((f_m_hs F v2 (0 : Int32) q2.2).bind fun q3 => (if q3.1 = (1 : Int32) then ((f_m_in F v3 (1 : Int32) (9999 : Int32) q3.2).bind fun q4 => (if q4.1 = 0 then f_m_deposit_86 F q4.2 else (if v1 = v2 then f_m_deposit_86 F q4.2 else ((f_m_isUp F v1 q4.2).bind fun q5 => (if q5.1 = 0 then f_m_deposit_86 F q5.2 else ((f_m_isUp F v2 q5.2).bind fun q6 => (if q6.1 = 0 then f_m_deposit_86 F q6.2 else ((f_m_can F v1 v2 v3 q6.2).bind fun q7 => (if q7.1 = 0 then f_m_deposit_86 F q7.2 else ((f_m_free F q7.2).bind fun q8 => (if q8.1 = (60 : Int32) then ((f_m_refuse F (-8 : Int32) q8.2).bind fun q9 => some (q9.1, q9.2)) else ((f_m_gives F v1 v2 v3 q8.2).bind fun q10 => ((f_m_makes F (2 : Int32) v3 v2 v1 (-1 : Int32) q10.2).bind fun q11 => some (q11.1, q11.2)))))))))))))) else f_m_deposit_37 F q3.2)))))))
theorem ok_m_deposit (X : mX) (d F : Nat) : ∀ (v1 : Int32) (v2 : Int32) (v3 : Int32)  (m : mM) (r : Int32) (m' : mM), f_m_deposit F v1 v2 v3 m = some (r, m') → m_R X (d + 72) 270 0 [some (.ref 304), some (.int v1), some (.int v2), some (.int v3)] [] (SH, m) (some (.int r), (SH, m')) := by
  intro v1 v2 v3 m r m' h
  unfold f_m_deposit at h
  refine m_R_sg (by decide) [(.aload_n 0, 1, 0, 0, 0, 0, 0), (.iload_n 1, 1, 0, 1, 0, 0, 0)] (by decide +kernel) (show m_sgl X _ _ _ _ _ = some (2, [some (.ref 304), some (.int v1), some (.int v2), some (.int v3)], [.int v1, .ref 304], (SH, m.1, m.2)) from rfl) ?_
  obtain ⟨q1, hc1, h⟩ := Option.bind_eq_some_iff.mp h
  refine m_R_cV (v := (some (.int q1.1))) (h1 := (SH, q1.2)) (rest := []) (lo' := [some (.ref 304), some (.int v1)]) (ml := 2) (k0 := 304) (by decide) (Or.inl rfl) (m_opb_of (ins := .invokevirtual 77) (len := 3) (tag := 5) (a := 210) (b := 1) (c := 0) (q := 1625) (by decide +kernel)) (by decide +kernel) rfl (show m_isO 210 304 (SH, _) = true from m_isO_of (by decide +kernel)) (Nat.le_of_ble_eq_true rfl) rfl rfl (ok_m_isHouse X (d + 70) F _ _ _ _ hc1) ?_
  rcases m_ite h with ⟨c664, h⟩ | ⟨c664, h⟩
  · refine m_R_1 (by decide) (m_opb_of (ins := .ifCond .eq 11) (len := 3) (tag := 0) (a := 16) (b := 0) (c := 0) (q := 0) (by decide +kernel)) (if_pos c664) ?_
    exact ok_m_deposit_16 X d F _ _ _ _ _ _ h
  · refine m_R_1 (by decide) (m_opb_of (ins := .ifCond .eq 11) (len := 3) (tag := 0) (a := 16) (b := 0) (c := 0) (q := 0) (by decide +kernel)) (if_neg c664) ?_
    refine m_R_sg (by decide) [(.aload_n 0, 1, 0, 0, 0, 0, 0), (.iload_n 2, 1, 0, 2, 0, 0, 0)] (by decide +kernel) (show m_sgl X _ _ _ _ _ = some (10, [some (.ref 304), some (.int v1), some (.int v2), some (.int v3)], [.int v2, .ref 304], (SH, q1.2.1, q1.2.2)) from rfl) ?_
    obtain ⟨q2, hc2, h⟩ := Option.bind_eq_some_iff.mp h
    refine m_R_cV (v := (some (.int q2.1))) (h1 := (SH, q2.2)) (rest := []) (lo' := [some (.ref 304), some (.int v2)]) (ml := 2) (k0 := 304) (by decide) (Or.inl rfl) (m_opb_of (ins := .invokevirtual 77) (len := 3) (tag := 5) (a := 210) (b := 1) (c := 0) (q := 1625) (by decide +kernel)) (by decide +kernel) rfl (show m_isO 210 304 (SH, _) = true from m_isO_of (by decide +kernel)) (Nat.le_of_ble_eq_true rfl) rfl rfl (ok_m_isHouse X (d + 70) F _ _ _ _ hc2) ?_
    rcases m_ite h with ⟨c665, h⟩ | ⟨c665, h⟩
    · refine m_R_1 (by decide) (m_opb_of (ins := .ifCond .ne 10) (len := 3) (tag := 0) (a := 23) (b := 0) (c := 0) (q := 0) (by decide +kernel)) (if_pos c665) ?_
      exact ok_m_deposit_16 X d F _ _ _ _ _ _ h
    · refine m_R_1 (by decide) (m_opb_of (ins := .ifCond .ne 10) (len := 3) (tag := 0) (a := 23) (b := 0) (c := 0) (q := 0) (by decide +kernel)) (if_neg c665) ?_
      refine m_R_sg (by decide) [(.iload_n 1, 1, 0, 1, 0, 0, 0)] (by decide +kernel) (show m_sgl X _ _ _ _ _ = some (24, [some (.ref 304), some (.int v1), some (.int v2), some (.int v3)], [.int v1], (SH, q2.2.1, q2.2.2)) from rfl) ?_
      rcases m_ite h with ⟨c666, h⟩ | ⟨c666, h⟩
      · refine m_R_1 (by decide) (m_opb_of (ins := .ifCond .eq 13) (len := 3) (tag := 0) (a := 37) (b := 0) (c := 0) (q := 0) (by decide +kernel)) (if_pos c666) ?_
        exact ok_m_deposit_37 X d F _ _ _ _ _ _ h
      · refine m_R_1 (by decide) (m_opb_of (ins := .ifCond .eq 13) (len := 3) (tag := 0) (a := 37) (b := 0) (c := 0) (q := 0) (by decide +kernel)) (if_neg c666) ?_
        refine m_R_sg (by decide) [(.aload_n 0, 1, 0, 0, 0, 0, 0), (.iload_n 2, 1, 0, 2, 0, 0, 0), (.iconst 0, 1, 0, 0, 0, 0, 0)] (by decide +kernel) (show m_sgl X _ _ _ _ _ = some (30, [some (.ref 304), some (.int v1), some (.int v2), some (.int v3)], [.int (0 : Int32), .int v2, .ref 304], (SH, q2.2.1, q2.2.2)) from rfl) ?_
        obtain ⟨q3, hc3, h⟩ := Option.bind_eq_some_iff.mp h
        refine m_R_cV (v := (some (.int q3.1))) (h1 := (SH, q3.2)) (rest := []) (lo' := [some (.ref 304), some (.int v2), some (.int (0 : Int32))]) (ml := 3) (k0 := 304) (by decide) (Or.inl rfl) (m_opb_of (ins := .invokevirtual 65) (len := 3) (tag := 5) (a := 212) (b := 2) (c := 0) (q := 1633) (by decide +kernel)) (by decide +kernel) rfl (show m_isO 212 304 (SH, _) = true from m_isO_of (by decide +kernel)) (Nat.le_of_ble_eq_true rfl) rfl rfl (ok_m_hs X (d + 71) F _ _ _ _ _ hc3) ?_
        refine m_R_sg (by decide) [(.iconst 1, 1, 0, 1, 0, 0, 0)] (by decide +kernel) (show m_sgl X _ _ _ _ _ = some (34, [some (.ref 304), some (.int v1), some (.int v2), some (.int v3)], [.int (1 : Int32), .int q3.1], (SH, q3.2.1, q3.2.2)) from rfl) ?_
        rcases m_ite h with ⟨c667, h⟩ | ⟨c667, h⟩
        · refine m_R_1 (by decide) (m_opb_of (ins := .if_icmp .eq 10) (len := 3) (tag := 0) (a := 44) (b := 0) (c := 0) (q := 0) (by decide +kernel)) (if_pos c667) ?_
          refine m_R_sg (by decide) [(.iload_n 3, 1, 0, 3, 0, 0, 0), (.iconst 1, 1, 0, 1, 0, 0, 0), (.sipush 9999, 3, 0, 9999, 0, 0, 0)] (by decide +kernel) (show m_sgl X _ _ _ _ _ = some (49, [some (.ref 304), some (.int v1), some (.int v2), some (.int v3)], [.int (9999 : Int32), .int (1 : Int32), .int v3], (SH, q3.2.1, q3.2.2)) from rfl) ?_
          obtain ⟨q4, hc4, h⟩ := Option.bind_eq_some_iff.mp h
          refine m_R_cS (v := (some (.int q4.1))) (h1 := (SH, q4.2)) (rest := []) (lo' := [some (.int v3), some (.int (1 : Int32)), some (.int (9999 : Int32))]) (ml := 3) (by decide) (m_opb_of (ins := .invokestatic 57) (len := 3) (tag := 4) (a := 201) (b := 3) (c := 0) (q := 1590) (by decide +kernel)) (by decide +kernel) (Nat.le_of_ble_eq_true rfl) rfl (Nat.le_of_ble_eq_true rfl) rfl rfl (ok_m_in X (d + 71) F _ _ _ _ _ _ hc4) ?_
          rcases m_ite h with ⟨c668, h⟩ | ⟨c668, h⟩
          · refine m_R_1 (by decide) (m_opb_of (ins := .ifCond .eq 34) (len := 3) (tag := 0) (a := 86) (b := 0) (c := 0) (q := 0) (by decide +kernel)) (if_pos c668) ?_
            exact ok_m_deposit_86 X d F _ _ _ _ _ _ h
          · refine m_R_1 (by decide) (m_opb_of (ins := .ifCond .eq 34) (len := 3) (tag := 0) (a := 86) (b := 0) (c := 0) (q := 0) (by decide +kernel)) (if_neg c668) ?_
            refine m_R_sg (by decide) [(.iload_n 1, 1, 0, 1, 0, 0, 0), (.iload_n 2, 1, 0, 2, 0, 0, 0)] (by decide +kernel) (show m_sgl X _ _ _ _ _ = some (57, [some (.ref 304), some (.int v1), some (.int v2), some (.int v3)], [.int v2, .int v1], (SH, q4.2.1, q4.2.2)) from rfl) ?_
            rcases m_ite h with ⟨c669, h⟩ | ⟨c669, h⟩
            · refine m_R_1 (by decide) (m_opb_of (ins := .if_icmp .eq 29) (len := 3) (tag := 0) (a := 86) (b := 0) (c := 0) (q := 0) (by decide +kernel)) (if_pos c669) ?_
              exact ok_m_deposit_86 X d F _ _ _ _ _ _ h
            · refine m_R_1 (by decide) (m_opb_of (ins := .if_icmp .eq 29) (len := 3) (tag := 0) (a := 86) (b := 0) (c := 0) (q := 0) (by decide +kernel)) (if_neg c669) ?_
              refine m_R_sg (by decide) [(.aload_n 0, 1, 0, 0, 0, 0, 0), (.iload_n 1, 1, 0, 1, 0, 0, 0)] (by decide +kernel) (show m_sgl X _ _ _ _ _ = some (62, [some (.ref 304), some (.int v1), some (.int v2), some (.int v3)], [.int v1, .ref 304], (SH, q4.2.1, q4.2.2)) from rfl) ?_
              obtain ⟨q5, hc5, h⟩ := Option.bind_eq_some_iff.mp h
              refine m_R_cV (v := (some (.int q5.1))) (h1 := (SH, q5.2)) (rest := []) (lo' := [some (.ref 304), some (.int v1)]) (ml := 2) (k0 := 304) (by decide) (Or.inl rfl) (m_opb_of (ins := .invokevirtual 80) (len := 3) (tag := 5) (a := 211) (b := 1) (c := 0) (q := 1629) (by decide +kernel)) (by decide +kernel) rfl (show m_isO 211 304 (SH, _) = true from m_isO_of (by decide +kernel)) (Nat.le_of_ble_eq_true rfl) rfl rfl (ok_m_isUp X (d + 70) F _ _ _ _ hc5) ?_
              rcases m_ite h with ⟨c670, h⟩ | ⟨c670, h⟩
              · refine m_R_1 (by decide) (m_opb_of (ins := .ifCond .eq 21) (len := 3) (tag := 0) (a := 86) (b := 0) (c := 0) (q := 0) (by decide +kernel)) (if_pos c670) ?_
                exact ok_m_deposit_86 X d F _ _ _ _ _ _ h
              · refine m_R_1 (by decide) (m_opb_of (ins := .ifCond .eq 21) (len := 3) (tag := 0) (a := 86) (b := 0) (c := 0) (q := 0) (by decide +kernel)) (if_neg c670) ?_
                refine m_R_sg (by decide) [(.aload_n 0, 1, 0, 0, 0, 0, 0), (.iload_n 2, 1, 0, 2, 0, 0, 0)] (by decide +kernel) (show m_sgl X _ _ _ _ _ = some (70, [some (.ref 304), some (.int v1), some (.int v2), some (.int v3)], [.int v2, .ref 304], (SH, q5.2.1, q5.2.2)) from rfl) ?_
                obtain ⟨q6, hc6, h⟩ := Option.bind_eq_some_iff.mp h
                refine m_R_cV (v := (some (.int q6.1))) (h1 := (SH, q6.2)) (rest := []) (lo' := [some (.ref 304), some (.int v2)]) (ml := 2) (k0 := 304) (by decide) (Or.inl rfl) (m_opb_of (ins := .invokevirtual 80) (len := 3) (tag := 5) (a := 211) (b := 1) (c := 0) (q := 1629) (by decide +kernel)) (by decide +kernel) rfl (show m_isO 211 304 (SH, _) = true from m_isO_of (by decide +kernel)) (Nat.le_of_ble_eq_true rfl) rfl rfl (ok_m_isUp X (d + 70) F _ _ _ _ hc6) ?_
                rcases m_ite h with ⟨c671, h⟩ | ⟨c671, h⟩
                · refine m_R_1 (by decide) (m_opb_of (ins := .ifCond .eq 13) (len := 3) (tag := 0) (a := 86) (b := 0) (c := 0) (q := 0) (by decide +kernel)) (if_pos c671) ?_
                  exact ok_m_deposit_86 X d F _ _ _ _ _ _ h
                · refine m_R_1 (by decide) (m_opb_of (ins := .ifCond .eq 13) (len := 3) (tag := 0) (a := 86) (b := 0) (c := 0) (q := 0) (by decide +kernel)) (if_neg c671) ?_
                  refine m_R_sg (by decide) [(.aload_n 0, 1, 0, 0, 0, 0, 0), (.iload_n 1, 1, 0, 1, 0, 0, 0), (.iload_n 2, 1, 0, 2, 0, 0, 0), (.iload_n 3, 1, 0, 3, 0, 0, 0)] (by decide +kernel) (show m_sgl X _ _ _ _ _ = some (80, [some (.ref 304), some (.int v1), some (.int v2), some (.int v3)], [.int v3, .int v2, .int v1, .ref 304], (SH, q6.2.1, q6.2.2)) from rfl) ?_
                  obtain ⟨q7, hc7, h⟩ := Option.bind_eq_some_iff.mp h
                  refine m_R_cV (v := (some (.int q7.1))) (h1 := (SH, q7.2)) (rest := []) (lo' := [some (.ref 304), some (.int v1), some (.int v2), some (.int v3), none, none, none]) (ml := 7) (k0 := 304) (by decide) (Or.inl rfl) (m_opb_of (ins := .invokevirtual 144) (len := 3) (tag := 5) (a := 221) (b := 3) (c := 0) (q := 1669) (by decide +kernel)) (by decide +kernel) rfl (show m_isO 221 304 (SH, _) = true from m_isO_of (by decide +kernel)) (Nat.le_of_ble_eq_true rfl) rfl rfl (ok_m_can X (d + 0) F _ _ _ _ _ _ hc7) ?_
                  rcases m_ite h with ⟨c672, h⟩ | ⟨c672, h⟩
                  · refine m_R_1 (by decide) (m_opb_of (ins := .ifCond .ne 10) (len := 3) (tag := 0) (a := 93) (b := 0) (c := 0) (q := 0) (by decide +kernel)) (if_pos c672) ?_
                    exact ok_m_deposit_86 X d F _ _ _ _ _ _ h
                  · refine m_R_1 (by decide) (m_opb_of (ins := .ifCond .ne 10) (len := 3) (tag := 0) (a := 93) (b := 0) (c := 0) (q := 0) (by decide +kernel)) (if_neg c672) ?_
                    refine m_R_sg (by decide) [(.aload_n 0, 1, 0, 0, 0, 0, 0)] (by decide +kernel) (show m_sgl X _ _ _ _ _ = some (94, [some (.ref 304), some (.int v1), some (.int v2), some (.int v3)], [.ref 304], (SH, q7.2.1, q7.2.2)) from rfl) ?_
                    obtain ⟨q8, hc8, h⟩ := Option.bind_eq_some_iff.mp h
                    refine m_R_cV (v := (some (.int q8.1))) (h1 := (SH, q8.2)) (rest := []) (lo' := [some (.ref 304), none]) (ml := 2) (k0 := 304) (by decide) (Or.inl rfl) (m_opb_of (ins := .invokevirtual 163) (len := 3) (tag := 5) (a := 267) (b := 0) (c := 0) (q := 1885) (by decide +kernel)) (by decide +kernel) rfl (show m_isO 267 304 (SH, _) = true from m_isO_of (by decide +kernel)) (Nat.le_of_ble_eq_true rfl) rfl rfl (ok_m_free X (d + 70) F _ _ _ hc8) ?_
                    refine m_R_sg (by decide) [(.bipush 60, 2, 0, 60, 0, 0, 0)] (by decide +kernel) (show m_sgl X _ _ _ _ _ = some (99, [some (.ref 304), some (.int v1), some (.int v2), some (.int v3)], [.int (60 : Int32), .int q8.1], (SH, q8.2.1, q8.2.2)) from rfl) ?_
                    rcases m_ite h with ⟨c673, h⟩ | ⟨c673, h⟩
                    · refine m_R_1 (by decide) (m_opb_of (ins := .if_icmp .ne 10) (len := 3) (tag := 0) (a := 109) (b := 0) (c := 0) (q := 0) (by decide +kernel)) (if_pos c673) ?_
                      refine m_R_sg (by decide) [(.aload_n 0, 1, 0, 0, 0, 0, 0), (.bipush (-8), 2, 0, 8, 1, 0, 0)] (by decide +kernel) (show m_sgl X _ _ _ _ _ = some (105, [some (.ref 304), some (.int v1), some (.int v2), some (.int v3)], [.int (-8 : Int32), .ref 304], (SH, q8.2.1, q8.2.2)) from rfl) ?_
                      obtain ⟨q9, hc9, h⟩ := Option.bind_eq_some_iff.mp h
                      refine m_R_cV (v := (some (.int q9.1))) (h1 := (SH, q9.2)) (rest := []) (lo' := [some (.ref 304), some (.int (-8 : Int32))]) (ml := 2) (k0 := 304) (by decide) (Or.inl rfl) (m_opb_of (ins := .invokevirtual 61) (len := 3) (tag := 5) (a := 202) (b := 1) (c := 0) (q := 1593) (by decide +kernel)) (by decide +kernel) rfl (show m_isO 202 304 (SH, _) = true from m_isO_of (by decide +kernel)) (Nat.le_of_ble_eq_true rfl) rfl rfl (ok_m_refuse X (d + 71) F _ _ _ _ hc9) ?_
                      obtain ⟨rfl, rfl⟩ := m_some h
                      exact m_R_iret (by decide) (m_opb_of (ins := .ireturn) (len := 1) (tag := 1) (a := 0) (b := 0) (c := 0) (q := 0) (by decide +kernel)) (Or.inl rfl)
                    · refine m_R_1 (by decide) (m_opb_of (ins := .if_icmp .ne 10) (len := 3) (tag := 0) (a := 109) (b := 0) (c := 0) (q := 0) (by decide +kernel)) (if_neg c673) ?_
                      refine m_R_sg (by decide) [(.aload_n 0, 1, 0, 0, 0, 0, 0), (.iload_n 1, 1, 0, 1, 0, 0, 0), (.iload_n 2, 1, 0, 2, 0, 0, 0), (.iload_n 3, 1, 0, 3, 0, 0, 0)] (by decide +kernel) (show m_sgl X _ _ _ _ _ = some (113, [some (.ref 304), some (.int v1), some (.int v2), some (.int v3)], [.int v3, .int v2, .int v1, .ref 304], (SH, q8.2.1, q8.2.2)) from rfl) ?_
                      obtain ⟨q10, hc10, h⟩ := Option.bind_eq_some_iff.mp h
                      refine m_R_cV (v := none) (h1 := (SH, q10.2)) (rest := []) (lo' := [some (.ref 304), some (.int v1), some (.int v2), some (.int v3), none, none, none]) (ml := 7) (k0 := 304) (by decide) (Or.inl rfl) (m_opb_of (ins := .invokevirtual 147) (len := 3) (tag := 5) (a := 249) (b := 3) (c := 0) (q := 1814) (by decide +kernel)) (by decide +kernel) rfl (show m_isO 249 304 (SH, _) = true from m_isO_of (by decide +kernel)) (Nat.le_of_ble_eq_true rfl) rfl rfl (ok_m_gives X (d + 68) F _ _ _ _ _ _ hc10) ?_
                      refine m_R_sg (by decide) [(.aload_n 0, 1, 0, 0, 0, 0, 0), (.iconst 2, 1, 0, 2, 0, 0, 0), (.iload_n 3, 1, 0, 3, 0, 0, 0), (.iload_n 2, 1, 0, 2, 0, 0, 0), (.iload_n 1, 1, 0, 1, 0, 0, 0), (.iconst (-1), 1, 0, 1, 1, 0, 0)] (by decide +kernel) (show m_sgl X _ _ _ _ _ = some (122, [some (.ref 304), some (.int v1), some (.int v2), some (.int v3)], [.int (-1 : Int32), .int v1, .int v2, .int v3, .int (2 : Int32), .ref 304], (SH, q10.2.1, q10.2.2)) from rfl) ?_
                      obtain ⟨q11, hc11, h⟩ := Option.bind_eq_some_iff.mp h
                      refine m_R_cV (v := (some (.int q11.1))) (h1 := (SH, q11.2)) (rest := []) (lo' := [some (.ref 304), some (.int (2 : Int32)), some (.int v3), some (.int v2), some (.int v1), some (.int (-1 : Int32)), none, none, none]) (ml := 9) (k0 := 304) (by decide) (Or.inl rfl) (m_opb_of (ins := .invokevirtual 166) (len := 3) (tag := 5) (a := 268) (b := 5) (c := 0) (q := 1889) (by decide +kernel)) (by decide +kernel) rfl (show m_isO 268 304 (SH, _) = true from m_isO_of (by decide +kernel)) (Nat.le_of_ble_eq_true rfl) rfl rfl (ok_m_makes X (d + 69) F _ _ _ _ _ _ _ _ hc11) ?_
                      obtain ⟨rfl, rfl⟩ := m_some h
                      exact m_R_iret (by decide) (m_opb_of (ins := .ireturn) (len := 1) (tag := 1) (a := 0) (b := 0) (c := 0) (q := 0) (by decide +kernel)) (Or.inl rfl)
        · refine m_R_1 (by decide) (m_opb_of (ins := .if_icmp .eq 10) (len := 3) (tag := 0) (a := 44) (b := 0) (c := 0) (q := 0) (by decide +kernel)) (if_neg c667) ?_
          exact ok_m_deposit_37 X d F _ _ _ _ _ _ h
def f_x_within (F : Nat)   (v0 : Int32) (v1 : Int32) (v2 : Int32) (m : mM) : Option (Int32 × mM) := ((f_Math_min_II F v2 v0 m).bind fun q1 => ((f_Math_max F v1 q1.1 q1.2).bind fun q2 => some (q2.1, q2.2)))
theorem ok_x_within (X : mX) (d F : Nat) : ∀ (v0 : Int32) (v1 : Int32) (v2 : Int32)  (m : mM) (r : Int32) (m' : mM), f_x_within F v0 v1 v2 m = some (r, m') → m_R X (d + 1) 79 0 [some (.int v0), some (.int v1), some (.int v2)] [] (SH, m) (some (.int r), (SH, m')) := by
  intro v0 v1 v2 m r m' h
  unfold f_x_within at h
  refine m_R_sg (by decide) [(.iload_n 1, 1, 0, 1, 0, 0, 0), (.iload_n 2, 1, 0, 2, 0, 0, 0), (.iload_n 0, 1, 0, 0, 0, 0, 0)] (by decide +kernel) (show m_sgl X _ _ _ _ _ = some (3, [some (.int v0), some (.int v1), some (.int v2)], [.int v0, .int v2, .int v1], (SH, m.1, m.2)) from rfl) ?_
  obtain ⟨q1, hc1, h⟩ := Option.bind_eq_some_iff.mp h
  refine m_R_cS (v := (some (.int q1.1))) (h1 := (SH, q1.2)) (rest := [.int v1]) (lo' := [some (.int v2), some (.int v0)]) (ml := 2) (by decide) (m_opb_of (ins := .invokestatic 219) (len := 3) (tag := 4) (a := 50) (b := 2) (c := 0) (q := 893) (by decide +kernel)) (by decide +kernel) (Nat.le_of_ble_eq_true rfl) rfl (Nat.le_of_ble_eq_true rfl) rfl rfl (ok_Math_min_II X (d + 0) F _ _ _ _ _ hc1) ?_
  obtain ⟨q2, hc2, h⟩ := Option.bind_eq_some_iff.mp h
  refine m_R_cS (v := (some (.int q2.1))) (h1 := (SH, q2.2)) (rest := []) (lo' := [some (.int v1), some (.int q1.1)]) (ml := 2) (by decide) (m_opb_of (ins := .invokestatic 469) (len := 3) (tag := 4) (a := 38) (b := 2) (c := 0) (q := 935) (by decide +kernel)) (by decide +kernel) (Nat.le_of_ble_eq_true rfl) rfl (Nat.le_of_ble_eq_true rfl) rfl rfl (ok_Math_max X (d + 0) F _ _ _ _ _ hc2) ?_
  obtain ⟨rfl, rfl⟩ := m_some h
  exact m_R_iret (by decide) (m_opb_of (ins := .ireturn) (len := 1) (tag := 1) (a := 0) (b := 0) (c := 0) (q := 0) (by decide +kernel)) (Or.inl rfl)
def f_World_lendable (F : Nat)   (v1 : Int32) (m : mM) : Option (Int32 × mM) := (if v1 < 0 ∨ 60 ≤ v1.toNatClampNeg then none else ((f_World_lawSays F (3 : Int32) v1 m).bind fun q1 => ((f_x_within F q1.1 (0 : Int32) (100 : Int32) q1.2).bind fun q2 => some ((((m.1 33 v1.toNatClampNeg) * q2.1) / (100 : Int32)), q2.2))))
theorem ok_World_lendable (X : mX) (d F : Nat) : ∀ (v1 : Int32)  (m : mM) (r : Int32) (m' : mM), f_World_lendable F v1 m = some (r, m') → m_R X (d + 3) 78 0 [some (.ref 16), some (.int v1)] [] (SH, m) (some (.int r), (SH, m')) := by
  intro v1 m r m' h
  unfold f_World_lendable at h
  refine m_R_sg (by decide) [(.aload_n 0, 1, 0, 0, 0, 0, 0), (.getfield 28, 3, 0, 10, 2, 3, 508), (.getfield 135, 3, 0, 4, 1, 3, 323), (.iload_n 1, 1, 0, 1, 0, 0, 0)] (by decide +kernel) (show m_sgl X _ _ _ _ _ = some (8, [some (.ref 16), some (.int v1)], [.int v1, .ref 33], (SH, m.1, m.2)) from rfl) ?_
  obtain ⟨c674, h⟩ := m_ite_n h
  refine m_R_1 (by decide) (m_opb_of (ins := .iaload) (len := 1) (tag := 0) (a := 0) (b := 0) (c := 0) (q := 0) (by decide +kernel)) (m_s_iald sh_33 (by decide) c674) ?_
  refine m_R_sg (by decide) [(.aload_n 0, 1, 0, 0, 0, 0, 0), (.iconst 3, 1, 0, 3, 0, 0, 0), (.iload_n 1, 1, 0, 1, 0, 0, 0)] (by decide +kernel) (show m_sgl X _ _ _ _ _ = some (12, [some (.ref 16), some (.int v1)], [.int v1, .int (3 : Int32), .ref 16, .int (m.1 33 v1.toNatClampNeg)], (SH, m.1, m.2)) from rfl) ?_
  obtain ⟨q1, hc1, h⟩ := Option.bind_eq_some_iff.mp h
  refine m_R_cV (v := (some (.int q1.1))) (h1 := (SH, q1.2)) (rest := [.int (m.1 33 v1.toNatClampNeg)]) (lo' := [some (.ref 16), some (.int (3 : Int32)), some (.int v1), none]) (ml := 4) (k0 := 16) (by decide) (Or.inl rfl) (m_opb_of (ins := .invokevirtual 183) (len := 3) (tag := 5) (a := 39) (b := 2) (c := 0) (q := 771) (by decide +kernel)) (by decide +kernel) rfl (show m_isO 39 16 (SH, _) = true from m_isO_of (by decide +kernel)) (Nat.le_of_ble_eq_true rfl) rfl rfl (ok_World_lawSays X (d + 0) F _ _ _ _ _ hc1) ?_
  refine m_R_sg (by decide) [(.iconst 0, 1, 0, 0, 0, 0, 0), (.bipush 100, 2, 0, 100, 0, 0, 0)] (by decide +kernel) (show m_sgl X _ _ _ _ _ = some (18, [some (.ref 16), some (.int v1)], [.int (100 : Int32), .int (0 : Int32), .int q1.1, .int (m.1 33 v1.toNatClampNeg)], (SH, q1.2.1, q1.2.2)) from rfl) ?_
  obtain ⟨q2, hc2, h⟩ := Option.bind_eq_some_iff.mp h
  refine m_R_cS (v := (some (.int q2.1))) (h1 := (SH, q2.2)) (rest := [.int (m.1 33 v1.toNatClampNeg)]) (lo' := [some (.int q1.1), some (.int (0 : Int32)), some (.int (100 : Int32))]) (ml := 3) (by decide) (m_opb_of (ins := .invokestatic 220) (len := 3) (tag := 4) (a := 79) (b := 3) (c := 1) (q := 932) (by decide +kernel)) (by decide +kernel) (Nat.le_of_ble_eq_true rfl) rfl (Nat.le_of_ble_eq_true rfl) rfl rfl (ok_x_within X (d + 1) F _ _ _ _ _ _ hc2) ?_
  refine m_R_sg (by decide) [(.imul, 1, 0, 0, 0, 0, 0), (.bipush 100, 2, 0, 100, 0, 0, 0)] (by decide +kernel) (show m_sgl X _ _ _ _ _ = some (24, [some (.ref 16), some (.int v1)], [.int (100 : Int32), .int ((m.1 33 v1.toNatClampNeg) * q2.1)], (SH, q2.2.1, q2.2.2)) from rfl) ?_
  refine m_R_1 (by decide) (m_opb_of (ins := .idiv) (len := 1) (tag := 0) (a := 0) (b := 0) (c := 0) (q := 0) (by decide +kernel)) (m_s_idiv (by decide)) ?_
  obtain ⟨rfl, rfl⟩ := m_some h
  exact m_R_iret (by decide) (m_opb_of (ins := .ireturn) (len := 1) (tag := 1) (a := 0) (b := 0) (c := 0) (q := 0) (by decide +kernel)) (Or.inl rfl)
def f_World_takePledge_106 (F : Nat)   (v6 : Int32) (m : mM) : Option (Int32 × mM) := some (v6, m)
theorem ok_World_takePledge_106 (X : mX) (d F : Nat) : ∀ (v6 : Int32) (w0 : Option Value) (w1 : Option Value) (w2 : Option Value) (w3 : Option Value) (w4 : Option Value) (w5 : Option Value) (m : mM) (r : Int32) (m' : mM), f_World_takePledge_106 F v6 m = some (r, m') → m_R X (d + 3) 80 106 [w0, w1, w2, w3, w4, w5, some (.int v6)] [] (SH, m) (some (.int r), (SH, m')) := by
  intro v6 w0 w1 w2 w3 w4 w5 m r m' h
  unfold f_World_takePledge_106 at h
  refine m_R_sg (by decide) [(.iload 6, 2, 0, 6, 0, 0, 0)] (by decide +kernel) (show m_sgl X _ _ _ _ _ = some (108, [w0, w1, w2, w3, w4, w5, some (.int v6)], [.int v6], (SH, m.1, m.2)) from rfl) ?_
  obtain ⟨rfl, rfl⟩ := m_some h
  exact m_R_iret (by decide) (m_opb_of (ins := .ireturn) (len := 1) (tag := 1) (a := 0) (b := 0) (c := 0) (q := 0) (by decide +kernel)) (Or.inl rfl)
def f_World_takePledge (F : Nat)   (v1 : Int32) (v2 : Int32) (v3 : Int32) (m : mM) : Option (Int32 × mM) := (if v1 < 0 ∨ 60 ≤ v1.toNatClampNeg then none else ((f_World_transfer F (0 : Int32) (m.1 35 v1.toNatClampNeg) v2 m).bind fun q1 => ((f_Papers_addPaper F (3 : Int32) (m.1 35 v1.toNatClampNeg) (0 : Int32) (v2 + (((v2 * (m.1 16 10)) * v3) / (36000 : Int32))) ((q1.2.1 16 9) + v3) q1.2).bind fun q2 => (if q2.1 = (-1 : Int32) then f_World_takePledge_106 F q2.1 q2.2 else (if q2.1 < 0 ∨ 60 ≤ q2.1.toNatClampNeg then none else f_World_takePledge_106 F q2.1 ((m_up (m_up (m_up (m_up q2.2.1 41 q2.1.toNatClampNeg v1) 44 q2.1.toNatClampNeg ((m_up q2.2.1 41 q2.1.toNatClampNeg v1) 16 9)) 40 v1.toNatClampNeg (1 : Int32)) 35 v1.toNatClampNeg (0 : Int32)), q2.2.2))))))
theorem ok_World_takePledge (X : mX) (d F : Nat) : ∀ (v1 : Int32) (v2 : Int32) (v3 : Int32)  (m : mM) (r : Int32) (m' : mM), f_World_takePledge F v1 v2 v3 m = some (r, m') → m_R X (d + 3) 80 0 [some (.ref 16), some (.int v1), some (.int v2), some (.int v3), none, none, none] [] (SH, m) (some (.int r), (SH, m')) := by
  intro v1 v2 v3 m r m' h
  unfold f_World_takePledge at h
  refine m_R_sg (by decide) [(.aload_n 0, 1, 0, 0, 0, 0, 0), (.getfield 28, 3, 0, 10, 2, 3, 508), (.getfield 212, 3, 0, 4, 3, 3, 331), (.iload_n 1, 1, 0, 1, 0, 0, 0)] (by decide +kernel) (show m_sgl X _ _ _ _ _ = some (8, [some (.ref 16), some (.int v1), some (.int v2), some (.int v3), none, none, none], [.int v1, .ref 35], (SH, m.1, m.2)) from rfl) ?_
  obtain ⟨c675, h⟩ := m_ite_n h
  refine m_R_1 (by decide) (m_opb_of (ins := .iaload) (len := 1) (tag := 0) (a := 0) (b := 0) (c := 0) (q := 0) (by decide +kernel)) (m_s_iald sh_35 (by decide) c675) ?_
  refine m_R_sg (by decide) [(.istore 4, 2, 0, 4, 0, 0, 0), (.iload_n 2, 1, 0, 2, 0, 0, 0), (.iload_n 2, 1, 0, 2, 0, 0, 0), (.aload_n 0, 1, 0, 0, 0, 0, 0), (.getfield 52, 3, 0, 10, 10, 0, 522), (.imul, 1, 0, 0, 0, 0, 0), (.iload_n 3, 1, 0, 3, 0, 0, 0), (.imul, 1, 0, 0, 0, 0, 0), (.ldc 224, 2, 0, 36000, 0, 0, 941)] (by decide +kernel) (show m_sgl X _ _ _ _ _ = some (22, [some (.ref 16), some (.int v1), some (.int v2), some (.int v3), some (.int (m.1 35 v1.toNatClampNeg)), none, none], [.int (36000 : Int32), .int ((v2 * (m.1 16 10)) * v3), .int v2], (SH, m.1, m.2)) from rfl) ?_
  refine m_R_1 (by decide) (m_opb_of (ins := .idiv) (len := 1) (tag := 0) (a := 0) (b := 0) (c := 0) (q := 0) (by decide +kernel)) (m_s_idiv (by decide)) ?_
  refine m_R_sg (by decide) [(.iadd, 1, 0, 0, 0, 0, 0), (.istore 5, 2, 0, 5, 0, 0, 0), (.aload_n 0, 1, 0, 0, 0, 0, 0), (.iconst 0, 1, 0, 0, 0, 0, 0), (.iload 4, 2, 0, 4, 0, 0, 0), (.iload_n 2, 1, 0, 2, 0, 0, 0)] (by decide +kernel) (show m_sgl X _ _ _ _ _ = some (31, [some (.ref 16), some (.int v1), some (.int v2), some (.int v3), some (.int (m.1 35 v1.toNatClampNeg)), some (.int (v2 + (((v2 * (m.1 16 10)) * v3) / (36000 : Int32)))), none], [.int v2, .int (m.1 35 v1.toNatClampNeg), .int (0 : Int32), .ref 16], (SH, m.1, m.2)) from rfl) ?_
  obtain ⟨q1, hc1, h⟩ := Option.bind_eq_some_iff.mp h
  refine m_R_cV (v := none) (h1 := (SH, q1.2)) (rest := []) (lo' := [some (.ref 16), some (.int (0 : Int32)), some (.int (m.1 35 v1.toNatClampNeg)), some (.int v2), none]) (ml := 5) (k0 := 16) (by decide) (Or.inl rfl) (m_opb_of (ins := .invokevirtual 225) (len := 3) (tag := 5) (a := 51) (b := 3) (c := 0) (q := 942) (by decide +kernel)) (by decide +kernel) rfl (show m_isO 51 16 (SH, _) = true from m_isO_of (by decide +kernel)) (Nat.le_of_ble_eq_true rfl) rfl rfl (ok_World_transfer X (d + 0) F _ _ _ _ _ _ hc1) ?_
  refine m_R_sg (by decide) [(.aload_n 0, 1, 0, 0, 0, 0, 0), (.getfield 28, 3, 0, 10, 2, 3, 508), (.iconst 3, 1, 0, 3, 0, 0, 0), (.iload 4, 2, 0, 4, 0, 0, 0), (.iconst 0, 1, 0, 0, 0, 0, 0), (.iload 5, 2, 0, 5, 0, 0, 0), (.aload_n 0, 1, 0, 0, 0, 0, 0), (.getfield 95, 3, 0, 10, 9, 0, 520), (.iload_n 3, 1, 0, 3, 0, 0, 0), (.iadd, 1, 0, 0, 0, 0, 0)] (by decide +kernel) (show m_sgl X _ _ _ _ _ = some (50, [some (.ref 16), some (.int v1), some (.int v2), some (.int v3), some (.int (m.1 35 v1.toNatClampNeg)), some (.int (v2 + (((v2 * (m.1 16 10)) * v3) / (36000 : Int32)))), none], [.int ((q1.2.1 16 9) + v3), .int (v2 + (((v2 * (m.1 16 10)) * v3) / (36000 : Int32))), .int (0 : Int32), .int (m.1 35 v1.toNatClampNeg), .int (3 : Int32), .ref 31], (SH, q1.2.1, q1.2.2)) from rfl) ?_
  obtain ⟨q2, hc2, h⟩ := Option.bind_eq_some_iff.mp h
  refine m_R_cV (v := (some (.int q2.1))) (h1 := (SH, q2.2)) (rest := []) (lo' := [some (.ref 31), some (.int (3 : Int32)), some (.int (m.1 35 v1.toNatClampNeg)), some (.int (0 : Int32)), some (.int (v2 + (((v2 * (m.1 16 10)) * v3) / (36000 : Int32)))), some (.int ((q1.2.1 16 9) + v3)), none]) (ml := 7) (k0 := 31) (by decide) (Or.inl rfl) (m_opb_of (ins := .invokevirtual 228) (len := 3) (tag := 5) (a := 74) (b := 5) (c := 0) (q := 943) (by decide +kernel)) (by decide +kernel) rfl (show m_isO 74 31 (SH, _) = true from m_isO_of (by decide +kernel)) (Nat.le_of_ble_eq_true rfl) rfl rfl (ok_Papers_addPaper X (d + 1) F _ _ _ _ _ _ _ _ hc2) ?_
  refine m_R_sg (by decide) [(.istore 6, 2, 0, 6, 0, 0, 0), (.iload 6, 2, 0, 6, 0, 0, 0), (.iconst (-1), 1, 0, 1, 1, 0, 0)] (by decide +kernel) (show m_sgl X _ _ _ _ _ = some (58, [some (.ref 16), some (.int v1), some (.int v2), some (.int v3), some (.int (m.1 35 v1.toNatClampNeg)), some (.int (v2 + (((v2 * (m.1 16 10)) * v3) / (36000 : Int32)))), some (.int q2.1)], [.int (-1 : Int32), .int q2.1], (SH, q2.2.1, q2.2.2)) from rfl) ?_
  rcases m_ite h with ⟨c676, h⟩ | ⟨c676, h⟩
  · refine m_R_1 (by decide) (m_opb_of (ins := .if_icmp .eq 48) (len := 3) (tag := 0) (a := 106) (b := 0) (c := 0) (q := 0) (by decide +kernel)) (if_pos c676) ?_
    exact ok_World_takePledge_106 X d F _ _ _ _ _ _ _ _ _ _ h
  · refine m_R_1 (by decide) (m_opb_of (ins := .if_icmp .eq 48) (len := 3) (tag := 0) (a := 106) (b := 0) (c := 0) (q := 0) (by decide +kernel)) (if_neg c676) ?_
    refine m_R_sg (by decide) [(.aload_n 0, 1, 0, 0, 0, 0, 0), (.getfield 28, 3, 0, 10, 2, 3, 508), (.getfield 232, 3, 0, 4, 9, 3, 349), (.iload 6, 2, 0, 6, 0, 0, 0), (.iload_n 1, 1, 0, 1, 0, 0, 0)] (by decide +kernel) (show m_sgl X _ _ _ _ _ = some (71, [some (.ref 16), some (.int v1), some (.int v2), some (.int v3), some (.int (m.1 35 v1.toNatClampNeg)), some (.int (v2 + (((v2 * (m.1 16 10)) * v3) / (36000 : Int32)))), some (.int q2.1)], [.int v1, .int q2.1, .ref 41], (SH, q2.2.1, q2.2.2)) from rfl) ?_
    obtain ⟨c677, h⟩ := m_ite_n h
    refine m_R_1 (by decide) (m_opb_of (ins := .iastore) (len := 1) (tag := 0) (a := 0) (b := 0) (c := 0) (q := 0) (by decide +kernel)) (m_s_iast sh_41 c677) ?_
    refine m_R_sg (by decide) [(.aload_n 0, 1, 0, 0, 0, 0, 0), (.getfield 28, 3, 0, 10, 2, 3, 508), (.getfield 235, 3, 0, 4, 12, 3, 358), (.iload 6, 2, 0, 6, 0, 0, 0), (.aload_n 0, 1, 0, 0, 0, 0, 0), (.getfield 95, 3, 0, 10, 9, 0, 520)] (by decide +kernel) (show m_sgl X _ _ _ _ _ = some (85, [some (.ref 16), some (.int v1), some (.int v2), some (.int v3), some (.int (m.1 35 v1.toNatClampNeg)), some (.int (v2 + (((v2 * (m.1 16 10)) * v3) / (36000 : Int32)))), some (.int q2.1)], [.int ((m_up q2.2.1 41 q2.1.toNatClampNeg v1) 16 9), .int q2.1, .ref 44], (SH, (m_up q2.2.1 41 q2.1.toNatClampNeg v1), q2.2.2)) from rfl) ?_
    refine m_R_1 (by decide) (m_opb_of (ins := .iastore) (len := 1) (tag := 0) (a := 0) (b := 0) (c := 0) (q := 0) (by decide +kernel)) (m_s_iast sh_44 c677) ?_
    refine m_R_sg (by decide) [(.aload_n 0, 1, 0, 0, 0, 0, 0), (.getfield 28, 3, 0, 10, 2, 3, 508), (.getfield 238, 3, 0, 4, 8, 3, 346), (.iload_n 1, 1, 0, 1, 0, 0, 0), (.iconst 1, 1, 0, 1, 0, 0, 0)] (by decide +kernel) (show m_sgl X _ _ _ _ _ = some (95, [some (.ref 16), some (.int v1), some (.int v2), some (.int v3), some (.int (m.1 35 v1.toNatClampNeg)), some (.int (v2 + (((v2 * (m.1 16 10)) * v3) / (36000 : Int32)))), some (.int q2.1)], [.int (1 : Int32), .int v1, .ref 40], (SH, (m_up (m_up q2.2.1 41 q2.1.toNatClampNeg v1) 44 q2.1.toNatClampNeg ((m_up q2.2.1 41 q2.1.toNatClampNeg v1) 16 9)), q2.2.2)) from rfl) ?_
    refine m_R_1 (by decide) (m_opb_of (ins := .iastore) (len := 1) (tag := 0) (a := 0) (b := 0) (c := 0) (q := 0) (by decide +kernel)) (m_s_iast sh_40 c675) ?_
    refine m_R_sg (by decide) [(.aload_n 0, 1, 0, 0, 0, 0, 0), (.getfield 28, 3, 0, 10, 2, 3, 508), (.getfield 212, 3, 0, 4, 3, 3, 331), (.iload_n 1, 1, 0, 1, 0, 0, 0), (.iconst 0, 1, 0, 0, 0, 0, 0)] (by decide +kernel) (show m_sgl X _ _ _ _ _ = some (105, [some (.ref 16), some (.int v1), some (.int v2), some (.int v3), some (.int (m.1 35 v1.toNatClampNeg)), some (.int (v2 + (((v2 * (m.1 16 10)) * v3) / (36000 : Int32)))), some (.int q2.1)], [.int (0 : Int32), .int v1, .ref 35], (SH, (m_up (m_up (m_up q2.2.1 41 q2.1.toNatClampNeg v1) 44 q2.1.toNatClampNeg ((m_up q2.2.1 41 q2.1.toNatClampNeg v1) 16 9)) 40 v1.toNatClampNeg (1 : Int32)), q2.2.2)) from rfl) ?_
    refine m_R_1 (by decide) (m_opb_of (ins := .iastore) (len := 1) (tag := 0) (a := 0) (b := 0) (c := 0) (q := 0) (by decide +kernel)) (m_s_iast sh_35 c675) ?_
    exact ok_World_takePledge_106 X d F _ _ _ _ _ _ _ _ _ _ h
def f_x_help_42 (F : Nat)    (m : mM) : Option (Int32 × mM) := ((f_x_refuse F (-5 : Int32) m).bind fun q9 => some (q9.1, q9.2))
theorem ok_x_help_42 (X : mX) (d F : Nat) : ∀  (w1 : Option Value) (w2 : Option Value) (w3 : Option Value) (w4 : Option Value) (m : mM) (r : Int32) (m' : mM), f_x_help_42 F  m = some (r, m') → m_R X (d + 4) 77 42 [some (.ref 0), w1, w2, w3, w4] [] (SH, m) (some (.int r), (SH, m')) := by
  intro w1 w2 w3 w4 m r m' h
  unfold f_x_help_42 at h
  refine m_R_sg (by decide) [(.aload_n 0, 1, 0, 0, 0, 0, 0), (.bipush (-5), 2, 0, 5, 1, 0, 0)] (by decide +kernel) (show m_sgl X _ _ _ _ _ = some (45, [some (.ref 0), w1, w2, w3, w4], [.int (-5 : Int32), .ref 0], (SH, m.1, m.2)) from rfl) ?_
  obtain ⟨q9, hc9, h⟩ := Option.bind_eq_some_iff.mp h
  refine m_R_cV (v := (some (.int q9.1))) (h1 := (SH, q9.2)) (rest := []) (lo' := [some (.ref 0), some (.int (-5 : Int32))]) (ml := 2) (k0 := 0) (by decide) (Or.inl rfl) (m_opb_of (ins := .invokevirtual 76) (len := 3) (tag := 5) (a := 14) (b := 1) (c := 0) (q := 671) (by decide +kernel)) (by decide +kernel) rfl (show m_isO 14 0 (SH, _) = true from m_isO_of (by decide +kernel)) (Nat.le_of_ble_eq_true rfl) rfl rfl (ok_x_refuse X (d + 3) F _ _ _ _ hc9) ?_
  obtain ⟨rfl, rfl⟩ := m_some h
  exact m_R_iret (by decide) (m_opb_of (ins := .ireturn) (len := 1) (tag := 1) (a := 0) (b := 0) (c := 0) (q := 0) (by decide +kernel)) (Or.inl rfl)
def f_x_help_106 (F : Nat)    (m : mM) : Option (Int32 × mM) := ((f_x_refuse F (-7 : Int32) m).bind fun q10 => some (q10.1, q10.2))
theorem ok_x_help_106 (X : mX) (d F : Nat) : ∀  (w1 : Option Value) (w2 : Option Value) (w3 : Option Value) (w4 : Option Value) (m : mM) (r : Int32) (m' : mM), f_x_help_106 F  m = some (r, m') → m_R X (d + 4) 77 106 [some (.ref 0), w1, w2, w3, w4] [] (SH, m) (some (.int r), (SH, m')) := by
  intro w1 w2 w3 w4 m r m' h
  unfold f_x_help_106 at h
  refine m_R_sg (by decide) [(.aload_n 0, 1, 0, 0, 0, 0, 0), (.bipush (-7), 2, 0, 7, 1, 0, 0)] (by decide +kernel) (show m_sgl X _ _ _ _ _ = some (109, [some (.ref 0), w1, w2, w3, w4], [.int (-7 : Int32), .ref 0], (SH, m.1, m.2)) from rfl) ?_
  obtain ⟨q10, hc10, h⟩ := Option.bind_eq_some_iff.mp h
  refine m_R_cV (v := (some (.int q10.1))) (h1 := (SH, q10.2)) (rest := []) (lo' := [some (.ref 0), some (.int (-7 : Int32))]) (ml := 2) (k0 := 0) (by decide) (Or.inl rfl) (m_opb_of (ins := .invokevirtual 76) (len := 3) (tag := 5) (a := 14) (b := 1) (c := 0) (q := 671) (by decide +kernel)) (by decide +kernel) rfl (show m_isO 14 0 (SH, _) = true from m_isO_of (by decide +kernel)) (Nat.le_of_ble_eq_true rfl) rfl rfl (ok_x_refuse X (d + 3) F _ _ _ _ hc10) ?_
  obtain ⟨rfl, rfl⟩ := m_some h
  exact m_R_iret (by decide) (m_opb_of (ins := .ireturn) (len := 1) (tag := 1) (a := 0) (b := 0) (c := 0) (q := 0) (by decide +kernel)) (Or.inl rfl)
def f_x_help_141 (F : Nat)    (m : mM) : Option (Int32 × mM) := ((f_x_refuse F (-7 : Int32) m).bind fun q11 => some (q11.1, q11.2))
theorem ok_x_help_141 (X : mX) (d F : Nat) : ∀  (w1 : Option Value) (w2 : Option Value) (w3 : Option Value) (w4 : Option Value) (m : mM) (r : Int32) (m' : mM), f_x_help_141 F  m = some (r, m') → m_R X (d + 4) 77 141 [some (.ref 0), w1, w2, w3, w4] [] (SH, m) (some (.int r), (SH, m')) := by
  intro w1 w2 w3 w4 m r m' h
  unfold f_x_help_141 at h
  refine m_R_sg (by decide) [(.aload_n 0, 1, 0, 0, 0, 0, 0), (.bipush (-7), 2, 0, 7, 1, 0, 0)] (by decide +kernel) (show m_sgl X _ _ _ _ _ = some (144, [some (.ref 0), w1, w2, w3, w4], [.int (-7 : Int32), .ref 0], (SH, m.1, m.2)) from rfl) ?_
  obtain ⟨q11, hc11, h⟩ := Option.bind_eq_some_iff.mp h
  refine m_R_cV (v := (some (.int q11.1))) (h1 := (SH, q11.2)) (rest := []) (lo' := [some (.ref 0), some (.int (-7 : Int32))]) (ml := 2) (k0 := 0) (by decide) (Or.inl rfl) (m_opb_of (ins := .invokevirtual 76) (len := 3) (tag := 5) (a := 14) (b := 1) (c := 0) (q := 671) (by decide +kernel)) (by decide +kernel) rfl (show m_isO 14 0 (SH, _) = true from m_isO_of (by decide +kernel)) (Nat.le_of_ble_eq_true rfl) rfl rfl (ok_x_refuse X (d + 3) F _ _ _ _ hc11) ?_
  obtain ⟨rfl, rfl⟩ := m_some h
  exact m_R_iret (by decide) (m_opb_of (ins := .ireturn) (len := 1) (tag := 1) (a := 0) (b := 0) (c := 0) (q := 0) (by decide +kernel)) (Or.inl rfl)
def f_x_help (F : Nat)   (v1 : Int32) (v2 : Int32) (m : mM) : Option (Int32 × mM) := ((f_Papers_isPaper F v1 m).bind fun q1 => (if q1.1 = 0 then ((f_x_refuse F (-3 : Int32) q1.2).bind fun q2 => some (q2.1, q2.2)) else (if v1 < 0 ∨ 60 ≤ v1.toNatClampNeg then none else (if (q1.2.1 32 v1.toNatClampNeg) = (1 : Int32) then (if (q1.2.1 35 v1.toNatClampNeg) = 0 then f_x_help_42 F q1.2 else (if v2 < (1 : Int32) then f_x_help_106 F q1.2 else (if (60 : Int32) < v2 then f_x_help_106 F q1.2 else (if (q1.2.1 37 v1.toNatClampNeg) = 0 then ((f_Houses_isUp F (q1.2.1 35 v1.toNatClampNeg) q1.2).bind fun q3 => (if q3.1 = 0 then f_x_help_106 F q3.2 else (if v2 < ((q3.2.1 36 v1.toNatClampNeg) - (q3.2.1 16 9)) then ((f_World_lendable F v1 q3.2).bind fun q4 => (if q4.1 < (1 : Int32) then f_x_help_141 F q4.2 else ((f_World_bankCan F q4.1 q4.2).bind fun q5 => (if q5.1 = 0 then f_x_help_141 F q5.2 else ((f_Papers_isFull F q5.2).bind fun q6 => (if q6.1 = 0 then ((f_World_takePledge F v1 q4.1 v2 q6.2).bind fun q7 => some (q7.1, q7.2)) else ((f_x_refuse F (-8 : Int32) q6.2).bind fun q8 => some (q8.1, q8.2)))))))) else f_x_help_106 F q3.2))) else f_x_help_106 F q1.2)))) else f_x_help_42 F q1.2))))
theorem ok_x_help (X : mX) (d F : Nat) : ∀ (v1 : Int32) (v2 : Int32)  (m : mM) (r : Int32) (m' : mM), f_x_help F v1 v2 m = some (r, m') → m_R X (d + 4) 77 0 [some (.ref 0), some (.int v1), some (.int v2), none, none] [] (SH, m) (some (.int r), (SH, m')) := by
  intro v1 v2 m r m' h
  unfold f_x_help at h
  refine m_R_sg (by decide) [(.aload_n 0, 1, 0, 0, 0, 0, 0), (.getfield 28, 3, 0, 11, 2, 3, 632), (.getfield 146, 3, 0, 10, 2, 3, 510), (.astore_n 3, 1, 0, 3, 0, 0, 0), (.aload_n 3, 1, 0, 3, 0, 0, 0), (.iload_n 1, 1, 0, 1, 0, 0, 0)] (by decide +kernel) (show m_sgl X _ _ _ _ _ = some (10, [some (.ref 0), some (.int v1), some (.int v2), some (.ref 31), none], [.int v1, .ref 31], (SH, m.1, m.2)) from rfl) ?_
  obtain ⟨q1, hc1, h⟩ := Option.bind_eq_some_iff.mp h
  refine m_R_cV (v := (some (.int q1.1))) (h1 := (SH, q1.2)) (rest := []) (lo' := [some (.ref 31), some (.int v1)]) (ml := 2) (k0 := 31) (by decide) (Or.inl rfl) (m_opb_of (ins := .invokevirtual 246) (len := 3) (tag := 5) (a := 41) (b := 1) (c := 0) (q := 927) (by decide +kernel)) (by decide +kernel) rfl (show m_isO 41 31 (SH, _) = true from m_isO_of (by decide +kernel)) (Nat.le_of_ble_eq_true rfl) rfl rfl (ok_Papers_isPaper X (d + 3) F _ _ _ _ hc1) ?_
  rcases m_ite h with ⟨c678, h⟩ | ⟨c678, h⟩
  · refine m_R_1 (by decide) (m_opb_of (ins := .ifCond .ne 10) (len := 3) (tag := 0) (a := 23) (b := 0) (c := 0) (q := 0) (by decide +kernel)) (if_pos c678) ?_
    refine m_R_sg (by decide) [(.aload_n 0, 1, 0, 0, 0, 0, 0), (.bipush (-3), 2, 0, 3, 1, 0, 0)] (by decide +kernel) (show m_sgl X _ _ _ _ _ = some (19, [some (.ref 0), some (.int v1), some (.int v2), some (.ref 31), none], [.int (-3 : Int32), .ref 0], (SH, q1.2.1, q1.2.2)) from rfl) ?_
    obtain ⟨q2, hc2, h⟩ := Option.bind_eq_some_iff.mp h
    refine m_R_cV (v := (some (.int q2.1))) (h1 := (SH, q2.2)) (rest := []) (lo' := [some (.ref 0), some (.int (-3 : Int32))]) (ml := 2) (k0 := 0) (by decide) (Or.inl rfl) (m_opb_of (ins := .invokevirtual 76) (len := 3) (tag := 5) (a := 14) (b := 1) (c := 0) (q := 671) (by decide +kernel)) (by decide +kernel) rfl (show m_isO 14 0 (SH, _) = true from m_isO_of (by decide +kernel)) (Nat.le_of_ble_eq_true rfl) rfl rfl (ok_x_refuse X (d + 3) F _ _ _ _ hc2) ?_
    obtain ⟨rfl, rfl⟩ := m_some h
    exact m_R_iret (by decide) (m_opb_of (ins := .ireturn) (len := 1) (tag := 1) (a := 0) (b := 0) (c := 0) (q := 0) (by decide +kernel)) (Or.inl rfl)
  · refine m_R_1 (by decide) (m_opb_of (ins := .ifCond .ne 10) (len := 3) (tag := 0) (a := 23) (b := 0) (c := 0) (q := 0) (by decide +kernel)) (if_neg c678) ?_
    refine m_R_sg (by decide) [(.aload_n 3, 1, 0, 3, 0, 0, 0), (.getfield 249, 3, 0, 4, 0, 3, 320), (.iload_n 1, 1, 0, 1, 0, 0, 0)] (by decide +kernel) (show m_sgl X _ _ _ _ _ = some (28, [some (.ref 0), some (.int v1), some (.int v2), some (.ref 31), none], [.int v1, .ref 32], (SH, q1.2.1, q1.2.2)) from rfl) ?_
    obtain ⟨c679, h⟩ := m_ite_n h
    refine m_R_1 (by decide) (m_opb_of (ins := .iaload) (len := 1) (tag := 0) (a := 0) (b := 0) (c := 0) (q := 0) (by decide +kernel)) (m_s_iald sh_32 (by decide) c679) ?_
    refine m_R_sg (by decide) [(.iconst 1, 1, 0, 1, 0, 0, 0)] (by decide +kernel) (show m_sgl X _ _ _ _ _ = some (30, [some (.ref 0), some (.int v1), some (.int v2), some (.ref 31), none], [.int (1 : Int32), .int (q1.2.1 32 v1.toNatClampNeg)], (SH, q1.2.1, q1.2.2)) from rfl) ?_
    rcases m_ite h with ⟨c680, h⟩ | ⟨c680, h⟩
    · refine m_R_1 (by decide) (m_opb_of (ins := .if_icmp .ne 12) (len := 3) (tag := 0) (a := 42) (b := 0) (c := 0) (q := 0) (by decide +kernel)) (if_pos c680) ?_
      refine m_R_sg (by decide) [(.aload_n 3, 1, 0, 3, 0, 0, 0), (.getfield 250, 3, 0, 4, 3, 3, 332), (.iload_n 1, 1, 0, 1, 0, 0, 0)] (by decide +kernel) (show m_sgl X _ _ _ _ _ = some (38, [some (.ref 0), some (.int v1), some (.int v2), some (.ref 31), none], [.int v1, .ref 35], (SH, q1.2.1, q1.2.2)) from rfl) ?_
      refine m_R_1 (by decide) (m_opb_of (ins := .iaload) (len := 1) (tag := 0) (a := 0) (b := 0) (c := 0) (q := 0) (by decide +kernel)) (m_s_iald sh_35 (by decide) c679) ?_
      rcases m_ite h with ⟨c681, h⟩ | ⟨c681, h⟩
      · refine m_R_1 (by decide) (m_opb_of (ins := .ifCond .ne 10) (len := 3) (tag := 0) (a := 49) (b := 0) (c := 0) (q := 0) (by decide +kernel)) (if_pos c681) ?_
        exact ok_x_help_42 X d F _ _ _ _ _ _ _ h
      · refine m_R_1 (by decide) (m_opb_of (ins := .ifCond .ne 10) (len := 3) (tag := 0) (a := 49) (b := 0) (c := 0) (q := 0) (by decide +kernel)) (if_neg c681) ?_
        refine m_R_sg (by decide) [(.iload_n 2, 1, 0, 2, 0, 0, 0), (.iconst 1, 1, 0, 1, 0, 0, 0)] (by decide +kernel) (show m_sgl X _ _ _ _ _ = some (51, [some (.ref 0), some (.int v1), some (.int v2), some (.ref 31), none], [.int (1 : Int32), .int v2], (SH, q1.2.1, q1.2.2)) from rfl) ?_
        rcases m_ite h with ⟨c682, h⟩ | ⟨c682, h⟩
        · refine m_R_1 (by decide) (m_opb_of (ins := .if_icmp .lt 55) (len := 3) (tag := 0) (a := 106) (b := 0) (c := 0) (q := 0) (by decide +kernel)) (if_pos c682) ?_
          exact ok_x_help_106 X d F _ _ _ _ _ _ _ h
        · refine m_R_1 (by decide) (m_opb_of (ins := .if_icmp .lt 55) (len := 3) (tag := 0) (a := 106) (b := 0) (c := 0) (q := 0) (by decide +kernel)) (if_neg c682) ?_
          refine m_R_sg (by decide) [(.iload_n 2, 1, 0, 2, 0, 0, 0), (.bipush 60, 2, 0, 60, 0, 0, 0)] (by decide +kernel) (show m_sgl X _ _ _ _ _ = some (57, [some (.ref 0), some (.int v1), some (.int v2), some (.ref 31), none], [.int (60 : Int32), .int v2], (SH, q1.2.1, q1.2.2)) from rfl) ?_
          rcases m_ite h with ⟨c683, h⟩ | ⟨c683, h⟩
          · refine m_R_1 (by decide) (m_opb_of (ins := .if_icmp .gt 49) (len := 3) (tag := 0) (a := 106) (b := 0) (c := 0) (q := 0) (by decide +kernel)) (if_pos c683) ?_
            exact ok_x_help_106 X d F _ _ _ _ _ _ _ h
          · refine m_R_1 (by decide) (m_opb_of (ins := .if_icmp .gt 49) (len := 3) (tag := 0) (a := 106) (b := 0) (c := 0) (q := 0) (by decide +kernel)) (if_neg c683) ?_
            refine m_R_sg (by decide) [(.aload_n 3, 1, 0, 3, 0, 0, 0), (.getfield 251, 3, 0, 4, 5, 3, 338), (.iload_n 1, 1, 0, 1, 0, 0, 0)] (by decide +kernel) (show m_sgl X _ _ _ _ _ = some (65, [some (.ref 0), some (.int v1), some (.int v2), some (.ref 31), none], [.int v1, .ref 37], (SH, q1.2.1, q1.2.2)) from rfl) ?_
            refine m_R_1 (by decide) (m_opb_of (ins := .iaload) (len := 1) (tag := 0) (a := 0) (b := 0) (c := 0) (q := 0) (by decide +kernel)) (m_s_iald sh_37 (by decide) c679) ?_
            rcases m_ite h with ⟨c684, h⟩ | ⟨c684, h⟩
            · refine m_R_1 (by decide) (m_opb_of (ins := .ifCond .ne 40) (len := 3) (tag := 0) (a := 106) (b := 0) (c := 0) (q := 0) (by decide +kernel)) (if_pos c684) ?_
              refine m_R_sg (by decide) [(.aload_n 0, 1, 0, 0, 0, 0, 0), (.getfield 28, 3, 0, 11, 2, 3, 632), (.getfield 95, 3, 0, 10, 1, 3, 507), (.aload_n 3, 1, 0, 3, 0, 0, 0), (.getfield 250, 3, 0, 4, 3, 3, 332), (.iload_n 1, 1, 0, 1, 0, 0, 0)] (by decide +kernel) (show m_sgl X _ _ _ _ _ = some (81, [some (.ref 0), some (.int v1), some (.int v2), some (.ref 31), none], [.int v1, .ref 35, .ref 19], (SH, q1.2.1, q1.2.2)) from rfl) ?_
              refine m_R_1 (by decide) (m_opb_of (ins := .iaload) (len := 1) (tag := 0) (a := 0) (b := 0) (c := 0) (q := 0) (by decide +kernel)) (m_s_iald sh_35 (by decide) c679) ?_
              obtain ⟨q3, hc3, h⟩ := Option.bind_eq_some_iff.mp h
              refine m_R_cV (v := (some (.int q3.1))) (h1 := (SH, q3.2)) (rest := []) (lo' := [some (.ref 19), some (.int (q1.2.1 35 v1.toNatClampNeg))]) (ml := 2) (k0 := 19) (by decide) (Or.inl rfl) (m_opb_of (ins := .invokevirtual 110) (len := 3) (tag := 5) (a := 25) (b := 1) (c := 0) (q := 716) (by decide +kernel)) (by decide +kernel) rfl (show m_isO 25 19 (SH, _) = true from m_isO_of (by decide +kernel)) (Nat.le_of_ble_eq_true rfl) rfl rfl (ok_Houses_isUp X (d + 2) F _ _ _ _ hc3) ?_
              rcases m_ite h with ⟨c685, h⟩ | ⟨c685, h⟩
              · refine m_R_1 (by decide) (m_opb_of (ins := .ifCond .eq 21) (len := 3) (tag := 0) (a := 106) (b := 0) (c := 0) (q := 0) (by decide +kernel)) (if_pos c685) ?_
                exact ok_x_help_106 X d F _ _ _ _ _ _ _ h
              · refine m_R_1 (by decide) (m_opb_of (ins := .ifCond .eq 21) (len := 3) (tag := 0) (a := 106) (b := 0) (c := 0) (q := 0) (by decide +kernel)) (if_neg c685) ?_
                refine m_R_sg (by decide) [(.iload_n 2, 1, 0, 2, 0, 0, 0), (.aload_n 3, 1, 0, 3, 0, 0, 0), (.getfield 252, 3, 0, 4, 4, 3, 335), (.iload_n 1, 1, 0, 1, 0, 0, 0)] (by decide +kernel) (show m_sgl X _ _ _ _ _ = some (94, [some (.ref 0), some (.int v1), some (.int v2), some (.ref 31), none], [.int v1, .ref 36, .int v2], (SH, q3.2.1, q3.2.2)) from rfl) ?_
                refine m_R_1 (by decide) (m_opb_of (ins := .iaload) (len := 1) (tag := 0) (a := 0) (b := 0) (c := 0) (q := 0) (by decide +kernel)) (m_s_iald sh_36 (by decide) c679) ?_
                refine m_R_sg (by decide) [(.aload_n 0, 1, 0, 0, 0, 0, 0), (.getfield 28, 3, 0, 11, 2, 3, 632), (.getfield 255, 3, 0, 10, 9, 0, 521), (.isub, 1, 0, 0, 0, 0, 0)] (by decide +kernel) (show m_sgl X _ _ _ _ _ = some (103, [some (.ref 0), some (.int v1), some (.int v2), some (.ref 31), none], [.int ((q3.2.1 36 v1.toNatClampNeg) - (q3.2.1 16 9)), .int v2], (SH, q3.2.1, q3.2.2)) from rfl) ?_
                rcases m_ite h with ⟨c686, h⟩ | ⟨c686, h⟩
                · refine m_R_1 (by decide) (m_opb_of (ins := .if_icmp .lt 10) (len := 3) (tag := 0) (a := 113) (b := 0) (c := 0) (q := 0) (by decide +kernel)) (if_pos c686) ?_
                  refine m_R_sg (by decide) [(.aload_n 0, 1, 0, 0, 0, 0, 0), (.getfield 28, 3, 0, 11, 2, 3, 632), (.iload_n 1, 1, 0, 1, 0, 0, 0)] (by decide +kernel) (show m_sgl X _ _ _ _ _ = some (118, [some (.ref 0), some (.int v1), some (.int v2), some (.ref 31), none], [.int v1, .ref 16], (SH, q3.2.1, q3.2.2)) from rfl) ?_
                  obtain ⟨q4, hc4, h⟩ := Option.bind_eq_some_iff.mp h
                  refine m_R_cV (v := (some (.int q4.1))) (h1 := (SH, q4.2)) (rest := []) (lo' := [some (.ref 16), some (.int v1)]) (ml := 2) (k0 := 16) (by decide) (Or.inl rfl) (m_opb_of (ins := .invokevirtual 258) (len := 3) (tag := 5) (a := 78) (b := 1) (c := 0) (q := 928) (by decide +kernel)) (by decide +kernel) rfl (show m_isO 78 16 (SH, _) = true from m_isO_of (by decide +kernel)) (Nat.le_of_ble_eq_true rfl) rfl rfl (ok_World_lendable X (d + 0) F _ _ _ _ hc4) ?_
                  refine m_R_sg (by decide) [(.istore 4, 2, 0, 4, 0, 0, 0), (.iload 4, 2, 0, 4, 0, 0, 0), (.iconst 1, 1, 0, 1, 0, 0, 0)] (by decide +kernel) (show m_sgl X _ _ _ _ _ = some (126, [some (.ref 0), some (.int v1), some (.int v2), some (.ref 31), some (.int q4.1)], [.int (1 : Int32), .int q4.1], (SH, q4.2.1, q4.2.2)) from rfl) ?_
                  rcases m_ite h with ⟨c687, h⟩ | ⟨c687, h⟩
                  · refine m_R_1 (by decide) (m_opb_of (ins := .if_icmp .lt 15) (len := 3) (tag := 0) (a := 141) (b := 0) (c := 0) (q := 0) (by decide +kernel)) (if_pos c687) ?_
                    exact ok_x_help_141 X d F _ _ _ _ _ _ _ h
                  · refine m_R_1 (by decide) (m_opb_of (ins := .if_icmp .lt 15) (len := 3) (tag := 0) (a := 141) (b := 0) (c := 0) (q := 0) (by decide +kernel)) (if_neg c687) ?_
                    refine m_R_sg (by decide) [(.aload_n 0, 1, 0, 0, 0, 0, 0), (.getfield 28, 3, 0, 11, 2, 3, 632), (.iload 4, 2, 0, 4, 0, 0, 0)] (by decide +kernel) (show m_sgl X _ _ _ _ _ = some (135, [some (.ref 0), some (.int v1), some (.int v2), some (.ref 31), some (.int q4.1)], [.int q4.1, .ref 16], (SH, q4.2.1, q4.2.2)) from rfl) ?_
                    obtain ⟨q5, hc5, h⟩ := Option.bind_eq_some_iff.mp h
                    refine m_R_cV (v := (some (.int q5.1))) (h1 := (SH, q5.2)) (rest := []) (lo' := [some (.ref 16), some (.int q4.1), none]) (ml := 3) (k0 := 16) (by decide) (Or.inl rfl) (m_opb_of (ins := .invokevirtual 261) (len := 3) (tag := 5) (a := 36) (b := 1) (c := 0) (q := 936) (by decide +kernel)) (by decide +kernel) rfl (show m_isO 36 16 (SH, _) = true from m_isO_of (by decide +kernel)) (Nat.le_of_ble_eq_true rfl) rfl rfl (ok_World_bankCan X (d + 0) F _ _ _ _ hc5) ?_
                    rcases m_ite h with ⟨c688, h⟩ | ⟨c688, h⟩
                    · refine m_R_1 (by decide) (m_opb_of (ins := .ifCond .ne 10) (len := 3) (tag := 0) (a := 148) (b := 0) (c := 0) (q := 0) (by decide +kernel)) (if_pos c688) ?_
                      exact ok_x_help_141 X d F _ _ _ _ _ _ _ h
                    · refine m_R_1 (by decide) (m_opb_of (ins := .ifCond .ne 10) (len := 3) (tag := 0) (a := 148) (b := 0) (c := 0) (q := 0) (by decide +kernel)) (if_neg c688) ?_
                      refine m_R_sg (by decide) [(.aload_n 3, 1, 0, 3, 0, 0, 0)] (by decide +kernel) (show m_sgl X _ _ _ _ _ = some (149, [some (.ref 0), some (.int v1), some (.int v2), some (.ref 31), some (.int q4.1)], [.ref 31], (SH, q5.2.1, q5.2.2)) from rfl) ?_
                      obtain ⟨q6, hc6, h⟩ := Option.bind_eq_some_iff.mp h
                      refine m_R_cV (v := (some (.int q6.1))) (h1 := (SH, q6.2)) (rest := []) (lo' := [some (.ref 31)]) (ml := 1) (k0 := 31) (by decide) (Or.inl rfl) (m_opb_of (ins := .invokevirtual 239) (len := 3) (tag := 5) (a := 73) (b := 0) (c := 0) (q := 905) (by decide +kernel)) (by decide +kernel) rfl (show m_isO 73 31 (SH, _) = true from m_isO_of (by decide +kernel)) (Nat.le_of_ble_eq_true rfl) rfl rfl (ok_Papers_isFull X (d + 3) F _ _ _ hc6) ?_
                      rcases m_ite h with ⟨c689, h⟩ | ⟨c689, h⟩
                      · refine m_R_1 (by decide) (m_opb_of (ins := .ifCond .eq 10) (len := 3) (tag := 0) (a := 162) (b := 0) (c := 0) (q := 0) (by decide +kernel)) (if_pos c689) ?_
                        refine m_R_sg (by decide) [(.aload_n 0, 1, 0, 0, 0, 0, 0), (.getfield 28, 3, 0, 11, 2, 3, 632), (.iload_n 1, 1, 0, 1, 0, 0, 0), (.iload 4, 2, 0, 4, 0, 0, 0), (.iload_n 2, 1, 0, 2, 0, 0, 0)] (by decide +kernel) (show m_sgl X _ _ _ _ _ = some (170, [some (.ref 0), some (.int v1), some (.int v2), some (.ref 31), some (.int q4.1)], [.int v2, .int q4.1, .int v1, .ref 16], (SH, q6.2.1, q6.2.2)) from rfl) ?_
                        obtain ⟨q7, hc7, h⟩ := Option.bind_eq_some_iff.mp h
                        refine m_R_cV (v := (some (.int q7.1))) (h1 := (SH, q7.2)) (rest := []) (lo' := [some (.ref 16), some (.int v1), some (.int q4.1), some (.int v2), none, none, none]) (ml := 7) (k0 := 16) (by decide) (Or.inl rfl) (m_opb_of (ins := .invokevirtual 264) (len := 3) (tag := 5) (a := 80) (b := 3) (c := 0) (q := 937) (by decide +kernel)) (by decide +kernel) rfl (show m_isO 80 16 (SH, _) = true from m_isO_of (by decide +kernel)) (Nat.le_of_ble_eq_true rfl) rfl rfl (ok_World_takePledge X (d + 0) F _ _ _ _ _ _ hc7) ?_
                        obtain ⟨rfl, rfl⟩ := m_some h
                        exact m_R_iret (by decide) (m_opb_of (ins := .ireturn) (len := 1) (tag := 1) (a := 0) (b := 0) (c := 0) (q := 0) (by decide +kernel)) (Or.inl rfl)
                      · refine m_R_1 (by decide) (m_opb_of (ins := .ifCond .eq 10) (len := 3) (tag := 0) (a := 162) (b := 0) (c := 0) (q := 0) (by decide +kernel)) (if_neg c689) ?_
                        refine m_R_sg (by decide) [(.aload_n 0, 1, 0, 0, 0, 0, 0), (.bipush (-8), 2, 0, 8, 1, 0, 0)] (by decide +kernel) (show m_sgl X _ _ _ _ _ = some (158, [some (.ref 0), some (.int v1), some (.int v2), some (.ref 31), some (.int q4.1)], [.int (-8 : Int32), .ref 0], (SH, q6.2.1, q6.2.2)) from rfl) ?_
                        obtain ⟨q8, hc8, h⟩ := Option.bind_eq_some_iff.mp h
                        refine m_R_cV (v := (some (.int q8.1))) (h1 := (SH, q8.2)) (rest := []) (lo' := [some (.ref 0), some (.int (-8 : Int32))]) (ml := 2) (k0 := 0) (by decide) (Or.inl rfl) (m_opb_of (ins := .invokevirtual 76) (len := 3) (tag := 5) (a := 14) (b := 1) (c := 0) (q := 671) (by decide +kernel)) (by decide +kernel) rfl (show m_isO 14 0 (SH, _) = true from m_isO_of (by decide +kernel)) (Nat.le_of_ble_eq_true rfl) rfl rfl (ok_x_refuse X (d + 3) F _ _ _ _ hc8) ?_
                        obtain ⟨rfl, rfl⟩ := m_some h
                        exact m_R_iret (by decide) (m_opb_of (ins := .ireturn) (len := 1) (tag := 1) (a := 0) (b := 0) (c := 0) (q := 0) (by decide +kernel)) (Or.inl rfl)
                · refine m_R_1 (by decide) (m_opb_of (ins := .if_icmp .lt 10) (len := 3) (tag := 0) (a := 113) (b := 0) (c := 0) (q := 0) (by decide +kernel)) (if_neg c686) ?_
                  exact ok_x_help_106 X d F _ _ _ _ _ _ _ h
            · refine m_R_1 (by decide) (m_opb_of (ins := .ifCond .ne 40) (len := 3) (tag := 0) (a := 106) (b := 0) (c := 0) (q := 0) (by decide +kernel)) (if_neg c684) ?_
              exact ok_x_help_106 X d F _ _ _ _ _ _ _ h
    · refine m_R_1 (by decide) (m_opb_of (ins := .if_icmp .ne 12) (len := 3) (tag := 0) (a := 42) (b := 0) (c := 0) (q := 0) (by decide +kernel)) (if_neg c680) ?_
      exact ok_x_help_42 X d F _ _ _ _ _ _ _ h
def f_m_isPaper_25 (F : Nat)   (s0 : Int32) (m : mM) : Option (Int32 × mM) := (if s0 = 0 ∨ s0 = 1 then some (s0, m) else none)
theorem ok_m_isPaper_25 (X : mX) (d F : Nat) : ∀ (s0 : Int32) (w0 : Option Value) (w1 : Option Value) (m : mM) (r : Int32) (m' : mM), f_m_isPaper_25 F s0 m = some (r, m') → m_R X (d + 1) 272 25 [w0, w1] [.int s0] (SH, m) (some (.int r), (SH, m')) := by
  intro s0 w0 w1 m r m' h
  unfold f_m_isPaper_25 at h
  obtain ⟨c0, h⟩ := m_ite_p h
  obtain ⟨rfl, rfl⟩ := m_some h
  exact m_R_iret (by decide) (m_opb_of (ins := .ireturn) (len := 1) (tag := 1) (a := 1) (b := 0) (c := 0) (q := 0) (by decide +kernel)) (Or.inr c0)
def f_m_isPaper_24 (F : Nat)    (m : mM) : Option (Int32 × mM) := f_m_isPaper_25 F (0 : Int32) m
theorem ok_m_isPaper_24 (X : mX) (d F : Nat) : ∀  (w0 : Option Value) (w1 : Option Value) (m : mM) (r : Int32) (m' : mM), f_m_isPaper_24 F  m = some (r, m') → m_R X (d + 1) 272 24 [w0, w1] [] (SH, m) (some (.int r), (SH, m')) := by
  intro w0 w1 m r m' h
  unfold f_m_isPaper_24 at h
  refine m_R_sg (by decide) [(.iconst 0, 1, 0, 0, 0, 0, 0)] (by decide +kernel) (show m_sgl X _ _ _ _ _ = some (25, [w0, w1], [.int (0 : Int32)], (SH, m.1, m.2)) from rfl) ?_
  exact ok_m_isPaper_25 X d F _ _ _ _ _ _ h
def f_m_isPaper (F : Nat)   (v1 : Int32) (m : mM) : Option (Int32 × mM) := ((f_m_in F v1 (0 : Int32) (59 : Int32) m).bind fun q1 => (if q1.1 = 0 then f_m_isPaper_24 F q1.2 else ((f_m_paper F v1 (0 : Int32) q1.2).bind fun q2 => (if q2.1 = (1 : Int32) then f_m_isPaper_25 F (1 : Int32) q2.2 else f_m_isPaper_24 F q2.2))))
theorem ok_m_isPaper (X : mX) (d F : Nat) : ∀ (v1 : Int32)  (m : mM) (r : Int32) (m' : mM), f_m_isPaper F v1 m = some (r, m') → m_R X (d + 1) 272 0 [some (.ref 304), some (.int v1)] [] (SH, m) (some (.int r), (SH, m')) := by
  intro v1 m r m' h
  unfold f_m_isPaper at h
  refine m_R_sg (by decide) [(.iload_n 1, 1, 0, 1, 0, 0, 0), (.iconst 0, 1, 0, 0, 0, 0, 0), (.bipush 59, 2, 0, 59, 0, 0, 0)] (by decide +kernel) (show m_sgl X _ _ _ _ _ = some (4, [some (.ref 304), some (.int v1)], [.int (59 : Int32), .int (0 : Int32), .int v1], (SH, m.1, m.2)) from rfl) ?_
  obtain ⟨q1, hc1, h⟩ := Option.bind_eq_some_iff.mp h
  refine m_R_cS (v := (some (.int q1.1))) (h1 := (SH, q1.2)) (rest := []) (lo' := [some (.int v1), some (.int (0 : Int32)), some (.int (59 : Int32))]) (ml := 3) (by decide) (m_opb_of (ins := .invokestatic 57) (len := 3) (tag := 4) (a := 201) (b := 3) (c := 0) (q := 1590) (by decide +kernel)) (by decide +kernel) (Nat.le_of_ble_eq_true rfl) rfl (Nat.le_of_ble_eq_true rfl) rfl rfl (ok_m_in X (d + 0) F _ _ _ _ _ _ hc1) ?_
  rcases m_ite h with ⟨c690, h⟩ | ⟨c690, h⟩
  · refine m_R_1 (by decide) (m_opb_of (ins := .ifCond .eq 17) (len := 3) (tag := 0) (a := 24) (b := 0) (c := 0) (q := 0) (by decide +kernel)) (if_pos c690) ?_
    exact ok_m_isPaper_24 X d F _ _ _ _ _ h
  · refine m_R_1 (by decide) (m_opb_of (ins := .ifCond .eq 17) (len := 3) (tag := 0) (a := 24) (b := 0) (c := 0) (q := 0) (by decide +kernel)) (if_neg c690) ?_
    refine m_R_sg (by decide) [(.aload_n 0, 1, 0, 0, 0, 0, 0), (.iload_n 1, 1, 0, 1, 0, 0, 0), (.iconst 0, 1, 0, 0, 0, 0, 0)] (by decide +kernel) (show m_sgl X _ _ _ _ _ = some (13, [some (.ref 304), some (.int v1)], [.int (0 : Int32), .int v1, .ref 304], (SH, q1.2.1, q1.2.2)) from rfl) ?_
    obtain ⟨q2, hc2, h⟩ := Option.bind_eq_some_iff.mp h
    refine m_R_cV (v := (some (.int q2.1))) (h1 := (SH, q2.2)) (rest := []) (lo' := [some (.ref 304), some (.int v1), some (.int (0 : Int32))]) (ml := 3) (k0 := 304) (by decide) (Or.inl rfl) (m_opb_of (ins := .invokevirtual 160) (len := 3) (tag := 5) (a := 246) (b := 2) (c := 0) (q := 1791) (by decide +kernel)) (by decide +kernel) rfl (show m_isO 246 304 (SH, _) = true from m_isO_of (by decide +kernel)) (Nat.le_of_ble_eq_true rfl) rfl rfl (ok_m_paper X (d + 0) F _ _ _ _ _ hc2) ?_
    refine m_R_sg (by decide) [(.iconst 1, 1, 0, 1, 0, 0, 0)] (by decide +kernel) (show m_sgl X _ _ _ _ _ = some (17, [some (.ref 304), some (.int v1)], [.int (1 : Int32), .int q2.1], (SH, q2.2.1, q2.2.2)) from rfl) ?_
    rcases m_ite h with ⟨c691, h⟩ | ⟨c691, h⟩
    · refine m_R_1 (by decide) (m_opb_of (ins := .if_icmp .ne 7) (len := 3) (tag := 0) (a := 24) (b := 0) (c := 0) (q := 0) (by decide +kernel)) (if_pos c691) ?_
      refine m_R_sg (by decide) [(.iconst 1, 1, 0, 1, 0, 0, 0), (.goto 4, 3, 0, 25, 0, 0, 0)] (by decide +kernel) (show m_sgl X _ _ _ _ _ = some (25, [some (.ref 304), some (.int v1)], [.int (1 : Int32)], (SH, q2.2.1, q2.2.2)) from rfl) ?_
      exact ok_m_isPaper_25 X d F _ _ _ _ _ _ h
    · refine m_R_1 (by decide) (m_opb_of (ins := .if_icmp .ne 7) (len := 3) (tag := 0) (a := 24) (b := 0) (c := 0) (q := 0) (by decide +kernel)) (if_neg c691) ?_
      exact ok_m_isPaper_24 X d F _ _ _ _ _ h
def f_m_within_19 (F : Nat)   (s0 : Int32) (m : mM) : Option (Int32 × mM) := some (s0, m)
theorem ok_m_within_19 (X : mX) (d F : Nat) : ∀ (s0 : Int32) (w0 : Option Value) (w1 : Option Value) (w2 : Option Value) (w3 : Option Value) (m : mM) (r : Int32) (m' : mM), f_m_within_19 F s0 m = some (r, m') → m_R X (d + 0) 273 19 [w0, w1, w2, w3] [.int s0] (SH, m) (some (.int r), (SH, m')) := by
  intro s0 w0 w1 w2 w3 m r m' h
  unfold f_m_within_19 at h
  obtain ⟨rfl, rfl⟩ := m_some h
  exact m_R_iret (by decide) (m_opb_of (ins := .ireturn) (len := 1) (tag := 1) (a := 0) (b := 0) (c := 0) (q := 0) (by decide +kernel)) (Or.inl rfl)
def f_m_within (F : Nat)   (v1 : Int32) (v2 : Int32) (v3 : Int32) (m : mM) : Option (Int32 × mM) := (if v2 ≤ v1 then (if v1 ≤ v3 then f_m_within_19 F v1 m else f_m_within_19 F v3 m) else f_m_within_19 F v2 m)
theorem ok_m_within (X : mX) (d F : Nat) : ∀ (v1 : Int32) (v2 : Int32) (v3 : Int32)  (m : mM) (r : Int32) (m' : mM), f_m_within F v1 v2 v3 m = some (r, m') → m_R X (d + 0) 273 0 [some (.ref 304), some (.int v1), some (.int v2), some (.int v3)] [] (SH, m) (some (.int r), (SH, m')) := by
  intro v1 v2 v3 m r m' h
  unfold f_m_within at h
  refine m_R_sg (by decide) [(.iload_n 1, 1, 0, 1, 0, 0, 0), (.iload_n 2, 1, 0, 2, 0, 0, 0)] (by decide +kernel) (show m_sgl X _ _ _ _ _ = some (2, [some (.ref 304), some (.int v1), some (.int v2), some (.int v3)], [.int v2, .int v1], (SH, m.1, m.2)) from rfl) ?_
  rcases m_ite h with ⟨c692, h⟩ | ⟨c692, h⟩
  · refine m_R_1 (by decide) (m_opb_of (ins := .if_icmp .ge 7) (len := 3) (tag := 0) (a := 9) (b := 0) (c := 0) (q := 0) (by decide +kernel)) (if_pos c692) ?_
    refine m_R_sg (by decide) [(.iload_n 1, 1, 0, 1, 0, 0, 0), (.iload_n 3, 1, 0, 3, 0, 0, 0)] (by decide +kernel) (show m_sgl X _ _ _ _ _ = some (11, [some (.ref 304), some (.int v1), some (.int v2), some (.int v3)], [.int v3, .int v1], (SH, m.1, m.2)) from rfl) ?_
    rcases m_ite h with ⟨c693, h⟩ | ⟨c693, h⟩
    · refine m_R_1 (by decide) (m_opb_of (ins := .if_icmp .le 7) (len := 3) (tag := 0) (a := 18) (b := 0) (c := 0) (q := 0) (by decide +kernel)) (if_pos c693) ?_
      refine m_R_sg (by decide) [(.iload_n 1, 1, 0, 1, 0, 0, 0)] (by decide +kernel) (show m_sgl X _ _ _ _ _ = some (19, [some (.ref 304), some (.int v1), some (.int v2), some (.int v3)], [.int v1], (SH, m.1, m.2)) from rfl) ?_
      exact ok_m_within_19 X d F _ _ _ _ _ _ _ _ h
    · refine m_R_1 (by decide) (m_opb_of (ins := .if_icmp .le 7) (len := 3) (tag := 0) (a := 18) (b := 0) (c := 0) (q := 0) (by decide +kernel)) (if_neg c693) ?_
      refine m_R_sg (by decide) [(.iload_n 3, 1, 0, 3, 0, 0, 0), (.goto 4, 3, 0, 19, 0, 0, 0)] (by decide +kernel) (show m_sgl X _ _ _ _ _ = some (19, [some (.ref 304), some (.int v1), some (.int v2), some (.int v3)], [.int v3], (SH, m.1, m.2)) from rfl) ?_
      exact ok_m_within_19 X d F _ _ _ _ _ _ _ _ h
  · refine m_R_1 (by decide) (m_opb_of (ins := .if_icmp .ge 7) (len := 3) (tag := 0) (a := 9) (b := 0) (c := 0) (q := 0) (by decide +kernel)) (if_neg c692) ?_
    refine m_R_sg (by decide) [(.iload_n 2, 1, 0, 2, 0, 0, 0), (.goto 13, 3, 0, 19, 0, 0, 0)] (by decide +kernel) (show m_sgl X _ _ _ _ _ = some (19, [some (.ref 304), some (.int v1), some (.int v2), some (.int v3)], [.int v2], (SH, m.1, m.2)) from rfl) ?_
    exact ok_m_within_19 X d F _ _ _ _ _ _ _ _ h
def f_m_help_36 (F : Nat)    (m : mM) : Option (Int32 × mM) := ((f_m_refuse F (-5 : Int32) m).bind fun q17 => some (q17.1, q17.2))
theorem ok_m_help_36 (X : mX) (d F : Nat) : ∀  (w1 : Option Value) (w2 : Option Value) (w3 : Option Value) (w4 : Option Value) (w5 : Option Value) (m : mM) (r : Int32) (m' : mM), f_m_help_36 F  m = some (r, m') → m_R X (d + 72) 271 36 [some (.ref 304), w1, w2, w3, w4, w5] [] (SH, m) (some (.int r), (SH, m')) := by
  intro w1 w2 w3 w4 w5 m r m' h
  unfold f_m_help_36 at h
  refine m_R_sg (by decide) [(.aload_n 0, 1, 0, 0, 0, 0, 0), (.bipush (-5), 2, 0, 5, 1, 0, 0)] (by decide +kernel) (show m_sgl X _ _ _ _ _ = some (39, [some (.ref 304), w1, w2, w3, w4, w5], [.int (-5 : Int32), .ref 304], (SH, m.1, m.2)) from rfl) ?_
  obtain ⟨q17, hc17, h⟩ := Option.bind_eq_some_iff.mp h
  refine m_R_cV (v := (some (.int q17.1))) (h1 := (SH, q17.2)) (rest := []) (lo' := [some (.ref 304), some (.int (-5 : Int32))]) (ml := 2) (k0 := 304) (by decide) (Or.inl rfl) (m_opb_of (ins := .invokevirtual 61) (len := 3) (tag := 5) (a := 202) (b := 1) (c := 0) (q := 1593) (by decide +kernel)) (by decide +kernel) rfl (show m_isO 202 304 (SH, _) = true from m_isO_of (by decide +kernel)) (Nat.le_of_ble_eq_true rfl) rfl rfl (ok_m_refuse X (d + 71) F _ _ _ _ hc17) ?_
  obtain ⟨rfl, rfl⟩ := m_some h
  exact m_R_iret (by decide) (m_opb_of (ins := .ireturn) (len := 1) (tag := 1) (a := 0) (b := 0) (c := 0) (q := 0) (by decide +kernel)) (Or.inl rfl)
def f_m_help_88 (F : Nat)    (m : mM) : Option (Int32 × mM) := ((f_m_refuse F (-7 : Int32) m).bind fun q18 => some (q18.1, q18.2))
theorem ok_m_help_88 (X : mX) (d F : Nat) : ∀  (w1 : Option Value) (w2 : Option Value) (w3 : Option Value) (w4 : Option Value) (w5 : Option Value) (m : mM) (r : Int32) (m' : mM), f_m_help_88 F  m = some (r, m') → m_R X (d + 72) 271 88 [some (.ref 304), w1, w2, w3, w4, w5] [] (SH, m) (some (.int r), (SH, m')) := by
  intro w1 w2 w3 w4 w5 m r m' h
  unfold f_m_help_88 at h
  refine m_R_sg (by decide) [(.aload_n 0, 1, 0, 0, 0, 0, 0), (.bipush (-7), 2, 0, 7, 1, 0, 0)] (by decide +kernel) (show m_sgl X _ _ _ _ _ = some (91, [some (.ref 304), w1, w2, w3, w4, w5], [.int (-7 : Int32), .ref 304], (SH, m.1, m.2)) from rfl) ?_
  obtain ⟨q18, hc18, h⟩ := Option.bind_eq_some_iff.mp h
  refine m_R_cV (v := (some (.int q18.1))) (h1 := (SH, q18.2)) (rest := []) (lo' := [some (.ref 304), some (.int (-7 : Int32))]) (ml := 2) (k0 := 304) (by decide) (Or.inl rfl) (m_opb_of (ins := .invokevirtual 61) (len := 3) (tag := 5) (a := 202) (b := 1) (c := 0) (q := 1593) (by decide +kernel)) (by decide +kernel) rfl (show m_isO 202 304 (SH, _) = true from m_isO_of (by decide +kernel)) (Nat.le_of_ble_eq_true rfl) rfl rfl (ok_m_refuse X (d + 71) F _ _ _ _ hc18) ?_
  obtain ⟨rfl, rfl⟩ := m_some h
  exact m_R_iret (by decide) (m_opb_of (ins := .ireturn) (len := 1) (tag := 1) (a := 0) (b := 0) (c := 0) (q := 0) (by decide +kernel)) (Or.inl rfl)
def f_m_help_137 (F : Nat)    (m : mM) : Option (Int32 × mM) := ((f_m_refuse F (-7 : Int32) m).bind fun q19 => some (q19.1, q19.2))
theorem ok_m_help_137 (X : mX) (d F : Nat) : ∀  (w1 : Option Value) (w2 : Option Value) (w3 : Option Value) (w4 : Option Value) (w5 : Option Value) (m : mM) (r : Int32) (m' : mM), f_m_help_137 F  m = some (r, m') → m_R X (d + 72) 271 137 [some (.ref 304), w1, w2, w3, w4, w5] [] (SH, m) (some (.int r), (SH, m')) := by
  intro w1 w2 w3 w4 w5 m r m' h
  unfold f_m_help_137 at h
  refine m_R_sg (by decide) [(.aload_n 0, 1, 0, 0, 0, 0, 0), (.bipush (-7), 2, 0, 7, 1, 0, 0)] (by decide +kernel) (show m_sgl X _ _ _ _ _ = some (140, [some (.ref 304), w1, w2, w3, w4, w5], [.int (-7 : Int32), .ref 304], (SH, m.1, m.2)) from rfl) ?_
  obtain ⟨q19, hc19, h⟩ := Option.bind_eq_some_iff.mp h
  refine m_R_cV (v := (some (.int q19.1))) (h1 := (SH, q19.2)) (rest := []) (lo' := [some (.ref 304), some (.int (-7 : Int32))]) (ml := 2) (k0 := 304) (by decide) (Or.inl rfl) (m_opb_of (ins := .invokevirtual 61) (len := 3) (tag := 5) (a := 202) (b := 1) (c := 0) (q := 1593) (by decide +kernel)) (by decide +kernel) rfl (show m_isO 202 304 (SH, _) = true from m_isO_of (by decide +kernel)) (Nat.le_of_ble_eq_true rfl) rfl rfl (ok_m_refuse X (d + 71) F _ _ _ _ hc19) ?_
  obtain ⟨rfl, rfl⟩ := m_some h
  exact m_R_iret (by decide) (m_opb_of (ins := .ireturn) (len := 1) (tag := 1) (a := 0) (b := 0) (c := 0) (q := 0) (by decide +kernel)) (Or.inl rfl)
def f_m_help_254 (F : Nat)   (v5 : Int32) (m : mM) : Option (Int32 × mM) := some (v5, m)
theorem ok_m_help_254 (X : mX) (d F : Nat) : ∀ (v5 : Int32) (w0 : Option Value) (w1 : Option Value) (w2 : Option Value) (w3 : Option Value) (w4 : Option Value) (m : mM) (r : Int32) (m' : mM), f_m_help_254 F v5 m = some (r, m') → m_R X (d + 72) 271 254 [w0, w1, w2, w3, w4, some (.int v5)] [] (SH, m) (some (.int r), (SH, m')) := by
  intro v5 w0 w1 w2 w3 w4 m r m' h
  unfold f_m_help_254 at h
  refine m_R_sg (by decide) [(.iload 5, 2, 0, 5, 0, 0, 0)] (by decide +kernel) (show m_sgl X _ _ _ _ _ = some (256, [w0, w1, w2, w3, w4, some (.int v5)], [.int v5], (SH, m.1, m.2)) from rfl) ?_
  obtain ⟨rfl, rfl⟩ := m_some h
  exact m_R_iret (by decide) (m_opb_of (ins := .ireturn) (len := 1) (tag := 1) (a := 0) (b := 0) (c := 0) (q := 0) (by decide +kernel)) (Or.inl rfl)
def f_m_help (F : Nat)   (v1 : Int32) (v2 : Int32) (m : mM) : Option (Int32 × mM) := ((f_m_isPaper F v1 m).bind fun q1 => (if q1.1 = 0 then ((f_m_refuse F (-3 : Int32) q1.2).bind fun q2 => some (q2.1, q2.2)) else ((f_m_paper F v1 (4 : Int32) q1.2).bind fun q3 => ((f_m_paper F v1 (1 : Int32) q3.2).bind fun q4 => (if q4.1 = (1 : Int32) then (if q3.1 = 0 then f_m_help_36 F q4.2 else ((f_m_in F v2 (1 : Int32) (60 : Int32) q4.2).bind fun q5 => (if q5.1 = 0 then f_m_help_88 F q5.2 else ((f_m_paper F v1 (6 : Int32) q5.2).bind fun q6 => (if q6.1 = 0 then ((f_m_isUp F q3.1 q6.2).bind fun q7 => (if q7.1 = 0 then f_m_help_88 F q7.2 else ((f_m_paper F v1 (5 : Int32) q7.2).bind fun q8 => (if v2 < (q8.1 - (q8.2.1 305 (0 : Int32).toNatClampNeg)) then ((f_m_paper F v1 (2 : Int32) q8.2).bind fun q9 => ((f_m_ruled F (3 : Int32) v1 (0 : Int32) q9.2).bind fun q10 => ((f_m_within F q10.1 (0 : Int32) (100 : Int32) q10.2).bind fun q11 => (if ((q9.1 * q11.1) / (100 : Int32)) = 0 then f_m_help_137 F q11.2 else ((f_m_can F (0 : Int32) q3.1 ((q9.1 * q11.1) / (100 : Int32)) q11.2).bind fun q12 => (if q12.1 = 0 then f_m_help_137 F q12.2 else ((f_m_free F q12.2).bind fun q13 => (if q13.1 = (60 : Int32) then ((f_m_refuse F (-8 : Int32) q13.2).bind fun q14 => some (q14.1, q14.2)) else ((f_m_gives F (0 : Int32) q3.1 ((q9.1 * q11.1) / (100 : Int32)) q13.2).bind fun q15 => ((f_m_makes F (3 : Int32) (((q9.1 * q11.1) / (100 : Int32)) + (((((q9.1 * q11.1) / (100 : Int32)) * (q15.2.1 305 (10 : Int32).toNatClampNeg)) * v2) / (36000 : Int32))) q3.1 (0 : Int32) ((q15.2.1 305 (0 : Int32).toNatClampNeg) + v2) q15.2).bind fun q16 => (if (((6200 : Int32) + ((20 : Int32) * q16.1)) + (15 : Int32)) < 0 ∨ 9732 ≤ (((6200 : Int32) + ((20 : Int32) * q16.1)) + (15 : Int32)).toNatClampNeg then none else (if (((6200 : Int32) + ((20 : Int32) * v1)) + (14 : Int32)) < 0 ∨ 9732 ≤ (((6200 : Int32) + ((20 : Int32) * v1)) + (14 : Int32)).toNatClampNeg then none else (if (((6200 : Int32) + ((20 : Int32) * v1)) + (4 : Int32)) < 0 ∨ 9732 ≤ (((6200 : Int32) + ((20 : Int32) * v1)) + (4 : Int32)).toNatClampNeg then none else f_m_help_254 F q16.1 ((m_up (m_up (m_up q16.2.1 305 (((6200 : Int32) + ((20 : Int32) * q16.1)) + (15 : Int32)).toNatClampNeg v1) 305 (((6200 : Int32) + ((20 : Int32) * v1)) + (14 : Int32)).toNatClampNeg (1 : Int32)) 305 (((6200 : Int32) + ((20 : Int32) * v1)) + (4 : Int32)).toNatClampNeg (0 : Int32)), q16.2.2)))))))))))))) else f_m_help_88 F q8.2)))) else f_m_help_88 F q6.2))))) else f_m_help_36 F q4.2)))))
theorem ok_m_help (X : mX) (d F : Nat) : ∀ (v1 : Int32) (v2 : Int32)  (m : mM) (r : Int32) (m' : mM), f_m_help F v1 v2 m = some (r, m') → m_R X (d + 72) 271 0 [some (.ref 304), some (.int v1), some (.int v2), none, none, none] [] (SH, m) (some (.int r), (SH, m')) := by
  intro v1 v2 m r m' h
  unfold f_m_help at h
  refine m_R_sg (by decide) [(.aload_n 0, 1, 0, 0, 0, 0, 0), (.iload_n 1, 1, 0, 1, 0, 0, 0)] (by decide +kernel) (show m_sgl X _ _ _ _ _ = some (2, [some (.ref 304), some (.int v1), some (.int v2), none, none, none], [.int v1, .ref 304], (SH, m.1, m.2)) from rfl) ?_
  obtain ⟨q1, hc1, h⟩ := Option.bind_eq_some_iff.mp h
  refine m_R_cV (v := (some (.int q1.1))) (h1 := (SH, q1.2)) (rest := []) (lo' := [some (.ref 304), some (.int v1)]) (ml := 2) (k0 := 304) (by decide) (Or.inl rfl) (m_opb_of (ins := .invokevirtual 173) (len := 3) (tag := 5) (a := 272) (b := 1) (c := 0) (q := 1905) (by decide +kernel)) (by decide +kernel) rfl (show m_isO 272 304 (SH, _) = true from m_isO_of (by decide +kernel)) (Nat.le_of_ble_eq_true rfl) rfl rfl (ok_m_isPaper X (d + 70) F _ _ _ _ hc1) ?_
  rcases m_ite h with ⟨c694, h⟩ | ⟨c694, h⟩
  · refine m_R_1 (by decide) (m_opb_of (ins := .ifCond .ne 10) (len := 3) (tag := 0) (a := 15) (b := 0) (c := 0) (q := 0) (by decide +kernel)) (if_pos c694) ?_
    refine m_R_sg (by decide) [(.aload_n 0, 1, 0, 0, 0, 0, 0), (.bipush (-3), 2, 0, 3, 1, 0, 0)] (by decide +kernel) (show m_sgl X _ _ _ _ _ = some (11, [some (.ref 304), some (.int v1), some (.int v2), none, none, none], [.int (-3 : Int32), .ref 304], (SH, q1.2.1, q1.2.2)) from rfl) ?_
    obtain ⟨q2, hc2, h⟩ := Option.bind_eq_some_iff.mp h
    refine m_R_cV (v := (some (.int q2.1))) (h1 := (SH, q2.2)) (rest := []) (lo' := [some (.ref 304), some (.int (-3 : Int32))]) (ml := 2) (k0 := 304) (by decide) (Or.inl rfl) (m_opb_of (ins := .invokevirtual 61) (len := 3) (tag := 5) (a := 202) (b := 1) (c := 0) (q := 1593) (by decide +kernel)) (by decide +kernel) rfl (show m_isO 202 304 (SH, _) = true from m_isO_of (by decide +kernel)) (Nat.le_of_ble_eq_true rfl) rfl rfl (ok_m_refuse X (d + 71) F _ _ _ _ hc2) ?_
    obtain ⟨rfl, rfl⟩ := m_some h
    exact m_R_iret (by decide) (m_opb_of (ins := .ireturn) (len := 1) (tag := 1) (a := 0) (b := 0) (c := 0) (q := 0) (by decide +kernel)) (Or.inl rfl)
  · refine m_R_1 (by decide) (m_opb_of (ins := .ifCond .ne 10) (len := 3) (tag := 0) (a := 15) (b := 0) (c := 0) (q := 0) (by decide +kernel)) (if_neg c694) ?_
    refine m_R_sg (by decide) [(.aload_n 0, 1, 0, 0, 0, 0, 0), (.iload_n 1, 1, 0, 1, 0, 0, 0), (.iconst 4, 1, 0, 4, 0, 0, 0)] (by decide +kernel) (show m_sgl X _ _ _ _ _ = some (18, [some (.ref 304), some (.int v1), some (.int v2), none, none, none], [.int (4 : Int32), .int v1, .ref 304], (SH, q1.2.1, q1.2.2)) from rfl) ?_
    obtain ⟨q3, hc3, h⟩ := Option.bind_eq_some_iff.mp h
    refine m_R_cV (v := (some (.int q3.1))) (h1 := (SH, q3.2)) (rest := []) (lo' := [some (.ref 304), some (.int v1), some (.int (4 : Int32))]) (ml := 3) (k0 := 304) (by decide) (Or.inl rfl) (m_opb_of (ins := .invokevirtual 160) (len := 3) (tag := 5) (a := 246) (b := 2) (c := 0) (q := 1791) (by decide +kernel)) (by decide +kernel) rfl (show m_isO 246 304 (SH, _) = true from m_isO_of (by decide +kernel)) (Nat.le_of_ble_eq_true rfl) rfl rfl (ok_m_paper X (d + 71) F _ _ _ _ _ hc3) ?_
    refine m_R_sg (by decide) [(.istore_n 3, 1, 0, 3, 0, 0, 0), (.aload_n 0, 1, 0, 0, 0, 0, 0), (.iload_n 1, 1, 0, 1, 0, 0, 0), (.iconst 1, 1, 0, 1, 0, 0, 0)] (by decide +kernel) (show m_sgl X _ _ _ _ _ = some (25, [some (.ref 304), some (.int v1), some (.int v2), some (.int q3.1), none, none], [.int (1 : Int32), .int v1, .ref 304], (SH, q3.2.1, q3.2.2)) from rfl) ?_
    obtain ⟨q4, hc4, h⟩ := Option.bind_eq_some_iff.mp h
    refine m_R_cV (v := (some (.int q4.1))) (h1 := (SH, q4.2)) (rest := []) (lo' := [some (.ref 304), some (.int v1), some (.int (1 : Int32))]) (ml := 3) (k0 := 304) (by decide) (Or.inl rfl) (m_opb_of (ins := .invokevirtual 160) (len := 3) (tag := 5) (a := 246) (b := 2) (c := 0) (q := 1791) (by decide +kernel)) (by decide +kernel) rfl (show m_isO 246 304 (SH, _) = true from m_isO_of (by decide +kernel)) (Nat.le_of_ble_eq_true rfl) rfl rfl (ok_m_paper X (d + 71) F _ _ _ _ _ hc4) ?_
    refine m_R_sg (by decide) [(.iconst 1, 1, 0, 1, 0, 0, 0)] (by decide +kernel) (show m_sgl X _ _ _ _ _ = some (29, [some (.ref 304), some (.int v1), some (.int v2), some (.int q3.1), none, none], [.int (1 : Int32), .int q4.1], (SH, q4.2.1, q4.2.2)) from rfl) ?_
    rcases m_ite h with ⟨c695, h⟩ | ⟨c695, h⟩
    · refine m_R_1 (by decide) (m_opb_of (ins := .if_icmp .ne 7) (len := 3) (tag := 0) (a := 36) (b := 0) (c := 0) (q := 0) (by decide +kernel)) (if_pos c695) ?_
      refine m_R_sg (by decide) [(.iload_n 3, 1, 0, 3, 0, 0, 0)] (by decide +kernel) (show m_sgl X _ _ _ _ _ = some (33, [some (.ref 304), some (.int v1), some (.int v2), some (.int q3.1), none, none], [.int q3.1], (SH, q4.2.1, q4.2.2)) from rfl) ?_
      rcases m_ite h with ⟨c696, h⟩ | ⟨c696, h⟩
      · refine m_R_1 (by decide) (m_opb_of (ins := .ifCond .ne 10) (len := 3) (tag := 0) (a := 43) (b := 0) (c := 0) (q := 0) (by decide +kernel)) (if_pos c696) ?_
        exact ok_m_help_36 X d F _ _ _ _ _ _ _ _ h
      · refine m_R_1 (by decide) (m_opb_of (ins := .ifCond .ne 10) (len := 3) (tag := 0) (a := 43) (b := 0) (c := 0) (q := 0) (by decide +kernel)) (if_neg c696) ?_
        refine m_R_sg (by decide) [(.iload_n 2, 1, 0, 2, 0, 0, 0), (.iconst 1, 1, 0, 1, 0, 0, 0), (.bipush 60, 2, 0, 60, 0, 0, 0)] (by decide +kernel) (show m_sgl X _ _ _ _ _ = some (47, [some (.ref 304), some (.int v1), some (.int v2), some (.int q3.1), none, none], [.int (60 : Int32), .int (1 : Int32), .int v2], (SH, q4.2.1, q4.2.2)) from rfl) ?_
        obtain ⟨q5, hc5, h⟩ := Option.bind_eq_some_iff.mp h
        refine m_R_cS (v := (some (.int q5.1))) (h1 := (SH, q5.2)) (rest := []) (lo' := [some (.int v2), some (.int (1 : Int32)), some (.int (60 : Int32))]) (ml := 3) (by decide) (m_opb_of (ins := .invokestatic 57) (len := 3) (tag := 4) (a := 201) (b := 3) (c := 0) (q := 1590) (by decide +kernel)) (by decide +kernel) (Nat.le_of_ble_eq_true rfl) rfl (Nat.le_of_ble_eq_true rfl) rfl rfl (ok_m_in X (d + 71) F _ _ _ _ _ _ hc5) ?_
        rcases m_ite h with ⟨c697, h⟩ | ⟨c697, h⟩
        · refine m_R_1 (by decide) (m_opb_of (ins := .ifCond .eq 38) (len := 3) (tag := 0) (a := 88) (b := 0) (c := 0) (q := 0) (by decide +kernel)) (if_pos c697) ?_
          exact ok_m_help_88 X d F _ _ _ _ _ _ _ _ h
        · refine m_R_1 (by decide) (m_opb_of (ins := .ifCond .eq 38) (len := 3) (tag := 0) (a := 88) (b := 0) (c := 0) (q := 0) (by decide +kernel)) (if_neg c697) ?_
          refine m_R_sg (by decide) [(.aload_n 0, 1, 0, 0, 0, 0, 0), (.iload_n 1, 1, 0, 1, 0, 0, 0), (.bipush 6, 2, 0, 6, 0, 0, 0)] (by decide +kernel) (show m_sgl X _ _ _ _ _ = some (57, [some (.ref 304), some (.int v1), some (.int v2), some (.int q3.1), none, none], [.int (6 : Int32), .int v1, .ref 304], (SH, q5.2.1, q5.2.2)) from rfl) ?_
          obtain ⟨q6, hc6, h⟩ := Option.bind_eq_some_iff.mp h
          refine m_R_cV (v := (some (.int q6.1))) (h1 := (SH, q6.2)) (rest := []) (lo' := [some (.ref 304), some (.int v1), some (.int (6 : Int32))]) (ml := 3) (k0 := 304) (by decide) (Or.inl rfl) (m_opb_of (ins := .invokevirtual 160) (len := 3) (tag := 5) (a := 246) (b := 2) (c := 0) (q := 1791) (by decide +kernel)) (by decide +kernel) rfl (show m_isO 246 304 (SH, _) = true from m_isO_of (by decide +kernel)) (Nat.le_of_ble_eq_true rfl) rfl rfl (ok_m_paper X (d + 71) F _ _ _ _ _ hc6) ?_
          rcases m_ite h with ⟨c698, h⟩ | ⟨c698, h⟩
          · refine m_R_1 (by decide) (m_opb_of (ins := .ifCond .ne 28) (len := 3) (tag := 0) (a := 88) (b := 0) (c := 0) (q := 0) (by decide +kernel)) (if_pos c698) ?_
            refine m_R_sg (by decide) [(.aload_n 0, 1, 0, 0, 0, 0, 0), (.iload_n 3, 1, 0, 3, 0, 0, 0)] (by decide +kernel) (show m_sgl X _ _ _ _ _ = some (65, [some (.ref 304), some (.int v1), some (.int v2), some (.int q3.1), none, none], [.int q3.1, .ref 304], (SH, q6.2.1, q6.2.2)) from rfl) ?_
            obtain ⟨q7, hc7, h⟩ := Option.bind_eq_some_iff.mp h
            refine m_R_cV (v := (some (.int q7.1))) (h1 := (SH, q7.2)) (rest := []) (lo' := [some (.ref 304), some (.int q3.1)]) (ml := 2) (k0 := 304) (by decide) (Or.inl rfl) (m_opb_of (ins := .invokevirtual 80) (len := 3) (tag := 5) (a := 211) (b := 1) (c := 0) (q := 1629) (by decide +kernel)) (by decide +kernel) rfl (show m_isO 211 304 (SH, _) = true from m_isO_of (by decide +kernel)) (Nat.le_of_ble_eq_true rfl) rfl rfl (ok_m_isUp X (d + 70) F _ _ _ _ hc7) ?_
            rcases m_ite h with ⟨c699, h⟩ | ⟨c699, h⟩
            · refine m_R_1 (by decide) (m_opb_of (ins := .ifCond .eq 20) (len := 3) (tag := 0) (a := 88) (b := 0) (c := 0) (q := 0) (by decide +kernel)) (if_pos c699) ?_
              exact ok_m_help_88 X d F _ _ _ _ _ _ _ _ h
            · refine m_R_1 (by decide) (m_opb_of (ins := .ifCond .eq 20) (len := 3) (tag := 0) (a := 88) (b := 0) (c := 0) (q := 0) (by decide +kernel)) (if_neg c699) ?_
              refine m_R_sg (by decide) [(.iload_n 2, 1, 0, 2, 0, 0, 0), (.aload_n 0, 1, 0, 0, 0, 0, 0), (.iload_n 1, 1, 0, 1, 0, 0, 0), (.iconst 5, 1, 0, 5, 0, 0, 0)] (by decide +kernel) (show m_sgl X _ _ _ _ _ = some (75, [some (.ref 304), some (.int v1), some (.int v2), some (.int q3.1), none, none], [.int (5 : Int32), .int v1, .ref 304, .int v2], (SH, q7.2.1, q7.2.2)) from rfl) ?_
              obtain ⟨q8, hc8, h⟩ := Option.bind_eq_some_iff.mp h
              refine m_R_cV (v := (some (.int q8.1))) (h1 := (SH, q8.2)) (rest := [.int v2]) (lo' := [some (.ref 304), some (.int v1), some (.int (5 : Int32))]) (ml := 3) (k0 := 304) (by decide) (Or.inl rfl) (m_opb_of (ins := .invokevirtual 160) (len := 3) (tag := 5) (a := 246) (b := 2) (c := 0) (q := 1791) (by decide +kernel)) (by decide +kernel) rfl (show m_isO 246 304 (SH, _) = true from m_isO_of (by decide +kernel)) (Nat.le_of_ble_eq_true rfl) rfl rfl (ok_m_paper X (d + 71) F _ _ _ _ _ hc8) ?_
              refine m_R_sg (by decide) [(.aload_n 0, 1, 0, 0, 0, 0, 0), (.getfield 13, 3, 0, 12, 1, 3, 1493), (.iconst 0, 1, 0, 0, 0, 0, 0)] (by decide +kernel) (show m_sgl X _ _ _ _ _ = some (83, [some (.ref 304), some (.int v1), some (.int v2), some (.int q3.1), none, none], [.int (0 : Int32), .ref 305, .int q8.1, .int v2], (SH, q8.2.1, q8.2.2)) from rfl) ?_
              refine m_R_1 (by decide) (m_opb_of (ins := .iaload) (len := 1) (tag := 0) (a := 0) (b := 0) (c := 0) (q := 0) (by decide +kernel)) (m_s_iald sh_305 (by decide) (show ¬ ((0 : Int32) < 0 ∨ 9732 ≤ (0 : Int32).toNatClampNeg) by decide)) ?_
              refine m_R_sg (by decide) [(.isub, 1, 0, 0, 0, 0, 0)] (by decide +kernel) (show m_sgl X _ _ _ _ _ = some (85, [some (.ref 304), some (.int v1), some (.int v2), some (.int q3.1), none, none], [.int (q8.1 - (q8.2.1 305 (0 : Int32).toNatClampNeg)), .int v2], (SH, q8.2.1, q8.2.2)) from rfl) ?_
              rcases m_ite h with ⟨c700, h⟩ | ⟨c700, h⟩
              · refine m_R_1 (by decide) (m_opb_of (ins := .if_icmp .lt 10) (len := 3) (tag := 0) (a := 95) (b := 0) (c := 0) (q := 0) (by decide +kernel)) (if_pos c700) ?_
                refine m_R_sg (by decide) [(.aload_n 0, 1, 0, 0, 0, 0, 0), (.iload_n 1, 1, 0, 1, 0, 0, 0), (.iconst 2, 1, 0, 2, 0, 0, 0)] (by decide +kernel) (show m_sgl X _ _ _ _ _ = some (98, [some (.ref 304), some (.int v1), some (.int v2), some (.int q3.1), none, none], [.int (2 : Int32), .int v1, .ref 304], (SH, q8.2.1, q8.2.2)) from rfl) ?_
                obtain ⟨q9, hc9, h⟩ := Option.bind_eq_some_iff.mp h
                refine m_R_cV (v := (some (.int q9.1))) (h1 := (SH, q9.2)) (rest := []) (lo' := [some (.ref 304), some (.int v1), some (.int (2 : Int32))]) (ml := 3) (k0 := 304) (by decide) (Or.inl rfl) (m_opb_of (ins := .invokevirtual 160) (len := 3) (tag := 5) (a := 246) (b := 2) (c := 0) (q := 1791) (by decide +kernel)) (by decide +kernel) rfl (show m_isO 246 304 (SH, _) = true from m_isO_of (by decide +kernel)) (Nat.le_of_ble_eq_true rfl) rfl rfl (ok_m_paper X (d + 71) F _ _ _ _ _ hc9) ?_
                refine m_R_sg (by decide) [(.aload_n 0, 1, 0, 0, 0, 0, 0), (.aload_n 0, 1, 0, 0, 0, 0, 0), (.iconst 3, 1, 0, 3, 0, 0, 0), (.iload_n 1, 1, 0, 1, 0, 0, 0), (.iconst 0, 1, 0, 0, 0, 0, 0)] (by decide +kernel) (show m_sgl X _ _ _ _ _ = some (106, [some (.ref 304), some (.int v1), some (.int v2), some (.int q3.1), none, none], [.int (0 : Int32), .int v1, .int (3 : Int32), .ref 304, .ref 304, .int q9.1], (SH, q9.2.1, q9.2.2)) from rfl) ?_
                obtain ⟨q10, hc10, h⟩ := Option.bind_eq_some_iff.mp h
                refine m_R_cV (v := (some (.int q10.1))) (h1 := (SH, q10.2)) (rest := [.ref 304, .int q9.1]) (lo' := [some (.ref 304), some (.int (3 : Int32)), some (.int v1), some (.int (0 : Int32))]) (ml := 4) (k0 := 304) (by decide) (Or.inl rfl) (m_opb_of (ins := .invokevirtual 120) (len := 3) (tag := 5) (a := 226) (b := 3) (c := 0) (q := 1689) (by decide +kernel)) (by decide +kernel) rfl (show m_isO 226 304 (SH, _) = true from m_isO_of (by decide +kernel)) (Nat.le_of_ble_eq_true rfl) rfl rfl (ok_m_ruled X (d + 3) F _ _ _ _ _ _ hc10) ?_
                refine m_R_sg (by decide) [(.iconst 0, 1, 0, 0, 0, 0, 0), (.bipush 100, 2, 0, 100, 0, 0, 0)] (by decide +kernel) (show m_sgl X _ _ _ _ _ = some (112, [some (.ref 304), some (.int v1), some (.int v2), some (.int q3.1), none, none], [.int (100 : Int32), .int (0 : Int32), .int q10.1, .ref 304, .int q9.1], (SH, q10.2.1, q10.2.2)) from rfl) ?_
                obtain ⟨q11, hc11, h⟩ := Option.bind_eq_some_iff.mp h
                refine m_R_cV (v := (some (.int q11.1))) (h1 := (SH, q11.2)) (rest := [.int q9.1]) (lo' := [some (.ref 304), some (.int q10.1), some (.int (0 : Int32)), some (.int (100 : Int32))]) (ml := 4) (k0 := 304) (by decide) (Or.inl rfl) (m_opb_of (ins := .invokevirtual 176) (len := 3) (tag := 5) (a := 273) (b := 3) (c := 0) (q := 1909) (by decide +kernel)) (by decide +kernel) rfl (show m_isO 273 304 (SH, _) = true from m_isO_of (by decide +kernel)) (Nat.le_of_ble_eq_true rfl) rfl rfl (ok_m_within X (d + 71) F _ _ _ _ _ _ hc11) ?_
                refine m_R_sg (by decide) [(.imul, 1, 0, 0, 0, 0, 0), (.bipush 100, 2, 0, 100, 0, 0, 0)] (by decide +kernel) (show m_sgl X _ _ _ _ _ = some (118, [some (.ref 304), some (.int v1), some (.int v2), some (.int q3.1), none, none], [.int (100 : Int32), .int (q9.1 * q11.1)], (SH, q11.2.1, q11.2.2)) from rfl) ?_
                refine m_R_1 (by decide) (m_opb_of (ins := .idiv) (len := 1) (tag := 0) (a := 0) (b := 0) (c := 0) (q := 0) (by decide +kernel)) (m_s_idiv (by decide)) ?_
                refine m_R_sg (by decide) [(.istore 4, 2, 0, 4, 0, 0, 0), (.iload 4, 2, 0, 4, 0, 0, 0)] (by decide +kernel) (show m_sgl X _ _ _ _ _ = some (123, [some (.ref 304), some (.int v1), some (.int v2), some (.int q3.1), some (.int ((q9.1 * q11.1) / (100 : Int32))), none], [.int ((q9.1 * q11.1) / (100 : Int32))], (SH, q11.2.1, q11.2.2)) from rfl) ?_
                rcases m_ite h with ⟨c701, h⟩ | ⟨c701, h⟩
                · refine m_R_1 (by decide) (m_opb_of (ins := .ifCond .eq 14) (len := 3) (tag := 0) (a := 137) (b := 0) (c := 0) (q := 0) (by decide +kernel)) (if_pos c701) ?_
                  exact ok_m_help_137 X d F _ _ _ _ _ _ _ _ h
                · refine m_R_1 (by decide) (m_opb_of (ins := .ifCond .eq 14) (len := 3) (tag := 0) (a := 137) (b := 0) (c := 0) (q := 0) (by decide +kernel)) (if_neg c701) ?_
                  refine m_R_sg (by decide) [(.aload_n 0, 1, 0, 0, 0, 0, 0), (.iconst 0, 1, 0, 0, 0, 0, 0), (.iload_n 3, 1, 0, 3, 0, 0, 0), (.iload 4, 2, 0, 4, 0, 0, 0)] (by decide +kernel) (show m_sgl X _ _ _ _ _ = some (131, [some (.ref 304), some (.int v1), some (.int v2), some (.int q3.1), some (.int ((q9.1 * q11.1) / (100 : Int32))), none], [.int ((q9.1 * q11.1) / (100 : Int32)), .int q3.1, .int (0 : Int32), .ref 304], (SH, q11.2.1, q11.2.2)) from rfl) ?_
                  obtain ⟨q12, hc12, h⟩ := Option.bind_eq_some_iff.mp h
                  refine m_R_cV (v := (some (.int q12.1))) (h1 := (SH, q12.2)) (rest := []) (lo' := [some (.ref 304), some (.int (0 : Int32)), some (.int q3.1), some (.int ((q9.1 * q11.1) / (100 : Int32))), none, none, none]) (ml := 7) (k0 := 304) (by decide) (Or.inl rfl) (m_opb_of (ins := .invokevirtual 144) (len := 3) (tag := 5) (a := 221) (b := 3) (c := 0) (q := 1669) (by decide +kernel)) (by decide +kernel) rfl (show m_isO 221 304 (SH, _) = true from m_isO_of (by decide +kernel)) (Nat.le_of_ble_eq_true rfl) rfl rfl (ok_m_can X (d + 0) F _ _ _ _ _ _ hc12) ?_
                  rcases m_ite h with ⟨c702, h⟩ | ⟨c702, h⟩
                  · refine m_R_1 (by decide) (m_opb_of (ins := .ifCond .ne 10) (len := 3) (tag := 0) (a := 144) (b := 0) (c := 0) (q := 0) (by decide +kernel)) (if_pos c702) ?_
                    exact ok_m_help_137 X d F _ _ _ _ _ _ _ _ h
                  · refine m_R_1 (by decide) (m_opb_of (ins := .ifCond .ne 10) (len := 3) (tag := 0) (a := 144) (b := 0) (c := 0) (q := 0) (by decide +kernel)) (if_neg c702) ?_
                    refine m_R_sg (by decide) [(.aload_n 0, 1, 0, 0, 0, 0, 0)] (by decide +kernel) (show m_sgl X _ _ _ _ _ = some (145, [some (.ref 304), some (.int v1), some (.int v2), some (.int q3.1), some (.int ((q9.1 * q11.1) / (100 : Int32))), none], [.ref 304], (SH, q12.2.1, q12.2.2)) from rfl) ?_
                    obtain ⟨q13, hc13, h⟩ := Option.bind_eq_some_iff.mp h
                    refine m_R_cV (v := (some (.int q13.1))) (h1 := (SH, q13.2)) (rest := []) (lo' := [some (.ref 304), none]) (ml := 2) (k0 := 304) (by decide) (Or.inl rfl) (m_opb_of (ins := .invokevirtual 163) (len := 3) (tag := 5) (a := 267) (b := 0) (c := 0) (q := 1885) (by decide +kernel)) (by decide +kernel) rfl (show m_isO 267 304 (SH, _) = true from m_isO_of (by decide +kernel)) (Nat.le_of_ble_eq_true rfl) rfl rfl (ok_m_free X (d + 70) F _ _ _ hc13) ?_
                    refine m_R_sg (by decide) [(.bipush 60, 2, 0, 60, 0, 0, 0)] (by decide +kernel) (show m_sgl X _ _ _ _ _ = some (150, [some (.ref 304), some (.int v1), some (.int v2), some (.int q3.1), some (.int ((q9.1 * q11.1) / (100 : Int32))), none], [.int (60 : Int32), .int q13.1], (SH, q13.2.1, q13.2.2)) from rfl) ?_
                    rcases m_ite h with ⟨c703, h⟩ | ⟨c703, h⟩
                    · refine m_R_1 (by decide) (m_opb_of (ins := .if_icmp .ne 10) (len := 3) (tag := 0) (a := 160) (b := 0) (c := 0) (q := 0) (by decide +kernel)) (if_pos c703) ?_
                      refine m_R_sg (by decide) [(.aload_n 0, 1, 0, 0, 0, 0, 0), (.bipush (-8), 2, 0, 8, 1, 0, 0)] (by decide +kernel) (show m_sgl X _ _ _ _ _ = some (156, [some (.ref 304), some (.int v1), some (.int v2), some (.int q3.1), some (.int ((q9.1 * q11.1) / (100 : Int32))), none], [.int (-8 : Int32), .ref 304], (SH, q13.2.1, q13.2.2)) from rfl) ?_
                      obtain ⟨q14, hc14, h⟩ := Option.bind_eq_some_iff.mp h
                      refine m_R_cV (v := (some (.int q14.1))) (h1 := (SH, q14.2)) (rest := []) (lo' := [some (.ref 304), some (.int (-8 : Int32))]) (ml := 2) (k0 := 304) (by decide) (Or.inl rfl) (m_opb_of (ins := .invokevirtual 61) (len := 3) (tag := 5) (a := 202) (b := 1) (c := 0) (q := 1593) (by decide +kernel)) (by decide +kernel) rfl (show m_isO 202 304 (SH, _) = true from m_isO_of (by decide +kernel)) (Nat.le_of_ble_eq_true rfl) rfl rfl (ok_m_refuse X (d + 71) F _ _ _ _ hc14) ?_
                      obtain ⟨rfl, rfl⟩ := m_some h
                      exact m_R_iret (by decide) (m_opb_of (ins := .ireturn) (len := 1) (tag := 1) (a := 0) (b := 0) (c := 0) (q := 0) (by decide +kernel)) (Or.inl rfl)
                    · refine m_R_1 (by decide) (m_opb_of (ins := .if_icmp .ne 10) (len := 3) (tag := 0) (a := 160) (b := 0) (c := 0) (q := 0) (by decide +kernel)) (if_neg c703) ?_
                      refine m_R_sg (by decide) [(.aload_n 0, 1, 0, 0, 0, 0, 0), (.iconst 0, 1, 0, 0, 0, 0, 0), (.iload_n 3, 1, 0, 3, 0, 0, 0), (.iload 4, 2, 0, 4, 0, 0, 0)] (by decide +kernel) (show m_sgl X _ _ _ _ _ = some (165, [some (.ref 304), some (.int v1), some (.int v2), some (.int q3.1), some (.int ((q9.1 * q11.1) / (100 : Int32))), none], [.int ((q9.1 * q11.1) / (100 : Int32)), .int q3.1, .int (0 : Int32), .ref 304], (SH, q13.2.1, q13.2.2)) from rfl) ?_
                      obtain ⟨q15, hc15, h⟩ := Option.bind_eq_some_iff.mp h
                      refine m_R_cV (v := none) (h1 := (SH, q15.2)) (rest := []) (lo' := [some (.ref 304), some (.int (0 : Int32)), some (.int q3.1), some (.int ((q9.1 * q11.1) / (100 : Int32))), none, none, none]) (ml := 7) (k0 := 304) (by decide) (Or.inl rfl) (m_opb_of (ins := .invokevirtual 147) (len := 3) (tag := 5) (a := 249) (b := 3) (c := 0) (q := 1814) (by decide +kernel)) (by decide +kernel) rfl (show m_isO 249 304 (SH, _) = true from m_isO_of (by decide +kernel)) (Nat.le_of_ble_eq_true rfl) rfl rfl (ok_m_gives X (d + 68) F _ _ _ _ _ _ hc15) ?_
                      refine m_R_sg (by decide) [(.aload_n 0, 1, 0, 0, 0, 0, 0), (.iconst 3, 1, 0, 3, 0, 0, 0), (.iload 4, 2, 0, 4, 0, 0, 0), (.iload 4, 2, 0, 4, 0, 0, 0), (.aload_n 0, 1, 0, 0, 0, 0, 0), (.getfield 13, 3, 0, 12, 1, 3, 1493), (.bipush 10, 2, 0, 10, 0, 0, 0)] (by decide +kernel) (show m_sgl X _ _ _ _ _ = some (180, [some (.ref 304), some (.int v1), some (.int v2), some (.int q3.1), some (.int ((q9.1 * q11.1) / (100 : Int32))), none], [.int (10 : Int32), .ref 305, .int ((q9.1 * q11.1) / (100 : Int32)), .int ((q9.1 * q11.1) / (100 : Int32)), .int (3 : Int32), .ref 304], (SH, q15.2.1, q15.2.2)) from rfl) ?_
                      refine m_R_1 (by decide) (m_opb_of (ins := .iaload) (len := 1) (tag := 0) (a := 0) (b := 0) (c := 0) (q := 0) (by decide +kernel)) (m_s_iald sh_305 (by decide) (show ¬ ((10 : Int32) < 0 ∨ 9732 ≤ (10 : Int32).toNatClampNeg) by decide)) ?_
                      refine m_R_sg (by decide) [(.imul, 1, 0, 0, 0, 0, 0), (.iload_n 2, 1, 0, 2, 0, 0, 0), (.imul, 1, 0, 0, 0, 0, 0), (.ldc 179, 2, 0, 36000, 0, 0, 1913)] (by decide +kernel) (show m_sgl X _ _ _ _ _ = some (186, [some (.ref 304), some (.int v1), some (.int v2), some (.int q3.1), some (.int ((q9.1 * q11.1) / (100 : Int32))), none], [.int (36000 : Int32), .int ((((q9.1 * q11.1) / (100 : Int32)) * (q15.2.1 305 (10 : Int32).toNatClampNeg)) * v2), .int ((q9.1 * q11.1) / (100 : Int32)), .int (3 : Int32), .ref 304], (SH, q15.2.1, q15.2.2)) from rfl) ?_
                      refine m_R_1 (by decide) (m_opb_of (ins := .idiv) (len := 1) (tag := 0) (a := 0) (b := 0) (c := 0) (q := 0) (by decide +kernel)) (m_s_idiv (by decide)) ?_
                      refine m_R_sg (by decide) [(.iadd, 1, 0, 0, 0, 0, 0), (.iload_n 3, 1, 0, 3, 0, 0, 0), (.iconst 0, 1, 0, 0, 0, 0, 0), (.aload_n 0, 1, 0, 0, 0, 0, 0), (.getfield 13, 3, 0, 12, 1, 3, 1493), (.iconst 0, 1, 0, 0, 0, 0, 0)] (by decide +kernel) (show m_sgl X _ _ _ _ _ = some (195, [some (.ref 304), some (.int v1), some (.int v2), some (.int q3.1), some (.int ((q9.1 * q11.1) / (100 : Int32))), none], [.int (0 : Int32), .ref 305, .int (0 : Int32), .int q3.1, .int (((q9.1 * q11.1) / (100 : Int32)) + (((((q9.1 * q11.1) / (100 : Int32)) * (q15.2.1 305 (10 : Int32).toNatClampNeg)) * v2) / (36000 : Int32))), .int (3 : Int32), .ref 304], (SH, q15.2.1, q15.2.2)) from rfl) ?_
                      refine m_R_1 (by decide) (m_opb_of (ins := .iaload) (len := 1) (tag := 0) (a := 0) (b := 0) (c := 0) (q := 0) (by decide +kernel)) (m_s_iald sh_305 (by decide) (show ¬ ((0 : Int32) < 0 ∨ 9732 ≤ (0 : Int32).toNatClampNeg) by decide)) ?_
                      refine m_R_sg (by decide) [(.iload_n 2, 1, 0, 2, 0, 0, 0), (.iadd, 1, 0, 0, 0, 0, 0)] (by decide +kernel) (show m_sgl X _ _ _ _ _ = some (198, [some (.ref 304), some (.int v1), some (.int v2), some (.int q3.1), some (.int ((q9.1 * q11.1) / (100 : Int32))), none], [.int ((q15.2.1 305 (0 : Int32).toNatClampNeg) + v2), .int (0 : Int32), .int q3.1, .int (((q9.1 * q11.1) / (100 : Int32)) + (((((q9.1 * q11.1) / (100 : Int32)) * (q15.2.1 305 (10 : Int32).toNatClampNeg)) * v2) / (36000 : Int32))), .int (3 : Int32), .ref 304], (SH, q15.2.1, q15.2.2)) from rfl) ?_
                      obtain ⟨q16, hc16, h⟩ := Option.bind_eq_some_iff.mp h
                      refine m_R_cV (v := (some (.int q16.1))) (h1 := (SH, q16.2)) (rest := []) (lo' := [some (.ref 304), some (.int (3 : Int32)), some (.int (((q9.1 * q11.1) / (100 : Int32)) + (((((q9.1 * q11.1) / (100 : Int32)) * (q15.2.1 305 (10 : Int32).toNatClampNeg)) * v2) / (36000 : Int32)))), some (.int q3.1), some (.int (0 : Int32)), some (.int ((q15.2.1 305 (0 : Int32).toNatClampNeg) + v2)), none, none, none]) (ml := 9) (k0 := 304) (by decide) (Or.inl rfl) (m_opb_of (ins := .invokevirtual 166) (len := 3) (tag := 5) (a := 268) (b := 5) (c := 0) (q := 1889) (by decide +kernel)) (by decide +kernel) rfl (show m_isO 268 304 (SH, _) = true from m_isO_of (by decide +kernel)) (Nat.le_of_ble_eq_true rfl) rfl rfl (ok_m_makes X (d + 69) F _ _ _ _ _ _ _ _ hc16) ?_
                      refine m_R_sg (by decide) [(.istore 5, 2, 0, 5, 0, 0, 0), (.aload_n 0, 1, 0, 0, 0, 0, 0), (.getfield 13, 3, 0, 12, 1, 3, 1493), (.sipush 6200, 3, 0, 6200, 0, 0, 0), (.bipush 20, 2, 0, 20, 0, 0, 0), (.iload 5, 2, 0, 5, 0, 0, 0), (.imul, 1, 0, 0, 0, 0, 0), (.iadd, 1, 0, 0, 0, 0, 0), (.bipush 15, 2, 0, 15, 0, 0, 0), (.iadd, 1, 0, 0, 0, 0, 0), (.iload_n 1, 1, 0, 1, 0, 0, 0)] (by decide +kernel) (show m_sgl X _ _ _ _ _ = some (220, [some (.ref 304), some (.int v1), some (.int v2), some (.int q3.1), some (.int ((q9.1 * q11.1) / (100 : Int32))), some (.int q16.1)], [.int v1, .int (((6200 : Int32) + ((20 : Int32) * q16.1)) + (15 : Int32)), .ref 305], (SH, q16.2.1, q16.2.2)) from rfl) ?_
                      obtain ⟨c704, h⟩ := m_ite_n h
                      refine m_R_1 (by decide) (m_opb_of (ins := .iastore) (len := 1) (tag := 0) (a := 0) (b := 0) (c := 0) (q := 0) (by decide +kernel)) (m_s_iast sh_305 c704) ?_
                      refine m_R_sg (by decide) [(.aload_n 0, 1, 0, 0, 0, 0, 0), (.getfield 13, 3, 0, 12, 1, 3, 1493), (.sipush 6200, 3, 0, 6200, 0, 0, 0), (.bipush 20, 2, 0, 20, 0, 0, 0), (.iload_n 1, 1, 0, 1, 0, 0, 0), (.imul, 1, 0, 0, 0, 0, 0), (.iadd, 1, 0, 0, 0, 0, 0), (.bipush 14, 2, 0, 14, 0, 0, 0), (.iadd, 1, 0, 0, 0, 0, 0), (.iconst 1, 1, 0, 1, 0, 0, 0)] (by decide +kernel) (show m_sgl X _ _ _ _ _ = some (237, [some (.ref 304), some (.int v1), some (.int v2), some (.int q3.1), some (.int ((q9.1 * q11.1) / (100 : Int32))), some (.int q16.1)], [.int (1 : Int32), .int (((6200 : Int32) + ((20 : Int32) * v1)) + (14 : Int32)), .ref 305], (SH, (m_up q16.2.1 305 (((6200 : Int32) + ((20 : Int32) * q16.1)) + (15 : Int32)).toNatClampNeg v1), q16.2.2)) from rfl) ?_
                      obtain ⟨c705, h⟩ := m_ite_n h
                      refine m_R_1 (by decide) (m_opb_of (ins := .iastore) (len := 1) (tag := 0) (a := 0) (b := 0) (c := 0) (q := 0) (by decide +kernel)) (m_s_iast sh_305 c705) ?_
                      refine m_R_sg (by decide) [(.aload_n 0, 1, 0, 0, 0, 0, 0), (.getfield 13, 3, 0, 12, 1, 3, 1493), (.sipush 6200, 3, 0, 6200, 0, 0, 0), (.bipush 20, 2, 0, 20, 0, 0, 0), (.iload_n 1, 1, 0, 1, 0, 0, 0), (.imul, 1, 0, 0, 0, 0, 0), (.iadd, 1, 0, 0, 0, 0, 0), (.iconst 4, 1, 0, 4, 0, 0, 0), (.iadd, 1, 0, 0, 0, 0, 0), (.iconst 0, 1, 0, 0, 0, 0, 0)] (by decide +kernel) (show m_sgl X _ _ _ _ _ = some (253, [some (.ref 304), some (.int v1), some (.int v2), some (.int q3.1), some (.int ((q9.1 * q11.1) / (100 : Int32))), some (.int q16.1)], [.int (0 : Int32), .int (((6200 : Int32) + ((20 : Int32) * v1)) + (4 : Int32)), .ref 305], (SH, (m_up (m_up q16.2.1 305 (((6200 : Int32) + ((20 : Int32) * q16.1)) + (15 : Int32)).toNatClampNeg v1) 305 (((6200 : Int32) + ((20 : Int32) * v1)) + (14 : Int32)).toNatClampNeg (1 : Int32)), q16.2.2)) from rfl) ?_
                      obtain ⟨c706, h⟩ := m_ite_n h
                      refine m_R_1 (by decide) (m_opb_of (ins := .iastore) (len := 1) (tag := 0) (a := 0) (b := 0) (c := 0) (q := 0) (by decide +kernel)) (m_s_iast sh_305 c706) ?_
                      exact ok_m_help_254 X d F _ _ _ _ _ _ _ _ _ h
              · refine m_R_1 (by decide) (m_opb_of (ins := .if_icmp .lt 10) (len := 3) (tag := 0) (a := 95) (b := 0) (c := 0) (q := 0) (by decide +kernel)) (if_neg c700) ?_
                exact ok_m_help_88 X d F _ _ _ _ _ _ _ _ h
          · refine m_R_1 (by decide) (m_opb_of (ins := .ifCond .ne 28) (len := 3) (tag := 0) (a := 88) (b := 0) (c := 0) (q := 0) (by decide +kernel)) (if_neg c698) ?_
            exact ok_m_help_88 X d F _ _ _ _ _ _ _ _ h
    · refine m_R_1 (by decide) (m_opb_of (ins := .if_icmp .ne 7) (len := 3) (tag := 0) (a := 36) (b := 0) (c := 0) (q := 0) (by decide +kernel)) (if_neg c695) ?_
      exact ok_m_help_36 X d F _ _ _ _ _ _ _ _ h
def f_Papers_maySell_54 (F : Nat)   (s0 : Int32) (m : mM) : Option (Int32 × mM) := (if s0 = 0 ∨ s0 = 1 then some (s0, m) else none)
theorem ok_Papers_maySell_54 (X : mX) (d F : Nat) : ∀ (s0 : Int32) (w0 : Option Value) (w1 : Option Value) (w2 : Option Value) (m : mM) (r : Int32) (m' : mM), f_Papers_maySell_54 F s0 m = some (r, m') → m_R X (d + 0) 82 54 [w0, w1, w2] [.int s0] (SH, m) (some (.int r), (SH, m')) := by
  intro s0 w0 w1 w2 m r m' h
  unfold f_Papers_maySell_54 at h
  obtain ⟨c0, h⟩ := m_ite_p h
  obtain ⟨rfl, rfl⟩ := m_some h
  exact m_R_iret (by decide) (m_opb_of (ins := .ireturn) (len := 1) (tag := 1) (a := 1) (b := 0) (c := 0) (q := 0) (by decide +kernel)) (Or.inr c0)
def f_Papers_maySell_53 (F : Nat)    (m : mM) : Option (Int32 × mM) := f_Papers_maySell_54 F (0 : Int32) m
theorem ok_Papers_maySell_53 (X : mX) (d F : Nat) : ∀  (w0 : Option Value) (w1 : Option Value) (w2 : Option Value) (m : mM) (r : Int32) (m' : mM), f_Papers_maySell_53 F  m = some (r, m') → m_R X (d + 0) 82 53 [w0, w1, w2] [] (SH, m) (some (.int r), (SH, m')) := by
  intro w0 w1 w2 m r m' h
  unfold f_Papers_maySell_53 at h
  refine m_R_sg (by decide) [(.iconst 0, 1, 0, 0, 0, 0, 0)] (by decide +kernel) (show m_sgl X _ _ _ _ _ = some (54, [w0, w1, w2], [.int (0 : Int32)], (SH, m.1, m.2)) from rfl) ?_
  exact ok_Papers_maySell_54 X d F _ _ _ _ _ _ _ h
def f_Papers_maySell (F : Nat)   (v1 : Int32) (v2 : Int32) (m : mM) : Option (Int32 × mM) := (if v1 < 0 ∨ 60 ≤ v1.toNatClampNeg then none else (if (m.1 32 v1.toNatClampNeg) = (1 : Int32) then (if (m.1 37 v1.toNatClampNeg) = 0 then (if (m.1 36 v1.toNatClampNeg) ≤ v2 then f_Papers_maySell_53 F m else (if (m.1 40 v1.toNatClampNeg) = 0 then (if (6 : Int32) ≤ (m.1 39 v1.toNatClampNeg) then f_Papers_maySell_53 F m else f_Papers_maySell_54 F (1 : Int32) m) else f_Papers_maySell_53 F m)) else f_Papers_maySell_53 F m) else f_Papers_maySell_53 F m))
theorem ok_Papers_maySell (X : mX) (d F : Nat) : ∀ (v1 : Int32) (v2 : Int32)  (m : mM) (r : Int32) (m' : mM), f_Papers_maySell F v1 v2 m = some (r, m') → m_R X (d + 0) 82 0 [some (.ref 31), some (.int v1), some (.int v2)] [] (SH, m) (some (.int r), (SH, m')) := by
  intro v1 v2 m r m' h
  unfold f_Papers_maySell at h
  refine m_R_sg (by decide) [(.aload_n 0, 1, 0, 0, 0, 0, 0), (.getfield 9, 3, 0, 4, 0, 3, 317), (.iload_n 1, 1, 0, 1, 0, 0, 0)] (by decide +kernel) (show m_sgl X _ _ _ _ _ = some (5, [some (.ref 31), some (.int v1), some (.int v2)], [.int v1, .ref 32], (SH, m.1, m.2)) from rfl) ?_
  obtain ⟨c707, h⟩ := m_ite_n h
  refine m_R_1 (by decide) (m_opb_of (ins := .iaload) (len := 1) (tag := 0) (a := 0) (b := 0) (c := 0) (q := 0) (by decide +kernel)) (m_s_iald sh_32 (by decide) c707) ?_
  refine m_R_sg (by decide) [(.iconst 1, 1, 0, 1, 0, 0, 0)] (by decide +kernel) (show m_sgl X _ _ _ _ _ = some (7, [some (.ref 31), some (.int v1), some (.int v2)], [.int (1 : Int32), .int (m.1 32 v1.toNatClampNeg)], (SH, m.1, m.2)) from rfl) ?_
  rcases m_ite h with ⟨c708, h⟩ | ⟨c708, h⟩
  · refine m_R_1 (by decide) (m_opb_of (ins := .if_icmp .ne 46) (len := 3) (tag := 0) (a := 53) (b := 0) (c := 0) (q := 0) (by decide +kernel)) (if_pos c708) ?_
    refine m_R_sg (by decide) [(.aload_n 0, 1, 0, 0, 0, 0, 0), (.getfield 27, 3, 0, 4, 5, 3, 336), (.iload_n 1, 1, 0, 1, 0, 0, 0)] (by decide +kernel) (show m_sgl X _ _ _ _ _ = some (15, [some (.ref 31), some (.int v1), some (.int v2)], [.int v1, .ref 37], (SH, m.1, m.2)) from rfl) ?_
    refine m_R_1 (by decide) (m_opb_of (ins := .iaload) (len := 1) (tag := 0) (a := 0) (b := 0) (c := 0) (q := 0) (by decide +kernel)) (m_s_iald sh_37 (by decide) c707) ?_
    rcases m_ite h with ⟨c709, h⟩ | ⟨c709, h⟩
    · refine m_R_1 (by decide) (m_opb_of (ins := .ifCond .ne 37) (len := 3) (tag := 0) (a := 53) (b := 0) (c := 0) (q := 0) (by decide +kernel)) (if_pos c709) ?_
      refine m_R_sg (by decide) [(.aload_n 0, 1, 0, 0, 0, 0, 0), (.getfield 24, 3, 0, 4, 4, 3, 333), (.iload_n 1, 1, 0, 1, 0, 0, 0)] (by decide +kernel) (show m_sgl X _ _ _ _ _ = some (24, [some (.ref 31), some (.int v1), some (.int v2)], [.int v1, .ref 36], (SH, m.1, m.2)) from rfl) ?_
      refine m_R_1 (by decide) (m_opb_of (ins := .iaload) (len := 1) (tag := 0) (a := 0) (b := 0) (c := 0) (q := 0) (by decide +kernel)) (m_s_iald sh_36 (by decide) c707) ?_
      refine m_R_sg (by decide) [(.iload_n 2, 1, 0, 2, 0, 0, 0)] (by decide +kernel) (show m_sgl X _ _ _ _ _ = some (26, [some (.ref 31), some (.int v1), some (.int v2)], [.int v2, .int (m.1 36 v1.toNatClampNeg)], (SH, m.1, m.2)) from rfl) ?_
      rcases m_ite h with ⟨c710, h⟩ | ⟨c710, h⟩
      · refine m_R_1 (by decide) (m_opb_of (ins := .if_icmp .le 27) (len := 3) (tag := 0) (a := 53) (b := 0) (c := 0) (q := 0) (by decide +kernel)) (if_pos c710) ?_
        exact ok_Papers_maySell_53 X d F _ _ _ _ _ _ h
      · refine m_R_1 (by decide) (m_opb_of (ins := .if_icmp .le 27) (len := 3) (tag := 0) (a := 53) (b := 0) (c := 0) (q := 0) (by decide +kernel)) (if_neg c710) ?_
        refine m_R_sg (by decide) [(.aload_n 0, 1, 0, 0, 0, 0, 0), (.getfield 36, 3, 0, 4, 8, 3, 345), (.iload_n 1, 1, 0, 1, 0, 0, 0)] (by decide +kernel) (show m_sgl X _ _ _ _ _ = some (34, [some (.ref 31), some (.int v1), some (.int v2)], [.int v1, .ref 40], (SH, m.1, m.2)) from rfl) ?_
        refine m_R_1 (by decide) (m_opb_of (ins := .iaload) (len := 1) (tag := 0) (a := 0) (b := 0) (c := 0) (q := 0) (by decide +kernel)) (m_s_iald sh_40 (by decide) c707) ?_
        rcases m_ite h with ⟨c711, h⟩ | ⟨c711, h⟩
        · refine m_R_1 (by decide) (m_opb_of (ins := .ifCond .ne 18) (len := 3) (tag := 0) (a := 53) (b := 0) (c := 0) (q := 0) (by decide +kernel)) (if_pos c711) ?_
          refine m_R_sg (by decide) [(.aload_n 0, 1, 0, 0, 0, 0, 0), (.getfield 33, 3, 0, 4, 7, 3, 342), (.iload_n 1, 1, 0, 1, 0, 0, 0)] (by decide +kernel) (show m_sgl X _ _ _ _ _ = some (43, [some (.ref 31), some (.int v1), some (.int v2)], [.int v1, .ref 39], (SH, m.1, m.2)) from rfl) ?_
          refine m_R_1 (by decide) (m_opb_of (ins := .iaload) (len := 1) (tag := 0) (a := 0) (b := 0) (c := 0) (q := 0) (by decide +kernel)) (m_s_iald sh_39 (by decide) c707) ?_
          refine m_R_sg (by decide) [(.bipush 6, 2, 0, 6, 0, 0, 0)] (by decide +kernel) (show m_sgl X _ _ _ _ _ = some (46, [some (.ref 31), some (.int v1), some (.int v2)], [.int (6 : Int32), .int (m.1 39 v1.toNatClampNeg)], (SH, m.1, m.2)) from rfl) ?_
          rcases m_ite h with ⟨c712, h⟩ | ⟨c712, h⟩
          · refine m_R_1 (by decide) (m_opb_of (ins := .if_icmp .ge 7) (len := 3) (tag := 0) (a := 53) (b := 0) (c := 0) (q := 0) (by decide +kernel)) (if_pos c712) ?_
            exact ok_Papers_maySell_53 X d F _ _ _ _ _ _ h
          · refine m_R_1 (by decide) (m_opb_of (ins := .if_icmp .ge 7) (len := 3) (tag := 0) (a := 53) (b := 0) (c := 0) (q := 0) (by decide +kernel)) (if_neg c712) ?_
            refine m_R_sg (by decide) [(.iconst 1, 1, 0, 1, 0, 0, 0), (.goto 4, 3, 0, 54, 0, 0, 0)] (by decide +kernel) (show m_sgl X _ _ _ _ _ = some (54, [some (.ref 31), some (.int v1), some (.int v2)], [.int (1 : Int32)], (SH, m.1, m.2)) from rfl) ?_
            exact ok_Papers_maySell_54 X d F _ _ _ _ _ _ _ h
        · refine m_R_1 (by decide) (m_opb_of (ins := .ifCond .ne 18) (len := 3) (tag := 0) (a := 53) (b := 0) (c := 0) (q := 0) (by decide +kernel)) (if_neg c711) ?_
          exact ok_Papers_maySell_53 X d F _ _ _ _ _ _ h
    · refine m_R_1 (by decide) (m_opb_of (ins := .ifCond .ne 37) (len := 3) (tag := 0) (a := 53) (b := 0) (c := 0) (q := 0) (by decide +kernel)) (if_neg c709) ?_
      exact ok_Papers_maySell_53 X d F _ _ _ _ _ _ h
  · refine m_R_1 (by decide) (m_opb_of (ins := .if_icmp .ne 46) (len := 3) (tag := 0) (a := 53) (b := 0) (c := 0) (q := 0) (by decide +kernel)) (if_neg c708) ?_
    exact ok_Papers_maySell_53 X d F _ _ _ _ _ _ h
def f_Papers_priceAt (F : Nat)   (v1 : Int32) (v2 : Int32) (v3 : Int32) (m : mM) : Option (Int32 × mM) := (if v1 < 0 ∨ 60 ≤ v1.toNatClampNeg then none else some (((m.1 33 v1.toNatClampNeg) - ((((m.1 33 v1.toNatClampNeg) * v2) * ((m.1 36 v1.toNatClampNeg) - v3)) / (36000 : Int32))), m))
theorem ok_Papers_priceAt (X : mX) (d F : Nat) : ∀ (v1 : Int32) (v2 : Int32) (v3 : Int32)  (m : mM) (r : Int32) (m' : mM), f_Papers_priceAt F v1 v2 v3 m = some (r, m') → m_R X (d + 0) 84 0 [some (.ref 31), some (.int v1), some (.int v2), some (.int v3)] [] (SH, m) (some (.int r), (SH, m')) := by
  intro v1 v2 v3 m r m' h
  unfold f_Papers_priceAt at h
  refine m_R_sg (by decide) [(.aload_n 0, 1, 0, 0, 0, 0, 0), (.getfield 15, 3, 0, 4, 1, 3, 321), (.iload_n 1, 1, 0, 1, 0, 0, 0)] (by decide +kernel) (show m_sgl X _ _ _ _ _ = some (5, [some (.ref 31), some (.int v1), some (.int v2), some (.int v3)], [.int v1, .ref 33], (SH, m.1, m.2)) from rfl) ?_
  obtain ⟨c713, h⟩ := m_ite_n h
  refine m_R_1 (by decide) (m_opb_of (ins := .iaload) (len := 1) (tag := 0) (a := 0) (b := 0) (c := 0) (q := 0) (by decide +kernel)) (m_s_iald sh_33 (by decide) c713) ?_
  refine m_R_sg (by decide) [(.aload_n 0, 1, 0, 0, 0, 0, 0), (.getfield 15, 3, 0, 4, 1, 3, 321), (.iload_n 1, 1, 0, 1, 0, 0, 0)] (by decide +kernel) (show m_sgl X _ _ _ _ _ = some (11, [some (.ref 31), some (.int v1), some (.int v2), some (.int v3)], [.int v1, .ref 33, .int (m.1 33 v1.toNatClampNeg)], (SH, m.1, m.2)) from rfl) ?_
  refine m_R_1 (by decide) (m_opb_of (ins := .iaload) (len := 1) (tag := 0) (a := 0) (b := 0) (c := 0) (q := 0) (by decide +kernel)) (m_s_iald sh_33 (by decide) c713) ?_
  refine m_R_sg (by decide) [(.iload_n 2, 1, 0, 2, 0, 0, 0), (.imul, 1, 0, 0, 0, 0, 0), (.aload_n 0, 1, 0, 0, 0, 0, 0), (.getfield 24, 3, 0, 4, 4, 3, 333), (.iload_n 1, 1, 0, 1, 0, 0, 0)] (by decide +kernel) (show m_sgl X _ _ _ _ _ = some (19, [some (.ref 31), some (.int v1), some (.int v2), some (.int v3)], [.int v1, .ref 36, .int ((m.1 33 v1.toNatClampNeg) * v2), .int (m.1 33 v1.toNatClampNeg)], (SH, m.1, m.2)) from rfl) ?_
  refine m_R_1 (by decide) (m_opb_of (ins := .iaload) (len := 1) (tag := 0) (a := 0) (b := 0) (c := 0) (q := 0) (by decide +kernel)) (m_s_iald sh_36 (by decide) c713) ?_
  refine m_R_sg (by decide) [(.iload_n 3, 1, 0, 3, 0, 0, 0), (.isub, 1, 0, 0, 0, 0, 0), (.imul, 1, 0, 0, 0, 0, 0), (.ldc 76, 2, 0, 36000, 0, 0, 960)] (by decide +kernel) (show m_sgl X _ _ _ _ _ = some (25, [some (.ref 31), some (.int v1), some (.int v2), some (.int v3)], [.int (36000 : Int32), .int (((m.1 33 v1.toNatClampNeg) * v2) * ((m.1 36 v1.toNatClampNeg) - v3)), .int (m.1 33 v1.toNatClampNeg)], (SH, m.1, m.2)) from rfl) ?_
  refine m_R_1 (by decide) (m_opb_of (ins := .idiv) (len := 1) (tag := 0) (a := 0) (b := 0) (c := 0) (q := 0) (by decide +kernel)) (m_s_idiv (by decide)) ?_
  refine m_R_sg (by decide) [(.isub, 1, 0, 0, 0, 0, 0)] (by decide +kernel) (show m_sgl X _ _ _ _ _ = some (27, [some (.ref 31), some (.int v1), some (.int v2), some (.int v3)], [.int ((m.1 33 v1.toNatClampNeg) - ((((m.1 33 v1.toNatClampNeg) * v2) * ((m.1 36 v1.toNatClampNeg) - v3)) / (36000 : Int32)))], (SH, m.1, m.2)) from rfl) ?_
  obtain ⟨rfl, rfl⟩ := m_some h
  exact m_R_iret (by decide) (m_opb_of (ins := .ireturn) (len := 1) (tag := 1) (a := 0) (b := 0) (c := 0) (q := 0) (by decide +kernel)) (Or.inl rfl)
def f_Papers_sellOn_65 (F : Nat)   (v1 : Int32) (v2 : Int32) (m : mM) : Option (Unit × mM) := (if v1 < 0 ∨ 60 ≤ v1.toNatClampNeg then none else some ((), ((m_up m.1 35 v1.toNatClampNeg v2), m.2)))
theorem ok_Papers_sellOn_65 (X : mX) (d F : Nat) : ∀ (v1 : Int32) (v2 : Int32) (w3 : Option Value) (w4 : Option Value) (m : mM) (r : Unit) (m' : mM), f_Papers_sellOn_65 F v1 v2 m = some (r, m') → m_R X (d + 0) 85 65 [some (.ref 31), some (.int v1), some (.int v2), w3, w4] [] (SH, m) (none, (SH, m')) := by
  intro v1 v2 w3 w4 m r m' h
  unfold f_Papers_sellOn_65 at h
  refine m_R_sg (by decide) [(.aload_n 0, 1, 0, 0, 0, 0, 0), (.getfield 21, 3, 0, 4, 3, 3, 329), (.iload_n 1, 1, 0, 1, 0, 0, 0), (.iload_n 2, 1, 0, 2, 0, 0, 0)] (by decide +kernel) (show m_sgl X _ _ _ _ _ = some (71, [some (.ref 31), some (.int v1), some (.int v2), w3, w4], [.int v2, .int v1, .ref 35], (SH, m.1, m.2)) from rfl) ?_
  obtain ⟨c714, h⟩ := m_ite_n h
  refine m_R_1 (by decide) (m_opb_of (ins := .iastore) (len := 1) (tag := 0) (a := 0) (b := 0) (c := 0) (q := 0) (by decide +kernel)) (m_s_iast sh_35 c714) ?_
  obtain ⟨rfl, rfl⟩ := m_some h
  exact m_R_vret (by decide) (m_opb_of (ins := .return_) (len := 1) (tag := 3) (a := 0) (b := 0) (c := 0) (q := 0) (by decide +kernel))
def f_Papers_sellOn (F : Nat)   (v1 : Int32) (v2 : Int32) (m : mM) : Option (Unit × mM) := (if v1 < 0 ∨ 60 ≤ v1.toNatClampNeg then none else (if (m.1 39 v1.toNatClampNeg) ≤ 0 then f_Papers_sellOn_65 F v1 v2 m else (if (6 : Int32) ≤ (m.1 39 v1.toNatClampNeg) then f_Papers_sellOn_65 F v1 v2 m else (if (((v1 * (6 : Int32)) + (m.1 39 v1.toNatClampNeg)) - (1 : Int32)) < 0 ∨ 360 ≤ (((v1 * (6 : Int32)) + (m.1 39 v1.toNatClampNeg)) - (1 : Int32)).toNatClampNeg then none else (if (m.1 38 (((v1 * (6 : Int32)) + (m.1 39 v1.toNatClampNeg)) - (1 : Int32)).toNatClampNeg) = (m.1 35 v1.toNatClampNeg) then f_Papers_sellOn_65 F v1 v2 m else (if ((v1 * (6 : Int32)) + (m.1 39 v1.toNatClampNeg)) < 0 ∨ 360 ≤ ((v1 * (6 : Int32)) + (m.1 39 v1.toNatClampNeg)).toNatClampNeg then none else f_Papers_sellOn_65 F v1 v2 ((m_up (m_up m.1 38 ((v1 * (6 : Int32)) + (m.1 39 v1.toNatClampNeg)).toNatClampNeg (m.1 35 v1.toNatClampNeg)) 39 v1.toNatClampNeg ((m.1 39 v1.toNatClampNeg) + (1 : Int32))), m.2)))))))
theorem ok_Papers_sellOn (X : mX) (d F : Nat) : ∀ (v1 : Int32) (v2 : Int32)  (m : mM) (r : Unit) (m' : mM), f_Papers_sellOn F v1 v2 m = some (r, m') → m_R X (d + 0) 85 0 [some (.ref 31), some (.int v1), some (.int v2), none, none] [] (SH, m) (none, (SH, m')) := by
  intro v1 v2 m r m' h
  unfold f_Papers_sellOn at h
  refine m_R_sg (by decide) [(.aload_n 0, 1, 0, 0, 0, 0, 0), (.getfield 33, 3, 0, 4, 7, 3, 342), (.iload_n 1, 1, 0, 1, 0, 0, 0)] (by decide +kernel) (show m_sgl X _ _ _ _ _ = some (5, [some (.ref 31), some (.int v1), some (.int v2), none, none], [.int v1, .ref 39], (SH, m.1, m.2)) from rfl) ?_
  obtain ⟨c715, h⟩ := m_ite_n h
  refine m_R_1 (by decide) (m_opb_of (ins := .iaload) (len := 1) (tag := 0) (a := 0) (b := 0) (c := 0) (q := 0) (by decide +kernel)) (m_s_iald sh_39 (by decide) c715) ?_
  refine m_R_sg (by decide) [(.istore_n 3, 1, 0, 3, 0, 0, 0), (.aload_n 0, 1, 0, 0, 0, 0, 0), (.getfield 21, 3, 0, 4, 3, 3, 329), (.iload_n 1, 1, 0, 1, 0, 0, 0)] (by decide +kernel) (show m_sgl X _ _ _ _ _ = some (12, [some (.ref 31), some (.int v1), some (.int v2), some (.int (m.1 39 v1.toNatClampNeg)), none], [.int v1, .ref 35], (SH, m.1, m.2)) from rfl) ?_
  refine m_R_1 (by decide) (m_opb_of (ins := .iaload) (len := 1) (tag := 0) (a := 0) (b := 0) (c := 0) (q := 0) (by decide +kernel)) (m_s_iald sh_35 (by decide) c715) ?_
  refine m_R_sg (by decide) [(.istore 4, 2, 0, 4, 0, 0, 0), (.iload_n 3, 1, 0, 3, 0, 0, 0)] (by decide +kernel) (show m_sgl X _ _ _ _ _ = some (16, [some (.ref 31), some (.int v1), some (.int v2), some (.int (m.1 39 v1.toNatClampNeg)), some (.int (m.1 35 v1.toNatClampNeg))], [.int (m.1 39 v1.toNatClampNeg)], (SH, m.1, m.2)) from rfl) ?_
  rcases m_ite h with ⟨c716, h⟩ | ⟨c716, h⟩
  · refine m_R_1 (by decide) (m_opb_of (ins := .ifCond .le 49) (len := 3) (tag := 0) (a := 65) (b := 0) (c := 0) (q := 0) (by decide +kernel)) (if_pos c716) ?_
    exact ok_Papers_sellOn_65 X d F _ _ _ _ _ _ _ h
  · refine m_R_1 (by decide) (m_opb_of (ins := .ifCond .le 49) (len := 3) (tag := 0) (a := 65) (b := 0) (c := 0) (q := 0) (by decide +kernel)) (if_neg c716) ?_
    refine m_R_sg (by decide) [(.iload_n 3, 1, 0, 3, 0, 0, 0), (.bipush 6, 2, 0, 6, 0, 0, 0)] (by decide +kernel) (show m_sgl X _ _ _ _ _ = some (22, [some (.ref 31), some (.int v1), some (.int v2), some (.int (m.1 39 v1.toNatClampNeg)), some (.int (m.1 35 v1.toNatClampNeg))], [.int (6 : Int32), .int (m.1 39 v1.toNatClampNeg)], (SH, m.1, m.2)) from rfl) ?_
    rcases m_ite h with ⟨c717, h⟩ | ⟨c717, h⟩
    · refine m_R_1 (by decide) (m_opb_of (ins := .if_icmp .ge 43) (len := 3) (tag := 0) (a := 65) (b := 0) (c := 0) (q := 0) (by decide +kernel)) (if_pos c717) ?_
      exact ok_Papers_sellOn_65 X d F _ _ _ _ _ _ _ h
    · refine m_R_1 (by decide) (m_opb_of (ins := .if_icmp .ge 43) (len := 3) (tag := 0) (a := 65) (b := 0) (c := 0) (q := 0) (by decide +kernel)) (if_neg c717) ?_
      refine m_R_sg (by decide) [(.aload_n 0, 1, 0, 0, 0, 0, 0), (.getfield 30, 3, 0, 4, 6, 3, 339), (.iload_n 1, 1, 0, 1, 0, 0, 0), (.bipush 6, 2, 0, 6, 0, 0, 0), (.imul, 1, 0, 0, 0, 0, 0), (.iload_n 3, 1, 0, 3, 0, 0, 0), (.iadd, 1, 0, 0, 0, 0, 0), (.iconst 1, 1, 0, 1, 0, 0, 0), (.isub, 1, 0, 0, 0, 0, 0)] (by decide +kernel) (show m_sgl X _ _ _ _ _ = some (37, [some (.ref 31), some (.int v1), some (.int v2), some (.int (m.1 39 v1.toNatClampNeg)), some (.int (m.1 35 v1.toNatClampNeg))], [.int (((v1 * (6 : Int32)) + (m.1 39 v1.toNatClampNeg)) - (1 : Int32)), .ref 38], (SH, m.1, m.2)) from rfl) ?_
      obtain ⟨c718, h⟩ := m_ite_n h
      refine m_R_1 (by decide) (m_opb_of (ins := .iaload) (len := 1) (tag := 0) (a := 0) (b := 0) (c := 0) (q := 0) (by decide +kernel)) (m_s_iald sh_38 (by decide) c718) ?_
      refine m_R_sg (by decide) [(.iload 4, 2, 0, 4, 0, 0, 0)] (by decide +kernel) (show m_sgl X _ _ _ _ _ = some (40, [some (.ref 31), some (.int v1), some (.int v2), some (.int (m.1 39 v1.toNatClampNeg)), some (.int (m.1 35 v1.toNatClampNeg))], [.int (m.1 35 v1.toNatClampNeg), .int (m.1 38 (((v1 * (6 : Int32)) + (m.1 39 v1.toNatClampNeg)) - (1 : Int32)).toNatClampNeg)], (SH, m.1, m.2)) from rfl) ?_
      rcases m_ite h with ⟨c719, h⟩ | ⟨c719, h⟩
      · refine m_R_1 (by decide) (m_opb_of (ins := .if_icmp .eq 25) (len := 3) (tag := 0) (a := 65) (b := 0) (c := 0) (q := 0) (by decide +kernel)) (if_pos c719) ?_
        exact ok_Papers_sellOn_65 X d F _ _ _ _ _ _ _ h
      · refine m_R_1 (by decide) (m_opb_of (ins := .if_icmp .eq 25) (len := 3) (tag := 0) (a := 65) (b := 0) (c := 0) (q := 0) (by decide +kernel)) (if_neg c719) ?_
        refine m_R_sg (by decide) [(.aload_n 0, 1, 0, 0, 0, 0, 0), (.getfield 30, 3, 0, 4, 6, 3, 339), (.iload_n 1, 1, 0, 1, 0, 0, 0), (.bipush 6, 2, 0, 6, 0, 0, 0), (.imul, 1, 0, 0, 0, 0, 0), (.iload_n 3, 1, 0, 3, 0, 0, 0), (.iadd, 1, 0, 0, 0, 0, 0), (.iload 4, 2, 0, 4, 0, 0, 0)] (by decide +kernel) (show m_sgl X _ _ _ _ _ = some (55, [some (.ref 31), some (.int v1), some (.int v2), some (.int (m.1 39 v1.toNatClampNeg)), some (.int (m.1 35 v1.toNatClampNeg))], [.int (m.1 35 v1.toNatClampNeg), .int ((v1 * (6 : Int32)) + (m.1 39 v1.toNatClampNeg)), .ref 38], (SH, m.1, m.2)) from rfl) ?_
        obtain ⟨c720, h⟩ := m_ite_n h
        refine m_R_1 (by decide) (m_opb_of (ins := .iastore) (len := 1) (tag := 0) (a := 0) (b := 0) (c := 0) (q := 0) (by decide +kernel)) (m_s_iast sh_38 c720) ?_
        refine m_R_sg (by decide) [(.aload_n 0, 1, 0, 0, 0, 0, 0), (.getfield 33, 3, 0, 4, 7, 3, 342), (.iload_n 1, 1, 0, 1, 0, 0, 0), (.iload_n 3, 1, 0, 3, 0, 0, 0), (.iconst 1, 1, 0, 1, 0, 0, 0), (.iadd, 1, 0, 0, 0, 0, 0)] (by decide +kernel) (show m_sgl X _ _ _ _ _ = some (64, [some (.ref 31), some (.int v1), some (.int v2), some (.int (m.1 39 v1.toNatClampNeg)), some (.int (m.1 35 v1.toNatClampNeg))], [.int ((m.1 39 v1.toNatClampNeg) + (1 : Int32)), .int v1, .ref 39], (SH, (m_up m.1 38 ((v1 * (6 : Int32)) + (m.1 39 v1.toNatClampNeg)).toNatClampNeg (m.1 35 v1.toNatClampNeg)), m.2)) from rfl) ?_
        refine m_R_1 (by decide) (m_opb_of (ins := .iastore) (len := 1) (tag := 0) (a := 0) (b := 0) (c := 0) (q := 0) (by decide +kernel)) (m_s_iast sh_39 c715) ?_
        exact ok_Papers_sellOn_65 X d F _ _ _ _ _ _ _ h
def f_World_offer_60 (F : Nat)    (m : mM) : Option (Int32 × mM) := some ((0 : Int32), ((m_up m.1 16 12 ((m.1 16 12) + (1 : Int32))), m.2))
theorem ok_World_offer_60 (X : mX) (d F : Nat) : ∀  (w1 : Option Value) (w2 : Option Value) (w3 : Option Value) (w4 : Option Value) (m : mM) (r : Int32) (m' : mM), f_World_offer_60 F  m = some (r, m') → m_R X (d + 4) 83 60 [some (.ref 16), w1, w2, w3, w4] [] (SH, m) (some (.int r), (SH, m')) := by
  intro w1 w2 w3 w4 m r m' h
  unfold f_World_offer_60 at h
  refine m_R_sg (by decide) [(.aload_n 0, 1, 0, 0, 0, 0, 0), (.dup, 1, 0, 0, 0, 0, 0), (.getfield 101, 3, 0, 10, 12, 0, 526), (.iconst 1, 1, 0, 1, 0, 0, 0), (.iadd, 1, 0, 0, 0, 0, 0), (.putfield 101, 3, 0, 10, 12, 0, 526), (.iconst 0, 1, 0, 0, 0, 0, 0)] (by decide +kernel) (show m_sgl X _ _ _ _ _ = some (71, [some (.ref 16), w1, w2, w3, w4], [.int (0 : Int32)], (SH, (m_up m.1 16 12 ((m.1 16 12) + (1 : Int32))), m.2)) from rfl) ?_
  obtain ⟨rfl, rfl⟩ := m_some h
  exact m_R_iret (by decide) (m_opb_of (ins := .ireturn) (len := 1) (tag := 1) (a := 0) (b := 0) (c := 0) (q := 0) (by decide +kernel)) (Or.inl rfl)
def f_World_offer_154 (F : Nat)    (m : mM) : Option (Int32 × mM) := some ((0 : Int32), m)
theorem ok_World_offer_154 (X : mX) (d F : Nat) : ∀  (w0 : Option Value) (w1 : Option Value) (w2 : Option Value) (w3 : Option Value) (w4 : Option Value) (m : mM) (r : Int32) (m' : mM), f_World_offer_154 F  m = some (r, m') → m_R X (d + 4) 83 154 [w0, w1, w2, w3, w4] [] (SH, m) (some (.int r), (SH, m')) := by
  intro w0 w1 w2 w3 w4 m r m' h
  unfold f_World_offer_154 at h
  refine m_R_sg (by decide) [(.iconst 0, 1, 0, 0, 0, 0, 0)] (by decide +kernel) (show m_sgl X _ _ _ _ _ = some (155, [w0, w1, w2, w3, w4], [.int (0 : Int32)], (SH, m.1, m.2)) from rfl) ?_
  obtain ⟨rfl, rfl⟩ := m_some h
  exact m_R_iret (by decide) (m_opb_of (ins := .ireturn) (len := 1) (tag := 1) (a := 0) (b := 0) (c := 0) (q := 0) (by decide +kernel)) (Or.inl rfl)
def f_World_offer (F : Nat)   (v1 : Int32) (m : mM) : Option (Int32 × mM) := (if v1 < 0 ∨ 60 ≤ v1.toNatClampNeg then none else (if (m.1 35 v1.toNatClampNeg) < 0 ∨ 16 ≤ (m.1 35 v1.toNatClampNeg).toNatClampNeg then none else (if (m.1 24 (m.1 35 v1.toNatClampNeg).toNatClampNeg) = 0 then ((f_Papers_priceAt F v1 (m.1 16 10) (m.1 16 9) m).bind fun q1 => ((f_World_lawSays F (2 : Int32) v1 q1.2).bind fun q2 => (if q2.1 = 0 then f_World_offer_60 F q2.2 else ((f_World_bankCan F q1.1 q2.2).bind fun q3 => (if q3.1 = 0 then f_World_offer_60 F q3.2 else ((f_World_transfer F (0 : Int32) (m.1 35 v1.toNatClampNeg) q1.1 q3.2).bind fun q4 => ((f_Papers_sellOn F v1 (0 : Int32) q4.2).bind fun q5 => some (q1.1, q5.2)))))))) else ((f_Papers_priceAt F v1 ((m.1 16 10) + (1 : Int32)) (m.1 16 9) m).bind fun q6 => ((f_Houses_isUp F (m.1 24 (m.1 35 v1.toNatClampNeg).toNatClampNeg) q6.2).bind fun q7 => (if q7.1 = 0 then f_World_offer_154 F q7.2 else ((f_World_coin F (m.1 24 (m.1 35 v1.toNatClampNeg).toNatClampNeg) q7.2).bind fun q8 => (if (m.1 24 (m.1 35 v1.toNatClampNeg).toNatClampNeg) < 0 ∨ 16 ≤ (m.1 24 (m.1 35 v1.toNatClampNeg).toNatClampNeg).toNatClampNeg then none else (if (q8.1 - q6.1) < (q8.2.1 23 (m.1 24 (m.1 35 v1.toNatClampNeg).toNatClampNeg).toNatClampNeg) then f_World_offer_154 F q8.2 else ((f_World_houseCan F (m.1 24 (m.1 35 v1.toNatClampNeg).toNatClampNeg) (m.1 35 v1.toNatClampNeg) q6.1 q8.2).bind fun q9 => (if q9.1 = 0 then f_World_offer_154 F q9.2 else ((f_World_transfer F (m.1 24 (m.1 35 v1.toNatClampNeg).toNatClampNeg) (m.1 35 v1.toNatClampNeg) q6.1 q9.2).bind fun q10 => ((f_Papers_sellOn F v1 (m.1 24 (m.1 35 v1.toNatClampNeg).toNatClampNeg) q10.2).bind fun q11 => some (q6.1, q11.2))))))))))))))
theorem ok_World_offer (X : mX) (d F : Nat) : ∀ (v1 : Int32)  (m : mM) (r : Int32) (m' : mM), f_World_offer F v1 m = some (r, m') → m_R X (d + 4) 83 0 [some (.ref 16), some (.int v1), none, none, none] [] (SH, m) (some (.int r), (SH, m')) := by
  intro v1 m r m' h
  unfold f_World_offer at h
  refine m_R_sg (by decide) [(.aload_n 0, 1, 0, 0, 0, 0, 0), (.getfield 28, 3, 0, 10, 2, 3, 508), (.getfield 212, 3, 0, 4, 3, 3, 331), (.iload_n 1, 1, 0, 1, 0, 0, 0)] (by decide +kernel) (show m_sgl X _ _ _ _ _ = some (8, [some (.ref 16), some (.int v1), none, none, none], [.int v1, .ref 35], (SH, m.1, m.2)) from rfl) ?_
  obtain ⟨c721, h⟩ := m_ite_n h
  refine m_R_1 (by decide) (m_opb_of (ins := .iaload) (len := 1) (tag := 0) (a := 0) (b := 0) (c := 0) (q := 0) (by decide +kernel)) (m_s_iald sh_35 (by decide) c721) ?_
  refine m_R_sg (by decide) [(.istore_n 2, 1, 0, 2, 0, 0, 0), (.aload_n 0, 1, 0, 0, 0, 0, 0), (.getfield 21, 3, 0, 10, 1, 3, 505), (.getfield 241, 3, 0, 1, 4, 3, 262), (.iload_n 2, 1, 0, 2, 0, 0, 0)] (by decide +kernel) (show m_sgl X _ _ _ _ _ = some (18, [some (.ref 16), some (.int v1), some (.int (m.1 35 v1.toNatClampNeg)), none, none], [.int (m.1 35 v1.toNatClampNeg), .ref 24], (SH, m.1, m.2)) from rfl) ?_
  obtain ⟨c722, h⟩ := m_ite_n h
  refine m_R_1 (by decide) (m_opb_of (ins := .iaload) (len := 1) (tag := 0) (a := 0) (b := 0) (c := 0) (q := 0) (by decide +kernel)) (m_s_iald sh_24 (by decide) c722) ?_
  refine m_R_sg (by decide) [(.istore_n 3, 1, 0, 3, 0, 0, 0), (.iload_n 3, 1, 0, 3, 0, 0, 0)] (by decide +kernel) (show m_sgl X _ _ _ _ _ = some (21, [some (.ref 16), some (.int v1), some (.int (m.1 35 v1.toNatClampNeg)), some (.int (m.1 24 (m.1 35 v1.toNatClampNeg).toNatClampNeg)), none], [.int (m.1 24 (m.1 35 v1.toNatClampNeg).toNatClampNeg)], (SH, m.1, m.2)) from rfl) ?_
  rcases m_ite h with ⟨c723, h⟩ | ⟨c723, h⟩
  · refine m_R_1 (by decide) (m_opb_of (ins := .ifCond .ne 71) (len := 3) (tag := 0) (a := 92) (b := 0) (c := 0) (q := 0) (by decide +kernel)) (if_pos c723) ?_
    refine m_R_sg (by decide) [(.aload_n 0, 1, 0, 0, 0, 0, 0), (.getfield 28, 3, 0, 10, 2, 3, 508), (.iload_n 1, 1, 0, 1, 0, 0, 0), (.aload_n 0, 1, 0, 0, 0, 0, 0), (.getfield 52, 3, 0, 10, 10, 0, 522), (.aload_n 0, 1, 0, 0, 0, 0, 0), (.getfield 95, 3, 0, 10, 9, 0, 520)] (by decide +kernel) (show m_sgl X _ _ _ _ _ = some (37, [some (.ref 16), some (.int v1), some (.int (m.1 35 v1.toNatClampNeg)), some (.int (m.1 24 (m.1 35 v1.toNatClampNeg).toNatClampNeg)), none], [.int (m.1 16 9), .int (m.1 16 10), .int v1, .ref 31], (SH, m.1, m.2)) from rfl) ?_
    obtain ⟨q1, hc1, h⟩ := Option.bind_eq_some_iff.mp h
    refine m_R_cV (v := (some (.int q1.1))) (h1 := (SH, q1.2)) (rest := []) (lo' := [some (.ref 31), some (.int v1), some (.int (m.1 16 10)), some (.int (m.1 16 9))]) (ml := 4) (k0 := 31) (by decide) (Or.inl rfl) (m_opb_of (ins := .invokevirtual 244) (len := 3) (tag := 5) (a := 84) (b := 3) (c := 0) (q := 956) (by decide +kernel)) (by decide +kernel) rfl (show m_isO 84 31 (SH, _) = true from m_isO_of (by decide +kernel)) (Nat.le_of_ble_eq_true rfl) rfl rfl (ok_Papers_priceAt X (d + 3) F _ _ _ _ _ _ hc1) ?_
    refine m_R_sg (by decide) [(.istore 4, 2, 0, 4, 0, 0, 0), (.aload_n 0, 1, 0, 0, 0, 0, 0), (.iconst 2, 1, 0, 2, 0, 0, 0), (.iload_n 1, 1, 0, 1, 0, 0, 0)] (by decide +kernel) (show m_sgl X _ _ _ _ _ = some (45, [some (.ref 16), some (.int v1), some (.int (m.1 35 v1.toNatClampNeg)), some (.int (m.1 24 (m.1 35 v1.toNatClampNeg).toNatClampNeg)), some (.int q1.1)], [.int v1, .int (2 : Int32), .ref 16], (SH, q1.2.1, q1.2.2)) from rfl) ?_
    obtain ⟨q2, hc2, h⟩ := Option.bind_eq_some_iff.mp h
    refine m_R_cV (v := (some (.int q2.1))) (h1 := (SH, q2.2)) (rest := []) (lo' := [some (.ref 16), some (.int (2 : Int32)), some (.int v1), none]) (ml := 4) (k0 := 16) (by decide) (Or.inl rfl) (m_opb_of (ins := .invokevirtual 183) (len := 3) (tag := 5) (a := 39) (b := 2) (c := 0) (q := 771) (by decide +kernel)) (by decide +kernel) rfl (show m_isO 39 16 (SH, _) = true from m_isO_of (by decide +kernel)) (Nat.le_of_ble_eq_true rfl) rfl rfl (ok_World_lawSays X (d + 1) F _ _ _ _ _ hc2) ?_
    rcases m_ite h with ⟨c724, h⟩ | ⟨c724, h⟩
    · refine m_R_1 (by decide) (m_opb_of (ins := .ifCond .eq 12) (len := 3) (tag := 0) (a := 60) (b := 0) (c := 0) (q := 0) (by decide +kernel)) (if_pos c724) ?_
      exact ok_World_offer_60 X d F _ _ _ _ _ _ _ h
    · refine m_R_1 (by decide) (m_opb_of (ins := .ifCond .eq 12) (len := 3) (tag := 0) (a := 60) (b := 0) (c := 0) (q := 0) (by decide +kernel)) (if_neg c724) ?_
      refine m_R_sg (by decide) [(.aload_n 0, 1, 0, 0, 0, 0, 0), (.iload 4, 2, 0, 4, 0, 0, 0)] (by decide +kernel) (show m_sgl X _ _ _ _ _ = some (54, [some (.ref 16), some (.int v1), some (.int (m.1 35 v1.toNatClampNeg)), some (.int (m.1 24 (m.1 35 v1.toNatClampNeg).toNatClampNeg)), some (.int q1.1)], [.int q1.1, .ref 16], (SH, q2.2.1, q2.2.2)) from rfl) ?_
      obtain ⟨q3, hc3, h⟩ := Option.bind_eq_some_iff.mp h
      refine m_R_cV (v := (some (.int q3.1))) (h1 := (SH, q3.2)) (rest := []) (lo' := [some (.ref 16), some (.int q1.1), none]) (ml := 3) (k0 := 16) (by decide) (Or.inl rfl) (m_opb_of (ins := .invokevirtual 166) (len := 3) (tag := 5) (a := 36) (b := 1) (c := 0) (q := 760) (by decide +kernel)) (by decide +kernel) rfl (show m_isO 36 16 (SH, _) = true from m_isO_of (by decide +kernel)) (Nat.le_of_ble_eq_true rfl) rfl rfl (ok_World_bankCan X (d + 0) F _ _ _ _ hc3) ?_
      rcases m_ite h with ⟨c725, h⟩ | ⟨c725, h⟩
      · refine m_R_1 (by decide) (m_opb_of (ins := .ifCond .ne 15) (len := 3) (tag := 0) (a := 72) (b := 0) (c := 0) (q := 0) (by decide +kernel)) (if_pos c725) ?_
        exact ok_World_offer_60 X d F _ _ _ _ _ _ _ h
      · refine m_R_1 (by decide) (m_opb_of (ins := .ifCond .ne 15) (len := 3) (tag := 0) (a := 72) (b := 0) (c := 0) (q := 0) (by decide +kernel)) (if_neg c725) ?_
        refine m_R_sg (by decide) [(.aload_n 0, 1, 0, 0, 0, 0, 0), (.iconst 0, 1, 0, 0, 0, 0, 0), (.iload_n 2, 1, 0, 2, 0, 0, 0), (.iload 4, 2, 0, 4, 0, 0, 0)] (by decide +kernel) (show m_sgl X _ _ _ _ _ = some (77, [some (.ref 16), some (.int v1), some (.int (m.1 35 v1.toNatClampNeg)), some (.int (m.1 24 (m.1 35 v1.toNatClampNeg).toNatClampNeg)), some (.int q1.1)], [.int q1.1, .int (m.1 35 v1.toNatClampNeg), .int (0 : Int32), .ref 16], (SH, q3.2.1, q3.2.2)) from rfl) ?_
        obtain ⟨q4, hc4, h⟩ := Option.bind_eq_some_iff.mp h
        refine m_R_cV (v := none) (h1 := (SH, q4.2)) (rest := []) (lo' := [some (.ref 16), some (.int (0 : Int32)), some (.int (m.1 35 v1.toNatClampNeg)), some (.int q1.1), none]) (ml := 5) (k0 := 16) (by decide) (Or.inl rfl) (m_opb_of (ins := .invokevirtual 225) (len := 3) (tag := 5) (a := 51) (b := 3) (c := 0) (q := 942) (by decide +kernel)) (by decide +kernel) rfl (show m_isO 51 16 (SH, _) = true from m_isO_of (by decide +kernel)) (Nat.le_of_ble_eq_true rfl) rfl rfl (ok_World_transfer X (d + 1) F _ _ _ _ _ _ hc4) ?_
        refine m_R_sg (by decide) [(.aload_n 0, 1, 0, 0, 0, 0, 0), (.getfield 28, 3, 0, 10, 2, 3, 508), (.iload_n 1, 1, 0, 1, 0, 0, 0), (.iconst 0, 1, 0, 0, 0, 0, 0)] (by decide +kernel) (show m_sgl X _ _ _ _ _ = some (86, [some (.ref 16), some (.int v1), some (.int (m.1 35 v1.toNatClampNeg)), some (.int (m.1 24 (m.1 35 v1.toNatClampNeg).toNatClampNeg)), some (.int q1.1)], [.int (0 : Int32), .int v1, .ref 31], (SH, q4.2.1, q4.2.2)) from rfl) ?_
        obtain ⟨q5, hc5, h⟩ := Option.bind_eq_some_iff.mp h
        refine m_R_cV (v := none) (h1 := (SH, q5.2)) (rest := []) (lo' := [some (.ref 31), some (.int v1), some (.int (0 : Int32)), none, none]) (ml := 5) (k0 := 31) (by decide) (Or.inl rfl) (m_opb_of (ins := .invokevirtual 247) (len := 3) (tag := 5) (a := 85) (b := 2) (c := 0) (q := 961) (by decide +kernel)) (by decide +kernel) rfl (show m_isO 85 31 (SH, _) = true from m_isO_of (by decide +kernel)) (Nat.le_of_ble_eq_true rfl) rfl rfl (ok_Papers_sellOn X (d + 3) F _ _ _ _ _ hc5) ?_
        refine m_R_sg (by decide) [(.iload 4, 2, 0, 4, 0, 0, 0)] (by decide +kernel) (show m_sgl X _ _ _ _ _ = some (91, [some (.ref 16), some (.int v1), some (.int (m.1 35 v1.toNatClampNeg)), some (.int (m.1 24 (m.1 35 v1.toNatClampNeg).toNatClampNeg)), some (.int q1.1)], [.int q1.1], (SH, q5.2.1, q5.2.2)) from rfl) ?_
        obtain ⟨rfl, rfl⟩ := m_some h
        exact m_R_iret (by decide) (m_opb_of (ins := .ireturn) (len := 1) (tag := 1) (a := 0) (b := 0) (c := 0) (q := 0) (by decide +kernel)) (Or.inl rfl)
  · refine m_R_1 (by decide) (m_opb_of (ins := .ifCond .ne 71) (len := 3) (tag := 0) (a := 92) (b := 0) (c := 0) (q := 0) (by decide +kernel)) (if_neg c723) ?_
    refine m_R_sg (by decide) [(.aload_n 0, 1, 0, 0, 0, 0, 0), (.getfield 28, 3, 0, 10, 2, 3, 508), (.iload_n 1, 1, 0, 1, 0, 0, 0), (.aload_n 0, 1, 0, 0, 0, 0, 0), (.getfield 52, 3, 0, 10, 10, 0, 522), (.iconst 1, 1, 0, 1, 0, 0, 0), (.iadd, 1, 0, 0, 0, 0, 0), (.aload_n 0, 1, 0, 0, 0, 0, 0), (.getfield 95, 3, 0, 10, 9, 0, 520)] (by decide +kernel) (show m_sgl X _ _ _ _ _ = some (107, [some (.ref 16), some (.int v1), some (.int (m.1 35 v1.toNatClampNeg)), some (.int (m.1 24 (m.1 35 v1.toNatClampNeg).toNatClampNeg)), none], [.int (m.1 16 9), .int ((m.1 16 10) + (1 : Int32)), .int v1, .ref 31], (SH, m.1, m.2)) from rfl) ?_
    obtain ⟨q6, hc6, h⟩ := Option.bind_eq_some_iff.mp h
    refine m_R_cV (v := (some (.int q6.1))) (h1 := (SH, q6.2)) (rest := []) (lo' := [some (.ref 31), some (.int v1), some (.int ((m.1 16 10) + (1 : Int32))), some (.int (m.1 16 9))]) (ml := 4) (k0 := 31) (by decide) (Or.inl rfl) (m_opb_of (ins := .invokevirtual 244) (len := 3) (tag := 5) (a := 84) (b := 3) (c := 0) (q := 956) (by decide +kernel)) (by decide +kernel) rfl (show m_isO 84 31 (SH, _) = true from m_isO_of (by decide +kernel)) (Nat.le_of_ble_eq_true rfl) rfl rfl (ok_Papers_priceAt X (d + 3) F _ _ _ _ _ _ hc6) ?_
    refine m_R_sg (by decide) [(.istore 4, 2, 0, 4, 0, 0, 0), (.aload_n 0, 1, 0, 0, 0, 0, 0), (.getfield 21, 3, 0, 10, 1, 3, 505), (.iload_n 3, 1, 0, 3, 0, 0, 0)] (by decide +kernel) (show m_sgl X _ _ _ _ _ = some (117, [some (.ref 16), some (.int v1), some (.int (m.1 35 v1.toNatClampNeg)), some (.int (m.1 24 (m.1 35 v1.toNatClampNeg).toNatClampNeg)), some (.int q6.1)], [.int (m.1 24 (m.1 35 v1.toNatClampNeg).toNatClampNeg), .ref 19], (SH, q6.2.1, q6.2.2)) from rfl) ?_
    obtain ⟨q7, hc7, h⟩ := Option.bind_eq_some_iff.mp h
    refine m_R_cV (v := (some (.int q7.1))) (h1 := (SH, q7.2)) (rest := []) (lo' := [some (.ref 19), some (.int (m.1 24 (m.1 35 v1.toNatClampNeg).toNatClampNeg))]) (ml := 2) (k0 := 19) (by decide) (Or.inl rfl) (m_opb_of (ins := .invokevirtual 250) (len := 3) (tag := 5) (a := 25) (b := 1) (c := 0) (q := 965) (by decide +kernel)) (by decide +kernel) rfl (show m_isO 25 19 (SH, _) = true from m_isO_of (by decide +kernel)) (Nat.le_of_ble_eq_true rfl) rfl rfl (ok_Houses_isUp X (d + 2) F _ _ _ _ hc7) ?_
    rcases m_ite h with ⟨c726, h⟩ | ⟨c726, h⟩
    · refine m_R_1 (by decide) (m_opb_of (ins := .ifCond .eq 34) (len := 3) (tag := 0) (a := 154) (b := 0) (c := 0) (q := 0) (by decide +kernel)) (if_pos c726) ?_
      exact ok_World_offer_154 X d F _ _ _ _ _ _ _ _ h
    · refine m_R_1 (by decide) (m_opb_of (ins := .ifCond .eq 34) (len := 3) (tag := 0) (a := 154) (b := 0) (c := 0) (q := 0) (by decide +kernel)) (if_neg c726) ?_
      refine m_R_sg (by decide) [(.aload_n 0, 1, 0, 0, 0, 0, 0), (.iload_n 3, 1, 0, 3, 0, 0, 0)] (by decide +kernel) (show m_sgl X _ _ _ _ _ = some (125, [some (.ref 16), some (.int v1), some (.int (m.1 35 v1.toNatClampNeg)), some (.int (m.1 24 (m.1 35 v1.toNatClampNeg).toNatClampNeg)), some (.int q6.1)], [.int (m.1 24 (m.1 35 v1.toNatClampNeg).toNatClampNeg), .ref 16], (SH, q7.2.1, q7.2.2)) from rfl) ?_
      obtain ⟨q8, hc8, h⟩ := Option.bind_eq_some_iff.mp h
      refine m_R_cV (v := (some (.int q8.1))) (h1 := (SH, q8.2)) (rest := []) (lo' := [some (.ref 16), some (.int (m.1 24 (m.1 35 v1.toNatClampNeg).toNatClampNeg))]) (ml := 2) (k0 := 16) (by decide) (Or.inl rfl) (m_opb_of (ins := .invokevirtual 253) (len := 3) (tag := 5) (a := 29) (b := 1) (c := 0) (q := 966) (by decide +kernel)) (by decide +kernel) rfl (show m_isO 29 16 (SH, _) = true from m_isO_of (by decide +kernel)) (Nat.le_of_ble_eq_true rfl) rfl rfl (ok_World_coin X (d + 3) F _ _ _ _ hc8) ?_
      refine m_R_sg (by decide) [(.iload 4, 2, 0, 4, 0, 0, 0), (.isub, 1, 0, 0, 0, 0, 0), (.aload_n 0, 1, 0, 0, 0, 0, 0), (.getfield 21, 3, 0, 10, 1, 3, 505), (.getfield 256, 3, 0, 1, 3, 3, 259), (.iload_n 3, 1, 0, 3, 0, 0, 0)] (by decide +kernel) (show m_sgl X _ _ _ _ _ = some (139, [some (.ref 16), some (.int v1), some (.int (m.1 35 v1.toNatClampNeg)), some (.int (m.1 24 (m.1 35 v1.toNatClampNeg).toNatClampNeg)), some (.int q6.1)], [.int (m.1 24 (m.1 35 v1.toNatClampNeg).toNatClampNeg), .ref 23, .int (q8.1 - q6.1)], (SH, q8.2.1, q8.2.2)) from rfl) ?_
      obtain ⟨c727, h⟩ := m_ite_n h
      refine m_R_1 (by decide) (m_opb_of (ins := .iaload) (len := 1) (tag := 0) (a := 0) (b := 0) (c := 0) (q := 0) (by decide +kernel)) (m_s_iald sh_23 (by decide) c727) ?_
      rcases m_ite h with ⟨c728, h⟩ | ⟨c728, h⟩
      · refine m_R_1 (by decide) (m_opb_of (ins := .if_icmp .lt 14) (len := 3) (tag := 0) (a := 154) (b := 0) (c := 0) (q := 0) (by decide +kernel)) (if_pos c728) ?_
        exact ok_World_offer_154 X d F _ _ _ _ _ _ _ _ h
      · refine m_R_1 (by decide) (m_opb_of (ins := .if_icmp .lt 14) (len := 3) (tag := 0) (a := 154) (b := 0) (c := 0) (q := 0) (by decide +kernel)) (if_neg c728) ?_
        refine m_R_sg (by decide) [(.aload_n 0, 1, 0, 0, 0, 0, 0), (.iload_n 3, 1, 0, 3, 0, 0, 0), (.iload_n 2, 1, 0, 2, 0, 0, 0), (.iload 4, 2, 0, 4, 0, 0, 0)] (by decide +kernel) (show m_sgl X _ _ _ _ _ = some (148, [some (.ref 16), some (.int v1), some (.int (m.1 35 v1.toNatClampNeg)), some (.int (m.1 24 (m.1 35 v1.toNatClampNeg).toNatClampNeg)), some (.int q6.1)], [.int q6.1, .int (m.1 35 v1.toNatClampNeg), .int (m.1 24 (m.1 35 v1.toNatClampNeg).toNatClampNeg), .ref 16], (SH, q8.2.1, q8.2.2)) from rfl) ?_
        obtain ⟨q9, hc9, h⟩ := Option.bind_eq_some_iff.mp h
        refine m_R_cV (v := (some (.int q9.1))) (h1 := (SH, q9.2)) (rest := []) (lo' := [some (.ref 16), some (.int (m.1 24 (m.1 35 v1.toNatClampNeg).toNatClampNeg)), some (.int (m.1 35 v1.toNatClampNeg)), some (.int q6.1), none]) (ml := 5) (k0 := 16) (by decide) (Or.inl rfl) (m_opb_of (ins := .invokevirtual 169) (len := 3) (tag := 5) (a := 48) (b := 3) (c := 0) (q := 805) (by decide +kernel)) (by decide +kernel) rfl (show m_isO 48 16 (SH, _) = true from m_isO_of (by decide +kernel)) (Nat.le_of_ble_eq_true rfl) rfl rfl (ok_World_houseCan X (d + 2) F _ _ _ _ _ _ hc9) ?_
        rcases m_ite h with ⟨c729, h⟩ | ⟨c729, h⟩
        · refine m_R_1 (by decide) (m_opb_of (ins := .ifCond .ne 5) (len := 3) (tag := 0) (a := 156) (b := 0) (c := 0) (q := 0) (by decide +kernel)) (if_pos c729) ?_
          exact ok_World_offer_154 X d F _ _ _ _ _ _ _ _ h
        · refine m_R_1 (by decide) (m_opb_of (ins := .ifCond .ne 5) (len := 3) (tag := 0) (a := 156) (b := 0) (c := 0) (q := 0) (by decide +kernel)) (if_neg c729) ?_
          refine m_R_sg (by decide) [(.aload_n 0, 1, 0, 0, 0, 0, 0), (.iload_n 3, 1, 0, 3, 0, 0, 0), (.iload_n 2, 1, 0, 2, 0, 0, 0), (.iload 4, 2, 0, 4, 0, 0, 0)] (by decide +kernel) (show m_sgl X _ _ _ _ _ = some (161, [some (.ref 16), some (.int v1), some (.int (m.1 35 v1.toNatClampNeg)), some (.int (m.1 24 (m.1 35 v1.toNatClampNeg).toNatClampNeg)), some (.int q6.1)], [.int q6.1, .int (m.1 35 v1.toNatClampNeg), .int (m.1 24 (m.1 35 v1.toNatClampNeg).toNatClampNeg), .ref 16], (SH, q9.2.1, q9.2.2)) from rfl) ?_
          obtain ⟨q10, hc10, h⟩ := Option.bind_eq_some_iff.mp h
          refine m_R_cV (v := none) (h1 := (SH, q10.2)) (rest := []) (lo' := [some (.ref 16), some (.int (m.1 24 (m.1 35 v1.toNatClampNeg).toNatClampNeg)), some (.int (m.1 35 v1.toNatClampNeg)), some (.int q6.1), none]) (ml := 5) (k0 := 16) (by decide) (Or.inl rfl) (m_opb_of (ins := .invokevirtual 225) (len := 3) (tag := 5) (a := 51) (b := 3) (c := 0) (q := 942) (by decide +kernel)) (by decide +kernel) rfl (show m_isO 51 16 (SH, _) = true from m_isO_of (by decide +kernel)) (Nat.le_of_ble_eq_true rfl) rfl rfl (ok_World_transfer X (d + 1) F _ _ _ _ _ _ hc10) ?_
          refine m_R_sg (by decide) [(.aload_n 0, 1, 0, 0, 0, 0, 0), (.getfield 28, 3, 0, 10, 2, 3, 508), (.iload_n 1, 1, 0, 1, 0, 0, 0), (.iload_n 3, 1, 0, 3, 0, 0, 0)] (by decide +kernel) (show m_sgl X _ _ _ _ _ = some (170, [some (.ref 16), some (.int v1), some (.int (m.1 35 v1.toNatClampNeg)), some (.int (m.1 24 (m.1 35 v1.toNatClampNeg).toNatClampNeg)), some (.int q6.1)], [.int (m.1 24 (m.1 35 v1.toNatClampNeg).toNatClampNeg), .int v1, .ref 31], (SH, q10.2.1, q10.2.2)) from rfl) ?_
          obtain ⟨q11, hc11, h⟩ := Option.bind_eq_some_iff.mp h
          refine m_R_cV (v := none) (h1 := (SH, q11.2)) (rest := []) (lo' := [some (.ref 31), some (.int v1), some (.int (m.1 24 (m.1 35 v1.toNatClampNeg).toNatClampNeg)), none, none]) (ml := 5) (k0 := 31) (by decide) (Or.inl rfl) (m_opb_of (ins := .invokevirtual 247) (len := 3) (tag := 5) (a := 85) (b := 2) (c := 0) (q := 961) (by decide +kernel)) (by decide +kernel) rfl (show m_isO 85 31 (SH, _) = true from m_isO_of (by decide +kernel)) (Nat.le_of_ble_eq_true rfl) rfl rfl (ok_Papers_sellOn X (d + 3) F _ _ _ _ _ hc11) ?_
          refine m_R_sg (by decide) [(.iload 4, 2, 0, 4, 0, 0, 0)] (by decide +kernel) (show m_sgl X _ _ _ _ _ = some (175, [some (.ref 16), some (.int v1), some (.int (m.1 35 v1.toNatClampNeg)), some (.int (m.1 24 (m.1 35 v1.toNatClampNeg).toNatClampNeg)), some (.int q6.1)], [.int q6.1], (SH, q11.2.1, q11.2.2)) from rfl) ?_
          obtain ⟨rfl, rfl⟩ := m_some h
          exact m_R_iret (by decide) (m_opb_of (ins := .ireturn) (len := 1) (tag := 1) (a := 0) (b := 0) (c := 0) (q := 0) (by decide +kernel)) (Or.inl rfl)
def f_x_sell_42 (F : Nat)    (m : mM) : Option (Int32 × mM) := ((f_x_refuse F (-5 : Int32) m).bind fun q6 => some (q6.1, q6.2))
theorem ok_x_sell_42 (X : mX) (d F : Nat) : ∀  (w1 : Option Value) (w2 : Option Value) (m : mM) (r : Int32) (m' : mM), f_x_sell_42 F  m = some (r, m') → m_R X (d + 5) 81 42 [some (.ref 0), w1, w2] [] (SH, m) (some (.int r), (SH, m')) := by
  intro w1 w2 m r m' h
  unfold f_x_sell_42 at h
  refine m_R_sg (by decide) [(.aload_n 0, 1, 0, 0, 0, 0, 0), (.bipush (-5), 2, 0, 5, 1, 0, 0)] (by decide +kernel) (show m_sgl X _ _ _ _ _ = some (45, [some (.ref 0), w1, w2], [.int (-5 : Int32), .ref 0], (SH, m.1, m.2)) from rfl) ?_
  obtain ⟨q6, hc6, h⟩ := Option.bind_eq_some_iff.mp h
  refine m_R_cV (v := (some (.int q6.1))) (h1 := (SH, q6.2)) (rest := []) (lo' := [some (.ref 0), some (.int (-5 : Int32))]) (ml := 2) (k0 := 0) (by decide) (Or.inl rfl) (m_opb_of (ins := .invokevirtual 76) (len := 3) (tag := 5) (a := 14) (b := 1) (c := 0) (q := 671) (by decide +kernel)) (by decide +kernel) rfl (show m_isO 14 0 (SH, _) = true from m_isO_of (by decide +kernel)) (Nat.le_of_ble_eq_true rfl) rfl rfl (ok_x_refuse X (d + 4) F _ _ _ _ hc6) ?_
  obtain ⟨rfl, rfl⟩ := m_some h
  exact m_R_iret (by decide) (m_opb_of (ins := .ireturn) (len := 1) (tag := 1) (a := 0) (b := 0) (c := 0) (q := 0) (by decide +kernel)) (Or.inl rfl)
def f_x_sell_83 (F : Nat)    (m : mM) : Option (Int32 × mM) := ((f_x_refuse F (-7 : Int32) m).bind fun q7 => some (q7.1, q7.2))
theorem ok_x_sell_83 (X : mX) (d F : Nat) : ∀  (w1 : Option Value) (w2 : Option Value) (m : mM) (r : Int32) (m' : mM), f_x_sell_83 F  m = some (r, m') → m_R X (d + 5) 81 83 [some (.ref 0), w1, w2] [] (SH, m) (some (.int r), (SH, m')) := by
  intro w1 w2 m r m' h
  unfold f_x_sell_83 at h
  refine m_R_sg (by decide) [(.aload_n 0, 1, 0, 0, 0, 0, 0), (.bipush (-7), 2, 0, 7, 1, 0, 0)] (by decide +kernel) (show m_sgl X _ _ _ _ _ = some (86, [some (.ref 0), w1, w2], [.int (-7 : Int32), .ref 0], (SH, m.1, m.2)) from rfl) ?_
  obtain ⟨q7, hc7, h⟩ := Option.bind_eq_some_iff.mp h
  refine m_R_cV (v := (some (.int q7.1))) (h1 := (SH, q7.2)) (rest := []) (lo' := [some (.ref 0), some (.int (-7 : Int32))]) (ml := 2) (k0 := 0) (by decide) (Or.inl rfl) (m_opb_of (ins := .invokevirtual 76) (len := 3) (tag := 5) (a := 14) (b := 1) (c := 0) (q := 671) (by decide +kernel)) (by decide +kernel) rfl (show m_isO 14 0 (SH, _) = true from m_isO_of (by decide +kernel)) (Nat.le_of_ble_eq_true rfl) rfl rfl (ok_x_refuse X (d + 4) F _ _ _ _ hc7) ?_
  obtain ⟨rfl, rfl⟩ := m_some h
  exact m_R_iret (by decide) (m_opb_of (ins := .ireturn) (len := 1) (tag := 1) (a := 0) (b := 0) (c := 0) (q := 0) (by decide +kernel)) (Or.inl rfl)
def f_x_sell (F : Nat)   (v1 : Int32) (m : mM) : Option (Int32 × mM) := ((f_Papers_isPaper F v1 m).bind fun q1 => (if q1.1 = 0 then ((f_x_refuse F (-3 : Int32) q1.2).bind fun q2 => some (q2.1, q2.2)) else (if v1 < 0 ∨ 60 ≤ v1.toNatClampNeg then none else (if (q1.2.1 32 v1.toNatClampNeg) = (1 : Int32) then (if (q1.2.1 35 v1.toNatClampNeg) = 0 then f_x_sell_42 F q1.2 else ((f_Houses_isUp F (q1.2.1 35 v1.toNatClampNeg) q1.2).bind fun q3 => (if q3.1 = 0 then f_x_sell_83 F q3.2 else ((f_Papers_maySell F v1 (q3.2.1 16 9) q3.2).bind fun q4 => (if q4.1 = 0 then f_x_sell_83 F q4.2 else ((f_World_offer F v1 q4.2).bind fun q5 => some (q5.1, q5.2))))))) else f_x_sell_42 F q1.2))))
theorem ok_x_sell (X : mX) (d F : Nat) : ∀ (v1 : Int32)  (m : mM) (r : Int32) (m' : mM), f_x_sell F v1 m = some (r, m') → m_R X (d + 5) 81 0 [some (.ref 0), some (.int v1), none] [] (SH, m) (some (.int r), (SH, m')) := by
  intro v1 m r m' h
  unfold f_x_sell at h
  refine m_R_sg (by decide) [(.aload_n 0, 1, 0, 0, 0, 0, 0), (.getfield 28, 3, 0, 11, 2, 3, 632), (.getfield 146, 3, 0, 10, 2, 3, 510), (.astore_n 2, 1, 0, 2, 0, 0, 0), (.aload_n 2, 1, 0, 2, 0, 0, 0), (.iload_n 1, 1, 0, 1, 0, 0, 0)] (by decide +kernel) (show m_sgl X _ _ _ _ _ = some (10, [some (.ref 0), some (.int v1), some (.ref 31)], [.int v1, .ref 31], (SH, m.1, m.2)) from rfl) ?_
  obtain ⟨q1, hc1, h⟩ := Option.bind_eq_some_iff.mp h
  refine m_R_cV (v := (some (.int q1.1))) (h1 := (SH, q1.2)) (rest := []) (lo' := [some (.ref 31), some (.int v1)]) (ml := 2) (k0 := 31) (by decide) (Or.inl rfl) (m_opb_of (ins := .invokevirtual 246) (len := 3) (tag := 5) (a := 41) (b := 1) (c := 0) (q := 927) (by decide +kernel)) (by decide +kernel) rfl (show m_isO 41 31 (SH, _) = true from m_isO_of (by decide +kernel)) (Nat.le_of_ble_eq_true rfl) rfl rfl (ok_Papers_isPaper X (d + 4) F _ _ _ _ hc1) ?_
  rcases m_ite h with ⟨c730, h⟩ | ⟨c730, h⟩
  · refine m_R_1 (by decide) (m_opb_of (ins := .ifCond .ne 10) (len := 3) (tag := 0) (a := 23) (b := 0) (c := 0) (q := 0) (by decide +kernel)) (if_pos c730) ?_
    refine m_R_sg (by decide) [(.aload_n 0, 1, 0, 0, 0, 0, 0), (.bipush (-3), 2, 0, 3, 1, 0, 0)] (by decide +kernel) (show m_sgl X _ _ _ _ _ = some (19, [some (.ref 0), some (.int v1), some (.ref 31)], [.int (-3 : Int32), .ref 0], (SH, q1.2.1, q1.2.2)) from rfl) ?_
    obtain ⟨q2, hc2, h⟩ := Option.bind_eq_some_iff.mp h
    refine m_R_cV (v := (some (.int q2.1))) (h1 := (SH, q2.2)) (rest := []) (lo' := [some (.ref 0), some (.int (-3 : Int32))]) (ml := 2) (k0 := 0) (by decide) (Or.inl rfl) (m_opb_of (ins := .invokevirtual 76) (len := 3) (tag := 5) (a := 14) (b := 1) (c := 0) (q := 671) (by decide +kernel)) (by decide +kernel) rfl (show m_isO 14 0 (SH, _) = true from m_isO_of (by decide +kernel)) (Nat.le_of_ble_eq_true rfl) rfl rfl (ok_x_refuse X (d + 4) F _ _ _ _ hc2) ?_
    obtain ⟨rfl, rfl⟩ := m_some h
    exact m_R_iret (by decide) (m_opb_of (ins := .ireturn) (len := 1) (tag := 1) (a := 0) (b := 0) (c := 0) (q := 0) (by decide +kernel)) (Or.inl rfl)
  · refine m_R_1 (by decide) (m_opb_of (ins := .ifCond .ne 10) (len := 3) (tag := 0) (a := 23) (b := 0) (c := 0) (q := 0) (by decide +kernel)) (if_neg c730) ?_
    refine m_R_sg (by decide) [(.aload_n 2, 1, 0, 2, 0, 0, 0), (.getfield 249, 3, 0, 4, 0, 3, 320), (.iload_n 1, 1, 0, 1, 0, 0, 0)] (by decide +kernel) (show m_sgl X _ _ _ _ _ = some (28, [some (.ref 0), some (.int v1), some (.ref 31)], [.int v1, .ref 32], (SH, q1.2.1, q1.2.2)) from rfl) ?_
    obtain ⟨c731, h⟩ := m_ite_n h
    refine m_R_1 (by decide) (m_opb_of (ins := .iaload) (len := 1) (tag := 0) (a := 0) (b := 0) (c := 0) (q := 0) (by decide +kernel)) (m_s_iald sh_32 (by decide) c731) ?_
    refine m_R_sg (by decide) [(.iconst 1, 1, 0, 1, 0, 0, 0)] (by decide +kernel) (show m_sgl X _ _ _ _ _ = some (30, [some (.ref 0), some (.int v1), some (.ref 31)], [.int (1 : Int32), .int (q1.2.1 32 v1.toNatClampNeg)], (SH, q1.2.1, q1.2.2)) from rfl) ?_
    rcases m_ite h with ⟨c732, h⟩ | ⟨c732, h⟩
    · refine m_R_1 (by decide) (m_opb_of (ins := .if_icmp .ne 12) (len := 3) (tag := 0) (a := 42) (b := 0) (c := 0) (q := 0) (by decide +kernel)) (if_pos c732) ?_
      refine m_R_sg (by decide) [(.aload_n 2, 1, 0, 2, 0, 0, 0), (.getfield 250, 3, 0, 4, 3, 3, 332), (.iload_n 1, 1, 0, 1, 0, 0, 0)] (by decide +kernel) (show m_sgl X _ _ _ _ _ = some (38, [some (.ref 0), some (.int v1), some (.ref 31)], [.int v1, .ref 35], (SH, q1.2.1, q1.2.2)) from rfl) ?_
      refine m_R_1 (by decide) (m_opb_of (ins := .iaload) (len := 1) (tag := 0) (a := 0) (b := 0) (c := 0) (q := 0) (by decide +kernel)) (m_s_iald sh_35 (by decide) c731) ?_
      rcases m_ite h with ⟨c733, h⟩ | ⟨c733, h⟩
      · refine m_R_1 (by decide) (m_opb_of (ins := .ifCond .ne 10) (len := 3) (tag := 0) (a := 49) (b := 0) (c := 0) (q := 0) (by decide +kernel)) (if_pos c733) ?_
        exact ok_x_sell_42 X d F _ _ _ _ _ h
      · refine m_R_1 (by decide) (m_opb_of (ins := .ifCond .ne 10) (len := 3) (tag := 0) (a := 49) (b := 0) (c := 0) (q := 0) (by decide +kernel)) (if_neg c733) ?_
        refine m_R_sg (by decide) [(.aload_n 0, 1, 0, 0, 0, 0, 0), (.getfield 28, 3, 0, 11, 2, 3, 632), (.getfield 95, 3, 0, 10, 1, 3, 507), (.aload_n 2, 1, 0, 2, 0, 0, 0), (.getfield 250, 3, 0, 4, 3, 3, 332), (.iload_n 1, 1, 0, 1, 0, 0, 0)] (by decide +kernel) (show m_sgl X _ _ _ _ _ = some (61, [some (.ref 0), some (.int v1), some (.ref 31)], [.int v1, .ref 35, .ref 19], (SH, q1.2.1, q1.2.2)) from rfl) ?_
        refine m_R_1 (by decide) (m_opb_of (ins := .iaload) (len := 1) (tag := 0) (a := 0) (b := 0) (c := 0) (q := 0) (by decide +kernel)) (m_s_iald sh_35 (by decide) c731) ?_
        obtain ⟨q3, hc3, h⟩ := Option.bind_eq_some_iff.mp h
        refine m_R_cV (v := (some (.int q3.1))) (h1 := (SH, q3.2)) (rest := []) (lo' := [some (.ref 19), some (.int (q1.2.1 35 v1.toNatClampNeg))]) (ml := 2) (k0 := 19) (by decide) (Or.inl rfl) (m_opb_of (ins := .invokevirtual 110) (len := 3) (tag := 5) (a := 25) (b := 1) (c := 0) (q := 716) (by decide +kernel)) (by decide +kernel) rfl (show m_isO 25 19 (SH, _) = true from m_isO_of (by decide +kernel)) (Nat.le_of_ble_eq_true rfl) rfl rfl (ok_Houses_isUp X (d + 3) F _ _ _ _ hc3) ?_
        rcases m_ite h with ⟨c734, h⟩ | ⟨c734, h⟩
        · refine m_R_1 (by decide) (m_opb_of (ins := .ifCond .eq 18) (len := 3) (tag := 0) (a := 83) (b := 0) (c := 0) (q := 0) (by decide +kernel)) (if_pos c734) ?_
          exact ok_x_sell_83 X d F _ _ _ _ _ h
        · refine m_R_1 (by decide) (m_opb_of (ins := .ifCond .eq 18) (len := 3) (tag := 0) (a := 83) (b := 0) (c := 0) (q := 0) (by decide +kernel)) (if_neg c734) ?_
          refine m_R_sg (by decide) [(.aload_n 2, 1, 0, 2, 0, 0, 0), (.iload_n 1, 1, 0, 1, 0, 0, 0), (.aload_n 0, 1, 0, 0, 0, 0, 0), (.getfield 28, 3, 0, 11, 2, 3, 632), (.getfield 255, 3, 0, 10, 9, 0, 521)] (by decide +kernel) (show m_sgl X _ _ _ _ _ = some (77, [some (.ref 0), some (.int v1), some (.ref 31)], [.int (q3.2.1 16 9), .int v1, .ref 31], (SH, q3.2.1, q3.2.2)) from rfl) ?_
          obtain ⟨q4, hc4, h⟩ := Option.bind_eq_some_iff.mp h
          refine m_R_cV (v := (some (.int q4.1))) (h1 := (SH, q4.2)) (rest := []) (lo' := [some (.ref 31), some (.int v1), some (.int (q3.2.1 16 9))]) (ml := 3) (k0 := 31) (by decide) (Or.inl rfl) (m_opb_of (ins := .invokevirtual 268) (len := 3) (tag := 5) (a := 82) (b := 2) (c := 0) (q := 948) (by decide +kernel)) (by decide +kernel) rfl (show m_isO 82 31 (SH, _) = true from m_isO_of (by decide +kernel)) (Nat.le_of_ble_eq_true rfl) rfl rfl (ok_Papers_maySell X (d + 4) F _ _ _ _ _ hc4) ?_
          rcases m_ite h with ⟨c735, h⟩ | ⟨c735, h⟩
          · refine m_R_1 (by decide) (m_opb_of (ins := .ifCond .ne 10) (len := 3) (tag := 0) (a := 90) (b := 0) (c := 0) (q := 0) (by decide +kernel)) (if_pos c735) ?_
            exact ok_x_sell_83 X d F _ _ _ _ _ h
          · refine m_R_1 (by decide) (m_opb_of (ins := .ifCond .ne 10) (len := 3) (tag := 0) (a := 90) (b := 0) (c := 0) (q := 0) (by decide +kernel)) (if_neg c735) ?_
            refine m_R_sg (by decide) [(.aload_n 0, 1, 0, 0, 0, 0, 0), (.getfield 28, 3, 0, 11, 2, 3, 632), (.iload_n 1, 1, 0, 1, 0, 0, 0)] (by decide +kernel) (show m_sgl X _ _ _ _ _ = some (95, [some (.ref 0), some (.int v1), some (.ref 31)], [.int v1, .ref 16], (SH, q4.2.1, q4.2.2)) from rfl) ?_
            obtain ⟨q5, hc5, h⟩ := Option.bind_eq_some_iff.mp h
            refine m_R_cV (v := (some (.int q5.1))) (h1 := (SH, q5.2)) (rest := []) (lo' := [some (.ref 16), some (.int v1), none, none, none]) (ml := 5) (k0 := 16) (by decide) (Or.inl rfl) (m_opb_of (ins := .invokevirtual 272) (len := 3) (tag := 5) (a := 83) (b := 1) (c := 0) (q := 952) (by decide +kernel)) (by decide +kernel) rfl (show m_isO 83 16 (SH, _) = true from m_isO_of (by decide +kernel)) (Nat.le_of_ble_eq_true rfl) rfl rfl (ok_World_offer X (d + 0) F _ _ _ _ hc5) ?_
            obtain ⟨rfl, rfl⟩ := m_some h
            exact m_R_iret (by decide) (m_opb_of (ins := .ireturn) (len := 1) (tag := 1) (a := 0) (b := 0) (c := 0) (q := 0) (by decide +kernel)) (Or.inl rfl)
    · refine m_R_1 (by decide) (m_opb_of (ins := .if_icmp .ne 12) (len := 3) (tag := 0) (a := 42) (b := 0) (c := 0) (q := 0) (by decide +kernel)) (if_neg c732) ?_
      exact ok_x_sell_42 X d F _ _ _ _ _ h
def f_m_maySell_51 (F : Nat)   (s0 : Int32) (m : mM) : Option (Int32 × mM) := (if s0 = 0 ∨ s0 = 1 then some (s0, m) else none)
theorem ok_m_maySell_51 (X : mX) (d F : Nat) : ∀ (s0 : Int32) (w0 : Option Value) (w1 : Option Value) (m : mM) (r : Int32) (m' : mM), f_m_maySell_51 F s0 m = some (r, m') → m_R X (d + 1) 275 51 [w0, w1] [.int s0] (SH, m) (some (.int r), (SH, m')) := by
  intro s0 w0 w1 m r m' h
  unfold f_m_maySell_51 at h
  obtain ⟨c0, h⟩ := m_ite_p h
  obtain ⟨rfl, rfl⟩ := m_some h
  exact m_R_iret (by decide) (m_opb_of (ins := .ireturn) (len := 1) (tag := 1) (a := 1) (b := 0) (c := 0) (q := 0) (by decide +kernel)) (Or.inr c0)
def f_m_maySell_50 (F : Nat)    (m : mM) : Option (Int32 × mM) := f_m_maySell_51 F (0 : Int32) m
theorem ok_m_maySell_50 (X : mX) (d F : Nat) : ∀  (w0 : Option Value) (w1 : Option Value) (m : mM) (r : Int32) (m' : mM), f_m_maySell_50 F  m = some (r, m') → m_R X (d + 1) 275 50 [w0, w1] [] (SH, m) (some (.int r), (SH, m')) := by
  intro w0 w1 m r m' h
  unfold f_m_maySell_50 at h
  refine m_R_sg (by decide) [(.iconst 0, 1, 0, 0, 0, 0, 0)] (by decide +kernel) (show m_sgl X _ _ _ _ _ = some (51, [w0, w1], [.int (0 : Int32)], (SH, m.1, m.2)) from rfl) ?_
  exact ok_m_maySell_51 X d F _ _ _ _ _ _ h
def f_m_maySell (F : Nat)   (v1 : Int32) (m : mM) : Option (Int32 × mM) := ((f_m_paper F v1 (6 : Int32) m).bind fun q1 => (if q1.1 = 0 then ((f_m_paper F v1 (5 : Int32) q1.2).bind fun q2 => (if q2.1 ≤ (q2.2.1 305 (0 : Int32).toNatClampNeg) then f_m_maySell_50 F q2.2 else ((f_m_paper F v1 (14 : Int32) q2.2).bind fun q3 => (if q3.1 = 0 then ((f_m_paper F v1 (7 : Int32) q3.2).bind fun q4 => (if (5 : Int32) < q4.1 then f_m_maySell_50 F q4.2 else f_m_maySell_51 F (1 : Int32) q4.2)) else f_m_maySell_50 F q3.2)))) else f_m_maySell_50 F q1.2))
theorem ok_m_maySell (X : mX) (d F : Nat) : ∀ (v1 : Int32)  (m : mM) (r : Int32) (m' : mM), f_m_maySell F v1 m = some (r, m') → m_R X (d + 1) 275 0 [some (.ref 304), some (.int v1)] [] (SH, m) (some (.int r), (SH, m')) := by
  intro v1 m r m' h
  unfold f_m_maySell at h
  refine m_R_sg (by decide) [(.aload_n 0, 1, 0, 0, 0, 0, 0), (.iload_n 1, 1, 0, 1, 0, 0, 0), (.bipush 6, 2, 0, 6, 0, 0, 0)] (by decide +kernel) (show m_sgl X _ _ _ _ _ = some (4, [some (.ref 304), some (.int v1)], [.int (6 : Int32), .int v1, .ref 304], (SH, m.1, m.2)) from rfl) ?_
  obtain ⟨q1, hc1, h⟩ := Option.bind_eq_some_iff.mp h
  refine m_R_cV (v := (some (.int q1.1))) (h1 := (SH, q1.2)) (rest := []) (lo' := [some (.ref 304), some (.int v1), some (.int (6 : Int32))]) (ml := 3) (k0 := 304) (by decide) (Or.inl rfl) (m_opb_of (ins := .invokevirtual 160) (len := 3) (tag := 5) (a := 246) (b := 2) (c := 0) (q := 1791) (by decide +kernel)) (by decide +kernel) rfl (show m_isO 246 304 (SH, _) = true from m_isO_of (by decide +kernel)) (Nat.le_of_ble_eq_true rfl) rfl rfl (ok_m_paper X (d + 0) F _ _ _ _ _ hc1) ?_
  rcases m_ite h with ⟨c736, h⟩ | ⟨c736, h⟩
  · refine m_R_1 (by decide) (m_opb_of (ins := .ifCond .ne 43) (len := 3) (tag := 0) (a := 50) (b := 0) (c := 0) (q := 0) (by decide +kernel)) (if_pos c736) ?_
    refine m_R_sg (by decide) [(.aload_n 0, 1, 0, 0, 0, 0, 0), (.iload_n 1, 1, 0, 1, 0, 0, 0), (.iconst 5, 1, 0, 5, 0, 0, 0)] (by decide +kernel) (show m_sgl X _ _ _ _ _ = some (13, [some (.ref 304), some (.int v1)], [.int (5 : Int32), .int v1, .ref 304], (SH, q1.2.1, q1.2.2)) from rfl) ?_
    obtain ⟨q2, hc2, h⟩ := Option.bind_eq_some_iff.mp h
    refine m_R_cV (v := (some (.int q2.1))) (h1 := (SH, q2.2)) (rest := []) (lo' := [some (.ref 304), some (.int v1), some (.int (5 : Int32))]) (ml := 3) (k0 := 304) (by decide) (Or.inl rfl) (m_opb_of (ins := .invokevirtual 160) (len := 3) (tag := 5) (a := 246) (b := 2) (c := 0) (q := 1791) (by decide +kernel)) (by decide +kernel) rfl (show m_isO 246 304 (SH, _) = true from m_isO_of (by decide +kernel)) (Nat.le_of_ble_eq_true rfl) rfl rfl (ok_m_paper X (d + 0) F _ _ _ _ _ hc2) ?_
    refine m_R_sg (by decide) [(.aload_n 0, 1, 0, 0, 0, 0, 0), (.getfield 13, 3, 0, 12, 1, 3, 1493), (.iconst 0, 1, 0, 0, 0, 0, 0)] (by decide +kernel) (show m_sgl X _ _ _ _ _ = some (21, [some (.ref 304), some (.int v1)], [.int (0 : Int32), .ref 305, .int q2.1], (SH, q2.2.1, q2.2.2)) from rfl) ?_
    refine m_R_1 (by decide) (m_opb_of (ins := .iaload) (len := 1) (tag := 0) (a := 0) (b := 0) (c := 0) (q := 0) (by decide +kernel)) (m_s_iald sh_305 (by decide) (show ¬ ((0 : Int32) < 0 ∨ 9732 ≤ (0 : Int32).toNatClampNeg) by decide)) ?_
    rcases m_ite h with ⟨c737, h⟩ | ⟨c737, h⟩
    · refine m_R_1 (by decide) (m_opb_of (ins := .if_icmp .le 28) (len := 3) (tag := 0) (a := 50) (b := 0) (c := 0) (q := 0) (by decide +kernel)) (if_pos c737) ?_
      exact ok_m_maySell_50 X d F _ _ _ _ _ h
    · refine m_R_1 (by decide) (m_opb_of (ins := .if_icmp .le 28) (len := 3) (tag := 0) (a := 50) (b := 0) (c := 0) (q := 0) (by decide +kernel)) (if_neg c737) ?_
      refine m_R_sg (by decide) [(.aload_n 0, 1, 0, 0, 0, 0, 0), (.iload_n 1, 1, 0, 1, 0, 0, 0), (.bipush 14, 2, 0, 14, 0, 0, 0)] (by decide +kernel) (show m_sgl X _ _ _ _ _ = some (29, [some (.ref 304), some (.int v1)], [.int (14 : Int32), .int v1, .ref 304], (SH, q2.2.1, q2.2.2)) from rfl) ?_
      obtain ⟨q3, hc3, h⟩ := Option.bind_eq_some_iff.mp h
      refine m_R_cV (v := (some (.int q3.1))) (h1 := (SH, q3.2)) (rest := []) (lo' := [some (.ref 304), some (.int v1), some (.int (14 : Int32))]) (ml := 3) (k0 := 304) (by decide) (Or.inl rfl) (m_opb_of (ins := .invokevirtual 160) (len := 3) (tag := 5) (a := 246) (b := 2) (c := 0) (q := 1791) (by decide +kernel)) (by decide +kernel) rfl (show m_isO 246 304 (SH, _) = true from m_isO_of (by decide +kernel)) (Nat.le_of_ble_eq_true rfl) rfl rfl (ok_m_paper X (d + 0) F _ _ _ _ _ hc3) ?_
      rcases m_ite h with ⟨c738, h⟩ | ⟨c738, h⟩
      · refine m_R_1 (by decide) (m_opb_of (ins := .ifCond .ne 18) (len := 3) (tag := 0) (a := 50) (b := 0) (c := 0) (q := 0) (by decide +kernel)) (if_pos c738) ?_
        refine m_R_sg (by decide) [(.aload_n 0, 1, 0, 0, 0, 0, 0), (.iload_n 1, 1, 0, 1, 0, 0, 0), (.bipush 7, 2, 0, 7, 0, 0, 0)] (by decide +kernel) (show m_sgl X _ _ _ _ _ = some (39, [some (.ref 304), some (.int v1)], [.int (7 : Int32), .int v1, .ref 304], (SH, q3.2.1, q3.2.2)) from rfl) ?_
        obtain ⟨q4, hc4, h⟩ := Option.bind_eq_some_iff.mp h
        refine m_R_cV (v := (some (.int q4.1))) (h1 := (SH, q4.2)) (rest := []) (lo' := [some (.ref 304), some (.int v1), some (.int (7 : Int32))]) (ml := 3) (k0 := 304) (by decide) (Or.inl rfl) (m_opb_of (ins := .invokevirtual 160) (len := 3) (tag := 5) (a := 246) (b := 2) (c := 0) (q := 1791) (by decide +kernel)) (by decide +kernel) rfl (show m_isO 246 304 (SH, _) = true from m_isO_of (by decide +kernel)) (Nat.le_of_ble_eq_true rfl) rfl rfl (ok_m_paper X (d + 0) F _ _ _ _ _ hc4) ?_
        refine m_R_sg (by decide) [(.iconst 5, 1, 0, 5, 0, 0, 0)] (by decide +kernel) (show m_sgl X _ _ _ _ _ = some (43, [some (.ref 304), some (.int v1)], [.int (5 : Int32), .int q4.1], (SH, q4.2.1, q4.2.2)) from rfl) ?_
        rcases m_ite h with ⟨c739, h⟩ | ⟨c739, h⟩
        · refine m_R_1 (by decide) (m_opb_of (ins := .if_icmp .gt 7) (len := 3) (tag := 0) (a := 50) (b := 0) (c := 0) (q := 0) (by decide +kernel)) (if_pos c739) ?_
          exact ok_m_maySell_50 X d F _ _ _ _ _ h
        · refine m_R_1 (by decide) (m_opb_of (ins := .if_icmp .gt 7) (len := 3) (tag := 0) (a := 50) (b := 0) (c := 0) (q := 0) (by decide +kernel)) (if_neg c739) ?_
          refine m_R_sg (by decide) [(.iconst 1, 1, 0, 1, 0, 0, 0), (.goto 4, 3, 0, 51, 0, 0, 0)] (by decide +kernel) (show m_sgl X _ _ _ _ _ = some (51, [some (.ref 304), some (.int v1)], [.int (1 : Int32)], (SH, q4.2.1, q4.2.2)) from rfl) ?_
          exact ok_m_maySell_51 X d F _ _ _ _ _ _ h
      · refine m_R_1 (by decide) (m_opb_of (ins := .ifCond .ne 18) (len := 3) (tag := 0) (a := 50) (b := 0) (c := 0) (q := 0) (by decide +kernel)) (if_neg c738) ?_
        exact ok_m_maySell_50 X d F _ _ _ _ _ h
  · refine m_R_1 (by decide) (m_opb_of (ins := .ifCond .ne 43) (len := 3) (tag := 0) (a := 50) (b := 0) (c := 0) (q := 0) (by decide +kernel)) (if_neg c736) ?_
    exact ok_m_maySell_50 X d F _ _ _ _ _ h
def f_m_priceOf (F : Nat)   (v1 : Int32) (v2 : Int32) (m : mM) : Option (Int32 × mM) := ((f_m_paper F v1 (2 : Int32) m).bind fun q1 => ((f_m_paper F v1 (2 : Int32) q1.2).bind fun q2 => ((f_m_paper F v1 (5 : Int32) q2.2).bind fun q3 => some ((q1.1 - (((q2.1 * v2) * (q3.1 - (q3.2.1 305 (0 : Int32).toNatClampNeg))) / (36000 : Int32))), q3.2))))
theorem ok_m_priceOf (X : mX) (d F : Nat) : ∀ (v1 : Int32) (v2 : Int32)  (m : mM) (r : Int32) (m' : mM), f_m_priceOf F v1 v2 m = some (r, m') → m_R X (d + 1) 277 0 [some (.ref 304), some (.int v1), some (.int v2)] [] (SH, m) (some (.int r), (SH, m')) := by
  intro v1 v2 m r m' h
  unfold f_m_priceOf at h
  refine m_R_sg (by decide) [(.aload_n 0, 1, 0, 0, 0, 0, 0), (.iload_n 1, 1, 0, 1, 0, 0, 0), (.iconst 2, 1, 0, 2, 0, 0, 0)] (by decide +kernel) (show m_sgl X _ _ _ _ _ = some (3, [some (.ref 304), some (.int v1), some (.int v2)], [.int (2 : Int32), .int v1, .ref 304], (SH, m.1, m.2)) from rfl) ?_
  obtain ⟨q1, hc1, h⟩ := Option.bind_eq_some_iff.mp h
  refine m_R_cV (v := (some (.int q1.1))) (h1 := (SH, q1.2)) (rest := []) (lo' := [some (.ref 304), some (.int v1), some (.int (2 : Int32))]) (ml := 3) (k0 := 304) (by decide) (Or.inl rfl) (m_opb_of (ins := .invokevirtual 160) (len := 3) (tag := 5) (a := 246) (b := 2) (c := 0) (q := 1791) (by decide +kernel)) (by decide +kernel) rfl (show m_isO 246 304 (SH, _) = true from m_isO_of (by decide +kernel)) (Nat.le_of_ble_eq_true rfl) rfl rfl (ok_m_paper X (d + 0) F _ _ _ _ _ hc1) ?_
  refine m_R_sg (by decide) [(.aload_n 0, 1, 0, 0, 0, 0, 0), (.iload_n 1, 1, 0, 1, 0, 0, 0), (.iconst 2, 1, 0, 2, 0, 0, 0)] (by decide +kernel) (show m_sgl X _ _ _ _ _ = some (9, [some (.ref 304), some (.int v1), some (.int v2)], [.int (2 : Int32), .int v1, .ref 304, .int q1.1], (SH, q1.2.1, q1.2.2)) from rfl) ?_
  obtain ⟨q2, hc2, h⟩ := Option.bind_eq_some_iff.mp h
  refine m_R_cV (v := (some (.int q2.1))) (h1 := (SH, q2.2)) (rest := [.int q1.1]) (lo' := [some (.ref 304), some (.int v1), some (.int (2 : Int32))]) (ml := 3) (k0 := 304) (by decide) (Or.inl rfl) (m_opb_of (ins := .invokevirtual 160) (len := 3) (tag := 5) (a := 246) (b := 2) (c := 0) (q := 1791) (by decide +kernel)) (by decide +kernel) rfl (show m_isO 246 304 (SH, _) = true from m_isO_of (by decide +kernel)) (Nat.le_of_ble_eq_true rfl) rfl rfl (ok_m_paper X (d + 0) F _ _ _ _ _ hc2) ?_
  refine m_R_sg (by decide) [(.iload_n 2, 1, 0, 2, 0, 0, 0), (.imul, 1, 0, 0, 0, 0, 0), (.aload_n 0, 1, 0, 0, 0, 0, 0), (.iload_n 1, 1, 0, 1, 0, 0, 0), (.iconst 5, 1, 0, 5, 0, 0, 0)] (by decide +kernel) (show m_sgl X _ _ _ _ _ = some (17, [some (.ref 304), some (.int v1), some (.int v2)], [.int (5 : Int32), .int v1, .ref 304, .int (q2.1 * v2), .int q1.1], (SH, q2.2.1, q2.2.2)) from rfl) ?_
  obtain ⟨q3, hc3, h⟩ := Option.bind_eq_some_iff.mp h
  refine m_R_cV (v := (some (.int q3.1))) (h1 := (SH, q3.2)) (rest := [.int (q2.1 * v2), .int q1.1]) (lo' := [some (.ref 304), some (.int v1), some (.int (5 : Int32))]) (ml := 3) (k0 := 304) (by decide) (Or.inl rfl) (m_opb_of (ins := .invokevirtual 160) (len := 3) (tag := 5) (a := 246) (b := 2) (c := 0) (q := 1791) (by decide +kernel)) (by decide +kernel) rfl (show m_isO 246 304 (SH, _) = true from m_isO_of (by decide +kernel)) (Nat.le_of_ble_eq_true rfl) rfl rfl (ok_m_paper X (d + 0) F _ _ _ _ _ hc3) ?_
  refine m_R_sg (by decide) [(.aload_n 0, 1, 0, 0, 0, 0, 0), (.getfield 13, 3, 0, 12, 1, 3, 1493), (.iconst 0, 1, 0, 0, 0, 0, 0)] (by decide +kernel) (show m_sgl X _ _ _ _ _ = some (25, [some (.ref 304), some (.int v1), some (.int v2)], [.int (0 : Int32), .ref 305, .int q3.1, .int (q2.1 * v2), .int q1.1], (SH, q3.2.1, q3.2.2)) from rfl) ?_
  refine m_R_1 (by decide) (m_opb_of (ins := .iaload) (len := 1) (tag := 0) (a := 0) (b := 0) (c := 0) (q := 0) (by decide +kernel)) (m_s_iald sh_305 (by decide) (show ¬ ((0 : Int32) < 0 ∨ 9732 ≤ (0 : Int32).toNatClampNeg) by decide)) ?_
  refine m_R_sg (by decide) [(.isub, 1, 0, 0, 0, 0, 0), (.imul, 1, 0, 0, 0, 0, 0), (.ldc 179, 2, 0, 36000, 0, 0, 1913)] (by decide +kernel) (show m_sgl X _ _ _ _ _ = some (30, [some (.ref 304), some (.int v1), some (.int v2)], [.int (36000 : Int32), .int ((q2.1 * v2) * (q3.1 - (q3.2.1 305 (0 : Int32).toNatClampNeg))), .int q1.1], (SH, q3.2.1, q3.2.2)) from rfl) ?_
  refine m_R_1 (by decide) (m_opb_of (ins := .idiv) (len := 1) (tag := 0) (a := 0) (b := 0) (c := 0) (q := 0) (by decide +kernel)) (m_s_idiv (by decide)) ?_
  refine m_R_sg (by decide) [(.isub, 1, 0, 0, 0, 0, 0)] (by decide +kernel) (show m_sgl X _ _ _ _ _ = some (32, [some (.ref 304), some (.int v1), some (.int v2)], [.int (q1.1 - (((q2.1 * v2) * (q3.1 - (q3.2.1 305 (0 : Int32).toNatClampNeg))) / (36000 : Int32)))], (SH, q3.2.1, q3.2.2)) from rfl) ?_
  obtain ⟨rfl, rfl⟩ := m_some h
  exact m_R_iret (by decide) (m_opb_of (ins := .ireturn) (len := 1) (tag := 1) (a := 0) (b := 0) (c := 0) (q := 0) (by decide +kernel)) (Or.inl rfl)
def f_m_offer_129 (F : Nat)    (m : mM) : Option (Int32 × mM) := some ((0 : Int32), m)
theorem ok_m_offer_129 (X : mX) (d F : Nat) : ∀  (w0 : Option Value) (w1 : Option Value) (w2 : Option Value) (w3 : Option Value) (w4 : Option Value) (w5 : Option Value) (w6 : Option Value) (m : mM) (r : Int32) (m' : mM), f_m_offer_129 F  m = some (r, m') → m_R X (d + 72) 276 129 [w0, w1, w2, w3, w4, w5, w6] [] (SH, m) (some (.int r), (SH, m')) := by
  intro w0 w1 w2 w3 w4 w5 w6 m r m' h
  unfold f_m_offer_129 at h
  refine m_R_sg (by decide) [(.iconst 0, 1, 0, 0, 0, 0, 0)] (by decide +kernel) (show m_sgl X _ _ _ _ _ = some (130, [w0, w1, w2, w3, w4, w5, w6], [.int (0 : Int32)], (SH, m.1, m.2)) from rfl) ?_
  obtain ⟨rfl, rfl⟩ := m_some h
  exact m_R_iret (by decide) (m_opb_of (ins := .ireturn) (len := 1) (tag := 1) (a := 0) (b := 0) (c := 0) (q := 0) (by decide +kernel)) (Or.inl rfl)
def f_m_offer_114 (F : Nat)   (v3 : Int32) (m : mM) : Option (Int32 × mM) := (if v3 = 0 then f_m_offer_129 F ((m_up m.1 305 (8 : Int32).toNatClampNeg ((m.1 305 (8 : Int32).toNatClampNeg) + (1 : Int32))), m.2) else f_m_offer_129 F m)
theorem ok_m_offer_114 (X : mX) (d F : Nat) : ∀ (v3 : Int32) (w1 : Option Value) (w2 : Option Value) (w4 : Option Value) (w5 : Option Value) (w6 : Option Value) (m : mM) (r : Int32) (m' : mM), f_m_offer_114 F v3 m = some (r, m') → m_R X (d + 72) 276 114 [some (.ref 304), w1, w2, some (.int v3), w4, w5, w6] [] (SH, m) (some (.int r), (SH, m')) := by
  intro v3 w1 w2 w4 w5 w6 m r m' h
  unfold f_m_offer_114 at h
  refine m_R_sg (by decide) [(.iload_n 3, 1, 0, 3, 0, 0, 0)] (by decide +kernel) (show m_sgl X _ _ _ _ _ = some (115, [some (.ref 304), w1, w2, some (.int v3), w4, w5, w6], [.int v3], (SH, m.1, m.2)) from rfl) ?_
  rcases m_ite h with ⟨c740, h⟩ | ⟨c740, h⟩
  · refine m_R_1 (by decide) (m_opb_of (ins := .ifCond .ne 14) (len := 3) (tag := 0) (a := 129) (b := 0) (c := 0) (q := 0) (by decide +kernel)) (if_pos c740) ?_
    refine m_R_sg (by decide) [(.aload_n 0, 1, 0, 0, 0, 0, 0), (.getfield 13, 3, 0, 12, 1, 3, 1493), (.bipush 8, 2, 0, 8, 0, 0, 0), (.dup2, 1, 0, 0, 0, 0, 0)] (by decide +kernel) (show m_sgl X _ _ _ _ _ = some (125, [some (.ref 304), w1, w2, some (.int v3), w4, w5, w6], [.int (8 : Int32), .ref 305, .int (8 : Int32), .ref 305], (SH, m.1, m.2)) from rfl) ?_
    refine m_R_1 (by decide) (m_opb_of (ins := .iaload) (len := 1) (tag := 0) (a := 0) (b := 0) (c := 0) (q := 0) (by decide +kernel)) (m_s_iald sh_305 (by decide) (show ¬ ((8 : Int32) < 0 ∨ 9732 ≤ (8 : Int32).toNatClampNeg) by decide)) ?_
    refine m_R_sg (by decide) [(.iconst 1, 1, 0, 1, 0, 0, 0), (.iadd, 1, 0, 0, 0, 0, 0)] (by decide +kernel) (show m_sgl X _ _ _ _ _ = some (128, [some (.ref 304), w1, w2, some (.int v3), w4, w5, w6], [.int ((m.1 305 (8 : Int32).toNatClampNeg) + (1 : Int32)), .int (8 : Int32), .ref 305], (SH, m.1, m.2)) from rfl) ?_
    refine m_R_1 (by decide) (m_opb_of (ins := .iastore) (len := 1) (tag := 0) (a := 0) (b := 0) (c := 0) (q := 0) (by decide +kernel)) (m_s_iast sh_305 (show ¬ ((8 : Int32) < 0 ∨ 9732 ≤ (8 : Int32).toNatClampNeg) by decide)) ?_
    exact ok_m_offer_129 X d F _ _ _ _ _ _ _ _ _ _ h
  · refine m_R_1 (by decide) (m_opb_of (ins := .ifCond .ne 14) (len := 3) (tag := 0) (a := 129) (b := 0) (c := 0) (q := 0) (by decide +kernel)) (if_neg c740) ?_
    exact ok_m_offer_129 X d F _ _ _ _ _ _ _ _ _ _ h
def f_m_offer_212 (F : Nat)   (v3 : Int32) (v4 : Int32) (v6 : Int32) (m : mM) : Option (Int32 × mM) := (if (v6 + (4 : Int32)) < 0 ∨ 9732 ≤ (v6 + (4 : Int32)).toNatClampNeg then none else some (v4, ((m_up m.1 305 (v6 + (4 : Int32)).toNatClampNeg v3), m.2)))
theorem ok_m_offer_212 (X : mX) (d F : Nat) : ∀ (v3 : Int32) (v4 : Int32) (v6 : Int32) (w1 : Option Value) (w2 : Option Value) (w5 : Option Value) (m : mM) (r : Int32) (m' : mM), f_m_offer_212 F v3 v4 v6 m = some (r, m') → m_R X (d + 72) 276 212 [some (.ref 304), w1, w2, some (.int v3), some (.int v4), w5, some (.int v6)] [] (SH, m) (some (.int r), (SH, m')) := by
  intro v3 v4 v6 w1 w2 w5 m r m' h
  unfold f_m_offer_212 at h
  refine m_R_sg (by decide) [(.aload_n 0, 1, 0, 0, 0, 0, 0), (.getfield 13, 3, 0, 12, 1, 3, 1493), (.iload 6, 2, 0, 6, 0, 0, 0), (.iconst 4, 1, 0, 4, 0, 0, 0), (.iadd, 1, 0, 0, 0, 0, 0), (.iload_n 3, 1, 0, 3, 0, 0, 0)] (by decide +kernel) (show m_sgl X _ _ _ _ _ = some (221, [some (.ref 304), w1, w2, some (.int v3), some (.int v4), w5, some (.int v6)], [.int v3, .int (v6 + (4 : Int32)), .ref 305], (SH, m.1, m.2)) from rfl) ?_
  obtain ⟨c741, h⟩ := m_ite_n h
  refine m_R_1 (by decide) (m_opb_of (ins := .iastore) (len := 1) (tag := 0) (a := 0) (b := 0) (c := 0) (q := 0) (by decide +kernel)) (m_s_iast sh_305 c741) ?_
  refine m_R_sg (by decide) [(.iload 4, 2, 0, 4, 0, 0, 0)] (by decide +kernel) (show m_sgl X _ _ _ _ _ = some (224, [some (.ref 304), w1, w2, some (.int v3), some (.int v4), w5, some (.int v6)], [.int v4], (SH, (m_up m.1 305 (v6 + (4 : Int32)).toNatClampNeg v3), m.2)) from rfl) ?_
  obtain ⟨rfl, rfl⟩ := m_some h
  exact m_R_iret (by decide) (m_opb_of (ins := .ireturn) (len := 1) (tag := 1) (a := 0) (b := 0) (c := 0) (q := 0) (by decide +kernel)) (Or.inl rfl)
def f_m_offer_198 (F : Nat)   (v3 : Int32) (v4 : Int32) (v6 : Int32) (m : mM) : Option (Int32 × mM) := (if (v6 + (7 : Int32)) < 0 ∨ 9732 ≤ (v6 + (7 : Int32)).toNatClampNeg then none else f_m_offer_212 F v3 v4 v6 ((m_up m.1 305 (v6 + (7 : Int32)).toNatClampNeg ((m.1 305 (v6 + (7 : Int32)).toNatClampNeg) + (1 : Int32))), m.2))
theorem ok_m_offer_198 (X : mX) (d F : Nat) : ∀ (v3 : Int32) (v4 : Int32) (v6 : Int32) (w1 : Option Value) (w2 : Option Value) (w5 : Option Value) (m : mM) (r : Int32) (m' : mM), f_m_offer_198 F v3 v4 v6 m = some (r, m') → m_R X (d + 72) 276 198 [some (.ref 304), w1, w2, some (.int v3), some (.int v4), w5, some (.int v6)] [] (SH, m) (some (.int r), (SH, m')) := by
  intro v3 v4 v6 w1 w2 w5 m r m' h
  unfold f_m_offer_198 at h
  refine m_R_sg (by decide) [(.aload_n 0, 1, 0, 0, 0, 0, 0), (.getfield 13, 3, 0, 12, 1, 3, 1493), (.iload 6, 2, 0, 6, 0, 0, 0), (.bipush 7, 2, 0, 7, 0, 0, 0), (.iadd, 1, 0, 0, 0, 0, 0), (.dup2, 1, 0, 0, 0, 0, 0)] (by decide +kernel) (show m_sgl X _ _ _ _ _ = some (208, [some (.ref 304), w1, w2, some (.int v3), some (.int v4), w5, some (.int v6)], [.int (v6 + (7 : Int32)), .ref 305, .int (v6 + (7 : Int32)), .ref 305], (SH, m.1, m.2)) from rfl) ?_
  obtain ⟨c742, h⟩ := m_ite_n h
  refine m_R_1 (by decide) (m_opb_of (ins := .iaload) (len := 1) (tag := 0) (a := 0) (b := 0) (c := 0) (q := 0) (by decide +kernel)) (m_s_iald sh_305 (by decide) c742) ?_
  refine m_R_sg (by decide) [(.iconst 1, 1, 0, 1, 0, 0, 0), (.iadd, 1, 0, 0, 0, 0, 0)] (by decide +kernel) (show m_sgl X _ _ _ _ _ = some (211, [some (.ref 304), w1, w2, some (.int v3), some (.int v4), w5, some (.int v6)], [.int ((m.1 305 (v6 + (7 : Int32)).toNatClampNeg) + (1 : Int32)), .int (v6 + (7 : Int32)), .ref 305], (SH, m.1, m.2)) from rfl) ?_
  refine m_R_1 (by decide) (m_opb_of (ins := .iastore) (len := 1) (tag := 0) (a := 0) (b := 0) (c := 0) (q := 0) (by decide +kernel)) (m_s_iast sh_305 c742) ?_
  exact ok_m_offer_212 X d F _ _ _ _ _ _ _ _ _ h
def f_m_offer_96 (F : Nat)   (v1 : Int32) (v2 : Int32) (v3 : Int32) (v4 : Int32) (s0 : Int32) (m : mM) : Option (Int32 × mM) := (if s0 = 0 then f_m_offer_114 F v3 m else ((f_m_can F v3 v2 v4 m).bind fun q8 => (if q8.1 = 0 then f_m_offer_114 F v3 q8.2 else ((f_m_gives F v3 v2 v4 q8.2).bind fun q9 => (if (((6200 : Int32) + ((20 : Int32) * v1)) + (7 : Int32)) < 0 ∨ 9732 ≤ (((6200 : Int32) + ((20 : Int32) * v1)) + (7 : Int32)).toNatClampNeg then none else (if (((((6200 : Int32) + ((20 : Int32) * v1)) + (8 : Int32)) + (q9.2.1 305 (((6200 : Int32) + ((20 : Int32) * v1)) + (7 : Int32)).toNatClampNeg)) - (1 : Int32)) < 0 ∨ 9732 ≤ (((((6200 : Int32) + ((20 : Int32) * v1)) + (8 : Int32)) + (q9.2.1 305 (((6200 : Int32) + ((20 : Int32) * v1)) + (7 : Int32)).toNatClampNeg)) - (1 : Int32)).toNatClampNeg then none else (if (q9.2.1 305 (((((6200 : Int32) + ((20 : Int32) * v1)) + (8 : Int32)) + (q9.2.1 305 (((6200 : Int32) + ((20 : Int32) * v1)) + (7 : Int32)).toNatClampNeg)) - (1 : Int32)).toNatClampNeg) = v2 then f_m_offer_212 F v3 v4 ((6200 : Int32) + ((20 : Int32) * v1)) q9.2 else (if ((((6200 : Int32) + ((20 : Int32) * v1)) + (8 : Int32)) + (q9.2.1 305 (((6200 : Int32) + ((20 : Int32) * v1)) + (7 : Int32)).toNatClampNeg)) < 0 ∨ 9732 ≤ ((((6200 : Int32) + ((20 : Int32) * v1)) + (8 : Int32)) + (q9.2.1 305 (((6200 : Int32) + ((20 : Int32) * v1)) + (7 : Int32)).toNatClampNeg)).toNatClampNeg then none else f_m_offer_198 F v3 v4 ((6200 : Int32) + ((20 : Int32) * v1)) ((m_up q9.2.1 305 ((((6200 : Int32) + ((20 : Int32) * v1)) + (8 : Int32)) + (q9.2.1 305 (((6200 : Int32) + ((20 : Int32) * v1)) + (7 : Int32)).toNatClampNeg)).toNatClampNeg v2), q9.2.2)))))))))
theorem ok_m_offer_96 (X : mX) (d F : Nat) : ∀ (v1 : Int32) (v2 : Int32) (v3 : Int32) (v4 : Int32) (s0 : Int32) (w5 : Option Value) (w6 : Option Value) (m : mM) (r : Int32) (m' : mM), f_m_offer_96 F v1 v2 v3 v4 s0 m = some (r, m') → m_R X (d + 72) 276 96 [some (.ref 304), some (.int v1), some (.int v2), some (.int v3), some (.int v4), w5, w6] [.int s0] (SH, m) (some (.int r), (SH, m')) := by
  intro v1 v2 v3 v4 s0 w5 w6 m r m' h
  unfold f_m_offer_96 at h
  refine m_R_sg (by decide) [(.istore 5, 2, 0, 5, 0, 0, 0), (.iload 5, 2, 0, 5, 0, 0, 0)] (by decide +kernel) (show m_sgl X _ _ _ _ _ = some (100, [some (.ref 304), some (.int v1), some (.int v2), some (.int v3), some (.int v4), some (.int s0), w6], [.int s0], (SH, m.1, m.2)) from rfl) ?_
  rcases m_ite h with ⟨c743, h⟩ | ⟨c743, h⟩
  · refine m_R_1 (by decide) (m_opb_of (ins := .ifCond .eq 14) (len := 3) (tag := 0) (a := 114) (b := 0) (c := 0) (q := 0) (by decide +kernel)) (if_pos c743) ?_
    exact ok_m_offer_114 X d F _ _ _ _ _ _ _ _ _ h
  · refine m_R_1 (by decide) (m_opb_of (ins := .ifCond .eq 14) (len := 3) (tag := 0) (a := 114) (b := 0) (c := 0) (q := 0) (by decide +kernel)) (if_neg c743) ?_
    refine m_R_sg (by decide) [(.aload_n 0, 1, 0, 0, 0, 0, 0), (.iload_n 3, 1, 0, 3, 0, 0, 0), (.iload_n 2, 1, 0, 2, 0, 0, 0), (.iload 4, 2, 0, 4, 0, 0, 0)] (by decide +kernel) (show m_sgl X _ _ _ _ _ = some (108, [some (.ref 304), some (.int v1), some (.int v2), some (.int v3), some (.int v4), some (.int s0), w6], [.int v4, .int v2, .int v3, .ref 304], (SH, m.1, m.2)) from rfl) ?_
    obtain ⟨q8, hc8, h⟩ := Option.bind_eq_some_iff.mp h
    refine m_R_cV (v := (some (.int q8.1))) (h1 := (SH, q8.2)) (rest := []) (lo' := [some (.ref 304), some (.int v3), some (.int v2), some (.int v4), none, none, none]) (ml := 7) (k0 := 304) (by decide) (Or.inl rfl) (m_opb_of (ins := .invokevirtual 144) (len := 3) (tag := 5) (a := 221) (b := 3) (c := 0) (q := 1669) (by decide +kernel)) (by decide +kernel) rfl (show m_isO 221 304 (SH, _) = true from m_isO_of (by decide +kernel)) (Nat.le_of_ble_eq_true rfl) rfl rfl (ok_m_can X (d + 0) F _ _ _ _ _ _ hc8) ?_
    rcases m_ite h with ⟨c744, h⟩ | ⟨c744, h⟩
    · refine m_R_1 (by decide) (m_opb_of (ins := .ifCond .ne 20) (len := 3) (tag := 0) (a := 131) (b := 0) (c := 0) (q := 0) (by decide +kernel)) (if_pos c744) ?_
      exact ok_m_offer_114 X d F _ _ _ _ _ _ _ _ _ h
    · refine m_R_1 (by decide) (m_opb_of (ins := .ifCond .ne 20) (len := 3) (tag := 0) (a := 131) (b := 0) (c := 0) (q := 0) (by decide +kernel)) (if_neg c744) ?_
      refine m_R_sg (by decide) [(.aload_n 0, 1, 0, 0, 0, 0, 0), (.iload_n 3, 1, 0, 3, 0, 0, 0), (.iload_n 2, 1, 0, 2, 0, 0, 0), (.iload 4, 2, 0, 4, 0, 0, 0)] (by decide +kernel) (show m_sgl X _ _ _ _ _ = some (136, [some (.ref 304), some (.int v1), some (.int v2), some (.int v3), some (.int v4), some (.int s0), w6], [.int v4, .int v2, .int v3, .ref 304], (SH, q8.2.1, q8.2.2)) from rfl) ?_
      obtain ⟨q9, hc9, h⟩ := Option.bind_eq_some_iff.mp h
      refine m_R_cV (v := none) (h1 := (SH, q9.2)) (rest := []) (lo' := [some (.ref 304), some (.int v3), some (.int v2), some (.int v4), none, none, none]) (ml := 7) (k0 := 304) (by decide) (Or.inl rfl) (m_opb_of (ins := .invokevirtual 147) (len := 3) (tag := 5) (a := 249) (b := 3) (c := 0) (q := 1814) (by decide +kernel)) (by decide +kernel) rfl (show m_isO 249 304 (SH, _) = true from m_isO_of (by decide +kernel)) (Nat.le_of_ble_eq_true rfl) rfl rfl (ok_m_gives X (d + 68) F _ _ _ _ _ _ hc9) ?_
      refine m_R_sg (by decide) [(.sipush 6200, 3, 0, 6200, 0, 0, 0), (.bipush 20, 2, 0, 20, 0, 0, 0), (.iload_n 1, 1, 0, 1, 0, 0, 0), (.imul, 1, 0, 0, 0, 0, 0), (.iadd, 1, 0, 0, 0, 0, 0), (.istore 6, 2, 0, 6, 0, 0, 0), (.aload_n 0, 1, 0, 0, 0, 0, 0), (.getfield 13, 3, 0, 12, 1, 3, 1493), (.iload 6, 2, 0, 6, 0, 0, 0), (.bipush 8, 2, 0, 8, 0, 0, 0), (.iadd, 1, 0, 0, 0, 0, 0), (.aload_n 0, 1, 0, 0, 0, 0, 0), (.getfield 13, 3, 0, 12, 1, 3, 1493), (.iload 6, 2, 0, 6, 0, 0, 0), (.bipush 7, 2, 0, 7, 0, 0, 0), (.iadd, 1, 0, 0, 0, 0, 0)] (by decide +kernel) (show m_sgl X _ _ _ _ _ = some (167, [some (.ref 304), some (.int v1), some (.int v2), some (.int v3), some (.int v4), some (.int s0), some (.int ((6200 : Int32) + ((20 : Int32) * v1)))], [.int (((6200 : Int32) + ((20 : Int32) * v1)) + (7 : Int32)), .ref 305, .int (((6200 : Int32) + ((20 : Int32) * v1)) + (8 : Int32)), .ref 305], (SH, q9.2.1, q9.2.2)) from rfl) ?_
      obtain ⟨c745, h⟩ := m_ite_n h
      refine m_R_1 (by decide) (m_opb_of (ins := .iaload) (len := 1) (tag := 0) (a := 0) (b := 0) (c := 0) (q := 0) (by decide +kernel)) (m_s_iald sh_305 (by decide) c745) ?_
      refine m_R_sg (by decide) [(.iadd, 1, 0, 0, 0, 0, 0), (.iconst 1, 1, 0, 1, 0, 0, 0), (.isub, 1, 0, 0, 0, 0, 0)] (by decide +kernel) (show m_sgl X _ _ _ _ _ = some (171, [some (.ref 304), some (.int v1), some (.int v2), some (.int v3), some (.int v4), some (.int s0), some (.int ((6200 : Int32) + ((20 : Int32) * v1)))], [.int (((((6200 : Int32) + ((20 : Int32) * v1)) + (8 : Int32)) + (q9.2.1 305 (((6200 : Int32) + ((20 : Int32) * v1)) + (7 : Int32)).toNatClampNeg)) - (1 : Int32)), .ref 305], (SH, q9.2.1, q9.2.2)) from rfl) ?_
      obtain ⟨c746, h⟩ := m_ite_n h
      refine m_R_1 (by decide) (m_opb_of (ins := .iaload) (len := 1) (tag := 0) (a := 0) (b := 0) (c := 0) (q := 0) (by decide +kernel)) (m_s_iald sh_305 (by decide) c746) ?_
      refine m_R_sg (by decide) [(.iload_n 2, 1, 0, 2, 0, 0, 0)] (by decide +kernel) (show m_sgl X _ _ _ _ _ = some (173, [some (.ref 304), some (.int v1), some (.int v2), some (.int v3), some (.int v4), some (.int s0), some (.int ((6200 : Int32) + ((20 : Int32) * v1)))], [.int v2, .int (q9.2.1 305 (((((6200 : Int32) + ((20 : Int32) * v1)) + (8 : Int32)) + (q9.2.1 305 (((6200 : Int32) + ((20 : Int32) * v1)) + (7 : Int32)).toNatClampNeg)) - (1 : Int32)).toNatClampNeg)], (SH, q9.2.1, q9.2.2)) from rfl) ?_
      rcases m_ite h with ⟨c747, h⟩ | ⟨c747, h⟩
      · refine m_R_1 (by decide) (m_opb_of (ins := .if_icmp .eq 39) (len := 3) (tag := 0) (a := 212) (b := 0) (c := 0) (q := 0) (by decide +kernel)) (if_pos c747) ?_
        exact ok_m_offer_212 X d F _ _ _ _ _ _ _ _ _ h
      · refine m_R_1 (by decide) (m_opb_of (ins := .if_icmp .eq 39) (len := 3) (tag := 0) (a := 212) (b := 0) (c := 0) (q := 0) (by decide +kernel)) (if_neg c747) ?_
        refine m_R_sg (by decide) [(.aload_n 0, 1, 0, 0, 0, 0, 0), (.getfield 13, 3, 0, 12, 1, 3, 1493), (.iload 6, 2, 0, 6, 0, 0, 0), (.bipush 8, 2, 0, 8, 0, 0, 0), (.iadd, 1, 0, 0, 0, 0, 0), (.aload_n 0, 1, 0, 0, 0, 0, 0), (.getfield 13, 3, 0, 12, 1, 3, 1493), (.iload 6, 2, 0, 6, 0, 0, 0), (.bipush 7, 2, 0, 7, 0, 0, 0), (.iadd, 1, 0, 0, 0, 0, 0)] (by decide +kernel) (show m_sgl X _ _ _ _ _ = some (194, [some (.ref 304), some (.int v1), some (.int v2), some (.int v3), some (.int v4), some (.int s0), some (.int ((6200 : Int32) + ((20 : Int32) * v1)))], [.int (((6200 : Int32) + ((20 : Int32) * v1)) + (7 : Int32)), .ref 305, .int (((6200 : Int32) + ((20 : Int32) * v1)) + (8 : Int32)), .ref 305], (SH, q9.2.1, q9.2.2)) from rfl) ?_
        refine m_R_1 (by decide) (m_opb_of (ins := .iaload) (len := 1) (tag := 0) (a := 0) (b := 0) (c := 0) (q := 0) (by decide +kernel)) (m_s_iald sh_305 (by decide) c745) ?_
        refine m_R_sg (by decide) [(.iadd, 1, 0, 0, 0, 0, 0), (.iload_n 2, 1, 0, 2, 0, 0, 0)] (by decide +kernel) (show m_sgl X _ _ _ _ _ = some (197, [some (.ref 304), some (.int v1), some (.int v2), some (.int v3), some (.int v4), some (.int s0), some (.int ((6200 : Int32) + ((20 : Int32) * v1)))], [.int v2, .int ((((6200 : Int32) + ((20 : Int32) * v1)) + (8 : Int32)) + (q9.2.1 305 (((6200 : Int32) + ((20 : Int32) * v1)) + (7 : Int32)).toNatClampNeg)), .ref 305], (SH, q9.2.1, q9.2.2)) from rfl) ?_
        obtain ⟨c748, h⟩ := m_ite_n h
        refine m_R_1 (by decide) (m_opb_of (ins := .iastore) (len := 1) (tag := 0) (a := 0) (b := 0) (c := 0) (q := 0) (by decide +kernel)) (m_s_iast sh_305 c748) ?_
        exact ok_m_offer_198 X d F _ _ _ _ _ _ _ _ _ h
def f_m_offer_95 (F : Nat)   (v1 : Int32) (v2 : Int32) (v3 : Int32) (v4 : Int32) (m : mM) : Option (Int32 × mM) := f_m_offer_96 F v1 v2 v3 v4 (0 : Int32) m
theorem ok_m_offer_95 (X : mX) (d F : Nat) : ∀ (v1 : Int32) (v2 : Int32) (v3 : Int32) (v4 : Int32) (w5 : Option Value) (w6 : Option Value) (m : mM) (r : Int32) (m' : mM), f_m_offer_95 F v1 v2 v3 v4 m = some (r, m') → m_R X (d + 72) 276 95 [some (.ref 304), some (.int v1), some (.int v2), some (.int v3), some (.int v4), w5, w6] [] (SH, m) (some (.int r), (SH, m')) := by
  intro v1 v2 v3 v4 w5 w6 m r m' h
  unfold f_m_offer_95 at h
  refine m_R_sg (by decide) [(.iconst 0, 1, 0, 0, 0, 0, 0)] (by decide +kernel) (show m_sgl X _ _ _ _ _ = some (96, [some (.ref 304), some (.int v1), some (.int v2), some (.int v3), some (.int v4), w5, w6], [.int (0 : Int32)], (SH, m.1, m.2)) from rfl) ?_
  exact ok_m_offer_96 X d F _ _ _ _ _ _ _ _ _ _ h
def f_m_offer_39 (F : Nat)   (v1 : Int32) (v2 : Int32) (v3 : Int32) (s1 : Int32) (s2 : Int32) (m : mM) : Option (Int32 × mM) := ((f_m_priceOf F s1 s2 m).bind fun q3 => (if v3 = 0 then ((f_m_ruled F (2 : Int32) v1 (1 : Int32) q3.2).bind fun q4 => (if q4.1 = 0 then f_m_offer_96 F v1 v2 v3 q3.1 (0 : Int32) q4.2 else f_m_offer_96 F v1 v2 v3 q3.1 (1 : Int32) q4.2)) else ((f_m_isUp F v3 q3.2).bind fun q5 => (if q5.1 = 0 then f_m_offer_95 F v1 v2 v3 q3.1 q5.2 else ((f_m_coinOf F v3 q5.2).bind fun q6 => ((f_m_hs F v3 (4 : Int32) q6.2).bind fun q7 => (if (q6.1 - q3.1) < q7.1 then f_m_offer_95 F v1 v2 v3 q3.1 q7.2 else f_m_offer_96 F v1 v2 v3 q3.1 (1 : Int32) q7.2)))))))
theorem ok_m_offer_39 (X : mX) (d F : Nat) : ∀ (v1 : Int32) (v2 : Int32) (v3 : Int32) (s1 : Int32) (s2 : Int32) (w4 : Option Value) (w5 : Option Value) (w6 : Option Value) (m : mM) (r : Int32) (m' : mM), f_m_offer_39 F v1 v2 v3 s1 s2 m = some (r, m') → m_R X (d + 72) 276 39 [some (.ref 304), some (.int v1), some (.int v2), some (.int v3), w4, w5, w6] [.int s2, .int s1, .ref 304] (SH, m) (some (.int r), (SH, m')) := by
  intro v1 v2 v3 s1 s2 w4 w5 w6 m r m' h
  unfold f_m_offer_39 at h
  obtain ⟨q3, hc3, h⟩ := Option.bind_eq_some_iff.mp h
  refine m_R_cV (v := (some (.int q3.1))) (h1 := (SH, q3.2)) (rest := []) (lo' := [some (.ref 304), some (.int s1), some (.int s2)]) (ml := 3) (k0 := 304) (by decide) (Or.inl rfl) (m_opb_of (ins := .invokevirtual 180) (len := 3) (tag := 5) (a := 277) (b := 2) (c := 0) (q := 1926) (by decide +kernel)) (by decide +kernel) rfl (show m_isO 277 304 (SH, _) = true from m_isO_of (by decide +kernel)) (Nat.le_of_ble_eq_true rfl) rfl rfl (ok_m_priceOf X (d + 70) F _ _ _ _ _ hc3) ?_
  refine m_R_sg (by decide) [(.istore 4, 2, 0, 4, 0, 0, 0), (.iload_n 3, 1, 0, 3, 0, 0, 0)] (by decide +kernel) (show m_sgl X _ _ _ _ _ = some (45, [some (.ref 304), some (.int v1), some (.int v2), some (.int v3), some (.int q3.1), w5, w6], [.int v3], (SH, q3.2.1, q3.2.2)) from rfl) ?_
  rcases m_ite h with ⟨c749, h⟩ | ⟨c749, h⟩
  · refine m_R_1 (by decide) (m_opb_of (ins := .ifCond .ne 21) (len := 3) (tag := 0) (a := 66) (b := 0) (c := 0) (q := 0) (by decide +kernel)) (if_pos c749) ?_
    refine m_R_sg (by decide) [(.aload_n 0, 1, 0, 0, 0, 0, 0), (.iconst 2, 1, 0, 2, 0, 0, 0), (.iload_n 1, 1, 0, 1, 0, 0, 0), (.iconst 1, 1, 0, 1, 0, 0, 0)] (by decide +kernel) (show m_sgl X _ _ _ _ _ = some (52, [some (.ref 304), some (.int v1), some (.int v2), some (.int v3), some (.int q3.1), w5, w6], [.int (1 : Int32), .int v1, .int (2 : Int32), .ref 304], (SH, q3.2.1, q3.2.2)) from rfl) ?_
    obtain ⟨q4, hc4, h⟩ := Option.bind_eq_some_iff.mp h
    refine m_R_cV (v := (some (.int q4.1))) (h1 := (SH, q4.2)) (rest := []) (lo' := [some (.ref 304), some (.int (2 : Int32)), some (.int v1), some (.int (1 : Int32))]) (ml := 4) (k0 := 304) (by decide) (Or.inl rfl) (m_opb_of (ins := .invokevirtual 120) (len := 3) (tag := 5) (a := 226) (b := 3) (c := 0) (q := 1689) (by decide +kernel)) (by decide +kernel) rfl (show m_isO 226 304 (SH, _) = true from m_isO_of (by decide +kernel)) (Nat.le_of_ble_eq_true rfl) rfl rfl (ok_m_ruled X (d + 3) F _ _ _ _ _ _ hc4) ?_
    rcases m_ite h with ⟨c750, h⟩ | ⟨c750, h⟩
    · refine m_R_1 (by decide) (m_opb_of (ins := .ifCond .eq 7) (len := 3) (tag := 0) (a := 62) (b := 0) (c := 0) (q := 0) (by decide +kernel)) (if_pos c750) ?_
      refine m_R_sg (by decide) [(.iconst 0, 1, 0, 0, 0, 0, 0), (.goto 33, 3, 0, 96, 0, 0, 0)] (by decide +kernel) (show m_sgl X _ _ _ _ _ = some (96, [some (.ref 304), some (.int v1), some (.int v2), some (.int v3), some (.int q3.1), w5, w6], [.int (0 : Int32)], (SH, q4.2.1, q4.2.2)) from rfl) ?_
      exact ok_m_offer_96 X d F _ _ _ _ _ _ _ _ _ _ h
    · refine m_R_1 (by decide) (m_opb_of (ins := .ifCond .eq 7) (len := 3) (tag := 0) (a := 62) (b := 0) (c := 0) (q := 0) (by decide +kernel)) (if_neg c750) ?_
      refine m_R_sg (by decide) [(.iconst 1, 1, 0, 1, 0, 0, 0), (.goto 37, 3, 0, 96, 0, 0, 0)] (by decide +kernel) (show m_sgl X _ _ _ _ _ = some (96, [some (.ref 304), some (.int v1), some (.int v2), some (.int v3), some (.int q3.1), w5, w6], [.int (1 : Int32)], (SH, q4.2.1, q4.2.2)) from rfl) ?_
      exact ok_m_offer_96 X d F _ _ _ _ _ _ _ _ _ _ h
  · refine m_R_1 (by decide) (m_opb_of (ins := .ifCond .ne 21) (len := 3) (tag := 0) (a := 66) (b := 0) (c := 0) (q := 0) (by decide +kernel)) (if_neg c749) ?_
    refine m_R_sg (by decide) [(.aload_n 0, 1, 0, 0, 0, 0, 0), (.iload_n 3, 1, 0, 3, 0, 0, 0)] (by decide +kernel) (show m_sgl X _ _ _ _ _ = some (68, [some (.ref 304), some (.int v1), some (.int v2), some (.int v3), some (.int q3.1), w5, w6], [.int v3, .ref 304], (SH, q3.2.1, q3.2.2)) from rfl) ?_
    obtain ⟨q5, hc5, h⟩ := Option.bind_eq_some_iff.mp h
    refine m_R_cV (v := (some (.int q5.1))) (h1 := (SH, q5.2)) (rest := []) (lo' := [some (.ref 304), some (.int v3)]) (ml := 2) (k0 := 304) (by decide) (Or.inl rfl) (m_opb_of (ins := .invokevirtual 80) (len := 3) (tag := 5) (a := 211) (b := 1) (c := 0) (q := 1629) (by decide +kernel)) (by decide +kernel) rfl (show m_isO 211 304 (SH, _) = true from m_isO_of (by decide +kernel)) (Nat.le_of_ble_eq_true rfl) rfl rfl (ok_m_isUp X (d + 70) F _ _ _ _ hc5) ?_
    rcases m_ite h with ⟨c751, h⟩ | ⟨c751, h⟩
    · refine m_R_1 (by decide) (m_opb_of (ins := .ifCond .eq 24) (len := 3) (tag := 0) (a := 95) (b := 0) (c := 0) (q := 0) (by decide +kernel)) (if_pos c751) ?_
      exact ok_m_offer_95 X d F _ _ _ _ _ _ _ _ _ h
    · refine m_R_1 (by decide) (m_opb_of (ins := .ifCond .eq 24) (len := 3) (tag := 0) (a := 95) (b := 0) (c := 0) (q := 0) (by decide +kernel)) (if_neg c751) ?_
      refine m_R_sg (by decide) [(.aload_n 0, 1, 0, 0, 0, 0, 0), (.iload_n 3, 1, 0, 3, 0, 0, 0)] (by decide +kernel) (show m_sgl X _ _ _ _ _ = some (76, [some (.ref 304), some (.int v1), some (.int v2), some (.int v3), some (.int q3.1), w5, w6], [.int v3, .ref 304], (SH, q5.2.1, q5.2.2)) from rfl) ?_
      obtain ⟨q6, hc6, h⟩ := Option.bind_eq_some_iff.mp h
      refine m_R_cV (v := (some (.int q6.1))) (h1 := (SH, q6.2)) (rest := []) (lo' := [some (.ref 304), some (.int v3)]) (ml := 2) (k0 := 304) (by decide) (Or.inl rfl) (m_opb_of (ins := .invokevirtual 86) (len := 3) (tag := 5) (a := 217) (b := 1) (c := 0) (q := 1653) (by decide +kernel)) (by decide +kernel) rfl (show m_isO 217 304 (SH, _) = true from m_isO_of (by decide +kernel)) (Nat.le_of_ble_eq_true rfl) rfl rfl (ok_m_coinOf X (d + 70) F _ _ _ _ hc6) ?_
      refine m_R_sg (by decide) [(.iload 4, 2, 0, 4, 0, 0, 0), (.isub, 1, 0, 0, 0, 0, 0), (.aload_n 0, 1, 0, 0, 0, 0, 0), (.iload_n 3, 1, 0, 3, 0, 0, 0), (.iconst 4, 1, 0, 4, 0, 0, 0)] (by decide +kernel) (show m_sgl X _ _ _ _ _ = some (85, [some (.ref 304), some (.int v1), some (.int v2), some (.int v3), some (.int q3.1), w5, w6], [.int (4 : Int32), .int v3, .ref 304, .int (q6.1 - q3.1)], (SH, q6.2.1, q6.2.2)) from rfl) ?_
      obtain ⟨q7, hc7, h⟩ := Option.bind_eq_some_iff.mp h
      refine m_R_cV (v := (some (.int q7.1))) (h1 := (SH, q7.2)) (rest := [.int (q6.1 - q3.1)]) (lo' := [some (.ref 304), some (.int v3), some (.int (4 : Int32))]) (ml := 3) (k0 := 304) (by decide) (Or.inl rfl) (m_opb_of (ins := .invokevirtual 65) (len := 3) (tag := 5) (a := 212) (b := 2) (c := 0) (q := 1633) (by decide +kernel)) (by decide +kernel) rfl (show m_isO 212 304 (SH, _) = true from m_isO_of (by decide +kernel)) (Nat.le_of_ble_eq_true rfl) rfl rfl (ok_m_hs X (d + 71) F _ _ _ _ _ hc7) ?_
      rcases m_ite h with ⟨c752, h⟩ | ⟨c752, h⟩
      · refine m_R_1 (by decide) (m_opb_of (ins := .if_icmp .lt 7) (len := 3) (tag := 0) (a := 95) (b := 0) (c := 0) (q := 0) (by decide +kernel)) (if_pos c752) ?_
        exact ok_m_offer_95 X d F _ _ _ _ _ _ _ _ _ h
      · refine m_R_1 (by decide) (m_opb_of (ins := .if_icmp .lt 7) (len := 3) (tag := 0) (a := 95) (b := 0) (c := 0) (q := 0) (by decide +kernel)) (if_neg c752) ?_
        refine m_R_sg (by decide) [(.iconst 1, 1, 0, 1, 0, 0, 0), (.goto 4, 3, 0, 96, 0, 0, 0)] (by decide +kernel) (show m_sgl X _ _ _ _ _ = some (96, [some (.ref 304), some (.int v1), some (.int v2), some (.int v3), some (.int q3.1), w5, w6], [.int (1 : Int32)], (SH, q7.2.1, q7.2.2)) from rfl) ?_
        exact ok_m_offer_96 X d F _ _ _ _ _ _ _ _ _ _ h
def f_m_offer (F : Nat)   (v1 : Int32) (m : mM) : Option (Int32 × mM) := ((f_m_paper F v1 (4 : Int32) m).bind fun q1 => ((f_m_hs F q1.1 (5 : Int32) q1.2).bind fun q2 => (if q2.1 = 0 then f_m_offer_39 F v1 q1.1 q2.1 v1 (q2.2.1 305 (10 : Int32).toNatClampNeg) q2.2 else f_m_offer_39 F v1 q1.1 q2.1 v1 ((q2.2.1 305 (10 : Int32).toNatClampNeg) + (1 : Int32)) q2.2)))
theorem ok_m_offer (X : mX) (d F : Nat) : ∀ (v1 : Int32)  (m : mM) (r : Int32) (m' : mM), f_m_offer F v1 m = some (r, m') → m_R X (d + 72) 276 0 [some (.ref 304), some (.int v1), none, none, none, none, none] [] (SH, m) (some (.int r), (SH, m')) := by
  intro v1 m r m' h
  unfold f_m_offer at h
  refine m_R_sg (by decide) [(.aload_n 0, 1, 0, 0, 0, 0, 0), (.iload_n 1, 1, 0, 1, 0, 0, 0), (.iconst 4, 1, 0, 4, 0, 0, 0)] (by decide +kernel) (show m_sgl X _ _ _ _ _ = some (3, [some (.ref 304), some (.int v1), none, none, none, none, none], [.int (4 : Int32), .int v1, .ref 304], (SH, m.1, m.2)) from rfl) ?_
  obtain ⟨q1, hc1, h⟩ := Option.bind_eq_some_iff.mp h
  refine m_R_cV (v := (some (.int q1.1))) (h1 := (SH, q1.2)) (rest := []) (lo' := [some (.ref 304), some (.int v1), some (.int (4 : Int32))]) (ml := 3) (k0 := 304) (by decide) (Or.inl rfl) (m_opb_of (ins := .invokevirtual 160) (len := 3) (tag := 5) (a := 246) (b := 2) (c := 0) (q := 1791) (by decide +kernel)) (by decide +kernel) rfl (show m_isO 246 304 (SH, _) = true from m_isO_of (by decide +kernel)) (Nat.le_of_ble_eq_true rfl) rfl rfl (ok_m_paper X (d + 71) F _ _ _ _ _ hc1) ?_
  refine m_R_sg (by decide) [(.istore_n 2, 1, 0, 2, 0, 0, 0), (.aload_n 0, 1, 0, 0, 0, 0, 0), (.iload_n 2, 1, 0, 2, 0, 0, 0), (.iconst 5, 1, 0, 5, 0, 0, 0)] (by decide +kernel) (show m_sgl X _ _ _ _ _ = some (10, [some (.ref 304), some (.int v1), some (.int q1.1), none, none, none, none], [.int (5 : Int32), .int q1.1, .ref 304], (SH, q1.2.1, q1.2.2)) from rfl) ?_
  obtain ⟨q2, hc2, h⟩ := Option.bind_eq_some_iff.mp h
  refine m_R_cV (v := (some (.int q2.1))) (h1 := (SH, q2.2)) (rest := []) (lo' := [some (.ref 304), some (.int q1.1), some (.int (5 : Int32))]) (ml := 3) (k0 := 304) (by decide) (Or.inl rfl) (m_opb_of (ins := .invokevirtual 65) (len := 3) (tag := 5) (a := 212) (b := 2) (c := 0) (q := 1633) (by decide +kernel)) (by decide +kernel) rfl (show m_isO 212 304 (SH, _) = true from m_isO_of (by decide +kernel)) (Nat.le_of_ble_eq_true rfl) rfl rfl (ok_m_hs X (d + 71) F _ _ _ _ _ hc2) ?_
  refine m_R_sg (by decide) [(.istore_n 3, 1, 0, 3, 0, 0, 0), (.aload_n 0, 1, 0, 0, 0, 0, 0), (.iload_n 1, 1, 0, 1, 0, 0, 0), (.iload_n 3, 1, 0, 3, 0, 0, 0)] (by decide +kernel) (show m_sgl X _ _ _ _ _ = some (17, [some (.ref 304), some (.int v1), some (.int q1.1), some (.int q2.1), none, none, none], [.int q2.1, .int v1, .ref 304], (SH, q2.2.1, q2.2.2)) from rfl) ?_
  rcases m_ite h with ⟨c753, h⟩ | ⟨c753, h⟩
  · refine m_R_1 (by decide) (m_opb_of (ins := .ifCond .ne 13) (len := 3) (tag := 0) (a := 30) (b := 0) (c := 0) (q := 0) (by decide +kernel)) (if_pos c753) ?_
    refine m_R_sg (by decide) [(.aload_n 0, 1, 0, 0, 0, 0, 0), (.getfield 13, 3, 0, 12, 1, 3, 1493), (.bipush 10, 2, 0, 10, 0, 0, 0)] (by decide +kernel) (show m_sgl X _ _ _ _ _ = some (26, [some (.ref 304), some (.int v1), some (.int q1.1), some (.int q2.1), none, none, none], [.int (10 : Int32), .ref 305, .int v1, .ref 304], (SH, q2.2.1, q2.2.2)) from rfl) ?_
    refine m_R_1 (by decide) (m_opb_of (ins := .iaload) (len := 1) (tag := 0) (a := 0) (b := 0) (c := 0) (q := 0) (by decide +kernel)) (m_s_iald sh_305 (by decide) (show ¬ ((10 : Int32) < 0 ∨ 9732 ≤ (10 : Int32).toNatClampNeg) by decide)) ?_
    refine m_R_sg (by decide) [(.goto 12, 3, 0, 39, 0, 0, 0)] (by decide +kernel) (show m_sgl X _ _ _ _ _ = some (39, [some (.ref 304), some (.int v1), some (.int q1.1), some (.int q2.1), none, none, none], [.int (q2.2.1 305 (10 : Int32).toNatClampNeg), .int v1, .ref 304], (SH, q2.2.1, q2.2.2)) from rfl) ?_
    exact ok_m_offer_39 X d F _ _ _ _ _ _ _ _ _ _ _ h
  · refine m_R_1 (by decide) (m_opb_of (ins := .ifCond .ne 13) (len := 3) (tag := 0) (a := 30) (b := 0) (c := 0) (q := 0) (by decide +kernel)) (if_neg c753) ?_
    refine m_R_sg (by decide) [(.aload_n 0, 1, 0, 0, 0, 0, 0), (.getfield 13, 3, 0, 12, 1, 3, 1493), (.bipush 10, 2, 0, 10, 0, 0, 0)] (by decide +kernel) (show m_sgl X _ _ _ _ _ = some (36, [some (.ref 304), some (.int v1), some (.int q1.1), some (.int q2.1), none, none, none], [.int (10 : Int32), .ref 305, .int v1, .ref 304], (SH, q2.2.1, q2.2.2)) from rfl) ?_
    refine m_R_1 (by decide) (m_opb_of (ins := .iaload) (len := 1) (tag := 0) (a := 0) (b := 0) (c := 0) (q := 0) (by decide +kernel)) (m_s_iald sh_305 (by decide) (show ¬ ((10 : Int32) < 0 ∨ 9732 ≤ (10 : Int32).toNatClampNeg) by decide)) ?_
    refine m_R_sg (by decide) [(.iconst 1, 1, 0, 1, 0, 0, 0), (.iadd, 1, 0, 0, 0, 0, 0)] (by decide +kernel) (show m_sgl X _ _ _ _ _ = some (39, [some (.ref 304), some (.int v1), some (.int q1.1), some (.int q2.1), none, none, none], [.int ((q2.2.1 305 (10 : Int32).toNatClampNeg) + (1 : Int32)), .int v1, .ref 304], (SH, q2.2.1, q2.2.2)) from rfl) ?_
    exact ok_m_offer_39 X d F _ _ _ _ _ _ _ _ _ _ _ h
def f_m_sell_34 (F : Nat)    (m : mM) : Option (Int32 × mM) := ((f_m_refuse F (-5 : Int32) m).bind fun q9 => some (q9.1, q9.2))
theorem ok_m_sell_34 (X : mX) (d F : Nat) : ∀  (w1 : Option Value) (m : mM) (r : Int32) (m' : mM), f_m_sell_34 F  m = some (r, m') → m_R X (d + 73) 274 34 [some (.ref 304), w1] [] (SH, m) (some (.int r), (SH, m')) := by
  intro w1 m r m' h
  unfold f_m_sell_34 at h
  refine m_R_sg (by decide) [(.aload_n 0, 1, 0, 0, 0, 0, 0), (.bipush (-5), 2, 0, 5, 1, 0, 0)] (by decide +kernel) (show m_sgl X _ _ _ _ _ = some (37, [some (.ref 304), w1], [.int (-5 : Int32), .ref 304], (SH, m.1, m.2)) from rfl) ?_
  obtain ⟨q9, hc9, h⟩ := Option.bind_eq_some_iff.mp h
  refine m_R_cV (v := (some (.int q9.1))) (h1 := (SH, q9.2)) (rest := []) (lo' := [some (.ref 304), some (.int (-5 : Int32))]) (ml := 2) (k0 := 304) (by decide) (Or.inl rfl) (m_opb_of (ins := .invokevirtual 61) (len := 3) (tag := 5) (a := 202) (b := 1) (c := 0) (q := 1593) (by decide +kernel)) (by decide +kernel) rfl (show m_isO 202 304 (SH, _) = true from m_isO_of (by decide +kernel)) (Nat.le_of_ble_eq_true rfl) rfl rfl (ok_m_refuse X (d + 72) F _ _ _ _ hc9) ?_
  obtain ⟨rfl, rfl⟩ := m_some h
  exact m_R_iret (by decide) (m_opb_of (ins := .ireturn) (len := 1) (tag := 1) (a := 0) (b := 0) (c := 0) (q := 0) (by decide +kernel)) (Or.inl rfl)
def f_m_sell_62 (F : Nat)    (m : mM) : Option (Int32 × mM) := ((f_m_refuse F (-7 : Int32) m).bind fun q10 => some (q10.1, q10.2))
theorem ok_m_sell_62 (X : mX) (d F : Nat) : ∀  (w1 : Option Value) (m : mM) (r : Int32) (m' : mM), f_m_sell_62 F  m = some (r, m') → m_R X (d + 73) 274 62 [some (.ref 304), w1] [] (SH, m) (some (.int r), (SH, m')) := by
  intro w1 m r m' h
  unfold f_m_sell_62 at h
  refine m_R_sg (by decide) [(.aload_n 0, 1, 0, 0, 0, 0, 0), (.bipush (-7), 2, 0, 7, 1, 0, 0)] (by decide +kernel) (show m_sgl X _ _ _ _ _ = some (65, [some (.ref 304), w1], [.int (-7 : Int32), .ref 304], (SH, m.1, m.2)) from rfl) ?_
  obtain ⟨q10, hc10, h⟩ := Option.bind_eq_some_iff.mp h
  refine m_R_cV (v := (some (.int q10.1))) (h1 := (SH, q10.2)) (rest := []) (lo' := [some (.ref 304), some (.int (-7 : Int32))]) (ml := 2) (k0 := 304) (by decide) (Or.inl rfl) (m_opb_of (ins := .invokevirtual 61) (len := 3) (tag := 5) (a := 202) (b := 1) (c := 0) (q := 1593) (by decide +kernel)) (by decide +kernel) rfl (show m_isO 202 304 (SH, _) = true from m_isO_of (by decide +kernel)) (Nat.le_of_ble_eq_true rfl) rfl rfl (ok_m_refuse X (d + 72) F _ _ _ _ hc10) ?_
  obtain ⟨rfl, rfl⟩ := m_some h
  exact m_R_iret (by decide) (m_opb_of (ins := .ireturn) (len := 1) (tag := 1) (a := 0) (b := 0) (c := 0) (q := 0) (by decide +kernel)) (Or.inl rfl)
def f_m_sell (F : Nat)   (v1 : Int32) (m : mM) : Option (Int32 × mM) := ((f_m_isPaper F v1 m).bind fun q1 => (if q1.1 = 0 then ((f_m_refuse F (-3 : Int32) q1.2).bind fun q2 => some (q2.1, q2.2)) else ((f_m_paper F v1 (1 : Int32) q1.2).bind fun q3 => (if q3.1 = (1 : Int32) then ((f_m_paper F v1 (4 : Int32) q3.2).bind fun q4 => (if q4.1 = 0 then f_m_sell_34 F q4.2 else ((f_m_paper F v1 (4 : Int32) q4.2).bind fun q5 => ((f_m_isUp F q5.1 q5.2).bind fun q6 => (if q6.1 = 0 then f_m_sell_62 F q6.2 else ((f_m_maySell F v1 q6.2).bind fun q7 => (if q7.1 = 0 then f_m_sell_62 F q7.2 else ((f_m_offer F v1 q7.2).bind fun q8 => some (q8.1, q8.2))))))))) else f_m_sell_34 F q3.2))))
theorem ok_m_sell (X : mX) (d F : Nat) : ∀ (v1 : Int32)  (m : mM) (r : Int32) (m' : mM), f_m_sell F v1 m = some (r, m') → m_R X (d + 73) 274 0 [some (.ref 304), some (.int v1)] [] (SH, m) (some (.int r), (SH, m')) := by
  intro v1 m r m' h
  unfold f_m_sell at h
  refine m_R_sg (by decide) [(.aload_n 0, 1, 0, 0, 0, 0, 0), (.iload_n 1, 1, 0, 1, 0, 0, 0)] (by decide +kernel) (show m_sgl X _ _ _ _ _ = some (2, [some (.ref 304), some (.int v1)], [.int v1, .ref 304], (SH, m.1, m.2)) from rfl) ?_
  obtain ⟨q1, hc1, h⟩ := Option.bind_eq_some_iff.mp h
  refine m_R_cV (v := (some (.int q1.1))) (h1 := (SH, q1.2)) (rest := []) (lo' := [some (.ref 304), some (.int v1)]) (ml := 2) (k0 := 304) (by decide) (Or.inl rfl) (m_opb_of (ins := .invokevirtual 173) (len := 3) (tag := 5) (a := 272) (b := 1) (c := 0) (q := 1905) (by decide +kernel)) (by decide +kernel) rfl (show m_isO 272 304 (SH, _) = true from m_isO_of (by decide +kernel)) (Nat.le_of_ble_eq_true rfl) rfl rfl (ok_m_isPaper X (d + 71) F _ _ _ _ hc1) ?_
  rcases m_ite h with ⟨c754, h⟩ | ⟨c754, h⟩
  · refine m_R_1 (by decide) (m_opb_of (ins := .ifCond .ne 10) (len := 3) (tag := 0) (a := 15) (b := 0) (c := 0) (q := 0) (by decide +kernel)) (if_pos c754) ?_
    refine m_R_sg (by decide) [(.aload_n 0, 1, 0, 0, 0, 0, 0), (.bipush (-3), 2, 0, 3, 1, 0, 0)] (by decide +kernel) (show m_sgl X _ _ _ _ _ = some (11, [some (.ref 304), some (.int v1)], [.int (-3 : Int32), .ref 304], (SH, q1.2.1, q1.2.2)) from rfl) ?_
    obtain ⟨q2, hc2, h⟩ := Option.bind_eq_some_iff.mp h
    refine m_R_cV (v := (some (.int q2.1))) (h1 := (SH, q2.2)) (rest := []) (lo' := [some (.ref 304), some (.int (-3 : Int32))]) (ml := 2) (k0 := 304) (by decide) (Or.inl rfl) (m_opb_of (ins := .invokevirtual 61) (len := 3) (tag := 5) (a := 202) (b := 1) (c := 0) (q := 1593) (by decide +kernel)) (by decide +kernel) rfl (show m_isO 202 304 (SH, _) = true from m_isO_of (by decide +kernel)) (Nat.le_of_ble_eq_true rfl) rfl rfl (ok_m_refuse X (d + 72) F _ _ _ _ hc2) ?_
    obtain ⟨rfl, rfl⟩ := m_some h
    exact m_R_iret (by decide) (m_opb_of (ins := .ireturn) (len := 1) (tag := 1) (a := 0) (b := 0) (c := 0) (q := 0) (by decide +kernel)) (Or.inl rfl)
  · refine m_R_1 (by decide) (m_opb_of (ins := .ifCond .ne 10) (len := 3) (tag := 0) (a := 15) (b := 0) (c := 0) (q := 0) (by decide +kernel)) (if_neg c754) ?_
    refine m_R_sg (by decide) [(.aload_n 0, 1, 0, 0, 0, 0, 0), (.iload_n 1, 1, 0, 1, 0, 0, 0), (.iconst 1, 1, 0, 1, 0, 0, 0)] (by decide +kernel) (show m_sgl X _ _ _ _ _ = some (18, [some (.ref 304), some (.int v1)], [.int (1 : Int32), .int v1, .ref 304], (SH, q1.2.1, q1.2.2)) from rfl) ?_
    obtain ⟨q3, hc3, h⟩ := Option.bind_eq_some_iff.mp h
    refine m_R_cV (v := (some (.int q3.1))) (h1 := (SH, q3.2)) (rest := []) (lo' := [some (.ref 304), some (.int v1), some (.int (1 : Int32))]) (ml := 3) (k0 := 304) (by decide) (Or.inl rfl) (m_opb_of (ins := .invokevirtual 160) (len := 3) (tag := 5) (a := 246) (b := 2) (c := 0) (q := 1791) (by decide +kernel)) (by decide +kernel) rfl (show m_isO 246 304 (SH, _) = true from m_isO_of (by decide +kernel)) (Nat.le_of_ble_eq_true rfl) rfl rfl (ok_m_paper X (d + 72) F _ _ _ _ _ hc3) ?_
    refine m_R_sg (by decide) [(.iconst 1, 1, 0, 1, 0, 0, 0)] (by decide +kernel) (show m_sgl X _ _ _ _ _ = some (22, [some (.ref 304), some (.int v1)], [.int (1 : Int32), .int q3.1], (SH, q3.2.1, q3.2.2)) from rfl) ?_
    rcases m_ite h with ⟨c755, h⟩ | ⟨c755, h⟩
    · refine m_R_1 (by decide) (m_opb_of (ins := .if_icmp .ne 12) (len := 3) (tag := 0) (a := 34) (b := 0) (c := 0) (q := 0) (by decide +kernel)) (if_pos c755) ?_
      refine m_R_sg (by decide) [(.aload_n 0, 1, 0, 0, 0, 0, 0), (.iload_n 1, 1, 0, 1, 0, 0, 0), (.iconst 4, 1, 0, 4, 0, 0, 0)] (by decide +kernel) (show m_sgl X _ _ _ _ _ = some (28, [some (.ref 304), some (.int v1)], [.int (4 : Int32), .int v1, .ref 304], (SH, q3.2.1, q3.2.2)) from rfl) ?_
      obtain ⟨q4, hc4, h⟩ := Option.bind_eq_some_iff.mp h
      refine m_R_cV (v := (some (.int q4.1))) (h1 := (SH, q4.2)) (rest := []) (lo' := [some (.ref 304), some (.int v1), some (.int (4 : Int32))]) (ml := 3) (k0 := 304) (by decide) (Or.inl rfl) (m_opb_of (ins := .invokevirtual 160) (len := 3) (tag := 5) (a := 246) (b := 2) (c := 0) (q := 1791) (by decide +kernel)) (by decide +kernel) rfl (show m_isO 246 304 (SH, _) = true from m_isO_of (by decide +kernel)) (Nat.le_of_ble_eq_true rfl) rfl rfl (ok_m_paper X (d + 72) F _ _ _ _ _ hc4) ?_
      rcases m_ite h with ⟨c756, h⟩ | ⟨c756, h⟩
      · refine m_R_1 (by decide) (m_opb_of (ins := .ifCond .ne 10) (len := 3) (tag := 0) (a := 41) (b := 0) (c := 0) (q := 0) (by decide +kernel)) (if_pos c756) ?_
        exact ok_m_sell_34 X d F _ _ _ _ h
      · refine m_R_1 (by decide) (m_opb_of (ins := .ifCond .ne 10) (len := 3) (tag := 0) (a := 41) (b := 0) (c := 0) (q := 0) (by decide +kernel)) (if_neg c756) ?_
        refine m_R_sg (by decide) [(.aload_n 0, 1, 0, 0, 0, 0, 0), (.aload_n 0, 1, 0, 0, 0, 0, 0), (.iload_n 1, 1, 0, 1, 0, 0, 0), (.iconst 4, 1, 0, 4, 0, 0, 0)] (by decide +kernel) (show m_sgl X _ _ _ _ _ = some (45, [some (.ref 304), some (.int v1)], [.int (4 : Int32), .int v1, .ref 304, .ref 304], (SH, q4.2.1, q4.2.2)) from rfl) ?_
        obtain ⟨q5, hc5, h⟩ := Option.bind_eq_some_iff.mp h
        refine m_R_cV (v := (some (.int q5.1))) (h1 := (SH, q5.2)) (rest := [.ref 304]) (lo' := [some (.ref 304), some (.int v1), some (.int (4 : Int32))]) (ml := 3) (k0 := 304) (by decide) (Or.inl rfl) (m_opb_of (ins := .invokevirtual 160) (len := 3) (tag := 5) (a := 246) (b := 2) (c := 0) (q := 1791) (by decide +kernel)) (by decide +kernel) rfl (show m_isO 246 304 (SH, _) = true from m_isO_of (by decide +kernel)) (Nat.le_of_ble_eq_true rfl) rfl rfl (ok_m_paper X (d + 72) F _ _ _ _ _ hc5) ?_
        obtain ⟨q6, hc6, h⟩ := Option.bind_eq_some_iff.mp h
        refine m_R_cV (v := (some (.int q6.1))) (h1 := (SH, q6.2)) (rest := []) (lo' := [some (.ref 304), some (.int q5.1)]) (ml := 2) (k0 := 304) (by decide) (Or.inl rfl) (m_opb_of (ins := .invokevirtual 80) (len := 3) (tag := 5) (a := 211) (b := 1) (c := 0) (q := 1629) (by decide +kernel)) (by decide +kernel) rfl (show m_isO 211 304 (SH, _) = true from m_isO_of (by decide +kernel)) (Nat.le_of_ble_eq_true rfl) rfl rfl (ok_m_isUp X (d + 71) F _ _ _ _ hc6) ?_
        rcases m_ite h with ⟨c757, h⟩ | ⟨c757, h⟩
        · refine m_R_1 (by decide) (m_opb_of (ins := .ifCond .eq 11) (len := 3) (tag := 0) (a := 62) (b := 0) (c := 0) (q := 0) (by decide +kernel)) (if_pos c757) ?_
          exact ok_m_sell_62 X d F _ _ _ _ h
        · refine m_R_1 (by decide) (m_opb_of (ins := .ifCond .eq 11) (len := 3) (tag := 0) (a := 62) (b := 0) (c := 0) (q := 0) (by decide +kernel)) (if_neg c757) ?_
          refine m_R_sg (by decide) [(.aload_n 0, 1, 0, 0, 0, 0, 0), (.iload_n 1, 1, 0, 1, 0, 0, 0)] (by decide +kernel) (show m_sgl X _ _ _ _ _ = some (56, [some (.ref 304), some (.int v1)], [.int v1, .ref 304], (SH, q6.2.1, q6.2.2)) from rfl) ?_
          obtain ⟨q7, hc7, h⟩ := Option.bind_eq_some_iff.mp h
          refine m_R_cV (v := (some (.int q7.1))) (h1 := (SH, q7.2)) (rest := []) (lo' := [some (.ref 304), some (.int v1)]) (ml := 2) (k0 := 304) (by decide) (Or.inl rfl) (m_opb_of (ins := .invokevirtual 183) (len := 3) (tag := 5) (a := 275) (b := 1) (c := 0) (q := 1918) (by decide +kernel)) (by decide +kernel) rfl (show m_isO 275 304 (SH, _) = true from m_isO_of (by decide +kernel)) (Nat.le_of_ble_eq_true rfl) rfl rfl (ok_m_maySell X (d + 71) F _ _ _ _ hc7) ?_
          rcases m_ite h with ⟨c758, h⟩ | ⟨c758, h⟩
          · refine m_R_1 (by decide) (m_opb_of (ins := .ifCond .ne 10) (len := 3) (tag := 0) (a := 69) (b := 0) (c := 0) (q := 0) (by decide +kernel)) (if_pos c758) ?_
            exact ok_m_sell_62 X d F _ _ _ _ h
          · refine m_R_1 (by decide) (m_opb_of (ins := .ifCond .ne 10) (len := 3) (tag := 0) (a := 69) (b := 0) (c := 0) (q := 0) (by decide +kernel)) (if_neg c758) ?_
            refine m_R_sg (by decide) [(.aload_n 0, 1, 0, 0, 0, 0, 0), (.iload_n 1, 1, 0, 1, 0, 0, 0)] (by decide +kernel) (show m_sgl X _ _ _ _ _ = some (71, [some (.ref 304), some (.int v1)], [.int v1, .ref 304], (SH, q7.2.1, q7.2.2)) from rfl) ?_
            obtain ⟨q8, hc8, h⟩ := Option.bind_eq_some_iff.mp h
            refine m_R_cV (v := (some (.int q8.1))) (h1 := (SH, q8.2)) (rest := []) (lo' := [some (.ref 304), some (.int v1), none, none, none, none, none]) (ml := 7) (k0 := 304) (by decide) (Or.inl rfl) (m_opb_of (ins := .invokevirtual 186) (len := 3) (tag := 5) (a := 276) (b := 1) (c := 0) (q := 1922) (by decide +kernel)) (by decide +kernel) rfl (show m_isO 276 304 (SH, _) = true from m_isO_of (by decide +kernel)) (Nat.le_of_ble_eq_true rfl) rfl rfl (ok_m_offer X (d + 0) F _ _ _ _ hc8) ?_
            obtain ⟨rfl, rfl⟩ := m_some h
            exact m_R_iret (by decide) (m_opb_of (ins := .ireturn) (len := 1) (tag := 1) (a := 0) (b := 0) (c := 0) (q := 0) (by decide +kernel)) (Or.inl rfl)
    · refine m_R_1 (by decide) (m_opb_of (ins := .if_icmp .ne 12) (len := 3) (tag := 0) (a := 34) (b := 0) (c := 0) (q := 0) (by decide +kernel)) (if_neg c755) ?_
      exact ok_m_sell_34 X d F _ _ _ _ h
def f_Houses_fall_40 (F : Nat)    (m : mM) : Option (Unit × mM) := some ((), m)
theorem ok_Houses_fall_40 (X : mX) (d F : Nat) : ∀  (w0 : Option Value) (w1 : Option Value) (w2 : Option Value) (w3 : Option Value) (w4 : Option Value) (w5 : Option Value) (m : mM) (r : Unit) (m' : mM), f_Houses_fall_40 F  m = some (r, m') → m_R X (d + 0) 91 40 [w0, w1, w2, w3, w4, w5] [] (SH, m) (none, (SH, m')) := by
  intro w0 w1 w2 w3 w4 w5 m r m' h
  unfold f_Houses_fall_40 at h
  obtain ⟨rfl, rfl⟩ := m_some h
  exact m_R_vret (by decide) (m_opb_of (ins := .return_) (len := 1) (tag := 3) (a := 0) (b := 0) (c := 0) (q := 0) (by decide +kernel))
def f_Houses_fall (F : Nat)   (v1 : Int32) (v2 : Int32) (v3 : Int32) (v4 : Int32) (v5 : Int32) (m : mM) : Option (Unit × mM) := (if v1 < 0 ∨ 16 ≤ v1.toNatClampNeg then none else f_Houses_fall_40 F ((m_up (m_up (m_up (m_up (m_up m.1 27 v1.toNatClampNeg v2) 28 v1.toNatClampNeg v3) 29 v1.toNatClampNeg v4) 30 v1.toNatClampNeg v5) 19 12 (((m_up (m_up (m_up (m_up m.1 27 v1.toNatClampNeg v2) 28 v1.toNatClampNeg v3) 29 v1.toNatClampNeg v4) 30 v1.toNatClampNeg v5) 19 12) + (1 : Int32))), m.2))
theorem ok_Houses_fall (X : mX) (d F : Nat) : ∀ (v1 : Int32) (v2 : Int32) (v3 : Int32) (v4 : Int32) (v5 : Int32)  (m : mM) (r : Unit) (m' : mM), f_Houses_fall F v1 v2 v3 v4 v5 m = some (r, m') → m_R X (d + 0) 91 0 [some (.ref 19), some (.int v1), some (.int v2), some (.int v3), some (.int v4), some (.int v5)] [] (SH, m) (none, (SH, m')) := by
  intro v1 v2 v3 v4 v5 m r m' h
  unfold f_Houses_fall at h
  refine m_R_sg (by decide) [(.aload_n 0, 1, 0, 0, 0, 0, 0), (.getfield 33, 3, 0, 1, 7, 3, 269), (.iload_n 1, 1, 0, 1, 0, 0, 0), (.iload_n 2, 1, 0, 2, 0, 0, 0)] (by decide +kernel) (show m_sgl X _ _ _ _ _ = some (6, [some (.ref 19), some (.int v1), some (.int v2), some (.int v3), some (.int v4), some (.int v5)], [.int v2, .int v1, .ref 27], (SH, m.1, m.2)) from rfl) ?_
  obtain ⟨c759, h⟩ := m_ite_n h
  refine m_R_1 (by decide) (m_opb_of (ins := .iastore) (len := 1) (tag := 0) (a := 0) (b := 0) (c := 0) (q := 0) (by decide +kernel)) (m_s_iast sh_27 c759) ?_
  refine m_R_sg (by decide) [(.aload_n 0, 1, 0, 0, 0, 0, 0), (.getfield 36, 3, 0, 1, 8, 3, 272), (.iload_n 1, 1, 0, 1, 0, 0, 0), (.iload_n 3, 1, 0, 3, 0, 0, 0)] (by decide +kernel) (show m_sgl X _ _ _ _ _ = some (13, [some (.ref 19), some (.int v1), some (.int v2), some (.int v3), some (.int v4), some (.int v5)], [.int v3, .int v1, .ref 28], (SH, (m_up m.1 27 v1.toNatClampNeg v2), m.2)) from rfl) ?_
  refine m_R_1 (by decide) (m_opb_of (ins := .iastore) (len := 1) (tag := 0) (a := 0) (b := 0) (c := 0) (q := 0) (by decide +kernel)) (m_s_iast sh_28 c759) ?_
  refine m_R_sg (by decide) [(.aload_n 0, 1, 0, 0, 0, 0, 0), (.getfield 39, 3, 0, 1, 9, 3, 274), (.iload_n 1, 1, 0, 1, 0, 0, 0), (.iload 4, 2, 0, 4, 0, 0, 0)] (by decide +kernel) (show m_sgl X _ _ _ _ _ = some (21, [some (.ref 19), some (.int v1), some (.int v2), some (.int v3), some (.int v4), some (.int v5)], [.int v4, .int v1, .ref 29], (SH, (m_up (m_up m.1 27 v1.toNatClampNeg v2) 28 v1.toNatClampNeg v3), m.2)) from rfl) ?_
  refine m_R_1 (by decide) (m_opb_of (ins := .iastore) (len := 1) (tag := 0) (a := 0) (b := 0) (c := 0) (q := 0) (by decide +kernel)) (m_s_iast sh_29 c759) ?_
  refine m_R_sg (by decide) [(.aload_n 0, 1, 0, 0, 0, 0, 0), (.getfield 42, 3, 0, 1, 10, 3, 276), (.iload_n 1, 1, 0, 1, 0, 0, 0), (.iload 5, 2, 0, 5, 0, 0, 0)] (by decide +kernel) (show m_sgl X _ _ _ _ _ = some (29, [some (.ref 19), some (.int v1), some (.int v2), some (.int v3), some (.int v4), some (.int v5)], [.int v5, .int v1, .ref 30], (SH, (m_up (m_up (m_up m.1 27 v1.toNatClampNeg v2) 28 v1.toNatClampNeg v3) 29 v1.toNatClampNeg v4), m.2)) from rfl) ?_
  refine m_R_1 (by decide) (m_opb_of (ins := .iastore) (len := 1) (tag := 0) (a := 0) (b := 0) (c := 0) (q := 0) (by decide +kernel)) (m_s_iast sh_30 c759) ?_
  refine m_R_sg (by decide) [(.aload_n 0, 1, 0, 0, 0, 0, 0), (.dup, 1, 0, 0, 0, 0, 0), (.getfield 53, 3, 0, 1, 12, 0, 281), (.iconst 1, 1, 0, 1, 0, 0, 0), (.iadd, 1, 0, 0, 0, 0, 0), (.putfield 53, 3, 0, 1, 12, 0, 281)] (by decide +kernel) (show m_sgl X _ _ _ _ _ = some (40, [some (.ref 19), some (.int v1), some (.int v2), some (.int v3), some (.int v4), some (.int v5)], [], (SH, (m_up (m_up (m_up (m_up (m_up m.1 27 v1.toNatClampNeg v2) 28 v1.toNatClampNeg v3) 29 v1.toNatClampNeg v4) 30 v1.toNatClampNeg v5) 19 12 (((m_up (m_up (m_up (m_up m.1 27 v1.toNatClampNeg v2) 28 v1.toNatClampNeg v3) 29 v1.toNatClampNeg v4) 30 v1.toNatClampNeg v5) 19 12) + (1 : Int32))), m.2)) from rfl) ?_
  exact ok_Houses_fall_40 X d F _ _ _ _ _ _ _ _ _ h
def f_Papers_giveBack_24 (F : Nat)    (m : mM) : Option (Unit × mM) := some ((), m)
theorem ok_Papers_giveBack_24 (X : mX) (d F : Nat) : ∀  (w0 : Option Value) (w1 : Option Value) (w2 : Option Value) (m : mM) (r : Unit) (m' : mM), f_Papers_giveBack_24 F  m = some (r, m') → m_R X (d + 0) 89 24 [w0, w1, w2] [] (SH, m) (none, (SH, m')) := by
  intro w0 w1 w2 m r m' h
  unfold f_Papers_giveBack_24 at h
  obtain ⟨rfl, rfl⟩ := m_some h
  exact m_R_vret (by decide) (m_opb_of (ins := .return_) (len := 1) (tag := 3) (a := 0) (b := 0) (c := 0) (q := 0) (by decide +kernel))
def f_Papers_giveBack (F : Nat)   (v1 : Int32) (v2 : Int32) (m : mM) : Option (Unit × mM) := (if v1 < 0 then f_Papers_giveBack_24 F m else (if (60 : Int32) ≤ v1 then f_Papers_giveBack_24 F m else (if v1 < 0 ∨ 60 ≤ v1.toNatClampNeg then none else f_Papers_giveBack_24 F ((m_up (m_up m.1 35 v1.toNatClampNeg v2) 40 v1.toNatClampNeg (0 : Int32)), m.2))))
theorem ok_Papers_giveBack (X : mX) (d F : Nat) : ∀ (v1 : Int32) (v2 : Int32)  (m : mM) (r : Unit) (m' : mM), f_Papers_giveBack F v1 v2 m = some (r, m') → m_R X (d + 0) 89 0 [some (.ref 31), some (.int v1), some (.int v2)] [] (SH, m) (none, (SH, m')) := by
  intro v1 v2 m r m' h
  unfold f_Papers_giveBack at h
  refine m_R_sg (by decide) [(.iload_n 1, 1, 0, 1, 0, 0, 0)] (by decide +kernel) (show m_sgl X _ _ _ _ _ = some (1, [some (.ref 31), some (.int v1), some (.int v2)], [.int v1], (SH, m.1, m.2)) from rfl) ?_
  rcases m_ite h with ⟨c760, h⟩ | ⟨c760, h⟩
  · refine m_R_1 (by decide) (m_opb_of (ins := .ifCond .lt 23) (len := 3) (tag := 0) (a := 24) (b := 0) (c := 0) (q := 0) (by decide +kernel)) (if_pos c760) ?_
    exact ok_Papers_giveBack_24 X d F _ _ _ _ _ _ h
  · refine m_R_1 (by decide) (m_opb_of (ins := .ifCond .lt 23) (len := 3) (tag := 0) (a := 24) (b := 0) (c := 0) (q := 0) (by decide +kernel)) (if_neg c760) ?_
    refine m_R_sg (by decide) [(.iload_n 1, 1, 0, 1, 0, 0, 0), (.bipush 60, 2, 0, 60, 0, 0, 0)] (by decide +kernel) (show m_sgl X _ _ _ _ _ = some (7, [some (.ref 31), some (.int v1), some (.int v2)], [.int (60 : Int32), .int v1], (SH, m.1, m.2)) from rfl) ?_
    rcases m_ite h with ⟨c761, h⟩ | ⟨c761, h⟩
    · refine m_R_1 (by decide) (m_opb_of (ins := .if_icmp .ge 17) (len := 3) (tag := 0) (a := 24) (b := 0) (c := 0) (q := 0) (by decide +kernel)) (if_pos c761) ?_
      exact ok_Papers_giveBack_24 X d F _ _ _ _ _ _ h
    · refine m_R_1 (by decide) (m_opb_of (ins := .if_icmp .ge 17) (len := 3) (tag := 0) (a := 24) (b := 0) (c := 0) (q := 0) (by decide +kernel)) (if_neg c761) ?_
      refine m_R_sg (by decide) [(.aload_n 0, 1, 0, 0, 0, 0, 0), (.getfield 21, 3, 0, 4, 3, 3, 329), (.iload_n 1, 1, 0, 1, 0, 0, 0), (.iload_n 2, 1, 0, 2, 0, 0, 0)] (by decide +kernel) (show m_sgl X _ _ _ _ _ = some (16, [some (.ref 31), some (.int v1), some (.int v2)], [.int v2, .int v1, .ref 35], (SH, m.1, m.2)) from rfl) ?_
      obtain ⟨c762, h⟩ := m_ite_n h
      refine m_R_1 (by decide) (m_opb_of (ins := .iastore) (len := 1) (tag := 0) (a := 0) (b := 0) (c := 0) (q := 0) (by decide +kernel)) (m_s_iast sh_35 c762) ?_
      refine m_R_sg (by decide) [(.aload_n 0, 1, 0, 0, 0, 0, 0), (.getfield 36, 3, 0, 4, 8, 3, 345), (.iload_n 1, 1, 0, 1, 0, 0, 0), (.iconst 0, 1, 0, 0, 0, 0, 0)] (by decide +kernel) (show m_sgl X _ _ _ _ _ = some (23, [some (.ref 31), some (.int v1), some (.int v2)], [.int (0 : Int32), .int v1, .ref 40], (SH, (m_up m.1 35 v1.toNatClampNeg v2), m.2)) from rfl) ?_
      refine m_R_1 (by decide) (m_opb_of (ins := .iastore) (len := 1) (tag := 0) (a := 0) (b := 0) (c := 0) (q := 0) (by decide +kernel)) (m_s_iast sh_40 c762) ?_
      exact ok_Papers_giveBack_24 X d F _ _ _ _ _ _ h
def f_Papers_killThoseOf_67 (F : Nat)  (k2 : Int32 → Int32 → mM → Option (Unit × mM)) (v1 : Int32) (v2 : Int32) (m : mM) : Option (Unit × mM) := k2 v1 (v2 + (1 : Int32)) m
theorem ok_Papers_killThoseOf_67 (X : mX) (d F : Nat) (k2 : Int32 → Int32 → mM → Option (Unit × mM)) (hk2 : ∀ (v1 : Int32) (v2 : Int32) (m : mM) (r : Unit) (m' : mM), k2 v1 v2 m = some (r, m') → m_R X (d + 1) 92 2 [some (.ref 31), some (.int v1), some (.int v2)] [] (SH, m) (none, (SH, m'))) : ∀ (v1 : Int32) (v2 : Int32)  (m : mM) (r : Unit) (m' : mM), f_Papers_killThoseOf_67 F k2 v1 v2 m = some (r, m') → m_R X (d + 1) 92 67 [some (.ref 31), some (.int v1), some (.int v2)] [] (SH, m) (none, (SH, m')) := by
  intro v1 v2 m r m' h
  unfold f_Papers_killThoseOf_67 at h
  refine m_R_sg (by decide) [(.iinc 2 1, 3, 0, 2, 1, 0, 0), (.goto (-68), 3, 0, 2, 0, 0, 0)] (by decide +kernel) (show m_sgl X _ _ _ _ _ = some (2, [some (.ref 31), some (.int v1), some (.int (v2 + (1 : Int32)))], [], (SH, m.1, m.2)) from rfl) ?_
  exact hk2 _ _ _ _ _ h
def f_Papers_killThoseOf_2 (F : Nat)   : Nat → Int32 → Int32 → mM → Option (Unit × mM)
  | 0, _, _, _ => none
  | n + 1, v1, v2, m => (if (m.1 31 15) ≤ v2 then some ((), m) else (if v2 < 0 ∨ 60 ≤ v2.toNatClampNeg then none else (if (m.1 37 v2.toNatClampNeg) = 0 then (if (m.1 34 v2.toNatClampNeg) = v1 then (if (m.1 32 v2.toNatClampNeg) = (1 : Int32) then f_Papers_killThoseOf_67 F (f_Papers_killThoseOf_2 F n) v1 v2 m else (if ((m_up m.1 37 v2.toNatClampNeg (2 : Int32)) 32 v2.toNatClampNeg) = (3 : Int32) then ((f_Papers_giveBack F ((m_up m.1 37 v2.toNatClampNeg (2 : Int32)) 41 v2.toNatClampNeg) (0 : Int32) ((m_up m.1 37 v2.toNatClampNeg (2 : Int32)), m.2)).bind fun q1 => f_Papers_killThoseOf_67 F (f_Papers_killThoseOf_2 F n) v1 v2 q1.2) else f_Papers_killThoseOf_67 F (f_Papers_killThoseOf_2 F n) v1 v2 ((m_up m.1 37 v2.toNatClampNeg (2 : Int32)), m.2))) else f_Papers_killThoseOf_67 F (f_Papers_killThoseOf_2 F n) v1 v2 m) else f_Papers_killThoseOf_67 F (f_Papers_killThoseOf_2 F n) v1 v2 m)))
theorem ok_Papers_killThoseOf_2 (X : mX) (d F : Nat) : ∀ (n : Nat) (v1 : Int32) (v2 : Int32)  (m : mM) (r : Unit) (m' : mM), f_Papers_killThoseOf_2 F n v1 v2 m = some (r, m') → m_R X (d + 1) 92 2 [some (.ref 31), some (.int v1), some (.int v2)] [] (SH, m) (none, (SH, m')) := by
  intro n
  induction n with
  | zero => intro v1 v2 m r m' h; cases h
  | succ n ih =>
    intro v1 v2 m r m' h
    simp only [f_Papers_killThoseOf_2] at h
    refine m_R_sg (by decide) [(.iload_n 2, 1, 0, 2, 0, 0, 0), (.aload_n 0, 1, 0, 0, 0, 0, 0), (.getfield 63, 3, 0, 4, 15, 0, 363)] (by decide +kernel) (show m_sgl X _ _ _ _ _ = some (7, [some (.ref 31), some (.int v1), some (.int v2)], [.int (m.1 31 15), .int v2], (SH, m.1, m.2)) from rfl) ?_
    rcases m_ite h with ⟨c763, h⟩ | ⟨c763, h⟩
    · refine m_R_1 (by decide) (m_opb_of (ins := .if_icmp .ge 66) (len := 3) (tag := 0) (a := 73) (b := 0) (c := 0) (q := 0) (by decide +kernel)) (if_pos c763) ?_
      obtain ⟨rfl, rfl⟩ := m_some h
      exact m_R_vret (by decide) (m_opb_of (ins := .return_) (len := 1) (tag := 3) (a := 0) (b := 0) (c := 0) (q := 0) (by decide +kernel))
    · refine m_R_1 (by decide) (m_opb_of (ins := .if_icmp .ge 66) (len := 3) (tag := 0) (a := 73) (b := 0) (c := 0) (q := 0) (by decide +kernel)) (if_neg c763) ?_
      refine m_R_sg (by decide) [(.aload_n 0, 1, 0, 0, 0, 0, 0), (.getfield 27, 3, 0, 4, 5, 3, 336), (.iload_n 2, 1, 0, 2, 0, 0, 0)] (by decide +kernel) (show m_sgl X _ _ _ _ _ = some (15, [some (.ref 31), some (.int v1), some (.int v2)], [.int v2, .ref 37], (SH, m.1, m.2)) from rfl) ?_
      obtain ⟨c764, h⟩ := m_ite_n h
      refine m_R_1 (by decide) (m_opb_of (ins := .iaload) (len := 1) (tag := 0) (a := 0) (b := 0) (c := 0) (q := 0) (by decide +kernel)) (m_s_iald sh_37 (by decide) c764) ?_
      rcases m_ite h with ⟨c765, h⟩ | ⟨c765, h⟩
      · refine m_R_1 (by decide) (m_opb_of (ins := .ifCond .ne 51) (len := 3) (tag := 0) (a := 67) (b := 0) (c := 0) (q := 0) (by decide +kernel)) (if_pos c765) ?_
        refine m_R_sg (by decide) [(.aload_n 0, 1, 0, 0, 0, 0, 0), (.getfield 18, 3, 0, 4, 2, 3, 325), (.iload_n 2, 1, 0, 2, 0, 0, 0)] (by decide +kernel) (show m_sgl X _ _ _ _ _ = some (24, [some (.ref 31), some (.int v1), some (.int v2)], [.int v2, .ref 34], (SH, m.1, m.2)) from rfl) ?_
        refine m_R_1 (by decide) (m_opb_of (ins := .iaload) (len := 1) (tag := 0) (a := 0) (b := 0) (c := 0) (q := 0) (by decide +kernel)) (m_s_iald sh_34 (by decide) c764) ?_
        refine m_R_sg (by decide) [(.iload_n 1, 1, 0, 1, 0, 0, 0)] (by decide +kernel) (show m_sgl X _ _ _ _ _ = some (26, [some (.ref 31), some (.int v1), some (.int v2)], [.int v1, .int (m.1 34 v2.toNatClampNeg)], (SH, m.1, m.2)) from rfl) ?_
        rcases m_ite h with ⟨c766, h⟩ | ⟨c766, h⟩
        · refine m_R_1 (by decide) (m_opb_of (ins := .if_icmp .ne 41) (len := 3) (tag := 0) (a := 67) (b := 0) (c := 0) (q := 0) (by decide +kernel)) (if_pos c766) ?_
          refine m_R_sg (by decide) [(.aload_n 0, 1, 0, 0, 0, 0, 0), (.getfield 9, 3, 0, 4, 0, 3, 317), (.iload_n 2, 1, 0, 2, 0, 0, 0)] (by decide +kernel) (show m_sgl X _ _ _ _ _ = some (34, [some (.ref 31), some (.int v1), some (.int v2)], [.int v2, .ref 32], (SH, m.1, m.2)) from rfl) ?_
          refine m_R_1 (by decide) (m_opb_of (ins := .iaload) (len := 1) (tag := 0) (a := 0) (b := 0) (c := 0) (q := 0) (by decide +kernel)) (m_s_iald sh_32 (by decide) c764) ?_
          refine m_R_sg (by decide) [(.iconst 1, 1, 0, 1, 0, 0, 0)] (by decide +kernel) (show m_sgl X _ _ _ _ _ = some (36, [some (.ref 31), some (.int v1), some (.int v2)], [.int (1 : Int32), .int (m.1 32 v2.toNatClampNeg)], (SH, m.1, m.2)) from rfl) ?_
          rcases m_ite h with ⟨c767, h⟩ | ⟨c767, h⟩
          · refine m_R_1 (by decide) (m_opb_of (ins := .if_icmp .eq 31) (len := 3) (tag := 0) (a := 67) (b := 0) (c := 0) (q := 0) (by decide +kernel)) (if_pos c767) ?_
            exact ok_Papers_killThoseOf_67 X d F _ (fun a0 a1 m r m' h => ih a0 a1 m r m' h) _ _ _ _ _ h
          · refine m_R_1 (by decide) (m_opb_of (ins := .if_icmp .eq 31) (len := 3) (tag := 0) (a := 67) (b := 0) (c := 0) (q := 0) (by decide +kernel)) (if_neg c767) ?_
            refine m_R_sg (by decide) [(.aload_n 0, 1, 0, 0, 0, 0, 0), (.getfield 27, 3, 0, 4, 5, 3, 336), (.iload_n 2, 1, 0, 2, 0, 0, 0), (.iconst 2, 1, 0, 2, 0, 0, 0)] (by decide +kernel) (show m_sgl X _ _ _ _ _ = some (45, [some (.ref 31), some (.int v1), some (.int v2)], [.int (2 : Int32), .int v2, .ref 37], (SH, m.1, m.2)) from rfl) ?_
            refine m_R_1 (by decide) (m_opb_of (ins := .iastore) (len := 1) (tag := 0) (a := 0) (b := 0) (c := 0) (q := 0) (by decide +kernel)) (m_s_iast sh_37 c764) ?_
            refine m_R_sg (by decide) [(.aload_n 0, 1, 0, 0, 0, 0, 0), (.getfield 9, 3, 0, 4, 0, 3, 317), (.iload_n 2, 1, 0, 2, 0, 0, 0)] (by decide +kernel) (show m_sgl X _ _ _ _ _ = some (51, [some (.ref 31), some (.int v1), some (.int v2)], [.int v2, .ref 32], (SH, (m_up m.1 37 v2.toNatClampNeg (2 : Int32)), m.2)) from rfl) ?_
            refine m_R_1 (by decide) (m_opb_of (ins := .iaload) (len := 1) (tag := 0) (a := 0) (b := 0) (c := 0) (q := 0) (by decide +kernel)) (m_s_iald sh_32 (by decide) c764) ?_
            refine m_R_sg (by decide) [(.iconst 3, 1, 0, 3, 0, 0, 0)] (by decide +kernel) (show m_sgl X _ _ _ _ _ = some (53, [some (.ref 31), some (.int v1), some (.int v2)], [.int (3 : Int32), .int ((m_up m.1 37 v2.toNatClampNeg (2 : Int32)) 32 v2.toNatClampNeg)], (SH, (m_up m.1 37 v2.toNatClampNeg (2 : Int32)), m.2)) from rfl) ?_
            rcases m_ite h with ⟨c768, h⟩ | ⟨c768, h⟩
            · refine m_R_1 (by decide) (m_opb_of (ins := .if_icmp .ne 14) (len := 3) (tag := 0) (a := 67) (b := 0) (c := 0) (q := 0) (by decide +kernel)) (if_pos c768) ?_
              refine m_R_sg (by decide) [(.aload_n 0, 1, 0, 0, 0, 0, 0), (.aload_n 0, 1, 0, 0, 0, 0, 0), (.getfield 39, 3, 0, 4, 9, 3, 348), (.iload_n 2, 1, 0, 2, 0, 0, 0)] (by decide +kernel) (show m_sgl X _ _ _ _ _ = some (62, [some (.ref 31), some (.int v1), some (.int v2)], [.int v2, .ref 41, .ref 31], (SH, (m_up m.1 37 v2.toNatClampNeg (2 : Int32)), m.2)) from rfl) ?_
              refine m_R_1 (by decide) (m_opb_of (ins := .iaload) (len := 1) (tag := 0) (a := 0) (b := 0) (c := 0) (q := 0) (by decide +kernel)) (m_s_iald sh_41 (by decide) c764) ?_
              refine m_R_sg (by decide) [(.iconst 0, 1, 0, 0, 0, 0, 0)] (by decide +kernel) (show m_sgl X _ _ _ _ _ = some (64, [some (.ref 31), some (.int v1), some (.int v2)], [.int (0 : Int32), .int ((m_up m.1 37 v2.toNatClampNeg (2 : Int32)) 41 v2.toNatClampNeg), .ref 31], (SH, (m_up m.1 37 v2.toNatClampNeg (2 : Int32)), m.2)) from rfl) ?_
              obtain ⟨q1, hc1, h⟩ := Option.bind_eq_some_iff.mp h
              refine m_R_cV (v := none) (h1 := (SH, q1.2)) (rest := []) (lo' := [some (.ref 31), some (.int ((m_up m.1 37 v2.toNatClampNeg (2 : Int32)) 41 v2.toNatClampNeg)), some (.int (0 : Int32))]) (ml := 3) (k0 := 31) (by decide) (Or.inl rfl) (m_opb_of (ins := .invokevirtual 72) (len := 3) (tag := 5) (a := 89) (b := 2) (c := 0) (q := 979) (by decide +kernel)) (by decide +kernel) rfl (show m_isO 89 31 (SH, _) = true from m_isO_of (by decide +kernel)) (Nat.le_of_ble_eq_true rfl) rfl rfl (ok_Papers_giveBack X (d + 0) F _ _ _ _ _ hc1) ?_
              exact ok_Papers_killThoseOf_67 X d F _ (fun a0 a1 m r m' h => ih a0 a1 m r m' h) _ _ _ _ _ h
            · refine m_R_1 (by decide) (m_opb_of (ins := .if_icmp .ne 14) (len := 3) (tag := 0) (a := 67) (b := 0) (c := 0) (q := 0) (by decide +kernel)) (if_neg c768) ?_
              exact ok_Papers_killThoseOf_67 X d F _ (fun a0 a1 m r m' h => ih a0 a1 m r m' h) _ _ _ _ _ h
        · refine m_R_1 (by decide) (m_opb_of (ins := .if_icmp .ne 41) (len := 3) (tag := 0) (a := 67) (b := 0) (c := 0) (q := 0) (by decide +kernel)) (if_neg c766) ?_
          exact ok_Papers_killThoseOf_67 X d F _ (fun a0 a1 m r m' h => ih a0 a1 m r m' h) _ _ _ _ _ h
      · refine m_R_1 (by decide) (m_opb_of (ins := .ifCond .ne 51) (len := 3) (tag := 0) (a := 67) (b := 0) (c := 0) (q := 0) (by decide +kernel)) (if_neg c765) ?_
        exact ok_Papers_killThoseOf_67 X d F _ (fun a0 a1 m r m' h => ih a0 a1 m r m' h) _ _ _ _ _ h
def f_Papers_killThoseOf (F : Nat)   (v1 : Int32) (m : mM) : Option (Unit × mM) := f_Papers_killThoseOf_2 F F v1 (0 : Int32) m
theorem ok_Papers_killThoseOf (X : mX) (d F : Nat) : ∀ (v1 : Int32)  (m : mM) (r : Unit) (m' : mM), f_Papers_killThoseOf F v1 m = some (r, m') → m_R X (d + 1) 92 0 [some (.ref 31), some (.int v1), none] [] (SH, m) (none, (SH, m')) := by
  intro v1 m r m' h
  unfold f_Papers_killThoseOf at h
  refine m_R_sg (by decide) [(.iconst 0, 1, 0, 0, 0, 0, 0), (.istore_n 2, 1, 0, 2, 0, 0, 0)] (by decide +kernel) (show m_sgl X _ _ _ _ _ = some (2, [some (.ref 31), some (.int v1), some (.int (0 : Int32))], [], (SH, m.1, m.2)) from rfl) ?_
  exact ok_Papers_killThoseOf_2 X d F F _ _ _ _ _ h
def f_World_fail (F : Nat)   (v1 : Int32) (v2 : Int32) (v3 : Int32) (m : mM) : Option (Unit × mM) := (if v1 < 0 ∨ 60 ≤ v1.toNatClampNeg then none else ((f_Houses_fall F v2 (m.1 16 9) v1 (m.1 35 v1.toNatClampNeg) v3 m).bind fun q1 => ((f_Papers_killThoseOf F v2 q1.2).bind fun q2 => some ((), q2.2))))
theorem ok_World_fail (X : mX) (d F : Nat) : ∀ (v1 : Int32) (v2 : Int32) (v3 : Int32)  (m : mM) (r : Unit) (m' : mM), f_World_fail F v1 v2 v3 m = some (r, m') → m_R X (d + 2) 90 0 [some (.ref 16), some (.int v1), some (.int v2), some (.int v3)] [] (SH, m) (none, (SH, m')) := by
  intro v1 v2 v3 m r m' h
  unfold f_World_fail at h
  refine m_R_sg (by decide) [(.aload_n 0, 1, 0, 0, 0, 0, 0), (.getfield 21, 3, 0, 10, 1, 3, 505), (.iload_n 2, 1, 0, 2, 0, 0, 0), (.aload_n 0, 1, 0, 0, 0, 0, 0), (.getfield 95, 3, 0, 10, 9, 0, 520), (.iload_n 1, 1, 0, 1, 0, 0, 0), (.aload_n 0, 1, 0, 0, 0, 0, 0), (.getfield 28, 3, 0, 10, 2, 3, 508), (.getfield 212, 3, 0, 4, 3, 3, 331), (.iload_n 1, 1, 0, 1, 0, 0, 0)] (by decide +kernel) (show m_sgl X _ _ _ _ _ = some (18, [some (.ref 16), some (.int v1), some (.int v2), some (.int v3)], [.int v1, .ref 35, .int v1, .int (m.1 16 9), .int v2, .ref 19], (SH, m.1, m.2)) from rfl) ?_
  obtain ⟨c769, h⟩ := m_ite_n h
  refine m_R_1 (by decide) (m_opb_of (ins := .iaload) (len := 1) (tag := 0) (a := 0) (b := 0) (c := 0) (q := 0) (by decide +kernel)) (m_s_iald sh_35 (by decide) c769) ?_
  refine m_R_sg (by decide) [(.iload_n 3, 1, 0, 3, 0, 0, 0)] (by decide +kernel) (show m_sgl X _ _ _ _ _ = some (20, [some (.ref 16), some (.int v1), some (.int v2), some (.int v3)], [.int v3, .int (m.1 35 v1.toNatClampNeg), .int v1, .int (m.1 16 9), .int v2, .ref 19], (SH, m.1, m.2)) from rfl) ?_
  obtain ⟨q1, hc1, h⟩ := Option.bind_eq_some_iff.mp h
  refine m_R_cV (v := none) (h1 := (SH, q1.2)) (rest := []) (lo' := [some (.ref 19), some (.int v2), some (.int (m.1 16 9)), some (.int v1), some (.int (m.1 35 v1.toNatClampNeg)), some (.int v3)]) (ml := 6) (k0 := 19) (by decide) (Or.inl rfl) (m_opb_of (ins := .invokevirtual 213) (len := 3) (tag := 5) (a := 91) (b := 5) (c := 0) (q := 987) (by decide +kernel)) (by decide +kernel) rfl (show m_isO 91 19 (SH, _) = true from m_isO_of (by decide +kernel)) (Nat.le_of_ble_eq_true rfl) rfl rfl (ok_Houses_fall X (d + 1) F _ _ _ _ _ _ _ _ hc1) ?_
  refine m_R_sg (by decide) [(.aload_n 0, 1, 0, 0, 0, 0, 0), (.getfield 28, 3, 0, 10, 2, 3, 508), (.iload_n 2, 1, 0, 2, 0, 0, 0)] (by decide +kernel) (show m_sgl X _ _ _ _ _ = some (28, [some (.ref 16), some (.int v1), some (.int v2), some (.int v3)], [.int v2, .ref 31], (SH, q1.2.1, q1.2.2)) from rfl) ?_
  obtain ⟨q2, hc2, h⟩ := Option.bind_eq_some_iff.mp h
  refine m_R_cV (v := none) (h1 := (SH, q2.2)) (rest := []) (lo' := [some (.ref 31), some (.int v2), none]) (ml := 3) (k0 := 31) (by decide) (Or.inl rfl) (m_opb_of (ins := .invokevirtual 217) (len := 3) (tag := 5) (a := 92) (b := 1) (c := 0) (q := 991) (by decide +kernel)) (by decide +kernel) rfl (show m_isO 92 31 (SH, _) = true from m_isO_of (by decide +kernel)) (Nat.le_of_ble_eq_true rfl) rfl rfl (ok_Papers_killThoseOf X (d + 0) F _ _ _ _ hc2) ?_
  obtain ⟨rfl, rfl⟩ := m_some h
  exact m_R_vret (by decide) (m_opb_of (ins := .return_) (len := 1) (tag := 3) (a := 0) (b := 0) (c := 0) (q := 0) (by decide +kernel))
def f_Papers_payOff_50 (F : Nat)    (m : mM) : Option (Unit × mM) := some ((), m)
theorem ok_Papers_payOff_50 (X : mX) (d F : Nat) : ∀  (w0 : Option Value) (w1 : Option Value) (m : mM) (r : Unit) (m' : mM), f_Papers_payOff_50 F  m = some (r, m') → m_R X (d + 1) 88 50 [w0, w1] [] (SH, m) (none, (SH, m')) := by
  intro w0 w1 m r m' h
  unfold f_Papers_payOff_50 at h
  obtain ⟨rfl, rfl⟩ := m_some h
  exact m_R_vret (by decide) (m_opb_of (ins := .return_) (len := 1) (tag := 3) (a := 0) (b := 0) (c := 0) (q := 0) (by decide +kernel))
def f_Papers_payOff_26 (F : Nat)   (v1 : Int32) (m : mM) : Option (Unit × mM) := (if v1 < 0 ∨ 60 ≤ v1.toNatClampNeg then none else f_Papers_payOff_50 F ((m_up (m_up (m_up m.1 32 v1.toNatClampNeg (-1 : Int32)) 37 v1.toNatClampNeg (-1 : Int32)) 31 14 (((m_up (m_up m.1 32 v1.toNatClampNeg (-1 : Int32)) 37 v1.toNatClampNeg (-1 : Int32)) 31 14) - (1 : Int32))), m.2))
theorem ok_Papers_payOff_26 (X : mX) (d F : Nat) : ∀ (v1 : Int32)  (m : mM) (r : Unit) (m' : mM), f_Papers_payOff_26 F v1 m = some (r, m') → m_R X (d + 1) 88 26 [some (.ref 31), some (.int v1)] [] (SH, m) (none, (SH, m')) := by
  intro v1 m r m' h
  unfold f_Papers_payOff_26 at h
  refine m_R_sg (by decide) [(.aload_n 0, 1, 0, 0, 0, 0, 0), (.getfield 9, 3, 0, 4, 0, 3, 317), (.iload_n 1, 1, 0, 1, 0, 0, 0), (.iconst (-1), 1, 0, 1, 1, 0, 0)] (by decide +kernel) (show m_sgl X _ _ _ _ _ = some (32, [some (.ref 31), some (.int v1)], [.int (-1 : Int32), .int v1, .ref 32], (SH, m.1, m.2)) from rfl) ?_
  obtain ⟨c770, h⟩ := m_ite_n h
  refine m_R_1 (by decide) (m_opb_of (ins := .iastore) (len := 1) (tag := 0) (a := 0) (b := 0) (c := 0) (q := 0) (by decide +kernel)) (m_s_iast sh_32 c770) ?_
  refine m_R_sg (by decide) [(.aload_n 0, 1, 0, 0, 0, 0, 0), (.getfield 27, 3, 0, 4, 5, 3, 336), (.iload_n 1, 1, 0, 1, 0, 0, 0), (.iconst (-1), 1, 0, 1, 1, 0, 0)] (by decide +kernel) (show m_sgl X _ _ _ _ _ = some (39, [some (.ref 31), some (.int v1)], [.int (-1 : Int32), .int v1, .ref 37], (SH, (m_up m.1 32 v1.toNatClampNeg (-1 : Int32)), m.2)) from rfl) ?_
  refine m_R_1 (by decide) (m_opb_of (ins := .iastore) (len := 1) (tag := 0) (a := 0) (b := 0) (c := 0) (q := 0) (by decide +kernel)) (m_s_iast sh_37 c770) ?_
  refine m_R_sg (by decide) [(.aload_n 0, 1, 0, 0, 0, 0, 0), (.dup, 1, 0, 0, 0, 0, 0), (.getfield 59, 3, 0, 4, 14, 0, 361), (.iconst 1, 1, 0, 1, 0, 0, 0), (.isub, 1, 0, 0, 0, 0, 0), (.putfield 59, 3, 0, 4, 14, 0, 361)] (by decide +kernel) (show m_sgl X _ _ _ _ _ = some (50, [some (.ref 31), some (.int v1)], [], (SH, (m_up (m_up (m_up m.1 32 v1.toNatClampNeg (-1 : Int32)) 37 v1.toNatClampNeg (-1 : Int32)) 31 14 (((m_up (m_up m.1 32 v1.toNatClampNeg (-1 : Int32)) 37 v1.toNatClampNeg (-1 : Int32)) 31 14) - (1 : Int32))), m.2)) from rfl) ?_
  exact ok_Papers_payOff_50 X d F _ _ _ _ _ h
def f_Papers_payOff (F : Nat)   (v1 : Int32) (m : mM) : Option (Unit × mM) := (if v1 < 0 ∨ 60 ≤ v1.toNatClampNeg then none else (if (m.1 32 v1.toNatClampNeg) = (3 : Int32) then ((f_Papers_giveBack F (m.1 41 v1.toNatClampNeg) (m.1 34 v1.toNatClampNeg) m).bind fun q1 => f_Papers_payOff_26 F v1 q1.2) else f_Papers_payOff_26 F v1 m))
theorem ok_Papers_payOff (X : mX) (d F : Nat) : ∀ (v1 : Int32)  (m : mM) (r : Unit) (m' : mM), f_Papers_payOff F v1 m = some (r, m') → m_R X (d + 1) 88 0 [some (.ref 31), some (.int v1)] [] (SH, m) (none, (SH, m')) := by
  intro v1 m r m' h
  unfold f_Papers_payOff at h
  refine m_R_sg (by decide) [(.aload_n 0, 1, 0, 0, 0, 0, 0), (.getfield 9, 3, 0, 4, 0, 3, 317), (.iload_n 1, 1, 0, 1, 0, 0, 0)] (by decide +kernel) (show m_sgl X _ _ _ _ _ = some (5, [some (.ref 31), some (.int v1)], [.int v1, .ref 32], (SH, m.1, m.2)) from rfl) ?_
  obtain ⟨c771, h⟩ := m_ite_n h
  refine m_R_1 (by decide) (m_opb_of (ins := .iaload) (len := 1) (tag := 0) (a := 0) (b := 0) (c := 0) (q := 0) (by decide +kernel)) (m_s_iald sh_32 (by decide) c771) ?_
  refine m_R_sg (by decide) [(.iconst 3, 1, 0, 3, 0, 0, 0)] (by decide +kernel) (show m_sgl X _ _ _ _ _ = some (7, [some (.ref 31), some (.int v1)], [.int (3 : Int32), .int (m.1 32 v1.toNatClampNeg)], (SH, m.1, m.2)) from rfl) ?_
  rcases m_ite h with ⟨c772, h⟩ | ⟨c772, h⟩
  · refine m_R_1 (by decide) (m_opb_of (ins := .if_icmp .ne 19) (len := 3) (tag := 0) (a := 26) (b := 0) (c := 0) (q := 0) (by decide +kernel)) (if_pos c772) ?_
    refine m_R_sg (by decide) [(.aload_n 0, 1, 0, 0, 0, 0, 0), (.aload_n 0, 1, 0, 0, 0, 0, 0), (.getfield 39, 3, 0, 4, 9, 3, 348), (.iload_n 1, 1, 0, 1, 0, 0, 0)] (by decide +kernel) (show m_sgl X _ _ _ _ _ = some (16, [some (.ref 31), some (.int v1)], [.int v1, .ref 41, .ref 31], (SH, m.1, m.2)) from rfl) ?_
    refine m_R_1 (by decide) (m_opb_of (ins := .iaload) (len := 1) (tag := 0) (a := 0) (b := 0) (c := 0) (q := 0) (by decide +kernel)) (m_s_iald sh_41 (by decide) c771) ?_
    refine m_R_sg (by decide) [(.aload_n 0, 1, 0, 0, 0, 0, 0), (.getfield 18, 3, 0, 4, 2, 3, 325), (.iload_n 1, 1, 0, 1, 0, 0, 0)] (by decide +kernel) (show m_sgl X _ _ _ _ _ = some (22, [some (.ref 31), some (.int v1)], [.int v1, .ref 34, .int (m.1 41 v1.toNatClampNeg), .ref 31], (SH, m.1, m.2)) from rfl) ?_
    refine m_R_1 (by decide) (m_opb_of (ins := .iaload) (len := 1) (tag := 0) (a := 0) (b := 0) (c := 0) (q := 0) (by decide +kernel)) (m_s_iald sh_34 (by decide) c771) ?_
    obtain ⟨q1, hc1, h⟩ := Option.bind_eq_some_iff.mp h
    refine m_R_cV (v := none) (h1 := (SH, q1.2)) (rest := []) (lo' := [some (.ref 31), some (.int (m.1 41 v1.toNatClampNeg)), some (.int (m.1 34 v1.toNatClampNeg))]) (ml := 3) (k0 := 31) (by decide) (Or.inl rfl) (m_opb_of (ins := .invokevirtual 72) (len := 3) (tag := 5) (a := 89) (b := 2) (c := 0) (q := 979) (by decide +kernel)) (by decide +kernel) rfl (show m_isO 89 31 (SH, _) = true from m_isO_of (by decide +kernel)) (Nat.le_of_ble_eq_true rfl) rfl rfl (ok_Papers_giveBack X (d + 0) F _ _ _ _ _ hc1) ?_
    exact ok_Papers_payOff_26 X d F _ _ _ _ h
  · refine m_R_1 (by decide) (m_opb_of (ins := .if_icmp .ne 19) (len := 3) (tag := 0) (a := 26) (b := 0) (c := 0) (q := 0) (by decide +kernel)) (if_neg c772) ?_
    exact ok_Papers_payOff_26 X d F _ _ _ _ h
def f_World_askDeposit (F : Nat)   (v1 : Int32) (m : mM) : Option (Int32 × mM) := (if v1 < 0 ∨ 60 ≤ v1.toNatClampNeg then none else ((f_World_houseCan F (m.1 34 v1.toNatClampNeg) (m.1 35 v1.toNatClampNeg) (m.1 33 v1.toNatClampNeg) m).bind fun q1 => (if q1.1 = 0 then ((f_World_fail F v1 (m.1 34 v1.toNatClampNeg) (2 : Int32) q1.2).bind fun q2 => some ((0 : Int32), q2.2)) else ((f_World_transfer F (m.1 34 v1.toNatClampNeg) (m.1 35 v1.toNatClampNeg) (q1.2.1 33 v1.toNatClampNeg) q1.2).bind fun q3 => ((f_Papers_payOff F v1 q3.2).bind fun q4 => some ((1 : Int32), q4.2))))))
theorem ok_World_askDeposit (X : mX) (d F : Nat) : ∀ (v1 : Int32)  (m : mM) (r : Int32) (m' : mM), f_World_askDeposit F v1 m = some (r, m') → m_R X (d + 3) 87 0 [some (.ref 16), some (.int v1), none, none] [] (SH, m) (some (.int r), (SH, m')) := by
  intro v1 m r m' h
  unfold f_World_askDeposit at h
  refine m_R_sg (by decide) [(.aload_n 0, 1, 0, 0, 0, 0, 0), (.getfield 28, 3, 0, 10, 2, 3, 508), (.getfield 144, 3, 0, 4, 2, 3, 327), (.iload_n 1, 1, 0, 1, 0, 0, 0)] (by decide +kernel) (show m_sgl X _ _ _ _ _ = some (8, [some (.ref 16), some (.int v1), none, none], [.int v1, .ref 34], (SH, m.1, m.2)) from rfl) ?_
  obtain ⟨c773, h⟩ := m_ite_n h
  refine m_R_1 (by decide) (m_opb_of (ins := .iaload) (len := 1) (tag := 0) (a := 0) (b := 0) (c := 0) (q := 0) (by decide +kernel)) (m_s_iald sh_34 (by decide) c773) ?_
  refine m_R_sg (by decide) [(.istore_n 2, 1, 0, 2, 0, 0, 0), (.aload_n 0, 1, 0, 0, 0, 0, 0), (.getfield 28, 3, 0, 10, 2, 3, 508), (.getfield 212, 3, 0, 4, 3, 3, 331), (.iload_n 1, 1, 0, 1, 0, 0, 0)] (by decide +kernel) (show m_sgl X _ _ _ _ _ = some (18, [some (.ref 16), some (.int v1), some (.int (m.1 34 v1.toNatClampNeg)), none], [.int v1, .ref 35], (SH, m.1, m.2)) from rfl) ?_
  refine m_R_1 (by decide) (m_opb_of (ins := .iaload) (len := 1) (tag := 0) (a := 0) (b := 0) (c := 0) (q := 0) (by decide +kernel)) (m_s_iald sh_35 (by decide) c773) ?_
  refine m_R_sg (by decide) [(.istore_n 3, 1, 0, 3, 0, 0, 0), (.aload_n 0, 1, 0, 0, 0, 0, 0), (.iload_n 2, 1, 0, 2, 0, 0, 0), (.iload_n 3, 1, 0, 3, 0, 0, 0), (.aload_n 0, 1, 0, 0, 0, 0, 0), (.getfield 28, 3, 0, 10, 2, 3, 508), (.getfield 135, 3, 0, 4, 1, 3, 323), (.iload_n 1, 1, 0, 1, 0, 0, 0)] (by decide +kernel) (show m_sgl X _ _ _ _ _ = some (31, [some (.ref 16), some (.int v1), some (.int (m.1 34 v1.toNatClampNeg)), some (.int (m.1 35 v1.toNatClampNeg))], [.int v1, .ref 33, .int (m.1 35 v1.toNatClampNeg), .int (m.1 34 v1.toNatClampNeg), .ref 16], (SH, m.1, m.2)) from rfl) ?_
  refine m_R_1 (by decide) (m_opb_of (ins := .iaload) (len := 1) (tag := 0) (a := 0) (b := 0) (c := 0) (q := 0) (by decide +kernel)) (m_s_iald sh_33 (by decide) c773) ?_
  obtain ⟨q1, hc1, h⟩ := Option.bind_eq_some_iff.mp h
  refine m_R_cV (v := (some (.int q1.1))) (h1 := (SH, q1.2)) (rest := []) (lo' := [some (.ref 16), some (.int (m.1 34 v1.toNatClampNeg)), some (.int (m.1 35 v1.toNatClampNeg)), some (.int (m.1 33 v1.toNatClampNeg)), none]) (ml := 5) (k0 := 16) (by decide) (Or.inl rfl) (m_opb_of (ins := .invokevirtual 169) (len := 3) (tag := 5) (a := 48) (b := 3) (c := 0) (q := 805) (by decide +kernel)) (by decide +kernel) rfl (show m_isO 48 16 (SH, _) = true from m_isO_of (by decide +kernel)) (Nat.le_of_ble_eq_true rfl) rfl rfl (ok_World_houseCan X (d + 1) F _ _ _ _ _ _ hc1) ?_
  rcases m_ite h with ⟨c774, h⟩ | ⟨c774, h⟩
  · refine m_R_1 (by decide) (m_opb_of (ins := .ifCond .eq 28) (len := 3) (tag := 0) (a := 63) (b := 0) (c := 0) (q := 0) (by decide +kernel)) (if_pos c774) ?_
    refine m_R_sg (by decide) [(.aload_n 0, 1, 0, 0, 0, 0, 0), (.iload_n 1, 1, 0, 1, 0, 0, 0), (.iload_n 2, 1, 0, 2, 0, 0, 0), (.iconst 2, 1, 0, 2, 0, 0, 0)] (by decide +kernel) (show m_sgl X _ _ _ _ _ = some (67, [some (.ref 16), some (.int v1), some (.int (m.1 34 v1.toNatClampNeg)), some (.int (m.1 35 v1.toNatClampNeg))], [.int (2 : Int32), .int (m.1 34 v1.toNatClampNeg), .int v1, .ref 16], (SH, q1.2.1, q1.2.2)) from rfl) ?_
    obtain ⟨q2, hc2, h⟩ := Option.bind_eq_some_iff.mp h
    refine m_R_cV (v := none) (h1 := (SH, q2.2)) (rest := []) (lo' := [some (.ref 16), some (.int v1), some (.int (m.1 34 v1.toNatClampNeg)), some (.int (2 : Int32))]) (ml := 4) (k0 := 16) (by decide) (Or.inl rfl) (m_opb_of (ins := .invokevirtual 261) (len := 3) (tag := 5) (a := 90) (b := 3) (c := 0) (q := 983) (by decide +kernel)) (by decide +kernel) rfl (show m_isO 90 16 (SH, _) = true from m_isO_of (by decide +kernel)) (Nat.le_of_ble_eq_true rfl) rfl rfl (ok_World_fail X (d + 0) F _ _ _ _ _ _ hc2) ?_
    refine m_R_sg (by decide) [(.iconst 0, 1, 0, 0, 0, 0, 0)] (by decide +kernel) (show m_sgl X _ _ _ _ _ = some (71, [some (.ref 16), some (.int v1), some (.int (m.1 34 v1.toNatClampNeg)), some (.int (m.1 35 v1.toNatClampNeg))], [.int (0 : Int32)], (SH, q2.2.1, q2.2.2)) from rfl) ?_
    obtain ⟨rfl, rfl⟩ := m_some h
    exact m_R_iret (by decide) (m_opb_of (ins := .ireturn) (len := 1) (tag := 1) (a := 1) (b := 0) (c := 0) (q := 0) (by decide +kernel)) (Or.inr (Or.inl rfl))
  · refine m_R_1 (by decide) (m_opb_of (ins := .ifCond .eq 28) (len := 3) (tag := 0) (a := 63) (b := 0) (c := 0) (q := 0) (by decide +kernel)) (if_neg c774) ?_
    refine m_R_sg (by decide) [(.aload_n 0, 1, 0, 0, 0, 0, 0), (.iload_n 2, 1, 0, 2, 0, 0, 0), (.iload_n 3, 1, 0, 3, 0, 0, 0), (.aload_n 0, 1, 0, 0, 0, 0, 0), (.getfield 28, 3, 0, 10, 2, 3, 508), (.getfield 135, 3, 0, 4, 1, 3, 323), (.iload_n 1, 1, 0, 1, 0, 0, 0)] (by decide +kernel) (show m_sgl X _ _ _ _ _ = some (49, [some (.ref 16), some (.int v1), some (.int (m.1 34 v1.toNatClampNeg)), some (.int (m.1 35 v1.toNatClampNeg))], [.int v1, .ref 33, .int (m.1 35 v1.toNatClampNeg), .int (m.1 34 v1.toNatClampNeg), .ref 16], (SH, q1.2.1, q1.2.2)) from rfl) ?_
    refine m_R_1 (by decide) (m_opb_of (ins := .iaload) (len := 1) (tag := 0) (a := 0) (b := 0) (c := 0) (q := 0) (by decide +kernel)) (m_s_iald sh_33 (by decide) c773) ?_
    obtain ⟨q3, hc3, h⟩ := Option.bind_eq_some_iff.mp h
    refine m_R_cV (v := none) (h1 := (SH, q3.2)) (rest := []) (lo' := [some (.ref 16), some (.int (m.1 34 v1.toNatClampNeg)), some (.int (m.1 35 v1.toNatClampNeg)), some (.int (q1.2.1 33 v1.toNatClampNeg)), none]) (ml := 5) (k0 := 16) (by decide) (Or.inl rfl) (m_opb_of (ins := .invokevirtual 225) (len := 3) (tag := 5) (a := 51) (b := 3) (c := 0) (q := 942) (by decide +kernel)) (by decide +kernel) rfl (show m_isO 51 16 (SH, _) = true from m_isO_of (by decide +kernel)) (Nat.le_of_ble_eq_true rfl) rfl rfl (ok_World_transfer X (d + 0) F _ _ _ _ _ _ hc3) ?_
    refine m_R_sg (by decide) [(.aload_n 0, 1, 0, 0, 0, 0, 0), (.getfield 28, 3, 0, 10, 2, 3, 508), (.iload_n 1, 1, 0, 1, 0, 0, 0)] (by decide +kernel) (show m_sgl X _ _ _ _ _ = some (58, [some (.ref 16), some (.int v1), some (.int (m.1 34 v1.toNatClampNeg)), some (.int (m.1 35 v1.toNatClampNeg))], [.int v1, .ref 31], (SH, q3.2.1, q3.2.2)) from rfl) ?_
    obtain ⟨q4, hc4, h⟩ := Option.bind_eq_some_iff.mp h
    refine m_R_cV (v := none) (h1 := (SH, q4.2)) (rest := []) (lo' := [some (.ref 31), some (.int v1)]) (ml := 2) (k0 := 31) (by decide) (Or.inl rfl) (m_opb_of (ins := .invokevirtual 258) (len := 3) (tag := 5) (a := 88) (b := 1) (c := 0) (q := 975) (by decide +kernel)) (by decide +kernel) rfl (show m_isO 88 31 (SH, _) = true from m_isO_of (by decide +kernel)) (Nat.le_of_ble_eq_true rfl) rfl rfl (ok_Papers_payOff X (d + 1) F _ _ _ _ hc4) ?_
    refine m_R_sg (by decide) [(.iconst 1, 1, 0, 1, 0, 0, 0)] (by decide +kernel) (show m_sgl X _ _ _ _ _ = some (62, [some (.ref 16), some (.int v1), some (.int (m.1 34 v1.toNatClampNeg)), some (.int (m.1 35 v1.toNatClampNeg))], [.int (1 : Int32)], (SH, q4.2.1, q4.2.2)) from rfl) ?_
    obtain ⟨rfl, rfl⟩ := m_some h
    exact m_R_iret (by decide) (m_opb_of (ins := .ireturn) (len := 1) (tag := 1) (a := 1) (b := 0) (c := 0) (q := 0) (by decide +kernel)) (Or.inr (Or.inr rfl))
def f_x_ask_68 (F : Nat)    (m : mM) : Option (Int32 × mM) := ((f_x_refuse F (-7 : Int32) m).bind fun q6 => some (q6.1, q6.2))
theorem ok_x_ask_68 (X : mX) (d F : Nat) : ∀  (w1 : Option Value) (w2 : Option Value) (m : mM) (r : Int32) (m' : mM), f_x_ask_68 F  m = some (r, m') → m_R X (d + 4) 86 68 [some (.ref 0), w1, w2] [] (SH, m) (some (.int r), (SH, m')) := by
  intro w1 w2 m r m' h
  unfold f_x_ask_68 at h
  refine m_R_sg (by decide) [(.aload_n 0, 1, 0, 0, 0, 0, 0), (.bipush (-7), 2, 0, 7, 1, 0, 0)] (by decide +kernel) (show m_sgl X _ _ _ _ _ = some (71, [some (.ref 0), w1, w2], [.int (-7 : Int32), .ref 0], (SH, m.1, m.2)) from rfl) ?_
  obtain ⟨q6, hc6, h⟩ := Option.bind_eq_some_iff.mp h
  refine m_R_cV (v := (some (.int q6.1))) (h1 := (SH, q6.2)) (rest := []) (lo' := [some (.ref 0), some (.int (-7 : Int32))]) (ml := 2) (k0 := 0) (by decide) (Or.inl rfl) (m_opb_of (ins := .invokevirtual 76) (len := 3) (tag := 5) (a := 14) (b := 1) (c := 0) (q := 671) (by decide +kernel)) (by decide +kernel) rfl (show m_isO 14 0 (SH, _) = true from m_isO_of (by decide +kernel)) (Nat.le_of_ble_eq_true rfl) rfl rfl (ok_x_refuse X (d + 3) F _ _ _ _ hc6) ?_
  obtain ⟨rfl, rfl⟩ := m_some h
  exact m_R_iret (by decide) (m_opb_of (ins := .ireturn) (len := 1) (tag := 1) (a := 0) (b := 0) (c := 0) (q := 0) (by decide +kernel)) (Or.inl rfl)
def f_x_ask_91 (F : Nat)   (s0 : Int32) (m : mM) : Option (Int32 × mM) := some (s0, m)
theorem ok_x_ask_91 (X : mX) (d F : Nat) : ∀ (s0 : Int32) (w0 : Option Value) (w1 : Option Value) (w2 : Option Value) (m : mM) (r : Int32) (m' : mM), f_x_ask_91 F s0 m = some (r, m') → m_R X (d + 4) 86 91 [w0, w1, w2] [.int s0] (SH, m) (some (.int r), (SH, m')) := by
  intro s0 w0 w1 w2 m r m' h
  unfold f_x_ask_91 at h
  obtain ⟨rfl, rfl⟩ := m_some h
  exact m_R_iret (by decide) (m_opb_of (ins := .ireturn) (len := 1) (tag := 1) (a := 0) (b := 0) (c := 0) (q := 0) (by decide +kernel)) (Or.inl rfl)
def f_x_ask (F : Nat)   (v1 : Int32) (m : mM) : Option (Int32 × mM) := ((f_Papers_isPaper F v1 m).bind fun q1 => (if q1.1 = 0 then ((f_x_refuse F (-3 : Int32) q1.2).bind fun q2 => some (q2.1, q2.2)) else (if v1 < 0 ∨ 60 ≤ v1.toNatClampNeg then none else (if (q1.2.1 32 v1.toNatClampNeg) = (2 : Int32) then (if (q1.2.1 37 v1.toNatClampNeg) = 0 then ((f_Houses_isUp F (q1.2.1 35 v1.toNatClampNeg) q1.2).bind fun q3 => (if q3.1 = 0 then f_x_ask_68 F q3.2 else ((f_World_askDeposit F v1 q3.2).bind fun q4 => (if q4.1 = 0 then f_x_ask_91 F (0 : Int32) q4.2 else f_x_ask_91 F (1 : Int32) q4.2)))) else f_x_ask_68 F q1.2) else ((f_x_refuse F (-5 : Int32) q1.2).bind fun q5 => some (q5.1, q5.2))))))
theorem ok_x_ask (X : mX) (d F : Nat) : ∀ (v1 : Int32)  (m : mM) (r : Int32) (m' : mM), f_x_ask F v1 m = some (r, m') → m_R X (d + 4) 86 0 [some (.ref 0), some (.int v1), none] [] (SH, m) (some (.int r), (SH, m')) := by
  intro v1 m r m' h
  unfold f_x_ask at h
  refine m_R_sg (by decide) [(.aload_n 0, 1, 0, 0, 0, 0, 0), (.getfield 28, 3, 0, 11, 2, 3, 632), (.getfield 146, 3, 0, 10, 2, 3, 510), (.astore_n 2, 1, 0, 2, 0, 0, 0), (.aload_n 2, 1, 0, 2, 0, 0, 0), (.iload_n 1, 1, 0, 1, 0, 0, 0)] (by decide +kernel) (show m_sgl X _ _ _ _ _ = some (10, [some (.ref 0), some (.int v1), some (.ref 31)], [.int v1, .ref 31], (SH, m.1, m.2)) from rfl) ?_
  obtain ⟨q1, hc1, h⟩ := Option.bind_eq_some_iff.mp h
  refine m_R_cV (v := (some (.int q1.1))) (h1 := (SH, q1.2)) (rest := []) (lo' := [some (.ref 31), some (.int v1)]) (ml := 2) (k0 := 31) (by decide) (Or.inl rfl) (m_opb_of (ins := .invokevirtual 246) (len := 3) (tag := 5) (a := 41) (b := 1) (c := 0) (q := 927) (by decide +kernel)) (by decide +kernel) rfl (show m_isO 41 31 (SH, _) = true from m_isO_of (by decide +kernel)) (Nat.le_of_ble_eq_true rfl) rfl rfl (ok_Papers_isPaper X (d + 3) F _ _ _ _ hc1) ?_
  rcases m_ite h with ⟨c775, h⟩ | ⟨c775, h⟩
  · refine m_R_1 (by decide) (m_opb_of (ins := .ifCond .ne 10) (len := 3) (tag := 0) (a := 23) (b := 0) (c := 0) (q := 0) (by decide +kernel)) (if_pos c775) ?_
    refine m_R_sg (by decide) [(.aload_n 0, 1, 0, 0, 0, 0, 0), (.bipush (-3), 2, 0, 3, 1, 0, 0)] (by decide +kernel) (show m_sgl X _ _ _ _ _ = some (19, [some (.ref 0), some (.int v1), some (.ref 31)], [.int (-3 : Int32), .ref 0], (SH, q1.2.1, q1.2.2)) from rfl) ?_
    obtain ⟨q2, hc2, h⟩ := Option.bind_eq_some_iff.mp h
    refine m_R_cV (v := (some (.int q2.1))) (h1 := (SH, q2.2)) (rest := []) (lo' := [some (.ref 0), some (.int (-3 : Int32))]) (ml := 2) (k0 := 0) (by decide) (Or.inl rfl) (m_opb_of (ins := .invokevirtual 76) (len := 3) (tag := 5) (a := 14) (b := 1) (c := 0) (q := 671) (by decide +kernel)) (by decide +kernel) rfl (show m_isO 14 0 (SH, _) = true from m_isO_of (by decide +kernel)) (Nat.le_of_ble_eq_true rfl) rfl rfl (ok_x_refuse X (d + 3) F _ _ _ _ hc2) ?_
    obtain ⟨rfl, rfl⟩ := m_some h
    exact m_R_iret (by decide) (m_opb_of (ins := .ireturn) (len := 1) (tag := 1) (a := 0) (b := 0) (c := 0) (q := 0) (by decide +kernel)) (Or.inl rfl)
  · refine m_R_1 (by decide) (m_opb_of (ins := .ifCond .ne 10) (len := 3) (tag := 0) (a := 23) (b := 0) (c := 0) (q := 0) (by decide +kernel)) (if_neg c775) ?_
    refine m_R_sg (by decide) [(.aload_n 2, 1, 0, 2, 0, 0, 0), (.getfield 249, 3, 0, 4, 0, 3, 320), (.iload_n 1, 1, 0, 1, 0, 0, 0)] (by decide +kernel) (show m_sgl X _ _ _ _ _ = some (28, [some (.ref 0), some (.int v1), some (.ref 31)], [.int v1, .ref 32], (SH, q1.2.1, q1.2.2)) from rfl) ?_
    obtain ⟨c776, h⟩ := m_ite_n h
    refine m_R_1 (by decide) (m_opb_of (ins := .iaload) (len := 1) (tag := 0) (a := 0) (b := 0) (c := 0) (q := 0) (by decide +kernel)) (m_s_iald sh_32 (by decide) c776) ?_
    refine m_R_sg (by decide) [(.iconst 2, 1, 0, 2, 0, 0, 0)] (by decide +kernel) (show m_sgl X _ _ _ _ _ = some (30, [some (.ref 0), some (.int v1), some (.ref 31)], [.int (2 : Int32), .int (q1.2.1 32 v1.toNatClampNeg)], (SH, q1.2.1, q1.2.2)) from rfl) ?_
    rcases m_ite h with ⟨c777, h⟩ | ⟨c777, h⟩
    · refine m_R_1 (by decide) (m_opb_of (ins := .if_icmp .eq 10) (len := 3) (tag := 0) (a := 40) (b := 0) (c := 0) (q := 0) (by decide +kernel)) (if_pos c777) ?_
      refine m_R_sg (by decide) [(.aload_n 2, 1, 0, 2, 0, 0, 0), (.getfield 251, 3, 0, 4, 5, 3, 338), (.iload_n 1, 1, 0, 1, 0, 0, 0)] (by decide +kernel) (show m_sgl X _ _ _ _ _ = some (45, [some (.ref 0), some (.int v1), some (.ref 31)], [.int v1, .ref 37], (SH, q1.2.1, q1.2.2)) from rfl) ?_
      refine m_R_1 (by decide) (m_opb_of (ins := .iaload) (len := 1) (tag := 0) (a := 0) (b := 0) (c := 0) (q := 0) (by decide +kernel)) (m_s_iald sh_37 (by decide) c776) ?_
      rcases m_ite h with ⟨c778, h⟩ | ⟨c778, h⟩
      · refine m_R_1 (by decide) (m_opb_of (ins := .ifCond .ne 22) (len := 3) (tag := 0) (a := 68) (b := 0) (c := 0) (q := 0) (by decide +kernel)) (if_pos c778) ?_
        refine m_R_sg (by decide) [(.aload_n 0, 1, 0, 0, 0, 0, 0), (.getfield 28, 3, 0, 11, 2, 3, 632), (.getfield 95, 3, 0, 10, 1, 3, 507), (.aload_n 2, 1, 0, 2, 0, 0, 0), (.getfield 250, 3, 0, 4, 3, 3, 332), (.iload_n 1, 1, 0, 1, 0, 0, 0)] (by decide +kernel) (show m_sgl X _ _ _ _ _ = some (61, [some (.ref 0), some (.int v1), some (.ref 31)], [.int v1, .ref 35, .ref 19], (SH, q1.2.1, q1.2.2)) from rfl) ?_
        refine m_R_1 (by decide) (m_opb_of (ins := .iaload) (len := 1) (tag := 0) (a := 0) (b := 0) (c := 0) (q := 0) (by decide +kernel)) (m_s_iald sh_35 (by decide) c776) ?_
        obtain ⟨q3, hc3, h⟩ := Option.bind_eq_some_iff.mp h
        refine m_R_cV (v := (some (.int q3.1))) (h1 := (SH, q3.2)) (rest := []) (lo' := [some (.ref 19), some (.int (q1.2.1 35 v1.toNatClampNeg))]) (ml := 2) (k0 := 19) (by decide) (Or.inl rfl) (m_opb_of (ins := .invokevirtual 110) (len := 3) (tag := 5) (a := 25) (b := 1) (c := 0) (q := 716) (by decide +kernel)) (by decide +kernel) rfl (show m_isO 25 19 (SH, _) = true from m_isO_of (by decide +kernel)) (Nat.le_of_ble_eq_true rfl) rfl rfl (ok_Houses_isUp X (d + 2) F _ _ _ _ hc3) ?_
        rcases m_ite h with ⟨c779, h⟩ | ⟨c779, h⟩
        · refine m_R_1 (by decide) (m_opb_of (ins := .ifCond .ne 10) (len := 3) (tag := 0) (a := 75) (b := 0) (c := 0) (q := 0) (by decide +kernel)) (if_pos c779) ?_
          exact ok_x_ask_68 X d F _ _ _ _ _ h
        · refine m_R_1 (by decide) (m_opb_of (ins := .ifCond .ne 10) (len := 3) (tag := 0) (a := 75) (b := 0) (c := 0) (q := 0) (by decide +kernel)) (if_neg c779) ?_
          refine m_R_sg (by decide) [(.aload_n 0, 1, 0, 0, 0, 0, 0), (.getfield 28, 3, 0, 11, 2, 3, 632), (.iload_n 1, 1, 0, 1, 0, 0, 0)] (by decide +kernel) (show m_sgl X _ _ _ _ _ = some (80, [some (.ref 0), some (.int v1), some (.ref 31)], [.int v1, .ref 16], (SH, q3.2.1, q3.2.2)) from rfl) ?_
          obtain ⟨q4, hc4, h⟩ := Option.bind_eq_some_iff.mp h
          refine m_R_cV (v := (some (.int q4.1))) (h1 := (SH, q4.2)) (rest := []) (lo' := [some (.ref 16), some (.int v1), none, none]) (ml := 4) (k0 := 16) (by decide) (Or.inl rfl) (m_opb_of (ins := .invokevirtual 275) (len := 3) (tag := 5) (a := 87) (b := 1) (c := 0) (q := 971) (by decide +kernel)) (by decide +kernel) rfl (show m_isO 87 16 (SH, _) = true from m_isO_of (by decide +kernel)) (Nat.le_of_ble_eq_true rfl) rfl rfl (ok_World_askDeposit X (d + 0) F _ _ _ _ hc4) ?_
          rcases m_ite h with ⟨c780, h⟩ | ⟨c780, h⟩
          · refine m_R_1 (by decide) (m_opb_of (ins := .ifCond .eq 7) (len := 3) (tag := 0) (a := 90) (b := 0) (c := 0) (q := 0) (by decide +kernel)) (if_pos c780) ?_
            refine m_R_sg (by decide) [(.iconst 0, 1, 0, 0, 0, 0, 0)] (by decide +kernel) (show m_sgl X _ _ _ _ _ = some (91, [some (.ref 0), some (.int v1), some (.ref 31)], [.int (0 : Int32)], (SH, q4.2.1, q4.2.2)) from rfl) ?_
            exact ok_x_ask_91 X d F _ _ _ _ _ _ _ h
          · refine m_R_1 (by decide) (m_opb_of (ins := .ifCond .eq 7) (len := 3) (tag := 0) (a := 90) (b := 0) (c := 0) (q := 0) (by decide +kernel)) (if_neg c780) ?_
            refine m_R_sg (by decide) [(.iconst 1, 1, 0, 1, 0, 0, 0), (.goto 4, 3, 0, 91, 0, 0, 0)] (by decide +kernel) (show m_sgl X _ _ _ _ _ = some (91, [some (.ref 0), some (.int v1), some (.ref 31)], [.int (1 : Int32)], (SH, q4.2.1, q4.2.2)) from rfl) ?_
            exact ok_x_ask_91 X d F _ _ _ _ _ _ _ h
      · refine m_R_1 (by decide) (m_opb_of (ins := .ifCond .ne 22) (len := 3) (tag := 0) (a := 68) (b := 0) (c := 0) (q := 0) (by decide +kernel)) (if_neg c778) ?_
        exact ok_x_ask_68 X d F _ _ _ _ _ h
    · refine m_R_1 (by decide) (m_opb_of (ins := .if_icmp .eq 10) (len := 3) (tag := 0) (a := 40) (b := 0) (c := 0) (q := 0) (by decide +kernel)) (if_neg c777) ?_
      refine m_R_sg (by decide) [(.aload_n 0, 1, 0, 0, 0, 0, 0), (.bipush (-5), 2, 0, 5, 1, 0, 0)] (by decide +kernel) (show m_sgl X _ _ _ _ _ = some (36, [some (.ref 0), some (.int v1), some (.ref 31)], [.int (-5 : Int32), .ref 0], (SH, q1.2.1, q1.2.2)) from rfl) ?_
      obtain ⟨q5, hc5, h⟩ := Option.bind_eq_some_iff.mp h
      refine m_R_cV (v := (some (.int q5.1))) (h1 := (SH, q5.2)) (rest := []) (lo' := [some (.ref 0), some (.int (-5 : Int32))]) (ml := 2) (k0 := 0) (by decide) (Or.inl rfl) (m_opb_of (ins := .invokevirtual 76) (len := 3) (tag := 5) (a := 14) (b := 1) (c := 0) (q := 671) (by decide +kernel)) (by decide +kernel) rfl (show m_isO 14 0 (SH, _) = true from m_isO_of (by decide +kernel)) (Nat.le_of_ble_eq_true rfl) rfl rfl (ok_x_refuse X (d + 3) F _ _ _ _ hc5) ?_
      obtain ⟨rfl, rfl⟩ := m_some h
      exact m_R_iret (by decide) (m_opb_of (ins := .ireturn) (len := 1) (tag := 1) (a := 0) (b := 0) (c := 0) (q := 0) (by decide +kernel)) (Or.inl rfl)
def f_m_falls_179 (F : Nat)  (k73 : Int32 → Int32 → mM → Option (Unit × mM)) (v1 : Int32) (v6 : Int32) (m : mM) : Option (Unit × mM) := k73 v1 (v6 + (1 : Int32)) m
theorem ok_m_falls_179 (X : mX) (d F : Nat) (k73 : Int32 → Int32 → mM → Option (Unit × mM)) (hk73 : ∀ (v1 : Int32) (v6 : Int32) (w2 : Option Value) (w3 : Option Value) (w4 : Option Value) (w5 : Option Value) (m : mM) (r : Unit) (m' : mM), k73 v1 v6 m = some (r, m') → m_R X (d + 1) 280 73 [some (.ref 304), some (.int v1), w2, w3, w4, w5, some (.int v6)] [] (SH, m) (none, (SH, m'))) : ∀ (v1 : Int32) (v6 : Int32) (w2 : Option Value) (w3 : Option Value) (w4 : Option Value) (w5 : Option Value) (m : mM) (r : Unit) (m' : mM), f_m_falls_179 F k73 v1 v6 m = some (r, m') → m_R X (d + 1) 280 179 [some (.ref 304), some (.int v1), w2, w3, w4, w5, some (.int v6)] [] (SH, m) (none, (SH, m')) := by
  intro v1 v6 w2 w3 w4 w5 m r m' h
  unfold f_m_falls_179 at h
  refine m_R_sg (by decide) [(.iinc 6 1, 3, 0, 6, 1, 0, 0), (.goto (-109), 3, 0, 73, 0, 0, 0)] (by decide +kernel) (show m_sgl X _ _ _ _ _ = some (73, [some (.ref 304), some (.int v1), w2, w3, w4, w5, some (.int (v6 + (1 : Int32)))], [], (SH, m.1, m.2)) from rfl) ?_
  exact hk73 _ _ _ _ _ _ _ _ _ h
def f_m_falls_73 (F : Nat)   : Nat → Int32 → Int32 → mM → Option (Unit × mM)
  | 0, _, _, _ => none
  | n + 1, v1, v6, m => (if (60 : Int32) ≤ v6 then some ((), m) else ((f_m_paper F v6 (0 : Int32) m).bind fun q1 => (if q1.1 = 0 then f_m_falls_179 F (f_m_falls_73 F n) v1 v6 q1.2 else ((f_m_paper F v6 (3 : Int32) q1.2).bind fun q2 => (if q2.1 = v1 then ((f_m_paper F v6 (1 : Int32) q2.2).bind fun q3 => (if q3.1 = (1 : Int32) then f_m_falls_179 F (f_m_falls_73 F n) v1 v6 q3.2 else ((f_m_paper F v6 (6 : Int32) q3.2).bind fun q4 => (if q4.1 = 0 then (if (((6200 : Int32) + ((20 : Int32) * v6)) + (6 : Int32)) < 0 ∨ 9732 ≤ (((6200 : Int32) + ((20 : Int32) * v6)) + (6 : Int32)).toNatClampNeg then none else ((f_m_paper F v6 (1 : Int32) ((m_up q4.2.1 305 (((6200 : Int32) + ((20 : Int32) * v6)) + (6 : Int32)).toNatClampNeg (2 : Int32)), q4.2.2)).bind fun q5 => (if q5.1 = (3 : Int32) then ((f_m_paper F v6 (15 : Int32) q5.2).bind fun q6 => (if (((6200 : Int32) + ((20 : Int32) * q6.1)) + (14 : Int32)) < 0 ∨ 9732 ≤ (((6200 : Int32) + ((20 : Int32) * q6.1)) + (14 : Int32)).toNatClampNeg then none else f_m_falls_179 F (f_m_falls_73 F n) v1 v6 ((m_up q6.2.1 305 (((6200 : Int32) + ((20 : Int32) * q6.1)) + (14 : Int32)).toNatClampNeg (0 : Int32)), q6.2.2))) else f_m_falls_179 F (f_m_falls_73 F n) v1 v6 q5.2))) else f_m_falls_179 F (f_m_falls_73 F n) v1 v6 q4.2)))) else f_m_falls_179 F (f_m_falls_73 F n) v1 v6 q2.2)))))
theorem ok_m_falls_73 (X : mX) (d F : Nat) : ∀ (n : Nat) (v1 : Int32) (v6 : Int32) (w2 : Option Value) (w3 : Option Value) (w4 : Option Value) (w5 : Option Value) (m : mM) (r : Unit) (m' : mM), f_m_falls_73 F n v1 v6 m = some (r, m') → m_R X (d + 1) 280 73 [some (.ref 304), some (.int v1), w2, w3, w4, w5, some (.int v6)] [] (SH, m) (none, (SH, m')) := by
  intro n
  induction n with
  | zero => intro v1 v6 w2 w3 w4 w5 m r m' h; cases h
  | succ n ih =>
    intro v1 v6 w2 w3 w4 w5 m r m' h
    simp only [f_m_falls_73] at h
    refine m_R_sg (by decide) [(.iload 6, 2, 0, 6, 0, 0, 0), (.bipush 60, 2, 0, 60, 0, 0, 0)] (by decide +kernel) (show m_sgl X _ _ _ _ _ = some (77, [some (.ref 304), some (.int v1), w2, w3, w4, w5, some (.int v6)], [.int (60 : Int32), .int v6], (SH, m.1, m.2)) from rfl) ?_
    rcases m_ite h with ⟨c781, h⟩ | ⟨c781, h⟩
    · refine m_R_1 (by decide) (m_opb_of (ins := .if_icmp .ge 108) (len := 3) (tag := 0) (a := 185) (b := 0) (c := 0) (q := 0) (by decide +kernel)) (if_pos c781) ?_
      obtain ⟨rfl, rfl⟩ := m_some h
      exact m_R_vret (by decide) (m_opb_of (ins := .return_) (len := 1) (tag := 3) (a := 0) (b := 0) (c := 0) (q := 0) (by decide +kernel))
    · refine m_R_1 (by decide) (m_opb_of (ins := .if_icmp .ge 108) (len := 3) (tag := 0) (a := 185) (b := 0) (c := 0) (q := 0) (by decide +kernel)) (if_neg c781) ?_
      refine m_R_sg (by decide) [(.aload_n 0, 1, 0, 0, 0, 0, 0), (.iload 6, 2, 0, 6, 0, 0, 0), (.iconst 0, 1, 0, 0, 0, 0, 0)] (by decide +kernel) (show m_sgl X _ _ _ _ _ = some (84, [some (.ref 304), some (.int v1), w2, w3, w4, w5, some (.int v6)], [.int (0 : Int32), .int v6, .ref 304], (SH, m.1, m.2)) from rfl) ?_
      obtain ⟨q1, hc1, h⟩ := Option.bind_eq_some_iff.mp h
      refine m_R_cV (v := (some (.int q1.1))) (h1 := (SH, q1.2)) (rest := []) (lo' := [some (.ref 304), some (.int v6), some (.int (0 : Int32))]) (ml := 3) (k0 := 304) (by decide) (Or.inl rfl) (m_opb_of (ins := .invokevirtual 160) (len := 3) (tag := 5) (a := 246) (b := 2) (c := 0) (q := 1791) (by decide +kernel)) (by decide +kernel) rfl (show m_isO 246 304 (SH, _) = true from m_isO_of (by decide +kernel)) (Nat.le_of_ble_eq_true rfl) rfl rfl (ok_m_paper X (d + 0) F _ _ _ _ _ hc1) ?_
      rcases m_ite h with ⟨c782, h⟩ | ⟨c782, h⟩
      · refine m_R_1 (by decide) (m_opb_of (ins := .ifCond .eq 92) (len := 3) (tag := 0) (a := 179) (b := 0) (c := 0) (q := 0) (by decide +kernel)) (if_pos c782) ?_
        exact ok_m_falls_179 X d F _ (fun a0 a1 a2 a3 a4 a5 m r m' h => ih a0 a1 a2 a3 a4 a5 m r m' h) _ _ _ _ _ _ _ _ _ h
      · refine m_R_1 (by decide) (m_opb_of (ins := .ifCond .eq 92) (len := 3) (tag := 0) (a := 179) (b := 0) (c := 0) (q := 0) (by decide +kernel)) (if_neg c782) ?_
        refine m_R_sg (by decide) [(.aload_n 0, 1, 0, 0, 0, 0, 0), (.iload 6, 2, 0, 6, 0, 0, 0), (.iconst 3, 1, 0, 3, 0, 0, 0)] (by decide +kernel) (show m_sgl X _ _ _ _ _ = some (94, [some (.ref 304), some (.int v1), w2, w3, w4, w5, some (.int v6)], [.int (3 : Int32), .int v6, .ref 304], (SH, q1.2.1, q1.2.2)) from rfl) ?_
        obtain ⟨q2, hc2, h⟩ := Option.bind_eq_some_iff.mp h
        refine m_R_cV (v := (some (.int q2.1))) (h1 := (SH, q2.2)) (rest := []) (lo' := [some (.ref 304), some (.int v6), some (.int (3 : Int32))]) (ml := 3) (k0 := 304) (by decide) (Or.inl rfl) (m_opb_of (ins := .invokevirtual 160) (len := 3) (tag := 5) (a := 246) (b := 2) (c := 0) (q := 1791) (by decide +kernel)) (by decide +kernel) rfl (show m_isO 246 304 (SH, _) = true from m_isO_of (by decide +kernel)) (Nat.le_of_ble_eq_true rfl) rfl rfl (ok_m_paper X (d + 0) F _ _ _ _ _ hc2) ?_
        refine m_R_sg (by decide) [(.iload_n 1, 1, 0, 1, 0, 0, 0)] (by decide +kernel) (show m_sgl X _ _ _ _ _ = some (98, [some (.ref 304), some (.int v1), w2, w3, w4, w5, some (.int v6)], [.int v1, .int q2.1], (SH, q2.2.1, q2.2.2)) from rfl) ?_
        rcases m_ite h with ⟨c783, h⟩ | ⟨c783, h⟩
        · refine m_R_1 (by decide) (m_opb_of (ins := .if_icmp .ne 81) (len := 3) (tag := 0) (a := 179) (b := 0) (c := 0) (q := 0) (by decide +kernel)) (if_pos c783) ?_
          refine m_R_sg (by decide) [(.aload_n 0, 1, 0, 0, 0, 0, 0), (.iload 6, 2, 0, 6, 0, 0, 0), (.iconst 1, 1, 0, 1, 0, 0, 0)] (by decide +kernel) (show m_sgl X _ _ _ _ _ = some (105, [some (.ref 304), some (.int v1), w2, w3, w4, w5, some (.int v6)], [.int (1 : Int32), .int v6, .ref 304], (SH, q2.2.1, q2.2.2)) from rfl) ?_
          obtain ⟨q3, hc3, h⟩ := Option.bind_eq_some_iff.mp h
          refine m_R_cV (v := (some (.int q3.1))) (h1 := (SH, q3.2)) (rest := []) (lo' := [some (.ref 304), some (.int v6), some (.int (1 : Int32))]) (ml := 3) (k0 := 304) (by decide) (Or.inl rfl) (m_opb_of (ins := .invokevirtual 160) (len := 3) (tag := 5) (a := 246) (b := 2) (c := 0) (q := 1791) (by decide +kernel)) (by decide +kernel) rfl (show m_isO 246 304 (SH, _) = true from m_isO_of (by decide +kernel)) (Nat.le_of_ble_eq_true rfl) rfl rfl (ok_m_paper X (d + 0) F _ _ _ _ _ hc3) ?_
          refine m_R_sg (by decide) [(.iconst 1, 1, 0, 1, 0, 0, 0)] (by decide +kernel) (show m_sgl X _ _ _ _ _ = some (109, [some (.ref 304), some (.int v1), w2, w3, w4, w5, some (.int v6)], [.int (1 : Int32), .int q3.1], (SH, q3.2.1, q3.2.2)) from rfl) ?_
          rcases m_ite h with ⟨c784, h⟩ | ⟨c784, h⟩
          · refine m_R_1 (by decide) (m_opb_of (ins := .if_icmp .eq 70) (len := 3) (tag := 0) (a := 179) (b := 0) (c := 0) (q := 0) (by decide +kernel)) (if_pos c784) ?_
            exact ok_m_falls_179 X d F _ (fun a0 a1 a2 a3 a4 a5 m r m' h => ih a0 a1 a2 a3 a4 a5 m r m' h) _ _ _ _ _ _ _ _ _ h
          · refine m_R_1 (by decide) (m_opb_of (ins := .if_icmp .eq 70) (len := 3) (tag := 0) (a := 179) (b := 0) (c := 0) (q := 0) (by decide +kernel)) (if_neg c784) ?_
            refine m_R_sg (by decide) [(.aload_n 0, 1, 0, 0, 0, 0, 0), (.iload 6, 2, 0, 6, 0, 0, 0), (.bipush 6, 2, 0, 6, 0, 0, 0)] (by decide +kernel) (show m_sgl X _ _ _ _ _ = some (117, [some (.ref 304), some (.int v1), w2, w3, w4, w5, some (.int v6)], [.int (6 : Int32), .int v6, .ref 304], (SH, q3.2.1, q3.2.2)) from rfl) ?_
            obtain ⟨q4, hc4, h⟩ := Option.bind_eq_some_iff.mp h
            refine m_R_cV (v := (some (.int q4.1))) (h1 := (SH, q4.2)) (rest := []) (lo' := [some (.ref 304), some (.int v6), some (.int (6 : Int32))]) (ml := 3) (k0 := 304) (by decide) (Or.inl rfl) (m_opb_of (ins := .invokevirtual 160) (len := 3) (tag := 5) (a := 246) (b := 2) (c := 0) (q := 1791) (by decide +kernel)) (by decide +kernel) rfl (show m_isO 246 304 (SH, _) = true from m_isO_of (by decide +kernel)) (Nat.le_of_ble_eq_true rfl) rfl rfl (ok_m_paper X (d + 0) F _ _ _ _ _ hc4) ?_
            rcases m_ite h with ⟨c785, h⟩ | ⟨c785, h⟩
            · refine m_R_1 (by decide) (m_opb_of (ins := .ifCond .eq 6) (len := 3) (tag := 0) (a := 126) (b := 0) (c := 0) (q := 0) (by decide +kernel)) (if_pos c785) ?_
              refine m_R_sg (by decide) [(.aload_n 0, 1, 0, 0, 0, 0, 0), (.getfield 13, 3, 0, 12, 1, 3, 1493), (.sipush 6200, 3, 0, 6200, 0, 0, 0), (.bipush 20, 2, 0, 20, 0, 0, 0), (.iload 6, 2, 0, 6, 0, 0, 0), (.imul, 1, 0, 0, 0, 0, 0), (.iadd, 1, 0, 0, 0, 0, 0), (.bipush 6, 2, 0, 6, 0, 0, 0), (.iadd, 1, 0, 0, 0, 0, 0), (.iconst 2, 1, 0, 2, 0, 0, 0)] (by decide +kernel) (show m_sgl X _ _ _ _ _ = some (143, [some (.ref 304), some (.int v1), w2, w3, w4, w5, some (.int v6)], [.int (2 : Int32), .int (((6200 : Int32) + ((20 : Int32) * v6)) + (6 : Int32)), .ref 305], (SH, q4.2.1, q4.2.2)) from rfl) ?_
              obtain ⟨c786, h⟩ := m_ite_n h
              refine m_R_1 (by decide) (m_opb_of (ins := .iastore) (len := 1) (tag := 0) (a := 0) (b := 0) (c := 0) (q := 0) (by decide +kernel)) (m_s_iast sh_305 c786) ?_
              refine m_R_sg (by decide) [(.aload_n 0, 1, 0, 0, 0, 0, 0), (.iload 6, 2, 0, 6, 0, 0, 0), (.iconst 1, 1, 0, 1, 0, 0, 0)] (by decide +kernel) (show m_sgl X _ _ _ _ _ = some (148, [some (.ref 304), some (.int v1), w2, w3, w4, w5, some (.int v6)], [.int (1 : Int32), .int v6, .ref 304], (SH, (m_up q4.2.1 305 (((6200 : Int32) + ((20 : Int32) * v6)) + (6 : Int32)).toNatClampNeg (2 : Int32)), q4.2.2)) from rfl) ?_
              obtain ⟨q5, hc5, h⟩ := Option.bind_eq_some_iff.mp h
              refine m_R_cV (v := (some (.int q5.1))) (h1 := (SH, q5.2)) (rest := []) (lo' := [some (.ref 304), some (.int v6), some (.int (1 : Int32))]) (ml := 3) (k0 := 304) (by decide) (Or.inl rfl) (m_opb_of (ins := .invokevirtual 160) (len := 3) (tag := 5) (a := 246) (b := 2) (c := 0) (q := 1791) (by decide +kernel)) (by decide +kernel) rfl (show m_isO 246 304 (SH, _) = true from m_isO_of (by decide +kernel)) (Nat.le_of_ble_eq_true rfl) rfl rfl (ok_m_paper X (d + 0) F _ _ _ _ _ hc5) ?_
              refine m_R_sg (by decide) [(.iconst 3, 1, 0, 3, 0, 0, 0)] (by decide +kernel) (show m_sgl X _ _ _ _ _ = some (152, [some (.ref 304), some (.int v1), w2, w3, w4, w5, some (.int v6)], [.int (3 : Int32), .int q5.1], (SH, q5.2.1, q5.2.2)) from rfl) ?_
              rcases m_ite h with ⟨c787, h⟩ | ⟨c787, h⟩
              · refine m_R_1 (by decide) (m_opb_of (ins := .if_icmp .ne 27) (len := 3) (tag := 0) (a := 179) (b := 0) (c := 0) (q := 0) (by decide +kernel)) (if_pos c787) ?_
                refine m_R_sg (by decide) [(.aload_n 0, 1, 0, 0, 0, 0, 0), (.getfield 13, 3, 0, 12, 1, 3, 1493), (.sipush 6200, 3, 0, 6200, 0, 0, 0), (.bipush 20, 2, 0, 20, 0, 0, 0), (.aload_n 0, 1, 0, 0, 0, 0, 0), (.iload 6, 2, 0, 6, 0, 0, 0), (.bipush 15, 2, 0, 15, 0, 0, 0)] (by decide +kernel) (show m_sgl X _ _ _ _ _ = some (169, [some (.ref 304), some (.int v1), w2, w3, w4, w5, some (.int v6)], [.int (15 : Int32), .int v6, .ref 304, .int (20 : Int32), .int (6200 : Int32), .ref 305], (SH, q5.2.1, q5.2.2)) from rfl) ?_
                obtain ⟨q6, hc6, h⟩ := Option.bind_eq_some_iff.mp h
                refine m_R_cV (v := (some (.int q6.1))) (h1 := (SH, q6.2)) (rest := [.int (20 : Int32), .int (6200 : Int32), .ref 305]) (lo' := [some (.ref 304), some (.int v6), some (.int (15 : Int32))]) (ml := 3) (k0 := 304) (by decide) (Or.inl rfl) (m_opb_of (ins := .invokevirtual 160) (len := 3) (tag := 5) (a := 246) (b := 2) (c := 0) (q := 1791) (by decide +kernel)) (by decide +kernel) rfl (show m_isO 246 304 (SH, _) = true from m_isO_of (by decide +kernel)) (Nat.le_of_ble_eq_true rfl) rfl rfl (ok_m_paper X (d + 0) F _ _ _ _ _ hc6) ?_
                refine m_R_sg (by decide) [(.imul, 1, 0, 0, 0, 0, 0), (.iadd, 1, 0, 0, 0, 0, 0), (.bipush 14, 2, 0, 14, 0, 0, 0), (.iadd, 1, 0, 0, 0, 0, 0), (.iconst 0, 1, 0, 0, 0, 0, 0)] (by decide +kernel) (show m_sgl X _ _ _ _ _ = some (178, [some (.ref 304), some (.int v1), w2, w3, w4, w5, some (.int v6)], [.int (0 : Int32), .int (((6200 : Int32) + ((20 : Int32) * q6.1)) + (14 : Int32)), .ref 305], (SH, q6.2.1, q6.2.2)) from rfl) ?_
                obtain ⟨c788, h⟩ := m_ite_n h
                refine m_R_1 (by decide) (m_opb_of (ins := .iastore) (len := 1) (tag := 0) (a := 0) (b := 0) (c := 0) (q := 0) (by decide +kernel)) (m_s_iast sh_305 c788) ?_
                exact ok_m_falls_179 X d F _ (fun a0 a1 a2 a3 a4 a5 m r m' h => ih a0 a1 a2 a3 a4 a5 m r m' h) _ _ _ _ _ _ _ _ _ h
              · refine m_R_1 (by decide) (m_opb_of (ins := .if_icmp .ne 27) (len := 3) (tag := 0) (a := 179) (b := 0) (c := 0) (q := 0) (by decide +kernel)) (if_neg c787) ?_
                exact ok_m_falls_179 X d F _ (fun a0 a1 a2 a3 a4 a5 m r m' h => ih a0 a1 a2 a3 a4 a5 m r m' h) _ _ _ _ _ _ _ _ _ h
            · refine m_R_1 (by decide) (m_opb_of (ins := .ifCond .eq 6) (len := 3) (tag := 0) (a := 126) (b := 0) (c := 0) (q := 0) (by decide +kernel)) (if_neg c785) ?_
              refine m_R_sg (by decide) [(.goto 56, 3, 0, 179, 0, 0, 0)] (by decide +kernel) (show m_sgl X _ _ _ _ _ = some (179, [some (.ref 304), some (.int v1), w2, w3, w4, w5, some (.int v6)], [], (SH, q4.2.1, q4.2.2)) from rfl) ?_
              exact ok_m_falls_179 X d F _ (fun a0 a1 a2 a3 a4 a5 m r m' h => ih a0 a1 a2 a3 a4 a5 m r m' h) _ _ _ _ _ _ _ _ _ h
        · refine m_R_1 (by decide) (m_opb_of (ins := .if_icmp .ne 81) (len := 3) (tag := 0) (a := 179) (b := 0) (c := 0) (q := 0) (by decide +kernel)) (if_neg c783) ?_
          exact ok_m_falls_179 X d F _ (fun a0 a1 a2 a3 a4 a5 m r m' h => ih a0 a1 a2 a3 a4 a5 m r m' h) _ _ _ _ _ _ _ _ _ h
def f_m_falls_36 (F : Nat)   (v1 : Int32) (v2 : Int32) (v3 : Int32) (v4 : Int32) (v5 : Int32) (m : mM) : Option (Unit × mM) := (if (v5 + (9 : Int32)) < 0 ∨ 9732 ≤ (v5 + (9 : Int32)).toNatClampNeg then none else (if (v5 + (10 : Int32)) < 0 ∨ 9732 ≤ (v5 + (10 : Int32)).toNatClampNeg then none else (if (v5 + (11 : Int32)) < 0 ∨ 9732 ≤ (v5 + (11 : Int32)).toNatClampNeg then none else f_m_falls_73 F F v1 (0 : Int32) ((m_up (m_up (m_up m.1 305 (v5 + (9 : Int32)).toNatClampNeg v2) 305 (v5 + (10 : Int32)).toNatClampNeg v3) 305 (v5 + (11 : Int32)).toNatClampNeg v4), m.2))))
theorem ok_m_falls_36 (X : mX) (d F : Nat) : ∀ (v1 : Int32) (v2 : Int32) (v3 : Int32) (v4 : Int32) (v5 : Int32) (w6 : Option Value) (m : mM) (r : Unit) (m' : mM), f_m_falls_36 F v1 v2 v3 v4 v5 m = some (r, m') → m_R X (d + 1) 280 36 [some (.ref 304), some (.int v1), some (.int v2), some (.int v3), some (.int v4), some (.int v5), w6] [] (SH, m) (none, (SH, m')) := by
  intro v1 v2 v3 v4 v5 w6 m r m' h
  unfold f_m_falls_36 at h
  refine m_R_sg (by decide) [(.aload_n 0, 1, 0, 0, 0, 0, 0), (.getfield 13, 3, 0, 12, 1, 3, 1493), (.iload 5, 2, 0, 5, 0, 0, 0), (.bipush 9, 2, 0, 9, 0, 0, 0), (.iadd, 1, 0, 0, 0, 0, 0), (.iload_n 2, 1, 0, 2, 0, 0, 0)] (by decide +kernel) (show m_sgl X _ _ _ _ _ = some (46, [some (.ref 304), some (.int v1), some (.int v2), some (.int v3), some (.int v4), some (.int v5), w6], [.int v2, .int (v5 + (9 : Int32)), .ref 305], (SH, m.1, m.2)) from rfl) ?_
  obtain ⟨c789, h⟩ := m_ite_n h
  refine m_R_1 (by decide) (m_opb_of (ins := .iastore) (len := 1) (tag := 0) (a := 0) (b := 0) (c := 0) (q := 0) (by decide +kernel)) (m_s_iast sh_305 c789) ?_
  refine m_R_sg (by decide) [(.aload_n 0, 1, 0, 0, 0, 0, 0), (.getfield 13, 3, 0, 12, 1, 3, 1493), (.iload 5, 2, 0, 5, 0, 0, 0), (.bipush 10, 2, 0, 10, 0, 0, 0), (.iadd, 1, 0, 0, 0, 0, 0), (.iload_n 3, 1, 0, 3, 0, 0, 0)] (by decide +kernel) (show m_sgl X _ _ _ _ _ = some (57, [some (.ref 304), some (.int v1), some (.int v2), some (.int v3), some (.int v4), some (.int v5), w6], [.int v3, .int (v5 + (10 : Int32)), .ref 305], (SH, (m_up m.1 305 (v5 + (9 : Int32)).toNatClampNeg v2), m.2)) from rfl) ?_
  obtain ⟨c790, h⟩ := m_ite_n h
  refine m_R_1 (by decide) (m_opb_of (ins := .iastore) (len := 1) (tag := 0) (a := 0) (b := 0) (c := 0) (q := 0) (by decide +kernel)) (m_s_iast sh_305 c790) ?_
  refine m_R_sg (by decide) [(.aload_n 0, 1, 0, 0, 0, 0, 0), (.getfield 13, 3, 0, 12, 1, 3, 1493), (.iload 5, 2, 0, 5, 0, 0, 0), (.bipush 11, 2, 0, 11, 0, 0, 0), (.iadd, 1, 0, 0, 0, 0, 0), (.iload 4, 2, 0, 4, 0, 0, 0)] (by decide +kernel) (show m_sgl X _ _ _ _ _ = some (69, [some (.ref 304), some (.int v1), some (.int v2), some (.int v3), some (.int v4), some (.int v5), w6], [.int v4, .int (v5 + (11 : Int32)), .ref 305], (SH, (m_up (m_up m.1 305 (v5 + (9 : Int32)).toNatClampNeg v2) 305 (v5 + (10 : Int32)).toNatClampNeg v3), m.2)) from rfl) ?_
  obtain ⟨c791, h⟩ := m_ite_n h
  refine m_R_1 (by decide) (m_opb_of (ins := .iastore) (len := 1) (tag := 0) (a := 0) (b := 0) (c := 0) (q := 0) (by decide +kernel)) (m_s_iast sh_305 c791) ?_
  refine m_R_sg (by decide) [(.iconst 0, 1, 0, 0, 0, 0, 0), (.istore 6, 2, 0, 6, 0, 0, 0)] (by decide +kernel) (show m_sgl X _ _ _ _ _ = some (73, [some (.ref 304), some (.int v1), some (.int v2), some (.int v3), some (.int v4), some (.int v5), some (.int (0 : Int32))], [], (SH, (m_up (m_up (m_up m.1 305 (v5 + (9 : Int32)).toNatClampNeg v2) 305 (v5 + (10 : Int32)).toNatClampNeg v3) 305 (v5 + (11 : Int32)).toNatClampNeg v4), m.2)) from rfl) ?_
  exact ok_m_falls_73 X d F F _ _ _ _ _ _ _ _ _ h
def f_m_falls (F : Nat)   (v1 : Int32) (v2 : Int32) (v3 : Int32) (v4 : Int32) (m : mM) : Option (Unit × mM) := (if (((128 : Int32) + ((12 : Int32) * v1)) + (3 : Int32)) < 0 ∨ 9732 ≤ (((128 : Int32) + ((12 : Int32) * v1)) + (3 : Int32)).toNatClampNeg then none else (if (((128 : Int32) + ((12 : Int32) * v1)) + (8 : Int32)) < 0 ∨ 9732 ≤ (((128 : Int32) + ((12 : Int32) * v1)) + (8 : Int32)).toNatClampNeg then none else f_m_falls_36 F v1 v2 v3 v4 ((128 : Int32) + ((12 : Int32) * v1)) ((m_up (m_up m.1 305 (((128 : Int32) + ((12 : Int32) * v1)) + (3 : Int32)).toNatClampNeg (0 : Int32)) 305 (((128 : Int32) + ((12 : Int32) * v1)) + (8 : Int32)).toNatClampNeg ((m_up m.1 305 (((128 : Int32) + ((12 : Int32) * v1)) + (3 : Int32)).toNatClampNeg (0 : Int32)) 305 (0 : Int32).toNatClampNeg)), m.2)))
theorem ok_m_falls (X : mX) (d F : Nat) : ∀ (v1 : Int32) (v2 : Int32) (v3 : Int32) (v4 : Int32)  (m : mM) (r : Unit) (m' : mM), f_m_falls F v1 v2 v3 v4 m = some (r, m') → m_R X (d + 1) 280 0 [some (.ref 304), some (.int v1), some (.int v2), some (.int v3), some (.int v4), none, none] [] (SH, m) (none, (SH, m')) := by
  intro v1 v2 v3 v4 m r m' h
  unfold f_m_falls at h
  refine m_R_sg (by decide) [(.sipush 128, 3, 0, 128, 0, 0, 0), (.bipush 12, 2, 0, 12, 0, 0, 0), (.iload_n 1, 1, 0, 1, 0, 0, 0), (.imul, 1, 0, 0, 0, 0, 0), (.iadd, 1, 0, 0, 0, 0, 0), (.istore 5, 2, 0, 5, 0, 0, 0), (.aload_n 0, 1, 0, 0, 0, 0, 0), (.getfield 13, 3, 0, 12, 1, 3, 1493), (.iload 5, 2, 0, 5, 0, 0, 0), (.iconst 3, 1, 0, 3, 0, 0, 0), (.iadd, 1, 0, 0, 0, 0, 0), (.iconst 0, 1, 0, 0, 0, 0, 0)] (by decide +kernel) (show m_sgl X _ _ _ _ _ = some (19, [some (.ref 304), some (.int v1), some (.int v2), some (.int v3), some (.int v4), some (.int ((128 : Int32) + ((12 : Int32) * v1))), none], [.int (0 : Int32), .int (((128 : Int32) + ((12 : Int32) * v1)) + (3 : Int32)), .ref 305], (SH, m.1, m.2)) from rfl) ?_
  obtain ⟨c792, h⟩ := m_ite_n h
  refine m_R_1 (by decide) (m_opb_of (ins := .iastore) (len := 1) (tag := 0) (a := 0) (b := 0) (c := 0) (q := 0) (by decide +kernel)) (m_s_iast sh_305 c792) ?_
  refine m_R_sg (by decide) [(.aload_n 0, 1, 0, 0, 0, 0, 0), (.getfield 13, 3, 0, 12, 1, 3, 1493), (.iload 5, 2, 0, 5, 0, 0, 0), (.bipush 8, 2, 0, 8, 0, 0, 0), (.iadd, 1, 0, 0, 0, 0, 0), (.aload_n 0, 1, 0, 0, 0, 0, 0), (.getfield 13, 3, 0, 12, 1, 3, 1493), (.iconst 0, 1, 0, 0, 0, 0, 0)] (by decide +kernel) (show m_sgl X _ _ _ _ _ = some (34, [some (.ref 304), some (.int v1), some (.int v2), some (.int v3), some (.int v4), some (.int ((128 : Int32) + ((12 : Int32) * v1))), none], [.int (0 : Int32), .ref 305, .int (((128 : Int32) + ((12 : Int32) * v1)) + (8 : Int32)), .ref 305], (SH, (m_up m.1 305 (((128 : Int32) + ((12 : Int32) * v1)) + (3 : Int32)).toNatClampNeg (0 : Int32)), m.2)) from rfl) ?_
  refine m_R_1 (by decide) (m_opb_of (ins := .iaload) (len := 1) (tag := 0) (a := 0) (b := 0) (c := 0) (q := 0) (by decide +kernel)) (m_s_iald sh_305 (by decide) (show ¬ ((0 : Int32) < 0 ∨ 9732 ≤ (0 : Int32).toNatClampNeg) by decide)) ?_
  obtain ⟨c793, h⟩ := m_ite_n h
  refine m_R_1 (by decide) (m_opb_of (ins := .iastore) (len := 1) (tag := 0) (a := 0) (b := 0) (c := 0) (q := 0) (by decide +kernel)) (m_s_iast sh_305 c793) ?_
  exact ok_m_falls_36 X d F _ _ _ _ _ _ _ _ _ h
def f_m_asked (F : Nat)   (v1 : Int32) (m : mM) : Option (Int32 × mM) := ((f_m_paper F v1 (3 : Int32) m).bind fun q1 => ((f_m_paper F v1 (4 : Int32) q1.2).bind fun q2 => ((f_m_paper F v1 (2 : Int32) q2.2).bind fun q3 => ((f_m_can F q1.1 q2.1 q3.1 q3.2).bind fun q4 => (if q4.1 = 0 then ((f_m_falls F q1.1 v1 q2.1 (2 : Int32) q4.2).bind fun q5 => some ((0 : Int32), q5.2)) else ((f_m_paper F v1 (2 : Int32) q4.2).bind fun q6 => ((f_m_gives F q1.1 q2.1 q6.1 q6.2).bind fun q7 => (if ((6200 : Int32) + ((20 : Int32) * v1)) < 0 ∨ 9732 ≤ ((6200 : Int32) + ((20 : Int32) * v1)).toNatClampNeg then none else some ((1 : Int32), ((m_up q7.2.1 305 ((6200 : Int32) + ((20 : Int32) * v1)).toNatClampNeg (0 : Int32)), q7.2.2))))))))))
theorem ok_m_asked (X : mX) (d F : Nat) : ∀ (v1 : Int32)  (m : mM) (r : Int32) (m' : mM), f_m_asked F v1 m = some (r, m') → m_R X (d + 72) 279 0 [some (.ref 304), some (.int v1), none, none] [] (SH, m) (some (.int r), (SH, m')) := by
  intro v1 m r m' h
  unfold f_m_asked at h
  refine m_R_sg (by decide) [(.aload_n 0, 1, 0, 0, 0, 0, 0), (.iload_n 1, 1, 0, 1, 0, 0, 0), (.iconst 3, 1, 0, 3, 0, 0, 0)] (by decide +kernel) (show m_sgl X _ _ _ _ _ = some (3, [some (.ref 304), some (.int v1), none, none], [.int (3 : Int32), .int v1, .ref 304], (SH, m.1, m.2)) from rfl) ?_
  obtain ⟨q1, hc1, h⟩ := Option.bind_eq_some_iff.mp h
  refine m_R_cV (v := (some (.int q1.1))) (h1 := (SH, q1.2)) (rest := []) (lo' := [some (.ref 304), some (.int v1), some (.int (3 : Int32))]) (ml := 3) (k0 := 304) (by decide) (Or.inl rfl) (m_opb_of (ins := .invokevirtual 160) (len := 3) (tag := 5) (a := 246) (b := 2) (c := 0) (q := 1791) (by decide +kernel)) (by decide +kernel) rfl (show m_isO 246 304 (SH, _) = true from m_isO_of (by decide +kernel)) (Nat.le_of_ble_eq_true rfl) rfl rfl (ok_m_paper X (d + 71) F _ _ _ _ _ hc1) ?_
  refine m_R_sg (by decide) [(.istore_n 2, 1, 0, 2, 0, 0, 0), (.aload_n 0, 1, 0, 0, 0, 0, 0), (.iload_n 1, 1, 0, 1, 0, 0, 0), (.iconst 4, 1, 0, 4, 0, 0, 0)] (by decide +kernel) (show m_sgl X _ _ _ _ _ = some (10, [some (.ref 304), some (.int v1), some (.int q1.1), none], [.int (4 : Int32), .int v1, .ref 304], (SH, q1.2.1, q1.2.2)) from rfl) ?_
  obtain ⟨q2, hc2, h⟩ := Option.bind_eq_some_iff.mp h
  refine m_R_cV (v := (some (.int q2.1))) (h1 := (SH, q2.2)) (rest := []) (lo' := [some (.ref 304), some (.int v1), some (.int (4 : Int32))]) (ml := 3) (k0 := 304) (by decide) (Or.inl rfl) (m_opb_of (ins := .invokevirtual 160) (len := 3) (tag := 5) (a := 246) (b := 2) (c := 0) (q := 1791) (by decide +kernel)) (by decide +kernel) rfl (show m_isO 246 304 (SH, _) = true from m_isO_of (by decide +kernel)) (Nat.le_of_ble_eq_true rfl) rfl rfl (ok_m_paper X (d + 71) F _ _ _ _ _ hc2) ?_
  refine m_R_sg (by decide) [(.istore_n 3, 1, 0, 3, 0, 0, 0), (.aload_n 0, 1, 0, 0, 0, 0, 0), (.iload_n 2, 1, 0, 2, 0, 0, 0), (.iload_n 3, 1, 0, 3, 0, 0, 0), (.aload_n 0, 1, 0, 0, 0, 0, 0), (.iload_n 1, 1, 0, 1, 0, 0, 0), (.iconst 2, 1, 0, 2, 0, 0, 0)] (by decide +kernel) (show m_sgl X _ _ _ _ _ = some (20, [some (.ref 304), some (.int v1), some (.int q1.1), some (.int q2.1)], [.int (2 : Int32), .int v1, .ref 304, .int q2.1, .int q1.1, .ref 304], (SH, q2.2.1, q2.2.2)) from rfl) ?_
  obtain ⟨q3, hc3, h⟩ := Option.bind_eq_some_iff.mp h
  refine m_R_cV (v := (some (.int q3.1))) (h1 := (SH, q3.2)) (rest := [.int q2.1, .int q1.1, .ref 304]) (lo' := [some (.ref 304), some (.int v1), some (.int (2 : Int32))]) (ml := 3) (k0 := 304) (by decide) (Or.inl rfl) (m_opb_of (ins := .invokevirtual 160) (len := 3) (tag := 5) (a := 246) (b := 2) (c := 0) (q := 1791) (by decide +kernel)) (by decide +kernel) rfl (show m_isO 246 304 (SH, _) = true from m_isO_of (by decide +kernel)) (Nat.le_of_ble_eq_true rfl) rfl rfl (ok_m_paper X (d + 71) F _ _ _ _ _ hc3) ?_
  obtain ⟨q4, hc4, h⟩ := Option.bind_eq_some_iff.mp h
  refine m_R_cV (v := (some (.int q4.1))) (h1 := (SH, q4.2)) (rest := []) (lo' := [some (.ref 304), some (.int q1.1), some (.int q2.1), some (.int q3.1), none, none, none]) (ml := 7) (k0 := 304) (by decide) (Or.inl rfl) (m_opb_of (ins := .invokevirtual 144) (len := 3) (tag := 5) (a := 221) (b := 3) (c := 0) (q := 1669) (by decide +kernel)) (by decide +kernel) rfl (show m_isO 221 304 (SH, _) = true from m_isO_of (by decide +kernel)) (Nat.le_of_ble_eq_true rfl) rfl rfl (ok_m_can X (d + 0) F _ _ _ _ _ _ hc4) ?_
  rcases m_ite h with ⟨c794, h⟩ | ⟨c794, h⟩
  · refine m_R_1 (by decide) (m_opb_of (ins := .ifCond .ne 13) (len := 3) (tag := 0) (a := 39) (b := 0) (c := 0) (q := 0) (by decide +kernel)) (if_pos c794) ?_
    refine m_R_sg (by decide) [(.aload_n 0, 1, 0, 0, 0, 0, 0), (.iload_n 2, 1, 0, 2, 0, 0, 0), (.iload_n 1, 1, 0, 1, 0, 0, 0), (.iload_n 3, 1, 0, 3, 0, 0, 0), (.iconst 2, 1, 0, 2, 0, 0, 0)] (by decide +kernel) (show m_sgl X _ _ _ _ _ = some (34, [some (.ref 304), some (.int v1), some (.int q1.1), some (.int q2.1)], [.int (2 : Int32), .int q2.1, .int v1, .int q1.1, .ref 304], (SH, q4.2.1, q4.2.2)) from rfl) ?_
    obtain ⟨q5, hc5, h⟩ := Option.bind_eq_some_iff.mp h
    refine m_R_cV (v := none) (h1 := (SH, q5.2)) (rest := []) (lo' := [some (.ref 304), some (.int q1.1), some (.int v1), some (.int q2.1), some (.int (2 : Int32)), none, none]) (ml := 7) (k0 := 304) (by decide) (Or.inl rfl) (m_opb_of (ins := .invokevirtual 189) (len := 3) (tag := 5) (a := 280) (b := 4) (c := 0) (q := 1938) (by decide +kernel)) (by decide +kernel) rfl (show m_isO 280 304 (SH, _) = true from m_isO_of (by decide +kernel)) (Nat.le_of_ble_eq_true rfl) rfl rfl (ok_m_falls X (d + 70) F _ _ _ _ _ _ _ hc5) ?_
    refine m_R_sg (by decide) [(.iconst 0, 1, 0, 0, 0, 0, 0)] (by decide +kernel) (show m_sgl X _ _ _ _ _ = some (38, [some (.ref 304), some (.int v1), some (.int q1.1), some (.int q2.1)], [.int (0 : Int32)], (SH, q5.2.1, q5.2.2)) from rfl) ?_
    obtain ⟨rfl, rfl⟩ := m_some h
    exact m_R_iret (by decide) (m_opb_of (ins := .ireturn) (len := 1) (tag := 1) (a := 1) (b := 0) (c := 0) (q := 0) (by decide +kernel)) (Or.inr (Or.inl rfl))
  · refine m_R_1 (by decide) (m_opb_of (ins := .ifCond .ne 13) (len := 3) (tag := 0) (a := 39) (b := 0) (c := 0) (q := 0) (by decide +kernel)) (if_neg c794) ?_
    refine m_R_sg (by decide) [(.aload_n 0, 1, 0, 0, 0, 0, 0), (.iload_n 2, 1, 0, 2, 0, 0, 0), (.iload_n 3, 1, 0, 3, 0, 0, 0), (.aload_n 0, 1, 0, 0, 0, 0, 0), (.iload_n 1, 1, 0, 1, 0, 0, 0), (.iconst 2, 1, 0, 2, 0, 0, 0)] (by decide +kernel) (show m_sgl X _ _ _ _ _ = some (45, [some (.ref 304), some (.int v1), some (.int q1.1), some (.int q2.1)], [.int (2 : Int32), .int v1, .ref 304, .int q2.1, .int q1.1, .ref 304], (SH, q4.2.1, q4.2.2)) from rfl) ?_
    obtain ⟨q6, hc6, h⟩ := Option.bind_eq_some_iff.mp h
    refine m_R_cV (v := (some (.int q6.1))) (h1 := (SH, q6.2)) (rest := [.int q2.1, .int q1.1, .ref 304]) (lo' := [some (.ref 304), some (.int v1), some (.int (2 : Int32))]) (ml := 3) (k0 := 304) (by decide) (Or.inl rfl) (m_opb_of (ins := .invokevirtual 160) (len := 3) (tag := 5) (a := 246) (b := 2) (c := 0) (q := 1791) (by decide +kernel)) (by decide +kernel) rfl (show m_isO 246 304 (SH, _) = true from m_isO_of (by decide +kernel)) (Nat.le_of_ble_eq_true rfl) rfl rfl (ok_m_paper X (d + 71) F _ _ _ _ _ hc6) ?_
    obtain ⟨q7, hc7, h⟩ := Option.bind_eq_some_iff.mp h
    refine m_R_cV (v := none) (h1 := (SH, q7.2)) (rest := []) (lo' := [some (.ref 304), some (.int q1.1), some (.int q2.1), some (.int q6.1), none, none, none]) (ml := 7) (k0 := 304) (by decide) (Or.inl rfl) (m_opb_of (ins := .invokevirtual 147) (len := 3) (tag := 5) (a := 249) (b := 3) (c := 0) (q := 1814) (by decide +kernel)) (by decide +kernel) rfl (show m_isO 249 304 (SH, _) = true from m_isO_of (by decide +kernel)) (Nat.le_of_ble_eq_true rfl) rfl rfl (ok_m_gives X (d + 68) F _ _ _ _ _ _ hc7) ?_
    refine m_R_sg (by decide) [(.aload_n 0, 1, 0, 0, 0, 0, 0), (.getfield 13, 3, 0, 12, 1, 3, 1493), (.sipush 6200, 3, 0, 6200, 0, 0, 0), (.bipush 20, 2, 0, 20, 0, 0, 0), (.iload_n 1, 1, 0, 1, 0, 0, 0), (.imul, 1, 0, 0, 0, 0, 0), (.iadd, 1, 0, 0, 0, 0, 0), (.iconst 0, 1, 0, 0, 0, 0, 0)] (by decide +kernel) (show m_sgl X _ _ _ _ _ = some (64, [some (.ref 304), some (.int v1), some (.int q1.1), some (.int q2.1)], [.int (0 : Int32), .int ((6200 : Int32) + ((20 : Int32) * v1)), .ref 305], (SH, q7.2.1, q7.2.2)) from rfl) ?_
    obtain ⟨c795, h⟩ := m_ite_n h
    refine m_R_1 (by decide) (m_opb_of (ins := .iastore) (len := 1) (tag := 0) (a := 0) (b := 0) (c := 0) (q := 0) (by decide +kernel)) (m_s_iast sh_305 c795) ?_
    refine m_R_sg (by decide) [(.iconst 1, 1, 0, 1, 0, 0, 0)] (by decide +kernel) (show m_sgl X _ _ _ _ _ = some (66, [some (.ref 304), some (.int v1), some (.int q1.1), some (.int q2.1)], [.int (1 : Int32)], (SH, (m_up q7.2.1 305 ((6200 : Int32) + ((20 : Int32) * v1)).toNatClampNeg (0 : Int32)), q7.2.2)) from rfl) ?_
    obtain ⟨rfl, rfl⟩ := m_some h
    exact m_R_iret (by decide) (m_opb_of (ins := .ireturn) (len := 1) (tag := 1) (a := 1) (b := 0) (c := 0) (q := 0) (by decide +kernel)) (Or.inr (Or.inr rfl))
def f_m_ask_55 (F : Nat)    (m : mM) : Option (Int32 × mM) := ((f_m_refuse F (-7 : Int32) m).bind fun q9 => some (q9.1, q9.2))
theorem ok_m_ask_55 (X : mX) (d F : Nat) : ∀  (w1 : Option Value) (m : mM) (r : Int32) (m' : mM), f_m_ask_55 F  m = some (r, m') → m_R X (d + 73) 278 55 [some (.ref 304), w1] [] (SH, m) (some (.int r), (SH, m')) := by
  intro w1 m r m' h
  unfold f_m_ask_55 at h
  refine m_R_sg (by decide) [(.aload_n 0, 1, 0, 0, 0, 0, 0), (.bipush (-7), 2, 0, 7, 1, 0, 0)] (by decide +kernel) (show m_sgl X _ _ _ _ _ = some (58, [some (.ref 304), w1], [.int (-7 : Int32), .ref 304], (SH, m.1, m.2)) from rfl) ?_
  obtain ⟨q9, hc9, h⟩ := Option.bind_eq_some_iff.mp h
  refine m_R_cV (v := (some (.int q9.1))) (h1 := (SH, q9.2)) (rest := []) (lo' := [some (.ref 304), some (.int (-7 : Int32))]) (ml := 2) (k0 := 304) (by decide) (Or.inl rfl) (m_opb_of (ins := .invokevirtual 61) (len := 3) (tag := 5) (a := 202) (b := 1) (c := 0) (q := 1593) (by decide +kernel)) (by decide +kernel) rfl (show m_isO 202 304 (SH, _) = true from m_isO_of (by decide +kernel)) (Nat.le_of_ble_eq_true rfl) rfl rfl (ok_m_refuse X (d + 72) F _ _ _ _ hc9) ?_
  obtain ⟨rfl, rfl⟩ := m_some h
  exact m_R_iret (by decide) (m_opb_of (ins := .ireturn) (len := 1) (tag := 1) (a := 0) (b := 0) (c := 0) (q := 0) (by decide +kernel)) (Or.inl rfl)
def f_m_ask_75 (F : Nat)   (s0 : Int32) (m : mM) : Option (Int32 × mM) := some (s0, m)
theorem ok_m_ask_75 (X : mX) (d F : Nat) : ∀ (s0 : Int32) (w0 : Option Value) (w1 : Option Value) (m : mM) (r : Int32) (m' : mM), f_m_ask_75 F s0 m = some (r, m') → m_R X (d + 73) 278 75 [w0, w1] [.int s0] (SH, m) (some (.int r), (SH, m')) := by
  intro s0 w0 w1 m r m' h
  unfold f_m_ask_75 at h
  obtain ⟨rfl, rfl⟩ := m_some h
  exact m_R_iret (by decide) (m_opb_of (ins := .ireturn) (len := 1) (tag := 1) (a := 0) (b := 0) (c := 0) (q := 0) (by decide +kernel)) (Or.inl rfl)
def f_m_ask (F : Nat)   (v1 : Int32) (m : mM) : Option (Int32 × mM) := ((f_m_isPaper F v1 m).bind fun q1 => (if q1.1 = 0 then ((f_m_refuse F (-3 : Int32) q1.2).bind fun q2 => some (q2.1, q2.2)) else ((f_m_paper F v1 (1 : Int32) q1.2).bind fun q3 => (if q3.1 = (2 : Int32) then ((f_m_paper F v1 (6 : Int32) q3.2).bind fun q4 => (if q4.1 = 0 then ((f_m_paper F v1 (4 : Int32) q4.2).bind fun q5 => ((f_m_isUp F q5.1 q5.2).bind fun q6 => (if q6.1 = 0 then f_m_ask_55 F q6.2 else ((f_m_asked F v1 q6.2).bind fun q7 => (if q7.1 = 0 then f_m_ask_75 F (0 : Int32) q7.2 else f_m_ask_75 F (1 : Int32) q7.2))))) else f_m_ask_55 F q4.2)) else ((f_m_refuse F (-5 : Int32) q3.2).bind fun q8 => some (q8.1, q8.2))))))
theorem ok_m_ask (X : mX) (d F : Nat) : ∀ (v1 : Int32)  (m : mM) (r : Int32) (m' : mM), f_m_ask F v1 m = some (r, m') → m_R X (d + 73) 278 0 [some (.ref 304), some (.int v1)] [] (SH, m) (some (.int r), (SH, m')) := by
  intro v1 m r m' h
  unfold f_m_ask at h
  refine m_R_sg (by decide) [(.aload_n 0, 1, 0, 0, 0, 0, 0), (.iload_n 1, 1, 0, 1, 0, 0, 0)] (by decide +kernel) (show m_sgl X _ _ _ _ _ = some (2, [some (.ref 304), some (.int v1)], [.int v1, .ref 304], (SH, m.1, m.2)) from rfl) ?_
  obtain ⟨q1, hc1, h⟩ := Option.bind_eq_some_iff.mp h
  refine m_R_cV (v := (some (.int q1.1))) (h1 := (SH, q1.2)) (rest := []) (lo' := [some (.ref 304), some (.int v1)]) (ml := 2) (k0 := 304) (by decide) (Or.inl rfl) (m_opb_of (ins := .invokevirtual 173) (len := 3) (tag := 5) (a := 272) (b := 1) (c := 0) (q := 1905) (by decide +kernel)) (by decide +kernel) rfl (show m_isO 272 304 (SH, _) = true from m_isO_of (by decide +kernel)) (Nat.le_of_ble_eq_true rfl) rfl rfl (ok_m_isPaper X (d + 71) F _ _ _ _ hc1) ?_
  rcases m_ite h with ⟨c796, h⟩ | ⟨c796, h⟩
  · refine m_R_1 (by decide) (m_opb_of (ins := .ifCond .ne 10) (len := 3) (tag := 0) (a := 15) (b := 0) (c := 0) (q := 0) (by decide +kernel)) (if_pos c796) ?_
    refine m_R_sg (by decide) [(.aload_n 0, 1, 0, 0, 0, 0, 0), (.bipush (-3), 2, 0, 3, 1, 0, 0)] (by decide +kernel) (show m_sgl X _ _ _ _ _ = some (11, [some (.ref 304), some (.int v1)], [.int (-3 : Int32), .ref 304], (SH, q1.2.1, q1.2.2)) from rfl) ?_
    obtain ⟨q2, hc2, h⟩ := Option.bind_eq_some_iff.mp h
    refine m_R_cV (v := (some (.int q2.1))) (h1 := (SH, q2.2)) (rest := []) (lo' := [some (.ref 304), some (.int (-3 : Int32))]) (ml := 2) (k0 := 304) (by decide) (Or.inl rfl) (m_opb_of (ins := .invokevirtual 61) (len := 3) (tag := 5) (a := 202) (b := 1) (c := 0) (q := 1593) (by decide +kernel)) (by decide +kernel) rfl (show m_isO 202 304 (SH, _) = true from m_isO_of (by decide +kernel)) (Nat.le_of_ble_eq_true rfl) rfl rfl (ok_m_refuse X (d + 72) F _ _ _ _ hc2) ?_
    obtain ⟨rfl, rfl⟩ := m_some h
    exact m_R_iret (by decide) (m_opb_of (ins := .ireturn) (len := 1) (tag := 1) (a := 0) (b := 0) (c := 0) (q := 0) (by decide +kernel)) (Or.inl rfl)
  · refine m_R_1 (by decide) (m_opb_of (ins := .ifCond .ne 10) (len := 3) (tag := 0) (a := 15) (b := 0) (c := 0) (q := 0) (by decide +kernel)) (if_neg c796) ?_
    refine m_R_sg (by decide) [(.aload_n 0, 1, 0, 0, 0, 0, 0), (.iload_n 1, 1, 0, 1, 0, 0, 0), (.iconst 1, 1, 0, 1, 0, 0, 0)] (by decide +kernel) (show m_sgl X _ _ _ _ _ = some (18, [some (.ref 304), some (.int v1)], [.int (1 : Int32), .int v1, .ref 304], (SH, q1.2.1, q1.2.2)) from rfl) ?_
    obtain ⟨q3, hc3, h⟩ := Option.bind_eq_some_iff.mp h
    refine m_R_cV (v := (some (.int q3.1))) (h1 := (SH, q3.2)) (rest := []) (lo' := [some (.ref 304), some (.int v1), some (.int (1 : Int32))]) (ml := 3) (k0 := 304) (by decide) (Or.inl rfl) (m_opb_of (ins := .invokevirtual 160) (len := 3) (tag := 5) (a := 246) (b := 2) (c := 0) (q := 1791) (by decide +kernel)) (by decide +kernel) rfl (show m_isO 246 304 (SH, _) = true from m_isO_of (by decide +kernel)) (Nat.le_of_ble_eq_true rfl) rfl rfl (ok_m_paper X (d + 72) F _ _ _ _ _ hc3) ?_
    refine m_R_sg (by decide) [(.iconst 2, 1, 0, 2, 0, 0, 0)] (by decide +kernel) (show m_sgl X _ _ _ _ _ = some (22, [some (.ref 304), some (.int v1)], [.int (2 : Int32), .int q3.1], (SH, q3.2.1, q3.2.2)) from rfl) ?_
    rcases m_ite h with ⟨c797, h⟩ | ⟨c797, h⟩
    · refine m_R_1 (by decide) (m_opb_of (ins := .if_icmp .eq 10) (len := 3) (tag := 0) (a := 32) (b := 0) (c := 0) (q := 0) (by decide +kernel)) (if_pos c797) ?_
      refine m_R_sg (by decide) [(.aload_n 0, 1, 0, 0, 0, 0, 0), (.iload_n 1, 1, 0, 1, 0, 0, 0), (.bipush 6, 2, 0, 6, 0, 0, 0)] (by decide +kernel) (show m_sgl X _ _ _ _ _ = some (36, [some (.ref 304), some (.int v1)], [.int (6 : Int32), .int v1, .ref 304], (SH, q3.2.1, q3.2.2)) from rfl) ?_
      obtain ⟨q4, hc4, h⟩ := Option.bind_eq_some_iff.mp h
      refine m_R_cV (v := (some (.int q4.1))) (h1 := (SH, q4.2)) (rest := []) (lo' := [some (.ref 304), some (.int v1), some (.int (6 : Int32))]) (ml := 3) (k0 := 304) (by decide) (Or.inl rfl) (m_opb_of (ins := .invokevirtual 160) (len := 3) (tag := 5) (a := 246) (b := 2) (c := 0) (q := 1791) (by decide +kernel)) (by decide +kernel) rfl (show m_isO 246 304 (SH, _) = true from m_isO_of (by decide +kernel)) (Nat.le_of_ble_eq_true rfl) rfl rfl (ok_m_paper X (d + 72) F _ _ _ _ _ hc4) ?_
      rcases m_ite h with ⟨c798, h⟩ | ⟨c798, h⟩
      · refine m_R_1 (by decide) (m_opb_of (ins := .ifCond .ne 16) (len := 3) (tag := 0) (a := 55) (b := 0) (c := 0) (q := 0) (by decide +kernel)) (if_pos c798) ?_
        refine m_R_sg (by decide) [(.aload_n 0, 1, 0, 0, 0, 0, 0), (.aload_n 0, 1, 0, 0, 0, 0, 0), (.iload_n 1, 1, 0, 1, 0, 0, 0), (.iconst 4, 1, 0, 4, 0, 0, 0)] (by decide +kernel) (show m_sgl X _ _ _ _ _ = some (46, [some (.ref 304), some (.int v1)], [.int (4 : Int32), .int v1, .ref 304, .ref 304], (SH, q4.2.1, q4.2.2)) from rfl) ?_
        obtain ⟨q5, hc5, h⟩ := Option.bind_eq_some_iff.mp h
        refine m_R_cV (v := (some (.int q5.1))) (h1 := (SH, q5.2)) (rest := [.ref 304]) (lo' := [some (.ref 304), some (.int v1), some (.int (4 : Int32))]) (ml := 3) (k0 := 304) (by decide) (Or.inl rfl) (m_opb_of (ins := .invokevirtual 160) (len := 3) (tag := 5) (a := 246) (b := 2) (c := 0) (q := 1791) (by decide +kernel)) (by decide +kernel) rfl (show m_isO 246 304 (SH, _) = true from m_isO_of (by decide +kernel)) (Nat.le_of_ble_eq_true rfl) rfl rfl (ok_m_paper X (d + 72) F _ _ _ _ _ hc5) ?_
        obtain ⟨q6, hc6, h⟩ := Option.bind_eq_some_iff.mp h
        refine m_R_cV (v := (some (.int q6.1))) (h1 := (SH, q6.2)) (rest := []) (lo' := [some (.ref 304), some (.int q5.1)]) (ml := 2) (k0 := 304) (by decide) (Or.inl rfl) (m_opb_of (ins := .invokevirtual 80) (len := 3) (tag := 5) (a := 211) (b := 1) (c := 0) (q := 1629) (by decide +kernel)) (by decide +kernel) rfl (show m_isO 211 304 (SH, _) = true from m_isO_of (by decide +kernel)) (Nat.le_of_ble_eq_true rfl) rfl rfl (ok_m_isUp X (d + 71) F _ _ _ _ hc6) ?_
        rcases m_ite h with ⟨c799, h⟩ | ⟨c799, h⟩
        · refine m_R_1 (by decide) (m_opb_of (ins := .ifCond .ne 10) (len := 3) (tag := 0) (a := 62) (b := 0) (c := 0) (q := 0) (by decide +kernel)) (if_pos c799) ?_
          exact ok_m_ask_55 X d F _ _ _ _ h
        · refine m_R_1 (by decide) (m_opb_of (ins := .ifCond .ne 10) (len := 3) (tag := 0) (a := 62) (b := 0) (c := 0) (q := 0) (by decide +kernel)) (if_neg c799) ?_
          refine m_R_sg (by decide) [(.aload_n 0, 1, 0, 0, 0, 0, 0), (.iload_n 1, 1, 0, 1, 0, 0, 0)] (by decide +kernel) (show m_sgl X _ _ _ _ _ = some (64, [some (.ref 304), some (.int v1)], [.int v1, .ref 304], (SH, q6.2.1, q6.2.2)) from rfl) ?_
          obtain ⟨q7, hc7, h⟩ := Option.bind_eq_some_iff.mp h
          refine m_R_cV (v := (some (.int q7.1))) (h1 := (SH, q7.2)) (rest := []) (lo' := [some (.ref 304), some (.int v1), none, none]) (ml := 4) (k0 := 304) (by decide) (Or.inl rfl) (m_opb_of (ins := .invokevirtual 193) (len := 3) (tag := 5) (a := 279) (b := 1) (c := 0) (q := 1934) (by decide +kernel)) (by decide +kernel) rfl (show m_isO 279 304 (SH, _) = true from m_isO_of (by decide +kernel)) (Nat.le_of_ble_eq_true rfl) rfl rfl (ok_m_asked X (d + 0) F _ _ _ _ hc7) ?_
          rcases m_ite h with ⟨c800, h⟩ | ⟨c800, h⟩
          · refine m_R_1 (by decide) (m_opb_of (ins := .ifCond .eq 7) (len := 3) (tag := 0) (a := 74) (b := 0) (c := 0) (q := 0) (by decide +kernel)) (if_pos c800) ?_
            refine m_R_sg (by decide) [(.iconst 0, 1, 0, 0, 0, 0, 0)] (by decide +kernel) (show m_sgl X _ _ _ _ _ = some (75, [some (.ref 304), some (.int v1)], [.int (0 : Int32)], (SH, q7.2.1, q7.2.2)) from rfl) ?_
            exact ok_m_ask_75 X d F _ _ _ _ _ _ h
          · refine m_R_1 (by decide) (m_opb_of (ins := .ifCond .eq 7) (len := 3) (tag := 0) (a := 74) (b := 0) (c := 0) (q := 0) (by decide +kernel)) (if_neg c800) ?_
            refine m_R_sg (by decide) [(.iconst 1, 1, 0, 1, 0, 0, 0), (.goto 4, 3, 0, 75, 0, 0, 0)] (by decide +kernel) (show m_sgl X _ _ _ _ _ = some (75, [some (.ref 304), some (.int v1)], [.int (1 : Int32)], (SH, q7.2.1, q7.2.2)) from rfl) ?_
            exact ok_m_ask_75 X d F _ _ _ _ _ _ h
      · refine m_R_1 (by decide) (m_opb_of (ins := .ifCond .ne 16) (len := 3) (tag := 0) (a := 55) (b := 0) (c := 0) (q := 0) (by decide +kernel)) (if_neg c798) ?_
        exact ok_m_ask_55 X d F _ _ _ _ h
    · refine m_R_1 (by decide) (m_opb_of (ins := .if_icmp .eq 10) (len := 3) (tag := 0) (a := 32) (b := 0) (c := 0) (q := 0) (by decide +kernel)) (if_neg c797) ?_
      refine m_R_sg (by decide) [(.aload_n 0, 1, 0, 0, 0, 0, 0), (.bipush (-5), 2, 0, 5, 1, 0, 0)] (by decide +kernel) (show m_sgl X _ _ _ _ _ = some (28, [some (.ref 304), some (.int v1)], [.int (-5 : Int32), .ref 304], (SH, q3.2.1, q3.2.2)) from rfl) ?_
      obtain ⟨q8, hc8, h⟩ := Option.bind_eq_some_iff.mp h
      refine m_R_cV (v := (some (.int q8.1))) (h1 := (SH, q8.2)) (rest := []) (lo' := [some (.ref 304), some (.int (-5 : Int32))]) (ml := 2) (k0 := 304) (by decide) (Or.inl rfl) (m_opb_of (ins := .invokevirtual 61) (len := 3) (tag := 5) (a := 202) (b := 1) (c := 0) (q := 1593) (by decide +kernel)) (by decide +kernel) rfl (show m_isO 202 304 (SH, _) = true from m_isO_of (by decide +kernel)) (Nat.le_of_ble_eq_true rfl) rfl rfl (ok_m_refuse X (d + 72) F _ _ _ _ hc8) ?_
      obtain ⟨rfl, rfl⟩ := m_some h
      exact m_R_iret (by decide) (m_opb_of (ins := .ireturn) (len := 1) (tag := 1) (a := 0) (b := 0) (c := 0) (q := 0) (by decide +kernel)) (Or.inl rfl)
def f_x_of (F : Nat)   (v1 : Int32) (v2 : Int32) (m : mM) : Option (Int32 × mM) := ((f_Papers_isPaper F v1 m).bind fun q1 => (if q1.1 = 0 then ((f_x_refuse F (-3 : Int32) q1.2).bind fun q2 => some (q2.1, q2.2)) else (if v2 = (0 : Int32) then (if v1 < 0 ∨ 60 ≤ v1.toNatClampNeg then none else some ((q1.2.1 32 v1.toNatClampNeg), q1.2)) else (if v2 = (1 : Int32) then (if v1 < 0 ∨ 60 ≤ v1.toNatClampNeg then none else some ((q1.2.1 33 v1.toNatClampNeg), q1.2)) else (if v2 = (2 : Int32) then (if v1 < 0 ∨ 60 ≤ v1.toNatClampNeg then none else some ((q1.2.1 34 v1.toNatClampNeg), q1.2)) else (if v2 = (3 : Int32) then (if v1 < 0 ∨ 60 ≤ v1.toNatClampNeg then none else some ((q1.2.1 35 v1.toNatClampNeg), q1.2)) else (if v2 = (4 : Int32) then (if v1 < 0 ∨ 60 ≤ v1.toNatClampNeg then none else some ((q1.2.1 36 v1.toNatClampNeg), q1.2)) else (if v2 = (5 : Int32) then (if v1 < 0 ∨ 60 ≤ v1.toNatClampNeg then none else some ((q1.2.1 37 v1.toNatClampNeg), q1.2)) else (if v2 = (6 : Int32) then (if v1 < 0 ∨ 60 ≤ v1.toNatClampNeg then none else some ((q1.2.1 39 v1.toNatClampNeg), q1.2)) else (if v2 = (7 : Int32) then (if v1 < 0 ∨ 60 ≤ v1.toNatClampNeg then none else some ((q1.2.1 40 v1.toNatClampNeg), q1.2)) else (if v2 = (8 : Int32) then (if v1 < 0 ∨ 60 ≤ v1.toNatClampNeg then none else some ((q1.2.1 41 v1.toNatClampNeg), q1.2)) else (if v2 = (9 : Int32) then (if v1 < 0 ∨ 60 ≤ v1.toNatClampNeg then none else some ((q1.2.1 42 v1.toNatClampNeg), q1.2)) else (if v2 = (10 : Int32) then (if v1 < 0 ∨ 60 ≤ v1.toNatClampNeg then none else some ((q1.2.1 43 v1.toNatClampNeg), q1.2)) else ((f_x_refuse F (-7 : Int32) q1.2).bind fun q3 => some (q3.1, q3.2)))))))))))))))
theorem ok_x_of (X : mX) (d F : Nat) : ∀ (v1 : Int32) (v2 : Int32)  (m : mM) (r : Int32) (m' : mM), f_x_of F v1 v2 m = some (r, m') → m_R X (d + 1) 93 0 [some (.ref 0), some (.int v1), some (.int v2), none] [] (SH, m) (some (.int r), (SH, m')) := by
  intro v1 v2 m r m' h
  unfold f_x_of at h
  refine m_R_sg (by decide) [(.aload_n 0, 1, 0, 0, 0, 0, 0), (.getfield 28, 3, 0, 11, 2, 3, 632), (.getfield 146, 3, 0, 10, 2, 3, 510), (.astore_n 3, 1, 0, 3, 0, 0, 0), (.aload_n 3, 1, 0, 3, 0, 0, 0), (.iload_n 1, 1, 0, 1, 0, 0, 0)] (by decide +kernel) (show m_sgl X _ _ _ _ _ = some (10, [some (.ref 0), some (.int v1), some (.int v2), some (.ref 31)], [.int v1, .ref 31], (SH, m.1, m.2)) from rfl) ?_
  obtain ⟨q1, hc1, h⟩ := Option.bind_eq_some_iff.mp h
  refine m_R_cV (v := (some (.int q1.1))) (h1 := (SH, q1.2)) (rest := []) (lo' := [some (.ref 31), some (.int v1)]) (ml := 2) (k0 := 31) (by decide) (Or.inl rfl) (m_opb_of (ins := .invokevirtual 246) (len := 3) (tag := 5) (a := 41) (b := 1) (c := 0) (q := 927) (by decide +kernel)) (by decide +kernel) rfl (show m_isO 41 31 (SH, _) = true from m_isO_of (by decide +kernel)) (Nat.le_of_ble_eq_true rfl) rfl rfl (ok_Papers_isPaper X (d + 0) F _ _ _ _ hc1) ?_
  rcases m_ite h with ⟨c801, h⟩ | ⟨c801, h⟩
  · refine m_R_1 (by decide) (m_opb_of (ins := .ifCond .ne 10) (len := 3) (tag := 0) (a := 23) (b := 0) (c := 0) (q := 0) (by decide +kernel)) (if_pos c801) ?_
    refine m_R_sg (by decide) [(.aload_n 0, 1, 0, 0, 0, 0, 0), (.bipush (-3), 2, 0, 3, 1, 0, 0)] (by decide +kernel) (show m_sgl X _ _ _ _ _ = some (19, [some (.ref 0), some (.int v1), some (.int v2), some (.ref 31)], [.int (-3 : Int32), .ref 0], (SH, q1.2.1, q1.2.2)) from rfl) ?_
    obtain ⟨q2, hc2, h⟩ := Option.bind_eq_some_iff.mp h
    refine m_R_cV (v := (some (.int q2.1))) (h1 := (SH, q2.2)) (rest := []) (lo' := [some (.ref 0), some (.int (-3 : Int32))]) (ml := 2) (k0 := 0) (by decide) (Or.inl rfl) (m_opb_of (ins := .invokevirtual 76) (len := 3) (tag := 5) (a := 14) (b := 1) (c := 0) (q := 671) (by decide +kernel)) (by decide +kernel) rfl (show m_isO 14 0 (SH, _) = true from m_isO_of (by decide +kernel)) (Nat.le_of_ble_eq_true rfl) rfl rfl (ok_x_refuse X (d + 0) F _ _ _ _ hc2) ?_
    obtain ⟨rfl, rfl⟩ := m_some h
    exact m_R_iret (by decide) (m_opb_of (ins := .ireturn) (len := 1) (tag := 1) (a := 0) (b := 0) (c := 0) (q := 0) (by decide +kernel)) (Or.inl rfl)
  · refine m_R_1 (by decide) (m_opb_of (ins := .ifCond .ne 10) (len := 3) (tag := 0) (a := 23) (b := 0) (c := 0) (q := 0) (by decide +kernel)) (if_neg c801) ?_
    refine m_R_sg (by decide) [(.iload_n 2, 1, 0, 2, 0, 0, 0)] (by decide +kernel) (show m_sgl X _ _ _ _ _ = some (24, [some (.ref 0), some (.int v1), some (.int v2), some (.ref 31)], [.int v2], (SH, q1.2.1, q1.2.2)) from rfl) ?_
    rcases m_ite h with ⟨c0, h⟩ | ⟨d0, h⟩
    · refine m_R_1 (by decide) (m_opb_of (ins := .tableswitch 137 0 10 #[60, 67, 74, 81, 88, 95, 102, 109, 116, 123, 130]) (len := 60) (tag := 0) (a := 0) (b := 0) (c := 0) (q := 0) (by decide +kernel)) (m_s_sw (by rw [c0]; decide) (by rw [c0]; rfl) (by decide) (t := 84) rfl) ?_
      refine m_R_sg (by decide) [(.aload_n 3, 1, 0, 3, 0, 0, 0), (.getfield 249, 3, 0, 4, 0, 3, 320), (.iload_n 1, 1, 0, 1, 0, 0, 0)] (by decide +kernel) (show m_sgl X _ _ _ _ _ = some (89, [some (.ref 0), some (.int v1), some (.int v2), some (.ref 31)], [.int v1, .ref 32], (SH, q1.2.1, q1.2.2)) from rfl) ?_
      obtain ⟨c802, h⟩ := m_ite_n h
      refine m_R_1 (by decide) (m_opb_of (ins := .iaload) (len := 1) (tag := 0) (a := 0) (b := 0) (c := 0) (q := 0) (by decide +kernel)) (m_s_iald sh_32 (by decide) c802) ?_
      obtain ⟨rfl, rfl⟩ := m_some h
      exact m_R_iret (by decide) (m_opb_of (ins := .ireturn) (len := 1) (tag := 1) (a := 0) (b := 0) (c := 0) (q := 0) (by decide +kernel)) (Or.inl rfl)
    rcases m_ite h with ⟨c0, h⟩ | ⟨d1, h⟩
    · refine m_R_1 (by decide) (m_opb_of (ins := .tableswitch 137 0 10 #[60, 67, 74, 81, 88, 95, 102, 109, 116, 123, 130]) (len := 60) (tag := 0) (a := 0) (b := 0) (c := 0) (q := 0) (by decide +kernel)) (m_s_sw (by rw [c0]; decide) (by rw [c0]; rfl) (by decide) (t := 91) rfl) ?_
      refine m_R_sg (by decide) [(.aload_n 3, 1, 0, 3, 0, 0, 0), (.getfield 278, 3, 0, 4, 1, 3, 324), (.iload_n 1, 1, 0, 1, 0, 0, 0)] (by decide +kernel) (show m_sgl X _ _ _ _ _ = some (96, [some (.ref 0), some (.int v1), some (.int v2), some (.ref 31)], [.int v1, .ref 33], (SH, q1.2.1, q1.2.2)) from rfl) ?_
      obtain ⟨c803, h⟩ := m_ite_n h
      refine m_R_1 (by decide) (m_opb_of (ins := .iaload) (len := 1) (tag := 0) (a := 0) (b := 0) (c := 0) (q := 0) (by decide +kernel)) (m_s_iald sh_33 (by decide) c803) ?_
      obtain ⟨rfl, rfl⟩ := m_some h
      exact m_R_iret (by decide) (m_opb_of (ins := .ireturn) (len := 1) (tag := 1) (a := 0) (b := 0) (c := 0) (q := 0) (by decide +kernel)) (Or.inl rfl)
    rcases m_ite h with ⟨c0, h⟩ | ⟨d2, h⟩
    · refine m_R_1 (by decide) (m_opb_of (ins := .tableswitch 137 0 10 #[60, 67, 74, 81, 88, 95, 102, 109, 116, 123, 130]) (len := 60) (tag := 0) (a := 0) (b := 0) (c := 0) (q := 0) (by decide +kernel)) (m_s_sw (by rw [c0]; decide) (by rw [c0]; rfl) (by decide) (t := 98) rfl) ?_
      refine m_R_sg (by decide) [(.aload_n 3, 1, 0, 3, 0, 0, 0), (.getfield 281, 3, 0, 4, 2, 3, 328), (.iload_n 1, 1, 0, 1, 0, 0, 0)] (by decide +kernel) (show m_sgl X _ _ _ _ _ = some (103, [some (.ref 0), some (.int v1), some (.int v2), some (.ref 31)], [.int v1, .ref 34], (SH, q1.2.1, q1.2.2)) from rfl) ?_
      obtain ⟨c804, h⟩ := m_ite_n h
      refine m_R_1 (by decide) (m_opb_of (ins := .iaload) (len := 1) (tag := 0) (a := 0) (b := 0) (c := 0) (q := 0) (by decide +kernel)) (m_s_iald sh_34 (by decide) c804) ?_
      obtain ⟨rfl, rfl⟩ := m_some h
      exact m_R_iret (by decide) (m_opb_of (ins := .ireturn) (len := 1) (tag := 1) (a := 0) (b := 0) (c := 0) (q := 0) (by decide +kernel)) (Or.inl rfl)
    rcases m_ite h with ⟨c0, h⟩ | ⟨d3, h⟩
    · refine m_R_1 (by decide) (m_opb_of (ins := .tableswitch 137 0 10 #[60, 67, 74, 81, 88, 95, 102, 109, 116, 123, 130]) (len := 60) (tag := 0) (a := 0) (b := 0) (c := 0) (q := 0) (by decide +kernel)) (m_s_sw (by rw [c0]; decide) (by rw [c0]; rfl) (by decide) (t := 105) rfl) ?_
      refine m_R_sg (by decide) [(.aload_n 3, 1, 0, 3, 0, 0, 0), (.getfield 250, 3, 0, 4, 3, 3, 332), (.iload_n 1, 1, 0, 1, 0, 0, 0)] (by decide +kernel) (show m_sgl X _ _ _ _ _ = some (110, [some (.ref 0), some (.int v1), some (.int v2), some (.ref 31)], [.int v1, .ref 35], (SH, q1.2.1, q1.2.2)) from rfl) ?_
      obtain ⟨c805, h⟩ := m_ite_n h
      refine m_R_1 (by decide) (m_opb_of (ins := .iaload) (len := 1) (tag := 0) (a := 0) (b := 0) (c := 0) (q := 0) (by decide +kernel)) (m_s_iald sh_35 (by decide) c805) ?_
      obtain ⟨rfl, rfl⟩ := m_some h
      exact m_R_iret (by decide) (m_opb_of (ins := .ireturn) (len := 1) (tag := 1) (a := 0) (b := 0) (c := 0) (q := 0) (by decide +kernel)) (Or.inl rfl)
    rcases m_ite h with ⟨c0, h⟩ | ⟨d4, h⟩
    · refine m_R_1 (by decide) (m_opb_of (ins := .tableswitch 137 0 10 #[60, 67, 74, 81, 88, 95, 102, 109, 116, 123, 130]) (len := 60) (tag := 0) (a := 0) (b := 0) (c := 0) (q := 0) (by decide +kernel)) (m_s_sw (by rw [c0]; decide) (by rw [c0]; rfl) (by decide) (t := 112) rfl) ?_
      refine m_R_sg (by decide) [(.aload_n 3, 1, 0, 3, 0, 0, 0), (.getfield 252, 3, 0, 4, 4, 3, 335), (.iload_n 1, 1, 0, 1, 0, 0, 0)] (by decide +kernel) (show m_sgl X _ _ _ _ _ = some (117, [some (.ref 0), some (.int v1), some (.int v2), some (.ref 31)], [.int v1, .ref 36], (SH, q1.2.1, q1.2.2)) from rfl) ?_
      obtain ⟨c806, h⟩ := m_ite_n h
      refine m_R_1 (by decide) (m_opb_of (ins := .iaload) (len := 1) (tag := 0) (a := 0) (b := 0) (c := 0) (q := 0) (by decide +kernel)) (m_s_iald sh_36 (by decide) c806) ?_
      obtain ⟨rfl, rfl⟩ := m_some h
      exact m_R_iret (by decide) (m_opb_of (ins := .ireturn) (len := 1) (tag := 1) (a := 0) (b := 0) (c := 0) (q := 0) (by decide +kernel)) (Or.inl rfl)
    rcases m_ite h with ⟨c0, h⟩ | ⟨d5, h⟩
    · refine m_R_1 (by decide) (m_opb_of (ins := .tableswitch 137 0 10 #[60, 67, 74, 81, 88, 95, 102, 109, 116, 123, 130]) (len := 60) (tag := 0) (a := 0) (b := 0) (c := 0) (q := 0) (by decide +kernel)) (m_s_sw (by rw [c0]; decide) (by rw [c0]; rfl) (by decide) (t := 119) rfl) ?_
      refine m_R_sg (by decide) [(.aload_n 3, 1, 0, 3, 0, 0, 0), (.getfield 251, 3, 0, 4, 5, 3, 338), (.iload_n 1, 1, 0, 1, 0, 0, 0)] (by decide +kernel) (show m_sgl X _ _ _ _ _ = some (124, [some (.ref 0), some (.int v1), some (.int v2), some (.ref 31)], [.int v1, .ref 37], (SH, q1.2.1, q1.2.2)) from rfl) ?_
      obtain ⟨c807, h⟩ := m_ite_n h
      refine m_R_1 (by decide) (m_opb_of (ins := .iaload) (len := 1) (tag := 0) (a := 0) (b := 0) (c := 0) (q := 0) (by decide +kernel)) (m_s_iald sh_37 (by decide) c807) ?_
      obtain ⟨rfl, rfl⟩ := m_some h
      exact m_R_iret (by decide) (m_opb_of (ins := .ireturn) (len := 1) (tag := 1) (a := 0) (b := 0) (c := 0) (q := 0) (by decide +kernel)) (Or.inl rfl)
    rcases m_ite h with ⟨c0, h⟩ | ⟨d6, h⟩
    · refine m_R_1 (by decide) (m_opb_of (ins := .tableswitch 137 0 10 #[60, 67, 74, 81, 88, 95, 102, 109, 116, 123, 130]) (len := 60) (tag := 0) (a := 0) (b := 0) (c := 0) (q := 0) (by decide +kernel)) (m_s_sw (by rw [c0]; decide) (by rw [c0]; rfl) (by decide) (t := 126) rfl) ?_
      refine m_R_sg (by decide) [(.aload_n 3, 1, 0, 3, 0, 0, 0), (.getfield 284, 3, 0, 4, 7, 3, 344), (.iload_n 1, 1, 0, 1, 0, 0, 0)] (by decide +kernel) (show m_sgl X _ _ _ _ _ = some (131, [some (.ref 0), some (.int v1), some (.int v2), some (.ref 31)], [.int v1, .ref 39], (SH, q1.2.1, q1.2.2)) from rfl) ?_
      obtain ⟨c808, h⟩ := m_ite_n h
      refine m_R_1 (by decide) (m_opb_of (ins := .iaload) (len := 1) (tag := 0) (a := 0) (b := 0) (c := 0) (q := 0) (by decide +kernel)) (m_s_iald sh_39 (by decide) c808) ?_
      obtain ⟨rfl, rfl⟩ := m_some h
      exact m_R_iret (by decide) (m_opb_of (ins := .ireturn) (len := 1) (tag := 1) (a := 0) (b := 0) (c := 0) (q := 0) (by decide +kernel)) (Or.inl rfl)
    rcases m_ite h with ⟨c0, h⟩ | ⟨d7, h⟩
    · refine m_R_1 (by decide) (m_opb_of (ins := .tableswitch 137 0 10 #[60, 67, 74, 81, 88, 95, 102, 109, 116, 123, 130]) (len := 60) (tag := 0) (a := 0) (b := 0) (c := 0) (q := 0) (by decide +kernel)) (m_s_sw (by rw [c0]; decide) (by rw [c0]; rfl) (by decide) (t := 133) rfl) ?_
      refine m_R_sg (by decide) [(.aload_n 3, 1, 0, 3, 0, 0, 0), (.getfield 287, 3, 0, 4, 8, 3, 347), (.iload_n 1, 1, 0, 1, 0, 0, 0)] (by decide +kernel) (show m_sgl X _ _ _ _ _ = some (138, [some (.ref 0), some (.int v1), some (.int v2), some (.ref 31)], [.int v1, .ref 40], (SH, q1.2.1, q1.2.2)) from rfl) ?_
      obtain ⟨c809, h⟩ := m_ite_n h
      refine m_R_1 (by decide) (m_opb_of (ins := .iaload) (len := 1) (tag := 0) (a := 0) (b := 0) (c := 0) (q := 0) (by decide +kernel)) (m_s_iald sh_40 (by decide) c809) ?_
      obtain ⟨rfl, rfl⟩ := m_some h
      exact m_R_iret (by decide) (m_opb_of (ins := .ireturn) (len := 1) (tag := 1) (a := 0) (b := 0) (c := 0) (q := 0) (by decide +kernel)) (Or.inl rfl)
    rcases m_ite h with ⟨c0, h⟩ | ⟨d8, h⟩
    · refine m_R_1 (by decide) (m_opb_of (ins := .tableswitch 137 0 10 #[60, 67, 74, 81, 88, 95, 102, 109, 116, 123, 130]) (len := 60) (tag := 0) (a := 0) (b := 0) (c := 0) (q := 0) (by decide +kernel)) (m_s_sw (by rw [c0]; decide) (by rw [c0]; rfl) (by decide) (t := 140) rfl) ?_
      refine m_R_sg (by decide) [(.aload_n 3, 1, 0, 3, 0, 0, 0), (.getfield 290, 3, 0, 4, 9, 3, 350), (.iload_n 1, 1, 0, 1, 0, 0, 0)] (by decide +kernel) (show m_sgl X _ _ _ _ _ = some (145, [some (.ref 0), some (.int v1), some (.int v2), some (.ref 31)], [.int v1, .ref 41], (SH, q1.2.1, q1.2.2)) from rfl) ?_
      obtain ⟨c810, h⟩ := m_ite_n h
      refine m_R_1 (by decide) (m_opb_of (ins := .iaload) (len := 1) (tag := 0) (a := 0) (b := 0) (c := 0) (q := 0) (by decide +kernel)) (m_s_iald sh_41 (by decide) c810) ?_
      obtain ⟨rfl, rfl⟩ := m_some h
      exact m_R_iret (by decide) (m_opb_of (ins := .ireturn) (len := 1) (tag := 1) (a := 0) (b := 0) (c := 0) (q := 0) (by decide +kernel)) (Or.inl rfl)
    rcases m_ite h with ⟨c0, h⟩ | ⟨d9, h⟩
    · refine m_R_1 (by decide) (m_opb_of (ins := .tableswitch 137 0 10 #[60, 67, 74, 81, 88, 95, 102, 109, 116, 123, 130]) (len := 60) (tag := 0) (a := 0) (b := 0) (c := 0) (q := 0) (by decide +kernel)) (m_s_sw (by rw [c0]; decide) (by rw [c0]; rfl) (by decide) (t := 147) rfl) ?_
      refine m_R_sg (by decide) [(.aload_n 3, 1, 0, 3, 0, 0, 0), (.getfield 293, 3, 0, 4, 10, 3, 353), (.iload_n 1, 1, 0, 1, 0, 0, 0)] (by decide +kernel) (show m_sgl X _ _ _ _ _ = some (152, [some (.ref 0), some (.int v1), some (.int v2), some (.ref 31)], [.int v1, .ref 42], (SH, q1.2.1, q1.2.2)) from rfl) ?_
      obtain ⟨c811, h⟩ := m_ite_n h
      refine m_R_1 (by decide) (m_opb_of (ins := .iaload) (len := 1) (tag := 0) (a := 0) (b := 0) (c := 0) (q := 0) (by decide +kernel)) (m_s_iald sh_42 (by decide) c811) ?_
      obtain ⟨rfl, rfl⟩ := m_some h
      exact m_R_iret (by decide) (m_opb_of (ins := .ireturn) (len := 1) (tag := 1) (a := 0) (b := 0) (c := 0) (q := 0) (by decide +kernel)) (Or.inl rfl)
    rcases m_ite h with ⟨c0, h⟩ | ⟨d10, h⟩
    · refine m_R_1 (by decide) (m_opb_of (ins := .tableswitch 137 0 10 #[60, 67, 74, 81, 88, 95, 102, 109, 116, 123, 130]) (len := 60) (tag := 0) (a := 0) (b := 0) (c := 0) (q := 0) (by decide +kernel)) (m_s_sw (by rw [c0]; decide) (by rw [c0]; rfl) (by decide) (t := 154) rfl) ?_
      refine m_R_sg (by decide) [(.aload_n 3, 1, 0, 3, 0, 0, 0), (.getfield 296, 3, 0, 4, 11, 3, 356), (.iload_n 1, 1, 0, 1, 0, 0, 0)] (by decide +kernel) (show m_sgl X _ _ _ _ _ = some (159, [some (.ref 0), some (.int v1), some (.int v2), some (.ref 31)], [.int v1, .ref 43], (SH, q1.2.1, q1.2.2)) from rfl) ?_
      obtain ⟨c812, h⟩ := m_ite_n h
      refine m_R_1 (by decide) (m_opb_of (ins := .iaload) (len := 1) (tag := 0) (a := 0) (b := 0) (c := 0) (q := 0) (by decide +kernel)) (m_s_iald sh_43 (by decide) c812) ?_
      obtain ⟨rfl, rfl⟩ := m_some h
      exact m_R_iret (by decide) (m_opb_of (ins := .ireturn) (len := 1) (tag := 1) (a := 0) (b := 0) (c := 0) (q := 0) (by decide +kernel)) (Or.inl rfl)
    refine m_R_1 (by decide) (m_opb_of (ins := .tableswitch 137 0 10 #[60, 67, 74, 81, 88, 95, 102, 109, 116, 123, 130]) (len := 60) (tag := 0) (a := 0) (b := 0) (c := 0) (q := 0) (by decide +kernel)) (m_s_swd (m_swx 11 (fun j hj => match j, hj with | 0, _ => fun e => d0 (e.trans (by decide)) | 1, _ => fun e => d1 (e.trans (by decide)) | 2, _ => fun e => d2 (e.trans (by decide)) | 3, _ => fun e => d3 (e.trans (by decide)) | 4, _ => fun e => d4 (e.trans (by decide)) | 5, _ => fun e => d5 (e.trans (by decide)) | 6, _ => fun e => d6 (e.trans (by decide)) | 7, _ => fun e => d7 (e.trans (by decide)) | 8, _ => fun e => d8 (e.trans (by decide)) | 9, _ => fun e => d9 (e.trans (by decide)) | 10, _ => fun e => d10 (e.trans (by decide)) | j + 11, hj => absurd hj (by omega))) (by decide) (t := 161) rfl) ?_
    refine m_R_sg (by decide) [(.aload_n 0, 1, 0, 0, 0, 0, 0), (.bipush (-7), 2, 0, 7, 1, 0, 0)] (by decide +kernel) (show m_sgl X _ _ _ _ _ = some (164, [some (.ref 0), some (.int v1), some (.int v2), some (.ref 31)], [.int (-7 : Int32), .ref 0], (SH, q1.2.1, q1.2.2)) from rfl) ?_
    obtain ⟨q3, hc3, h⟩ := Option.bind_eq_some_iff.mp h
    refine m_R_cV (v := (some (.int q3.1))) (h1 := (SH, q3.2)) (rest := []) (lo' := [some (.ref 0), some (.int (-7 : Int32))]) (ml := 2) (k0 := 0) (by decide) (Or.inl rfl) (m_opb_of (ins := .invokevirtual 76) (len := 3) (tag := 5) (a := 14) (b := 1) (c := 0) (q := 671) (by decide +kernel)) (by decide +kernel) rfl (show m_isO 14 0 (SH, _) = true from m_isO_of (by decide +kernel)) (Nat.le_of_ble_eq_true rfl) rfl rfl (ok_x_refuse X (d + 0) F _ _ _ _ hc3) ?_
    obtain ⟨rfl, rfl⟩ := m_some h
    exact m_R_iret (by decide) (m_opb_of (ins := .ireturn) (len := 1) (tag := 1) (a := 0) (b := 0) (c := 0) (q := 0) (by decide +kernel)) (Or.inl rfl)
def f_m_of (F : Nat)   (v1 : Int32) (v2 : Int32) (m : mM) : Option (Int32 × mM) := ((f_m_isPaper F v1 m).bind fun q1 => (if q1.1 = 0 then ((f_m_refuse F (-3 : Int32) q1.2).bind fun q2 => some (q2.1, q2.2)) else (if v2 = (0 : Int32) then ((f_m_paper F v1 (1 : Int32) q1.2).bind fun q3 => some (q3.1, q3.2)) else (if v2 = (1 : Int32) then ((f_m_paper F v1 (2 : Int32) q1.2).bind fun q4 => some (q4.1, q4.2)) else (if v2 = (2 : Int32) then ((f_m_paper F v1 (3 : Int32) q1.2).bind fun q5 => some (q5.1, q5.2)) else (if v2 = (3 : Int32) then ((f_m_paper F v1 (4 : Int32) q1.2).bind fun q6 => some (q6.1, q6.2)) else (if v2 = (4 : Int32) then ((f_m_paper F v1 (5 : Int32) q1.2).bind fun q7 => some (q7.1, q7.2)) else (if v2 = (5 : Int32) then ((f_m_paper F v1 (6 : Int32) q1.2).bind fun q8 => some (q8.1, q8.2)) else (if v2 = (6 : Int32) then ((f_m_paper F v1 (7 : Int32) q1.2).bind fun q9 => some (q9.1, q9.2)) else (if v2 = (7 : Int32) then ((f_m_paper F v1 (14 : Int32) q1.2).bind fun q10 => some (q10.1, q10.2)) else (if v2 = (8 : Int32) then ((f_m_paper F v1 (15 : Int32) q1.2).bind fun q11 => some (q11.1, q11.2)) else (if v2 = (9 : Int32) then ((f_m_paper F v1 (17 : Int32) q1.2).bind fun q12 => some (q12.1, q12.2)) else (if v2 = (10 : Int32) then ((f_m_paper F v1 (18 : Int32) q1.2).bind fun q13 => some (q13.1, q13.2)) else ((f_m_refuse F (-7 : Int32) q1.2).bind fun q14 => some (q14.1, q14.2)))))))))))))))
theorem ok_m_of (X : mX) (d F : Nat) : ∀ (v1 : Int32) (v2 : Int32)  (m : mM) (r : Int32) (m' : mM), f_m_of F v1 v2 m = some (r, m') → m_R X (d + 2) 324 0 [some (.ref 304), some (.int v1), some (.int v2)] [] (SH, m) (some (.int r), (SH, m')) := by
  intro v1 v2 m r m' h
  unfold f_m_of at h
  refine m_R_sg (by decide) [(.aload_n 0, 1, 0, 0, 0, 0, 0), (.iload_n 1, 1, 0, 1, 0, 0, 0)] (by decide +kernel) (show m_sgl X _ _ _ _ _ = some (2, [some (.ref 304), some (.int v1), some (.int v2)], [.int v1, .ref 304], (SH, m.1, m.2)) from rfl) ?_
  obtain ⟨q1, hc1, h⟩ := Option.bind_eq_some_iff.mp h
  refine m_R_cV (v := (some (.int q1.1))) (h1 := (SH, q1.2)) (rest := []) (lo' := [some (.ref 304), some (.int v1)]) (ml := 2) (k0 := 304) (by decide) (Or.inl rfl) (m_opb_of (ins := .invokevirtual 173) (len := 3) (tag := 5) (a := 272) (b := 1) (c := 0) (q := 1905) (by decide +kernel)) (by decide +kernel) rfl (show m_isO 272 304 (SH, _) = true from m_isO_of (by decide +kernel)) (Nat.le_of_ble_eq_true rfl) rfl rfl (ok_m_isPaper X (d + 0) F _ _ _ _ hc1) ?_
  rcases m_ite h with ⟨c813, h⟩ | ⟨c813, h⟩
  · refine m_R_1 (by decide) (m_opb_of (ins := .ifCond .ne 10) (len := 3) (tag := 0) (a := 15) (b := 0) (c := 0) (q := 0) (by decide +kernel)) (if_pos c813) ?_
    refine m_R_sg (by decide) [(.aload_n 0, 1, 0, 0, 0, 0, 0), (.bipush (-3), 2, 0, 3, 1, 0, 0)] (by decide +kernel) (show m_sgl X _ _ _ _ _ = some (11, [some (.ref 304), some (.int v1), some (.int v2)], [.int (-3 : Int32), .ref 304], (SH, q1.2.1, q1.2.2)) from rfl) ?_
    obtain ⟨q2, hc2, h⟩ := Option.bind_eq_some_iff.mp h
    refine m_R_cV (v := (some (.int q2.1))) (h1 := (SH, q2.2)) (rest := []) (lo' := [some (.ref 304), some (.int (-3 : Int32))]) (ml := 2) (k0 := 304) (by decide) (Or.inl rfl) (m_opb_of (ins := .invokevirtual 61) (len := 3) (tag := 5) (a := 202) (b := 1) (c := 0) (q := 1593) (by decide +kernel)) (by decide +kernel) rfl (show m_isO 202 304 (SH, _) = true from m_isO_of (by decide +kernel)) (Nat.le_of_ble_eq_true rfl) rfl rfl (ok_m_refuse X (d + 1) F _ _ _ _ hc2) ?_
    obtain ⟨rfl, rfl⟩ := m_some h
    exact m_R_iret (by decide) (m_opb_of (ins := .ireturn) (len := 1) (tag := 1) (a := 0) (b := 0) (c := 0) (q := 0) (by decide +kernel)) (Or.inl rfl)
  · refine m_R_1 (by decide) (m_opb_of (ins := .ifCond .ne 10) (len := 3) (tag := 0) (a := 15) (b := 0) (c := 0) (q := 0) (by decide +kernel)) (if_neg c813) ?_
    refine m_R_sg (by decide) [(.iload_n 2, 1, 0, 2, 0, 0, 0)] (by decide +kernel) (show m_sgl X _ _ _ _ _ = some (16, [some (.ref 304), some (.int v1), some (.int v2)], [.int v2], (SH, q1.2.1, q1.2.2)) from rfl) ?_
    rcases m_ite h with ⟨c0, h⟩ | ⟨d0, h⟩
    · refine m_R_1 (by decide) (m_opb_of (ins := .tableswitch 143 0 10 #[60, 67, 74, 81, 88, 95, 103, 111, 119, 127, 135]) (len := 60) (tag := 0) (a := 0) (b := 0) (c := 0) (q := 0) (by decide +kernel)) (m_s_sw (by rw [c0]; decide) (by rw [c0]; rfl) (by decide) (t := 76) rfl) ?_
      refine m_R_sg (by decide) [(.aload_n 0, 1, 0, 0, 0, 0, 0), (.iload_n 1, 1, 0, 1, 0, 0, 0), (.iconst 1, 1, 0, 1, 0, 0, 0)] (by decide +kernel) (show m_sgl X _ _ _ _ _ = some (79, [some (.ref 304), some (.int v1), some (.int v2)], [.int (1 : Int32), .int v1, .ref 304], (SH, q1.2.1, q1.2.2)) from rfl) ?_
      obtain ⟨q3, hc3, h⟩ := Option.bind_eq_some_iff.mp h
      refine m_R_cV (v := (some (.int q3.1))) (h1 := (SH, q3.2)) (rest := []) (lo' := [some (.ref 304), some (.int v1), some (.int (1 : Int32))]) (ml := 3) (k0 := 304) (by decide) (Or.inl rfl) (m_opb_of (ins := .invokevirtual 160) (len := 3) (tag := 5) (a := 246) (b := 2) (c := 0) (q := 1791) (by decide +kernel)) (by decide +kernel) rfl (show m_isO 246 304 (SH, _) = true from m_isO_of (by decide +kernel)) (Nat.le_of_ble_eq_true rfl) rfl rfl (ok_m_paper X (d + 1) F _ _ _ _ _ hc3) ?_
      obtain ⟨rfl, rfl⟩ := m_some h
      exact m_R_iret (by decide) (m_opb_of (ins := .ireturn) (len := 1) (tag := 1) (a := 0) (b := 0) (c := 0) (q := 0) (by decide +kernel)) (Or.inl rfl)
    rcases m_ite h with ⟨c0, h⟩ | ⟨d1, h⟩
    · refine m_R_1 (by decide) (m_opb_of (ins := .tableswitch 143 0 10 #[60, 67, 74, 81, 88, 95, 103, 111, 119, 127, 135]) (len := 60) (tag := 0) (a := 0) (b := 0) (c := 0) (q := 0) (by decide +kernel)) (m_s_sw (by rw [c0]; decide) (by rw [c0]; rfl) (by decide) (t := 83) rfl) ?_
      refine m_R_sg (by decide) [(.aload_n 0, 1, 0, 0, 0, 0, 0), (.iload_n 1, 1, 0, 1, 0, 0, 0), (.iconst 2, 1, 0, 2, 0, 0, 0)] (by decide +kernel) (show m_sgl X _ _ _ _ _ = some (86, [some (.ref 304), some (.int v1), some (.int v2)], [.int (2 : Int32), .int v1, .ref 304], (SH, q1.2.1, q1.2.2)) from rfl) ?_
      obtain ⟨q4, hc4, h⟩ := Option.bind_eq_some_iff.mp h
      refine m_R_cV (v := (some (.int q4.1))) (h1 := (SH, q4.2)) (rest := []) (lo' := [some (.ref 304), some (.int v1), some (.int (2 : Int32))]) (ml := 3) (k0 := 304) (by decide) (Or.inl rfl) (m_opb_of (ins := .invokevirtual 160) (len := 3) (tag := 5) (a := 246) (b := 2) (c := 0) (q := 1791) (by decide +kernel)) (by decide +kernel) rfl (show m_isO 246 304 (SH, _) = true from m_isO_of (by decide +kernel)) (Nat.le_of_ble_eq_true rfl) rfl rfl (ok_m_paper X (d + 1) F _ _ _ _ _ hc4) ?_
      obtain ⟨rfl, rfl⟩ := m_some h
      exact m_R_iret (by decide) (m_opb_of (ins := .ireturn) (len := 1) (tag := 1) (a := 0) (b := 0) (c := 0) (q := 0) (by decide +kernel)) (Or.inl rfl)
    rcases m_ite h with ⟨c0, h⟩ | ⟨d2, h⟩
    · refine m_R_1 (by decide) (m_opb_of (ins := .tableswitch 143 0 10 #[60, 67, 74, 81, 88, 95, 103, 111, 119, 127, 135]) (len := 60) (tag := 0) (a := 0) (b := 0) (c := 0) (q := 0) (by decide +kernel)) (m_s_sw (by rw [c0]; decide) (by rw [c0]; rfl) (by decide) (t := 90) rfl) ?_
      refine m_R_sg (by decide) [(.aload_n 0, 1, 0, 0, 0, 0, 0), (.iload_n 1, 1, 0, 1, 0, 0, 0), (.iconst 3, 1, 0, 3, 0, 0, 0)] (by decide +kernel) (show m_sgl X _ _ _ _ _ = some (93, [some (.ref 304), some (.int v1), some (.int v2)], [.int (3 : Int32), .int v1, .ref 304], (SH, q1.2.1, q1.2.2)) from rfl) ?_
      obtain ⟨q5, hc5, h⟩ := Option.bind_eq_some_iff.mp h
      refine m_R_cV (v := (some (.int q5.1))) (h1 := (SH, q5.2)) (rest := []) (lo' := [some (.ref 304), some (.int v1), some (.int (3 : Int32))]) (ml := 3) (k0 := 304) (by decide) (Or.inl rfl) (m_opb_of (ins := .invokevirtual 160) (len := 3) (tag := 5) (a := 246) (b := 2) (c := 0) (q := 1791) (by decide +kernel)) (by decide +kernel) rfl (show m_isO 246 304 (SH, _) = true from m_isO_of (by decide +kernel)) (Nat.le_of_ble_eq_true rfl) rfl rfl (ok_m_paper X (d + 1) F _ _ _ _ _ hc5) ?_
      obtain ⟨rfl, rfl⟩ := m_some h
      exact m_R_iret (by decide) (m_opb_of (ins := .ireturn) (len := 1) (tag := 1) (a := 0) (b := 0) (c := 0) (q := 0) (by decide +kernel)) (Or.inl rfl)
    rcases m_ite h with ⟨c0, h⟩ | ⟨d3, h⟩
    · refine m_R_1 (by decide) (m_opb_of (ins := .tableswitch 143 0 10 #[60, 67, 74, 81, 88, 95, 103, 111, 119, 127, 135]) (len := 60) (tag := 0) (a := 0) (b := 0) (c := 0) (q := 0) (by decide +kernel)) (m_s_sw (by rw [c0]; decide) (by rw [c0]; rfl) (by decide) (t := 97) rfl) ?_
      refine m_R_sg (by decide) [(.aload_n 0, 1, 0, 0, 0, 0, 0), (.iload_n 1, 1, 0, 1, 0, 0, 0), (.iconst 4, 1, 0, 4, 0, 0, 0)] (by decide +kernel) (show m_sgl X _ _ _ _ _ = some (100, [some (.ref 304), some (.int v1), some (.int v2)], [.int (4 : Int32), .int v1, .ref 304], (SH, q1.2.1, q1.2.2)) from rfl) ?_
      obtain ⟨q6, hc6, h⟩ := Option.bind_eq_some_iff.mp h
      refine m_R_cV (v := (some (.int q6.1))) (h1 := (SH, q6.2)) (rest := []) (lo' := [some (.ref 304), some (.int v1), some (.int (4 : Int32))]) (ml := 3) (k0 := 304) (by decide) (Or.inl rfl) (m_opb_of (ins := .invokevirtual 160) (len := 3) (tag := 5) (a := 246) (b := 2) (c := 0) (q := 1791) (by decide +kernel)) (by decide +kernel) rfl (show m_isO 246 304 (SH, _) = true from m_isO_of (by decide +kernel)) (Nat.le_of_ble_eq_true rfl) rfl rfl (ok_m_paper X (d + 1) F _ _ _ _ _ hc6) ?_
      obtain ⟨rfl, rfl⟩ := m_some h
      exact m_R_iret (by decide) (m_opb_of (ins := .ireturn) (len := 1) (tag := 1) (a := 0) (b := 0) (c := 0) (q := 0) (by decide +kernel)) (Or.inl rfl)
    rcases m_ite h with ⟨c0, h⟩ | ⟨d4, h⟩
    · refine m_R_1 (by decide) (m_opb_of (ins := .tableswitch 143 0 10 #[60, 67, 74, 81, 88, 95, 103, 111, 119, 127, 135]) (len := 60) (tag := 0) (a := 0) (b := 0) (c := 0) (q := 0) (by decide +kernel)) (m_s_sw (by rw [c0]; decide) (by rw [c0]; rfl) (by decide) (t := 104) rfl) ?_
      refine m_R_sg (by decide) [(.aload_n 0, 1, 0, 0, 0, 0, 0), (.iload_n 1, 1, 0, 1, 0, 0, 0), (.iconst 5, 1, 0, 5, 0, 0, 0)] (by decide +kernel) (show m_sgl X _ _ _ _ _ = some (107, [some (.ref 304), some (.int v1), some (.int v2)], [.int (5 : Int32), .int v1, .ref 304], (SH, q1.2.1, q1.2.2)) from rfl) ?_
      obtain ⟨q7, hc7, h⟩ := Option.bind_eq_some_iff.mp h
      refine m_R_cV (v := (some (.int q7.1))) (h1 := (SH, q7.2)) (rest := []) (lo' := [some (.ref 304), some (.int v1), some (.int (5 : Int32))]) (ml := 3) (k0 := 304) (by decide) (Or.inl rfl) (m_opb_of (ins := .invokevirtual 160) (len := 3) (tag := 5) (a := 246) (b := 2) (c := 0) (q := 1791) (by decide +kernel)) (by decide +kernel) rfl (show m_isO 246 304 (SH, _) = true from m_isO_of (by decide +kernel)) (Nat.le_of_ble_eq_true rfl) rfl rfl (ok_m_paper X (d + 1) F _ _ _ _ _ hc7) ?_
      obtain ⟨rfl, rfl⟩ := m_some h
      exact m_R_iret (by decide) (m_opb_of (ins := .ireturn) (len := 1) (tag := 1) (a := 0) (b := 0) (c := 0) (q := 0) (by decide +kernel)) (Or.inl rfl)
    rcases m_ite h with ⟨c0, h⟩ | ⟨d5, h⟩
    · refine m_R_1 (by decide) (m_opb_of (ins := .tableswitch 143 0 10 #[60, 67, 74, 81, 88, 95, 103, 111, 119, 127, 135]) (len := 60) (tag := 0) (a := 0) (b := 0) (c := 0) (q := 0) (by decide +kernel)) (m_s_sw (by rw [c0]; decide) (by rw [c0]; rfl) (by decide) (t := 111) rfl) ?_
      refine m_R_sg (by decide) [(.aload_n 0, 1, 0, 0, 0, 0, 0), (.iload_n 1, 1, 0, 1, 0, 0, 0), (.bipush 6, 2, 0, 6, 0, 0, 0)] (by decide +kernel) (show m_sgl X _ _ _ _ _ = some (115, [some (.ref 304), some (.int v1), some (.int v2)], [.int (6 : Int32), .int v1, .ref 304], (SH, q1.2.1, q1.2.2)) from rfl) ?_
      obtain ⟨q8, hc8, h⟩ := Option.bind_eq_some_iff.mp h
      refine m_R_cV (v := (some (.int q8.1))) (h1 := (SH, q8.2)) (rest := []) (lo' := [some (.ref 304), some (.int v1), some (.int (6 : Int32))]) (ml := 3) (k0 := 304) (by decide) (Or.inl rfl) (m_opb_of (ins := .invokevirtual 160) (len := 3) (tag := 5) (a := 246) (b := 2) (c := 0) (q := 1791) (by decide +kernel)) (by decide +kernel) rfl (show m_isO 246 304 (SH, _) = true from m_isO_of (by decide +kernel)) (Nat.le_of_ble_eq_true rfl) rfl rfl (ok_m_paper X (d + 1) F _ _ _ _ _ hc8) ?_
      obtain ⟨rfl, rfl⟩ := m_some h
      exact m_R_iret (by decide) (m_opb_of (ins := .ireturn) (len := 1) (tag := 1) (a := 0) (b := 0) (c := 0) (q := 0) (by decide +kernel)) (Or.inl rfl)
    rcases m_ite h with ⟨c0, h⟩ | ⟨d6, h⟩
    · refine m_R_1 (by decide) (m_opb_of (ins := .tableswitch 143 0 10 #[60, 67, 74, 81, 88, 95, 103, 111, 119, 127, 135]) (len := 60) (tag := 0) (a := 0) (b := 0) (c := 0) (q := 0) (by decide +kernel)) (m_s_sw (by rw [c0]; decide) (by rw [c0]; rfl) (by decide) (t := 119) rfl) ?_
      refine m_R_sg (by decide) [(.aload_n 0, 1, 0, 0, 0, 0, 0), (.iload_n 1, 1, 0, 1, 0, 0, 0), (.bipush 7, 2, 0, 7, 0, 0, 0)] (by decide +kernel) (show m_sgl X _ _ _ _ _ = some (123, [some (.ref 304), some (.int v1), some (.int v2)], [.int (7 : Int32), .int v1, .ref 304], (SH, q1.2.1, q1.2.2)) from rfl) ?_
      obtain ⟨q9, hc9, h⟩ := Option.bind_eq_some_iff.mp h
      refine m_R_cV (v := (some (.int q9.1))) (h1 := (SH, q9.2)) (rest := []) (lo' := [some (.ref 304), some (.int v1), some (.int (7 : Int32))]) (ml := 3) (k0 := 304) (by decide) (Or.inl rfl) (m_opb_of (ins := .invokevirtual 160) (len := 3) (tag := 5) (a := 246) (b := 2) (c := 0) (q := 1791) (by decide +kernel)) (by decide +kernel) rfl (show m_isO 246 304 (SH, _) = true from m_isO_of (by decide +kernel)) (Nat.le_of_ble_eq_true rfl) rfl rfl (ok_m_paper X (d + 1) F _ _ _ _ _ hc9) ?_
      obtain ⟨rfl, rfl⟩ := m_some h
      exact m_R_iret (by decide) (m_opb_of (ins := .ireturn) (len := 1) (tag := 1) (a := 0) (b := 0) (c := 0) (q := 0) (by decide +kernel)) (Or.inl rfl)
    rcases m_ite h with ⟨c0, h⟩ | ⟨d7, h⟩
    · refine m_R_1 (by decide) (m_opb_of (ins := .tableswitch 143 0 10 #[60, 67, 74, 81, 88, 95, 103, 111, 119, 127, 135]) (len := 60) (tag := 0) (a := 0) (b := 0) (c := 0) (q := 0) (by decide +kernel)) (m_s_sw (by rw [c0]; decide) (by rw [c0]; rfl) (by decide) (t := 127) rfl) ?_
      refine m_R_sg (by decide) [(.aload_n 0, 1, 0, 0, 0, 0, 0), (.iload_n 1, 1, 0, 1, 0, 0, 0), (.bipush 14, 2, 0, 14, 0, 0, 0)] (by decide +kernel) (show m_sgl X _ _ _ _ _ = some (131, [some (.ref 304), some (.int v1), some (.int v2)], [.int (14 : Int32), .int v1, .ref 304], (SH, q1.2.1, q1.2.2)) from rfl) ?_
      obtain ⟨q10, hc10, h⟩ := Option.bind_eq_some_iff.mp h
      refine m_R_cV (v := (some (.int q10.1))) (h1 := (SH, q10.2)) (rest := []) (lo' := [some (.ref 304), some (.int v1), some (.int (14 : Int32))]) (ml := 3) (k0 := 304) (by decide) (Or.inl rfl) (m_opb_of (ins := .invokevirtual 160) (len := 3) (tag := 5) (a := 246) (b := 2) (c := 0) (q := 1791) (by decide +kernel)) (by decide +kernel) rfl (show m_isO 246 304 (SH, _) = true from m_isO_of (by decide +kernel)) (Nat.le_of_ble_eq_true rfl) rfl rfl (ok_m_paper X (d + 1) F _ _ _ _ _ hc10) ?_
      obtain ⟨rfl, rfl⟩ := m_some h
      exact m_R_iret (by decide) (m_opb_of (ins := .ireturn) (len := 1) (tag := 1) (a := 0) (b := 0) (c := 0) (q := 0) (by decide +kernel)) (Or.inl rfl)
    rcases m_ite h with ⟨c0, h⟩ | ⟨d8, h⟩
    · refine m_R_1 (by decide) (m_opb_of (ins := .tableswitch 143 0 10 #[60, 67, 74, 81, 88, 95, 103, 111, 119, 127, 135]) (len := 60) (tag := 0) (a := 0) (b := 0) (c := 0) (q := 0) (by decide +kernel)) (m_s_sw (by rw [c0]; decide) (by rw [c0]; rfl) (by decide) (t := 135) rfl) ?_
      refine m_R_sg (by decide) [(.aload_n 0, 1, 0, 0, 0, 0, 0), (.iload_n 1, 1, 0, 1, 0, 0, 0), (.bipush 15, 2, 0, 15, 0, 0, 0)] (by decide +kernel) (show m_sgl X _ _ _ _ _ = some (139, [some (.ref 304), some (.int v1), some (.int v2)], [.int (15 : Int32), .int v1, .ref 304], (SH, q1.2.1, q1.2.2)) from rfl) ?_
      obtain ⟨q11, hc11, h⟩ := Option.bind_eq_some_iff.mp h
      refine m_R_cV (v := (some (.int q11.1))) (h1 := (SH, q11.2)) (rest := []) (lo' := [some (.ref 304), some (.int v1), some (.int (15 : Int32))]) (ml := 3) (k0 := 304) (by decide) (Or.inl rfl) (m_opb_of (ins := .invokevirtual 160) (len := 3) (tag := 5) (a := 246) (b := 2) (c := 0) (q := 1791) (by decide +kernel)) (by decide +kernel) rfl (show m_isO 246 304 (SH, _) = true from m_isO_of (by decide +kernel)) (Nat.le_of_ble_eq_true rfl) rfl rfl (ok_m_paper X (d + 1) F _ _ _ _ _ hc11) ?_
      obtain ⟨rfl, rfl⟩ := m_some h
      exact m_R_iret (by decide) (m_opb_of (ins := .ireturn) (len := 1) (tag := 1) (a := 0) (b := 0) (c := 0) (q := 0) (by decide +kernel)) (Or.inl rfl)
    rcases m_ite h with ⟨c0, h⟩ | ⟨d9, h⟩
    · refine m_R_1 (by decide) (m_opb_of (ins := .tableswitch 143 0 10 #[60, 67, 74, 81, 88, 95, 103, 111, 119, 127, 135]) (len := 60) (tag := 0) (a := 0) (b := 0) (c := 0) (q := 0) (by decide +kernel)) (m_s_sw (by rw [c0]; decide) (by rw [c0]; rfl) (by decide) (t := 143) rfl) ?_
      refine m_R_sg (by decide) [(.aload_n 0, 1, 0, 0, 0, 0, 0), (.iload_n 1, 1, 0, 1, 0, 0, 0), (.bipush 17, 2, 0, 17, 0, 0, 0)] (by decide +kernel) (show m_sgl X _ _ _ _ _ = some (147, [some (.ref 304), some (.int v1), some (.int v2)], [.int (17 : Int32), .int v1, .ref 304], (SH, q1.2.1, q1.2.2)) from rfl) ?_
      obtain ⟨q12, hc12, h⟩ := Option.bind_eq_some_iff.mp h
      refine m_R_cV (v := (some (.int q12.1))) (h1 := (SH, q12.2)) (rest := []) (lo' := [some (.ref 304), some (.int v1), some (.int (17 : Int32))]) (ml := 3) (k0 := 304) (by decide) (Or.inl rfl) (m_opb_of (ins := .invokevirtual 160) (len := 3) (tag := 5) (a := 246) (b := 2) (c := 0) (q := 1791) (by decide +kernel)) (by decide +kernel) rfl (show m_isO 246 304 (SH, _) = true from m_isO_of (by decide +kernel)) (Nat.le_of_ble_eq_true rfl) rfl rfl (ok_m_paper X (d + 1) F _ _ _ _ _ hc12) ?_
      obtain ⟨rfl, rfl⟩ := m_some h
      exact m_R_iret (by decide) (m_opb_of (ins := .ireturn) (len := 1) (tag := 1) (a := 0) (b := 0) (c := 0) (q := 0) (by decide +kernel)) (Or.inl rfl)
    rcases m_ite h with ⟨c0, h⟩ | ⟨d10, h⟩
    · refine m_R_1 (by decide) (m_opb_of (ins := .tableswitch 143 0 10 #[60, 67, 74, 81, 88, 95, 103, 111, 119, 127, 135]) (len := 60) (tag := 0) (a := 0) (b := 0) (c := 0) (q := 0) (by decide +kernel)) (m_s_sw (by rw [c0]; decide) (by rw [c0]; rfl) (by decide) (t := 151) rfl) ?_
      refine m_R_sg (by decide) [(.aload_n 0, 1, 0, 0, 0, 0, 0), (.iload_n 1, 1, 0, 1, 0, 0, 0), (.bipush 18, 2, 0, 18, 0, 0, 0)] (by decide +kernel) (show m_sgl X _ _ _ _ _ = some (155, [some (.ref 304), some (.int v1), some (.int v2)], [.int (18 : Int32), .int v1, .ref 304], (SH, q1.2.1, q1.2.2)) from rfl) ?_
      obtain ⟨q13, hc13, h⟩ := Option.bind_eq_some_iff.mp h
      refine m_R_cV (v := (some (.int q13.1))) (h1 := (SH, q13.2)) (rest := []) (lo' := [some (.ref 304), some (.int v1), some (.int (18 : Int32))]) (ml := 3) (k0 := 304) (by decide) (Or.inl rfl) (m_opb_of (ins := .invokevirtual 160) (len := 3) (tag := 5) (a := 246) (b := 2) (c := 0) (q := 1791) (by decide +kernel)) (by decide +kernel) rfl (show m_isO 246 304 (SH, _) = true from m_isO_of (by decide +kernel)) (Nat.le_of_ble_eq_true rfl) rfl rfl (ok_m_paper X (d + 1) F _ _ _ _ _ hc13) ?_
      obtain ⟨rfl, rfl⟩ := m_some h
      exact m_R_iret (by decide) (m_opb_of (ins := .ireturn) (len := 1) (tag := 1) (a := 0) (b := 0) (c := 0) (q := 0) (by decide +kernel)) (Or.inl rfl)
    refine m_R_1 (by decide) (m_opb_of (ins := .tableswitch 143 0 10 #[60, 67, 74, 81, 88, 95, 103, 111, 119, 127, 135]) (len := 60) (tag := 0) (a := 0) (b := 0) (c := 0) (q := 0) (by decide +kernel)) (m_s_swd (m_swx 11 (fun j hj => match j, hj with | 0, _ => fun e => d0 (e.trans (by decide)) | 1, _ => fun e => d1 (e.trans (by decide)) | 2, _ => fun e => d2 (e.trans (by decide)) | 3, _ => fun e => d3 (e.trans (by decide)) | 4, _ => fun e => d4 (e.trans (by decide)) | 5, _ => fun e => d5 (e.trans (by decide)) | 6, _ => fun e => d6 (e.trans (by decide)) | 7, _ => fun e => d7 (e.trans (by decide)) | 8, _ => fun e => d8 (e.trans (by decide)) | 9, _ => fun e => d9 (e.trans (by decide)) | 10, _ => fun e => d10 (e.trans (by decide)) | j + 11, hj => absurd hj (by omega))) (by decide) (t := 159) rfl) ?_
    refine m_R_sg (by decide) [(.aload_n 0, 1, 0, 0, 0, 0, 0), (.bipush (-7), 2, 0, 7, 1, 0, 0)] (by decide +kernel) (show m_sgl X _ _ _ _ _ = some (162, [some (.ref 304), some (.int v1), some (.int v2)], [.int (-7 : Int32), .ref 304], (SH, q1.2.1, q1.2.2)) from rfl) ?_
    obtain ⟨q14, hc14, h⟩ := Option.bind_eq_some_iff.mp h
    refine m_R_cV (v := (some (.int q14.1))) (h1 := (SH, q14.2)) (rest := []) (lo' := [some (.ref 304), some (.int (-7 : Int32))]) (ml := 2) (k0 := 304) (by decide) (Or.inl rfl) (m_opb_of (ins := .invokevirtual 61) (len := 3) (tag := 5) (a := 202) (b := 1) (c := 0) (q := 1593) (by decide +kernel)) (by decide +kernel) rfl (show m_isO 202 304 (SH, _) = true from m_isO_of (by decide +kernel)) (Nat.le_of_ble_eq_true rfl) rfl rfl (ok_m_refuse X (d + 1) F _ _ _ _ hc14) ?_
    obtain ⟨rfl, rfl⟩ := m_some h
    exact m_R_iret (by decide) (m_opb_of (ins := .ireturn) (len := 1) (tag := 1) (a := 0) (b := 0) (c := 0) (q := 0) (by decide +kernel)) (Or.inl rfl)
def f_x_name_54 (F : Nat)    (m : mM) : Option (Int32 × mM) := ((f_x_refuse F (-3 : Int32) m).bind fun q4 => some (q4.1, q4.2))
theorem ok_x_name_54 (X : mX) (d F : Nat) : ∀  (w1 : Option Value) (w2 : Option Value) (w3 : Option Value) (m : mM) (r : Int32) (m' : mM), f_x_name_54 F  m = some (r, m') → m_R X (d + 1) 94 54 [some (.ref 0), w1, w2, w3] [] (SH, m) (some (.int r), (SH, m')) := by
  intro w1 w2 w3 m r m' h
  unfold f_x_name_54 at h
  refine m_R_sg (by decide) [(.aload_n 0, 1, 0, 0, 0, 0, 0), (.bipush (-3), 2, 0, 3, 1, 0, 0)] (by decide +kernel) (show m_sgl X _ _ _ _ _ = some (57, [some (.ref 0), w1, w2, w3], [.int (-3 : Int32), .ref 0], (SH, m.1, m.2)) from rfl) ?_
  obtain ⟨q4, hc4, h⟩ := Option.bind_eq_some_iff.mp h
  refine m_R_cV (v := (some (.int q4.1))) (h1 := (SH, q4.2)) (rest := []) (lo' := [some (.ref 0), some (.int (-3 : Int32))]) (ml := 2) (k0 := 0) (by decide) (Or.inl rfl) (m_opb_of (ins := .invokevirtual 76) (len := 3) (tag := 5) (a := 14) (b := 1) (c := 0) (q := 671) (by decide +kernel)) (by decide +kernel) rfl (show m_isO 14 0 (SH, _) = true from m_isO_of (by decide +kernel)) (Nat.le_of_ble_eq_true rfl) rfl rfl (ok_x_refuse X (d + 0) F _ _ _ _ hc4) ?_
  obtain ⟨rfl, rfl⟩ := m_some h
  exact m_R_iret (by decide) (m_opb_of (ins := .ireturn) (len := 1) (tag := 1) (a := 0) (b := 0) (c := 0) (q := 0) (by decide +kernel)) (Or.inl rfl)
def f_x_name (F : Nat)   (v1 : Int32) (v2 : Int32) (m : mM) : Option (Int32 × mM) := ((f_Papers_isPaper F v1 m).bind fun q1 => (if q1.1 = 0 then ((f_x_refuse F (-3 : Int32) q1.2).bind fun q2 => some (q2.1, q2.2)) else (if v1 < 0 ∨ 60 ≤ v1.toNatClampNeg then none else (if (q1.2.1 32 v1.toNatClampNeg) = (1 : Int32) then (if v2 < 0 then f_x_name_54 F q1.2 else (if v2 < (q1.2.1 39 v1.toNatClampNeg) then (if ((v1 * (6 : Int32)) + v2) < 0 ∨ 360 ≤ ((v1 * (6 : Int32)) + v2).toNatClampNeg then none else some ((q1.2.1 38 ((v1 * (6 : Int32)) + v2).toNatClampNeg), q1.2)) else f_x_name_54 F q1.2)) else ((f_x_refuse F (-5 : Int32) q1.2).bind fun q3 => some (q3.1, q3.2))))))
theorem ok_x_name (X : mX) (d F : Nat) : ∀ (v1 : Int32) (v2 : Int32)  (m : mM) (r : Int32) (m' : mM), f_x_name F v1 v2 m = some (r, m') → m_R X (d + 1) 94 0 [some (.ref 0), some (.int v1), some (.int v2), none] [] (SH, m) (some (.int r), (SH, m')) := by
  intro v1 v2 m r m' h
  unfold f_x_name at h
  refine m_R_sg (by decide) [(.aload_n 0, 1, 0, 0, 0, 0, 0), (.getfield 28, 3, 0, 11, 2, 3, 632), (.getfield 146, 3, 0, 10, 2, 3, 510), (.astore_n 3, 1, 0, 3, 0, 0, 0), (.aload_n 3, 1, 0, 3, 0, 0, 0), (.iload_n 1, 1, 0, 1, 0, 0, 0)] (by decide +kernel) (show m_sgl X _ _ _ _ _ = some (10, [some (.ref 0), some (.int v1), some (.int v2), some (.ref 31)], [.int v1, .ref 31], (SH, m.1, m.2)) from rfl) ?_
  obtain ⟨q1, hc1, h⟩ := Option.bind_eq_some_iff.mp h
  refine m_R_cV (v := (some (.int q1.1))) (h1 := (SH, q1.2)) (rest := []) (lo' := [some (.ref 31), some (.int v1)]) (ml := 2) (k0 := 31) (by decide) (Or.inl rfl) (m_opb_of (ins := .invokevirtual 246) (len := 3) (tag := 5) (a := 41) (b := 1) (c := 0) (q := 927) (by decide +kernel)) (by decide +kernel) rfl (show m_isO 41 31 (SH, _) = true from m_isO_of (by decide +kernel)) (Nat.le_of_ble_eq_true rfl) rfl rfl (ok_Papers_isPaper X (d + 0) F _ _ _ _ hc1) ?_
  rcases m_ite h with ⟨c814, h⟩ | ⟨c814, h⟩
  · refine m_R_1 (by decide) (m_opb_of (ins := .ifCond .ne 10) (len := 3) (tag := 0) (a := 23) (b := 0) (c := 0) (q := 0) (by decide +kernel)) (if_pos c814) ?_
    refine m_R_sg (by decide) [(.aload_n 0, 1, 0, 0, 0, 0, 0), (.bipush (-3), 2, 0, 3, 1, 0, 0)] (by decide +kernel) (show m_sgl X _ _ _ _ _ = some (19, [some (.ref 0), some (.int v1), some (.int v2), some (.ref 31)], [.int (-3 : Int32), .ref 0], (SH, q1.2.1, q1.2.2)) from rfl) ?_
    obtain ⟨q2, hc2, h⟩ := Option.bind_eq_some_iff.mp h
    refine m_R_cV (v := (some (.int q2.1))) (h1 := (SH, q2.2)) (rest := []) (lo' := [some (.ref 0), some (.int (-3 : Int32))]) (ml := 2) (k0 := 0) (by decide) (Or.inl rfl) (m_opb_of (ins := .invokevirtual 76) (len := 3) (tag := 5) (a := 14) (b := 1) (c := 0) (q := 671) (by decide +kernel)) (by decide +kernel) rfl (show m_isO 14 0 (SH, _) = true from m_isO_of (by decide +kernel)) (Nat.le_of_ble_eq_true rfl) rfl rfl (ok_x_refuse X (d + 0) F _ _ _ _ hc2) ?_
    obtain ⟨rfl, rfl⟩ := m_some h
    exact m_R_iret (by decide) (m_opb_of (ins := .ireturn) (len := 1) (tag := 1) (a := 0) (b := 0) (c := 0) (q := 0) (by decide +kernel)) (Or.inl rfl)
  · refine m_R_1 (by decide) (m_opb_of (ins := .ifCond .ne 10) (len := 3) (tag := 0) (a := 23) (b := 0) (c := 0) (q := 0) (by decide +kernel)) (if_neg c814) ?_
    refine m_R_sg (by decide) [(.aload_n 3, 1, 0, 3, 0, 0, 0), (.getfield 249, 3, 0, 4, 0, 3, 320), (.iload_n 1, 1, 0, 1, 0, 0, 0)] (by decide +kernel) (show m_sgl X _ _ _ _ _ = some (28, [some (.ref 0), some (.int v1), some (.int v2), some (.ref 31)], [.int v1, .ref 32], (SH, q1.2.1, q1.2.2)) from rfl) ?_
    obtain ⟨c815, h⟩ := m_ite_n h
    refine m_R_1 (by decide) (m_opb_of (ins := .iaload) (len := 1) (tag := 0) (a := 0) (b := 0) (c := 0) (q := 0) (by decide +kernel)) (m_s_iald sh_32 (by decide) c815) ?_
    refine m_R_sg (by decide) [(.iconst 1, 1, 0, 1, 0, 0, 0)] (by decide +kernel) (show m_sgl X _ _ _ _ _ = some (30, [some (.ref 0), some (.int v1), some (.int v2), some (.ref 31)], [.int (1 : Int32), .int (q1.2.1 32 v1.toNatClampNeg)], (SH, q1.2.1, q1.2.2)) from rfl) ?_
    rcases m_ite h with ⟨c816, h⟩ | ⟨c816, h⟩
    · refine m_R_1 (by decide) (m_opb_of (ins := .if_icmp .eq 10) (len := 3) (tag := 0) (a := 40) (b := 0) (c := 0) (q := 0) (by decide +kernel)) (if_pos c816) ?_
      refine m_R_sg (by decide) [(.iload_n 2, 1, 0, 2, 0, 0, 0)] (by decide +kernel) (show m_sgl X _ _ _ _ _ = some (41, [some (.ref 0), some (.int v1), some (.int v2), some (.ref 31)], [.int v2], (SH, q1.2.1, q1.2.2)) from rfl) ?_
      rcases m_ite h with ⟨c817, h⟩ | ⟨c817, h⟩
      · refine m_R_1 (by decide) (m_opb_of (ins := .ifCond .lt 13) (len := 3) (tag := 0) (a := 54) (b := 0) (c := 0) (q := 0) (by decide +kernel)) (if_pos c817) ?_
        exact ok_x_name_54 X d F _ _ _ _ _ _ h
      · refine m_R_1 (by decide) (m_opb_of (ins := .ifCond .lt 13) (len := 3) (tag := 0) (a := 54) (b := 0) (c := 0) (q := 0) (by decide +kernel)) (if_neg c817) ?_
        refine m_R_sg (by decide) [(.iload_n 2, 1, 0, 2, 0, 0, 0), (.aload_n 3, 1, 0, 3, 0, 0, 0), (.getfield 284, 3, 0, 4, 7, 3, 344), (.iload_n 1, 1, 0, 1, 0, 0, 0)] (by decide +kernel) (show m_sgl X _ _ _ _ _ = some (50, [some (.ref 0), some (.int v1), some (.int v2), some (.ref 31)], [.int v1, .ref 39, .int v2], (SH, q1.2.1, q1.2.2)) from rfl) ?_
        refine m_R_1 (by decide) (m_opb_of (ins := .iaload) (len := 1) (tag := 0) (a := 0) (b := 0) (c := 0) (q := 0) (by decide +kernel)) (m_s_iald sh_39 (by decide) c815) ?_
        rcases m_ite h with ⟨c818, h⟩ | ⟨c818, h⟩
        · refine m_R_1 (by decide) (m_opb_of (ins := .if_icmp .lt 10) (len := 3) (tag := 0) (a := 61) (b := 0) (c := 0) (q := 0) (by decide +kernel)) (if_pos c818) ?_
          refine m_R_sg (by decide) [(.aload_n 3, 1, 0, 3, 0, 0, 0), (.getfield 299, 3, 0, 4, 6, 3, 341), (.iload_n 1, 1, 0, 1, 0, 0, 0), (.bipush 6, 2, 0, 6, 0, 0, 0), (.imul, 1, 0, 0, 0, 0, 0), (.iload_n 2, 1, 0, 2, 0, 0, 0), (.iadd, 1, 0, 0, 0, 0, 0)] (by decide +kernel) (show m_sgl X _ _ _ _ _ = some (71, [some (.ref 0), some (.int v1), some (.int v2), some (.ref 31)], [.int ((v1 * (6 : Int32)) + v2), .ref 38], (SH, q1.2.1, q1.2.2)) from rfl) ?_
          obtain ⟨c819, h⟩ := m_ite_n h
          refine m_R_1 (by decide) (m_opb_of (ins := .iaload) (len := 1) (tag := 0) (a := 0) (b := 0) (c := 0) (q := 0) (by decide +kernel)) (m_s_iald sh_38 (by decide) c819) ?_
          obtain ⟨rfl, rfl⟩ := m_some h
          exact m_R_iret (by decide) (m_opb_of (ins := .ireturn) (len := 1) (tag := 1) (a := 0) (b := 0) (c := 0) (q := 0) (by decide +kernel)) (Or.inl rfl)
        · refine m_R_1 (by decide) (m_opb_of (ins := .if_icmp .lt 10) (len := 3) (tag := 0) (a := 61) (b := 0) (c := 0) (q := 0) (by decide +kernel)) (if_neg c818) ?_
          exact ok_x_name_54 X d F _ _ _ _ _ _ h
    · refine m_R_1 (by decide) (m_opb_of (ins := .if_icmp .eq 10) (len := 3) (tag := 0) (a := 40) (b := 0) (c := 0) (q := 0) (by decide +kernel)) (if_neg c816) ?_
      refine m_R_sg (by decide) [(.aload_n 0, 1, 0, 0, 0, 0, 0), (.bipush (-5), 2, 0, 5, 1, 0, 0)] (by decide +kernel) (show m_sgl X _ _ _ _ _ = some (36, [some (.ref 0), some (.int v1), some (.int v2), some (.ref 31)], [.int (-5 : Int32), .ref 0], (SH, q1.2.1, q1.2.2)) from rfl) ?_
      obtain ⟨q3, hc3, h⟩ := Option.bind_eq_some_iff.mp h
      refine m_R_cV (v := (some (.int q3.1))) (h1 := (SH, q3.2)) (rest := []) (lo' := [some (.ref 0), some (.int (-5 : Int32))]) (ml := 2) (k0 := 0) (by decide) (Or.inl rfl) (m_opb_of (ins := .invokevirtual 76) (len := 3) (tag := 5) (a := 14) (b := 1) (c := 0) (q := 671) (by decide +kernel)) (by decide +kernel) rfl (show m_isO 14 0 (SH, _) = true from m_isO_of (by decide +kernel)) (Nat.le_of_ble_eq_true rfl) rfl rfl (ok_x_refuse X (d + 0) F _ _ _ _ hc3) ?_
      obtain ⟨rfl, rfl⟩ := m_some h
      exact m_R_iret (by decide) (m_opb_of (ins := .ireturn) (len := 1) (tag := 1) (a := 0) (b := 0) (c := 0) (q := 0) (by decide +kernel)) (Or.inl rfl)
def f_m_name_II_67 (F : Nat)   (s0 : Int32) (m : mM) : Option (Int32 × mM) := some (s0, m)
theorem ok_m_name_II_67 (X : mX) (d F : Nat) : ∀ (s0 : Int32) (w0 : Option Value) (w1 : Option Value) (w2 : Option Value) (m : mM) (r : Int32) (m' : mM), f_m_name_II_67 F s0 m = some (r, m') → m_R X (d + 2) 281 67 [w0, w1, w2] [.int s0] (SH, m) (some (.int r), (SH, m')) := by
  intro s0 w0 w1 w2 m r m' h
  unfold f_m_name_II_67 at h
  obtain ⟨rfl, rfl⟩ := m_some h
  exact m_R_iret (by decide) (m_opb_of (ins := .ireturn) (len := 1) (tag := 1) (a := 0) (b := 0) (c := 0) (q := 0) (by decide +kernel)) (Or.inl rfl)
def f_m_name_II (F : Nat)   (v1 : Int32) (v2 : Int32) (m : mM) : Option (Int32 × mM) := ((f_m_isPaper F v1 m).bind fun q1 => (if q1.1 = 0 then ((f_m_refuse F (-3 : Int32) q1.2).bind fun q2 => some (q2.1, q2.2)) else ((f_m_paper F v1 (1 : Int32) q1.2).bind fun q3 => (if q3.1 = (1 : Int32) then ((f_m_paper F v1 (7 : Int32) q3.2).bind fun q4 => ((f_m_in F v2 (0 : Int32) (q4.1 - (1 : Int32)) q4.2).bind fun q5 => (if q5.1 = 0 then ((f_m_refuse F (-3 : Int32) q5.2).bind fun q6 => f_m_name_II_67 F q6.1 q6.2) else ((f_m_paper F v1 ((8 : Int32) + v2) q5.2).bind fun q7 => f_m_name_II_67 F q7.1 q7.2)))) else ((f_m_refuse F (-5 : Int32) q3.2).bind fun q8 => some (q8.1, q8.2))))))
theorem ok_m_name_II (X : mX) (d F : Nat) : ∀ (v1 : Int32) (v2 : Int32)  (m : mM) (r : Int32) (m' : mM), f_m_name_II F v1 v2 m = some (r, m') → m_R X (d + 2) 281 0 [some (.ref 304), some (.int v1), some (.int v2)] [] (SH, m) (some (.int r), (SH, m')) := by
  intro v1 v2 m r m' h
  unfold f_m_name_II at h
  refine m_R_sg (by decide) [(.aload_n 0, 1, 0, 0, 0, 0, 0), (.iload_n 1, 1, 0, 1, 0, 0, 0)] (by decide +kernel) (show m_sgl X _ _ _ _ _ = some (2, [some (.ref 304), some (.int v1), some (.int v2)], [.int v1, .ref 304], (SH, m.1, m.2)) from rfl) ?_
  obtain ⟨q1, hc1, h⟩ := Option.bind_eq_some_iff.mp h
  refine m_R_cV (v := (some (.int q1.1))) (h1 := (SH, q1.2)) (rest := []) (lo' := [some (.ref 304), some (.int v1)]) (ml := 2) (k0 := 304) (by decide) (Or.inl rfl) (m_opb_of (ins := .invokevirtual 173) (len := 3) (tag := 5) (a := 272) (b := 1) (c := 0) (q := 1905) (by decide +kernel)) (by decide +kernel) rfl (show m_isO 272 304 (SH, _) = true from m_isO_of (by decide +kernel)) (Nat.le_of_ble_eq_true rfl) rfl rfl (ok_m_isPaper X (d + 0) F _ _ _ _ hc1) ?_
  rcases m_ite h with ⟨c820, h⟩ | ⟨c820, h⟩
  · refine m_R_1 (by decide) (m_opb_of (ins := .ifCond .ne 10) (len := 3) (tag := 0) (a := 15) (b := 0) (c := 0) (q := 0) (by decide +kernel)) (if_pos c820) ?_
    refine m_R_sg (by decide) [(.aload_n 0, 1, 0, 0, 0, 0, 0), (.bipush (-3), 2, 0, 3, 1, 0, 0)] (by decide +kernel) (show m_sgl X _ _ _ _ _ = some (11, [some (.ref 304), some (.int v1), some (.int v2)], [.int (-3 : Int32), .ref 304], (SH, q1.2.1, q1.2.2)) from rfl) ?_
    obtain ⟨q2, hc2, h⟩ := Option.bind_eq_some_iff.mp h
    refine m_R_cV (v := (some (.int q2.1))) (h1 := (SH, q2.2)) (rest := []) (lo' := [some (.ref 304), some (.int (-3 : Int32))]) (ml := 2) (k0 := 304) (by decide) (Or.inl rfl) (m_opb_of (ins := .invokevirtual 61) (len := 3) (tag := 5) (a := 202) (b := 1) (c := 0) (q := 1593) (by decide +kernel)) (by decide +kernel) rfl (show m_isO 202 304 (SH, _) = true from m_isO_of (by decide +kernel)) (Nat.le_of_ble_eq_true rfl) rfl rfl (ok_m_refuse X (d + 1) F _ _ _ _ hc2) ?_
    obtain ⟨rfl, rfl⟩ := m_some h
    exact m_R_iret (by decide) (m_opb_of (ins := .ireturn) (len := 1) (tag := 1) (a := 0) (b := 0) (c := 0) (q := 0) (by decide +kernel)) (Or.inl rfl)
  · refine m_R_1 (by decide) (m_opb_of (ins := .ifCond .ne 10) (len := 3) (tag := 0) (a := 15) (b := 0) (c := 0) (q := 0) (by decide +kernel)) (if_neg c820) ?_
    refine m_R_sg (by decide) [(.aload_n 0, 1, 0, 0, 0, 0, 0), (.iload_n 1, 1, 0, 1, 0, 0, 0), (.iconst 1, 1, 0, 1, 0, 0, 0)] (by decide +kernel) (show m_sgl X _ _ _ _ _ = some (18, [some (.ref 304), some (.int v1), some (.int v2)], [.int (1 : Int32), .int v1, .ref 304], (SH, q1.2.1, q1.2.2)) from rfl) ?_
    obtain ⟨q3, hc3, h⟩ := Option.bind_eq_some_iff.mp h
    refine m_R_cV (v := (some (.int q3.1))) (h1 := (SH, q3.2)) (rest := []) (lo' := [some (.ref 304), some (.int v1), some (.int (1 : Int32))]) (ml := 3) (k0 := 304) (by decide) (Or.inl rfl) (m_opb_of (ins := .invokevirtual 160) (len := 3) (tag := 5) (a := 246) (b := 2) (c := 0) (q := 1791) (by decide +kernel)) (by decide +kernel) rfl (show m_isO 246 304 (SH, _) = true from m_isO_of (by decide +kernel)) (Nat.le_of_ble_eq_true rfl) rfl rfl (ok_m_paper X (d + 1) F _ _ _ _ _ hc3) ?_
    refine m_R_sg (by decide) [(.iconst 1, 1, 0, 1, 0, 0, 0)] (by decide +kernel) (show m_sgl X _ _ _ _ _ = some (22, [some (.ref 304), some (.int v1), some (.int v2)], [.int (1 : Int32), .int q3.1], (SH, q3.2.1, q3.2.2)) from rfl) ?_
    rcases m_ite h with ⟨c821, h⟩ | ⟨c821, h⟩
    · refine m_R_1 (by decide) (m_opb_of (ins := .if_icmp .eq 10) (len := 3) (tag := 0) (a := 32) (b := 0) (c := 0) (q := 0) (by decide +kernel)) (if_pos c821) ?_
      refine m_R_sg (by decide) [(.iload_n 2, 1, 0, 2, 0, 0, 0), (.iconst 0, 1, 0, 0, 0, 0, 0), (.aload_n 0, 1, 0, 0, 0, 0, 0), (.iload_n 1, 1, 0, 1, 0, 0, 0), (.bipush 7, 2, 0, 7, 0, 0, 0)] (by decide +kernel) (show m_sgl X _ _ _ _ _ = some (38, [some (.ref 304), some (.int v1), some (.int v2)], [.int (7 : Int32), .int v1, .ref 304, .int (0 : Int32), .int v2], (SH, q3.2.1, q3.2.2)) from rfl) ?_
      obtain ⟨q4, hc4, h⟩ := Option.bind_eq_some_iff.mp h
      refine m_R_cV (v := (some (.int q4.1))) (h1 := (SH, q4.2)) (rest := [.int (0 : Int32), .int v2]) (lo' := [some (.ref 304), some (.int v1), some (.int (7 : Int32))]) (ml := 3) (k0 := 304) (by decide) (Or.inl rfl) (m_opb_of (ins := .invokevirtual 160) (len := 3) (tag := 5) (a := 246) (b := 2) (c := 0) (q := 1791) (by decide +kernel)) (by decide +kernel) rfl (show m_isO 246 304 (SH, _) = true from m_isO_of (by decide +kernel)) (Nat.le_of_ble_eq_true rfl) rfl rfl (ok_m_paper X (d + 1) F _ _ _ _ _ hc4) ?_
      refine m_R_sg (by decide) [(.iconst 1, 1, 0, 1, 0, 0, 0), (.isub, 1, 0, 0, 0, 0, 0)] (by decide +kernel) (show m_sgl X _ _ _ _ _ = some (43, [some (.ref 304), some (.int v1), some (.int v2)], [.int (q4.1 - (1 : Int32)), .int (0 : Int32), .int v2], (SH, q4.2.1, q4.2.2)) from rfl) ?_
      obtain ⟨q5, hc5, h⟩ := Option.bind_eq_some_iff.mp h
      refine m_R_cS (v := (some (.int q5.1))) (h1 := (SH, q5.2)) (rest := []) (lo' := [some (.int v2), some (.int (0 : Int32)), some (.int (q4.1 - (1 : Int32)))]) (ml := 3) (by decide) (m_opb_of (ins := .invokestatic 57) (len := 3) (tag := 4) (a := 201) (b := 3) (c := 0) (q := 1590) (by decide +kernel)) (by decide +kernel) (Nat.le_of_ble_eq_true rfl) rfl (Nat.le_of_ble_eq_true rfl) rfl rfl (ok_m_in X (d + 1) F _ _ _ _ _ _ hc5) ?_
      rcases m_ite h with ⟨c822, h⟩ | ⟨c822, h⟩
      · refine m_R_1 (by decide) (m_opb_of (ins := .ifCond .eq 15) (len := 3) (tag := 0) (a := 61) (b := 0) (c := 0) (q := 0) (by decide +kernel)) (if_pos c822) ?_
        refine m_R_sg (by decide) [(.aload_n 0, 1, 0, 0, 0, 0, 0), (.bipush (-3), 2, 0, 3, 1, 0, 0)] (by decide +kernel) (show m_sgl X _ _ _ _ _ = some (64, [some (.ref 304), some (.int v1), some (.int v2)], [.int (-3 : Int32), .ref 304], (SH, q5.2.1, q5.2.2)) from rfl) ?_
        obtain ⟨q6, hc6, h⟩ := Option.bind_eq_some_iff.mp h
        refine m_R_cV (v := (some (.int q6.1))) (h1 := (SH, q6.2)) (rest := []) (lo' := [some (.ref 304), some (.int (-3 : Int32))]) (ml := 2) (k0 := 304) (by decide) (Or.inl rfl) (m_opb_of (ins := .invokevirtual 61) (len := 3) (tag := 5) (a := 202) (b := 1) (c := 0) (q := 1593) (by decide +kernel)) (by decide +kernel) rfl (show m_isO 202 304 (SH, _) = true from m_isO_of (by decide +kernel)) (Nat.le_of_ble_eq_true rfl) rfl rfl (ok_m_refuse X (d + 1) F _ _ _ _ hc6) ?_
        exact ok_m_name_II_67 X d F _ _ _ _ _ _ _ h
      · refine m_R_1 (by decide) (m_opb_of (ins := .ifCond .eq 15) (len := 3) (tag := 0) (a := 61) (b := 0) (c := 0) (q := 0) (by decide +kernel)) (if_neg c822) ?_
        refine m_R_sg (by decide) [(.aload_n 0, 1, 0, 0, 0, 0, 0), (.iload_n 1, 1, 0, 1, 0, 0, 0), (.bipush 8, 2, 0, 8, 0, 0, 0), (.iload_n 2, 1, 0, 2, 0, 0, 0), (.iadd, 1, 0, 0, 0, 0, 0)] (by decide +kernel) (show m_sgl X _ _ _ _ _ = some (55, [some (.ref 304), some (.int v1), some (.int v2)], [.int ((8 : Int32) + v2), .int v1, .ref 304], (SH, q5.2.1, q5.2.2)) from rfl) ?_
        obtain ⟨q7, hc7, h⟩ := Option.bind_eq_some_iff.mp h
        refine m_R_cV (v := (some (.int q7.1))) (h1 := (SH, q7.2)) (rest := []) (lo' := [some (.ref 304), some (.int v1), some (.int ((8 : Int32) + v2))]) (ml := 3) (k0 := 304) (by decide) (Or.inl rfl) (m_opb_of (ins := .invokevirtual 160) (len := 3) (tag := 5) (a := 246) (b := 2) (c := 0) (q := 1791) (by decide +kernel)) (by decide +kernel) rfl (show m_isO 246 304 (SH, _) = true from m_isO_of (by decide +kernel)) (Nat.le_of_ble_eq_true rfl) rfl rfl (ok_m_paper X (d + 1) F _ _ _ _ _ hc7) ?_
        refine m_R_sg (by decide) [(.goto 9, 3, 0, 67, 0, 0, 0)] (by decide +kernel) (show m_sgl X _ _ _ _ _ = some (67, [some (.ref 304), some (.int v1), some (.int v2)], [.int q7.1], (SH, q7.2.1, q7.2.2)) from rfl) ?_
        exact ok_m_name_II_67 X d F _ _ _ _ _ _ _ h
    · refine m_R_1 (by decide) (m_opb_of (ins := .if_icmp .eq 10) (len := 3) (tag := 0) (a := 32) (b := 0) (c := 0) (q := 0) (by decide +kernel)) (if_neg c821) ?_
      refine m_R_sg (by decide) [(.aload_n 0, 1, 0, 0, 0, 0, 0), (.bipush (-5), 2, 0, 5, 1, 0, 0)] (by decide +kernel) (show m_sgl X _ _ _ _ _ = some (28, [some (.ref 304), some (.int v1), some (.int v2)], [.int (-5 : Int32), .ref 304], (SH, q3.2.1, q3.2.2)) from rfl) ?_
      obtain ⟨q8, hc8, h⟩ := Option.bind_eq_some_iff.mp h
      refine m_R_cV (v := (some (.int q8.1))) (h1 := (SH, q8.2)) (rest := []) (lo' := [some (.ref 304), some (.int (-5 : Int32))]) (ml := 2) (k0 := 304) (by decide) (Or.inl rfl) (m_opb_of (ins := .invokevirtual 61) (len := 3) (tag := 5) (a := 202) (b := 1) (c := 0) (q := 1593) (by decide +kernel)) (by decide +kernel) rfl (show m_isO 202 304 (SH, _) = true from m_isO_of (by decide +kernel)) (Nat.le_of_ble_eq_true rfl) rfl rfl (ok_m_refuse X (d + 1) F _ _ _ _ hc8) ?_
      obtain ⟨rfl, rfl⟩ := m_some h
      exact m_R_iret (by decide) (m_opb_of (ins := .ireturn) (len := 1) (tag := 1) (a := 0) (b := 0) (c := 0) (q := 0) (by decide +kernel)) (Or.inl rfl)
def f_x_price_59 (F : Nat)    (m : mM) : Option (Int32 × mM) := ((f_x_refuse F (-7 : Int32) m).bind fun q5 => some (q5.1, q5.2))
theorem ok_x_price_59 (X : mX) (d F : Nat) : ∀  (w1 : Option Value) (w2 : Option Value) (w3 : Option Value) (m : mM) (r : Int32) (m' : mM), f_x_price_59 F  m = some (r, m') → m_R X (d + 1) 95 59 [some (.ref 0), w1, w2, w3] [] (SH, m) (some (.int r), (SH, m')) := by
  intro w1 w2 w3 m r m' h
  unfold f_x_price_59 at h
  refine m_R_sg (by decide) [(.aload_n 0, 1, 0, 0, 0, 0, 0), (.bipush (-7), 2, 0, 7, 1, 0, 0)] (by decide +kernel) (show m_sgl X _ _ _ _ _ = some (62, [some (.ref 0), w1, w2, w3], [.int (-7 : Int32), .ref 0], (SH, m.1, m.2)) from rfl) ?_
  obtain ⟨q5, hc5, h⟩ := Option.bind_eq_some_iff.mp h
  refine m_R_cV (v := (some (.int q5.1))) (h1 := (SH, q5.2)) (rest := []) (lo' := [some (.ref 0), some (.int (-7 : Int32))]) (ml := 2) (k0 := 0) (by decide) (Or.inl rfl) (m_opb_of (ins := .invokevirtual 76) (len := 3) (tag := 5) (a := 14) (b := 1) (c := 0) (q := 671) (by decide +kernel)) (by decide +kernel) rfl (show m_isO 14 0 (SH, _) = true from m_isO_of (by decide +kernel)) (Nat.le_of_ble_eq_true rfl) rfl rfl (ok_x_refuse X (d + 0) F _ _ _ _ hc5) ?_
  obtain ⟨rfl, rfl⟩ := m_some h
  exact m_R_iret (by decide) (m_opb_of (ins := .ireturn) (len := 1) (tag := 1) (a := 0) (b := 0) (c := 0) (q := 0) (by decide +kernel)) (Or.inl rfl)
def f_x_price (F : Nat)   (v1 : Int32) (v2 : Int32) (m : mM) : Option (Int32 × mM) := ((f_Papers_isPaper F v1 m).bind fun q1 => (if q1.1 = 0 then ((f_x_refuse F (-3 : Int32) q1.2).bind fun q2 => some (q2.1, q2.2)) else (if v1 < 0 ∨ 60 ≤ v1.toNatClampNeg then none else (if (q1.2.1 32 v1.toNatClampNeg) = (1 : Int32) then (if (q1.2.1 37 v1.toNatClampNeg) = 0 then (if v2 < 0 then f_x_price_59 F q1.2 else (if v2 ≤ (30 : Int32) then ((f_Papers_priceAt F v1 v2 (q1.2.1 16 9) q1.2).bind fun q3 => some (q3.1, q3.2)) else f_x_price_59 F q1.2)) else f_x_price_59 F q1.2) else ((f_x_refuse F (-5 : Int32) q1.2).bind fun q4 => some (q4.1, q4.2))))))
theorem ok_x_price (X : mX) (d F : Nat) : ∀ (v1 : Int32) (v2 : Int32)  (m : mM) (r : Int32) (m' : mM), f_x_price F v1 v2 m = some (r, m') → m_R X (d + 1) 95 0 [some (.ref 0), some (.int v1), some (.int v2), none] [] (SH, m) (some (.int r), (SH, m')) := by
  intro v1 v2 m r m' h
  unfold f_x_price at h
  refine m_R_sg (by decide) [(.aload_n 0, 1, 0, 0, 0, 0, 0), (.getfield 28, 3, 0, 11, 2, 3, 632), (.getfield 146, 3, 0, 10, 2, 3, 510), (.astore_n 3, 1, 0, 3, 0, 0, 0), (.aload_n 3, 1, 0, 3, 0, 0, 0), (.iload_n 1, 1, 0, 1, 0, 0, 0)] (by decide +kernel) (show m_sgl X _ _ _ _ _ = some (10, [some (.ref 0), some (.int v1), some (.int v2), some (.ref 31)], [.int v1, .ref 31], (SH, m.1, m.2)) from rfl) ?_
  obtain ⟨q1, hc1, h⟩ := Option.bind_eq_some_iff.mp h
  refine m_R_cV (v := (some (.int q1.1))) (h1 := (SH, q1.2)) (rest := []) (lo' := [some (.ref 31), some (.int v1)]) (ml := 2) (k0 := 31) (by decide) (Or.inl rfl) (m_opb_of (ins := .invokevirtual 246) (len := 3) (tag := 5) (a := 41) (b := 1) (c := 0) (q := 927) (by decide +kernel)) (by decide +kernel) rfl (show m_isO 41 31 (SH, _) = true from m_isO_of (by decide +kernel)) (Nat.le_of_ble_eq_true rfl) rfl rfl (ok_Papers_isPaper X (d + 0) F _ _ _ _ hc1) ?_
  rcases m_ite h with ⟨c823, h⟩ | ⟨c823, h⟩
  · refine m_R_1 (by decide) (m_opb_of (ins := .ifCond .ne 10) (len := 3) (tag := 0) (a := 23) (b := 0) (c := 0) (q := 0) (by decide +kernel)) (if_pos c823) ?_
    refine m_R_sg (by decide) [(.aload_n 0, 1, 0, 0, 0, 0, 0), (.bipush (-3), 2, 0, 3, 1, 0, 0)] (by decide +kernel) (show m_sgl X _ _ _ _ _ = some (19, [some (.ref 0), some (.int v1), some (.int v2), some (.ref 31)], [.int (-3 : Int32), .ref 0], (SH, q1.2.1, q1.2.2)) from rfl) ?_
    obtain ⟨q2, hc2, h⟩ := Option.bind_eq_some_iff.mp h
    refine m_R_cV (v := (some (.int q2.1))) (h1 := (SH, q2.2)) (rest := []) (lo' := [some (.ref 0), some (.int (-3 : Int32))]) (ml := 2) (k0 := 0) (by decide) (Or.inl rfl) (m_opb_of (ins := .invokevirtual 76) (len := 3) (tag := 5) (a := 14) (b := 1) (c := 0) (q := 671) (by decide +kernel)) (by decide +kernel) rfl (show m_isO 14 0 (SH, _) = true from m_isO_of (by decide +kernel)) (Nat.le_of_ble_eq_true rfl) rfl rfl (ok_x_refuse X (d + 0) F _ _ _ _ hc2) ?_
    obtain ⟨rfl, rfl⟩ := m_some h
    exact m_R_iret (by decide) (m_opb_of (ins := .ireturn) (len := 1) (tag := 1) (a := 0) (b := 0) (c := 0) (q := 0) (by decide +kernel)) (Or.inl rfl)
  · refine m_R_1 (by decide) (m_opb_of (ins := .ifCond .ne 10) (len := 3) (tag := 0) (a := 23) (b := 0) (c := 0) (q := 0) (by decide +kernel)) (if_neg c823) ?_
    refine m_R_sg (by decide) [(.aload_n 3, 1, 0, 3, 0, 0, 0), (.getfield 249, 3, 0, 4, 0, 3, 320), (.iload_n 1, 1, 0, 1, 0, 0, 0)] (by decide +kernel) (show m_sgl X _ _ _ _ _ = some (28, [some (.ref 0), some (.int v1), some (.int v2), some (.ref 31)], [.int v1, .ref 32], (SH, q1.2.1, q1.2.2)) from rfl) ?_
    obtain ⟨c824, h⟩ := m_ite_n h
    refine m_R_1 (by decide) (m_opb_of (ins := .iaload) (len := 1) (tag := 0) (a := 0) (b := 0) (c := 0) (q := 0) (by decide +kernel)) (m_s_iald sh_32 (by decide) c824) ?_
    refine m_R_sg (by decide) [(.iconst 1, 1, 0, 1, 0, 0, 0)] (by decide +kernel) (show m_sgl X _ _ _ _ _ = some (30, [some (.ref 0), some (.int v1), some (.int v2), some (.ref 31)], [.int (1 : Int32), .int (q1.2.1 32 v1.toNatClampNeg)], (SH, q1.2.1, q1.2.2)) from rfl) ?_
    rcases m_ite h with ⟨c825, h⟩ | ⟨c825, h⟩
    · refine m_R_1 (by decide) (m_opb_of (ins := .if_icmp .eq 10) (len := 3) (tag := 0) (a := 40) (b := 0) (c := 0) (q := 0) (by decide +kernel)) (if_pos c825) ?_
      refine m_R_sg (by decide) [(.aload_n 3, 1, 0, 3, 0, 0, 0), (.getfield 251, 3, 0, 4, 5, 3, 338), (.iload_n 1, 1, 0, 1, 0, 0, 0)] (by decide +kernel) (show m_sgl X _ _ _ _ _ = some (45, [some (.ref 0), some (.int v1), some (.int v2), some (.ref 31)], [.int v1, .ref 37], (SH, q1.2.1, q1.2.2)) from rfl) ?_
      refine m_R_1 (by decide) (m_opb_of (ins := .iaload) (len := 1) (tag := 0) (a := 0) (b := 0) (c := 0) (q := 0) (by decide +kernel)) (m_s_iald sh_37 (by decide) c824) ?_
      rcases m_ite h with ⟨c826, h⟩ | ⟨c826, h⟩
      · refine m_R_1 (by decide) (m_opb_of (ins := .ifCond .ne 13) (len := 3) (tag := 0) (a := 59) (b := 0) (c := 0) (q := 0) (by decide +kernel)) (if_pos c826) ?_
        refine m_R_sg (by decide) [(.iload_n 2, 1, 0, 2, 0, 0, 0)] (by decide +kernel) (show m_sgl X _ _ _ _ _ = some (50, [some (.ref 0), some (.int v1), some (.int v2), some (.ref 31)], [.int v2], (SH, q1.2.1, q1.2.2)) from rfl) ?_
        rcases m_ite h with ⟨c827, h⟩ | ⟨c827, h⟩
        · refine m_R_1 (by decide) (m_opb_of (ins := .ifCond .lt 9) (len := 3) (tag := 0) (a := 59) (b := 0) (c := 0) (q := 0) (by decide +kernel)) (if_pos c827) ?_
          exact ok_x_price_59 X d F _ _ _ _ _ _ h
        · refine m_R_1 (by decide) (m_opb_of (ins := .ifCond .lt 9) (len := 3) (tag := 0) (a := 59) (b := 0) (c := 0) (q := 0) (by decide +kernel)) (if_neg c827) ?_
          refine m_R_sg (by decide) [(.iload_n 2, 1, 0, 2, 0, 0, 0), (.bipush 30, 2, 0, 30, 0, 0, 0)] (by decide +kernel) (show m_sgl X _ _ _ _ _ = some (56, [some (.ref 0), some (.int v1), some (.int v2), some (.ref 31)], [.int (30 : Int32), .int v2], (SH, q1.2.1, q1.2.2)) from rfl) ?_
          rcases m_ite h with ⟨c828, h⟩ | ⟨c828, h⟩
          · refine m_R_1 (by decide) (m_opb_of (ins := .if_icmp .le 10) (len := 3) (tag := 0) (a := 66) (b := 0) (c := 0) (q := 0) (by decide +kernel)) (if_pos c828) ?_
            refine m_R_sg (by decide) [(.aload_n 3, 1, 0, 3, 0, 0, 0), (.iload_n 1, 1, 0, 1, 0, 0, 0), (.iload_n 2, 1, 0, 2, 0, 0, 0), (.aload_n 0, 1, 0, 0, 0, 0, 0), (.getfield 28, 3, 0, 11, 2, 3, 632), (.getfield 255, 3, 0, 10, 9, 0, 521)] (by decide +kernel) (show m_sgl X _ _ _ _ _ = some (76, [some (.ref 0), some (.int v1), some (.int v2), some (.ref 31)], [.int (q1.2.1 16 9), .int v2, .int v1, .ref 31], (SH, q1.2.1, q1.2.2)) from rfl) ?_
            obtain ⟨q3, hc3, h⟩ := Option.bind_eq_some_iff.mp h
            refine m_R_cV (v := (some (.int q3.1))) (h1 := (SH, q3.2)) (rest := []) (lo' := [some (.ref 31), some (.int v1), some (.int v2), some (.int (q1.2.1 16 9))]) (ml := 4) (k0 := 31) (by decide) (Or.inl rfl) (m_opb_of (ins := .invokevirtual 302) (len := 3) (tag := 5) (a := 84) (b := 3) (c := 0) (q := 1007) (by decide +kernel)) (by decide +kernel) rfl (show m_isO 84 31 (SH, _) = true from m_isO_of (by decide +kernel)) (Nat.le_of_ble_eq_true rfl) rfl rfl (ok_Papers_priceAt X (d + 0) F _ _ _ _ _ _ hc3) ?_
            obtain ⟨rfl, rfl⟩ := m_some h
            exact m_R_iret (by decide) (m_opb_of (ins := .ireturn) (len := 1) (tag := 1) (a := 0) (b := 0) (c := 0) (q := 0) (by decide +kernel)) (Or.inl rfl)
          · refine m_R_1 (by decide) (m_opb_of (ins := .if_icmp .le 10) (len := 3) (tag := 0) (a := 66) (b := 0) (c := 0) (q := 0) (by decide +kernel)) (if_neg c828) ?_
            exact ok_x_price_59 X d F _ _ _ _ _ _ h
      · refine m_R_1 (by decide) (m_opb_of (ins := .ifCond .ne 13) (len := 3) (tag := 0) (a := 59) (b := 0) (c := 0) (q := 0) (by decide +kernel)) (if_neg c826) ?_
        exact ok_x_price_59 X d F _ _ _ _ _ _ h
    · refine m_R_1 (by decide) (m_opb_of (ins := .if_icmp .eq 10) (len := 3) (tag := 0) (a := 40) (b := 0) (c := 0) (q := 0) (by decide +kernel)) (if_neg c825) ?_
      refine m_R_sg (by decide) [(.aload_n 0, 1, 0, 0, 0, 0, 0), (.bipush (-5), 2, 0, 5, 1, 0, 0)] (by decide +kernel) (show m_sgl X _ _ _ _ _ = some (36, [some (.ref 0), some (.int v1), some (.int v2), some (.ref 31)], [.int (-5 : Int32), .ref 0], (SH, q1.2.1, q1.2.2)) from rfl) ?_
      obtain ⟨q4, hc4, h⟩ := Option.bind_eq_some_iff.mp h
      refine m_R_cV (v := (some (.int q4.1))) (h1 := (SH, q4.2)) (rest := []) (lo' := [some (.ref 0), some (.int (-5 : Int32))]) (ml := 2) (k0 := 0) (by decide) (Or.inl rfl) (m_opb_of (ins := .invokevirtual 76) (len := 3) (tag := 5) (a := 14) (b := 1) (c := 0) (q := 671) (by decide +kernel)) (by decide +kernel) rfl (show m_isO 14 0 (SH, _) = true from m_isO_of (by decide +kernel)) (Nat.le_of_ble_eq_true rfl) rfl rfl (ok_x_refuse X (d + 0) F _ _ _ _ hc4) ?_
      obtain ⟨rfl, rfl⟩ := m_some h
      exact m_R_iret (by decide) (m_opb_of (ins := .ireturn) (len := 1) (tag := 1) (a := 0) (b := 0) (c := 0) (q := 0) (by decide +kernel)) (Or.inl rfl)
