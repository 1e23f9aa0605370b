/-! ONE WORLD BECOMES ANOTHER: 16 to 120, 120 to 16 -/
section
variable (F : Nat)
theorem ex_bc_120_16 (A Bx : hI) : f_World_become_120_16 F (mk A Bx) = some ((), mk (bec A 0 104) Bx) := by
  have r18 : f_x_copyAll_18_122 F (mk (bcL A 0 104 []) Bx) = some ((), mk (bcL A 0 104 [18]) Bx) := by
    rw [← bc_row (A := A) (s := 0) (t := 104) (c := 18) (n := 64) (a := 18) (b := 122) rfl rfl (by decide) (by decide) (by decide) (fun j => by omega)]
    exact cpa F _ Bx (a := 18) (b := 122) (n := 64) (by decide) (by decide) rfl (by decide)
  have o17 : f_Land_become_121_17 F (mk (bcL A 0 104 []) Bx) = some ((), mk (bcL A 0 104 [17, 18]) Bx) := by
    rw [← bc_sc (A := A) (s := 0) (t := 104) (c := 17) (a := 17) (b := 121) (js := [2, 1]) rfl rfl (by decide) (by decide) (by decide) (fun j => by simp only [List.mem_cons, List.not_mem_nil, or_false]; omega)]
    unfold f_Land_become_121_17
    refine obd r18 ?_
    unfold uAs uAs uAs
    simp (disch := first | omega | (simp (disch := omega) only [uA_n]; done) | fail) only [iI_lit, iI_add, iI_sub, iI_mul, iI_neg, iI_lt, iI_le, iI_eq, zlt_t, zlt_f, zle_t, zle_f, zeq_t, zeq_f, nle_t, nle_f, iI_cl, rA, rS, rB, wA, wS, wB, mkp, mk2, uA_s, uA_n, ud_s, ud_n, bI_0, bI_1, nor_s, ↓reduceIte, or_false, false_or, or_true, true_or, or_self, not_true_eq_false, not_false_eq_true, and_true, true_and, and_false, false_and, bI_T, bI_F, Int.reduceToNat, Nat.reduceAdd, Nat.reduceMul, Int.reduceNeg, Option.bind_some, Int.toNat_natCast]
  have r20 : f_x_copyAll_20_124 F (mk (bcL A 0 104 [17, 18]) Bx) = some ((), mk (bcL A 0 104 [20, 17, 18]) Bx) := by
    rw [← bc_row (A := A) (s := 0) (t := 104) (c := 20) (n := 16) (a := 20) (b := 124) rfl rfl (by decide) (by decide) (by decide) (fun j => by omega)]
    exact cpa F _ Bx (a := 20) (b := 124) (n := 16) (by decide) (by decide) rfl (by decide)
  have r21 : f_x_copyAll_21_125 F (mk (bcL A 0 104 [20, 17, 18]) Bx) = some ((), mk (bcL A 0 104 [21, 20, 17, 18]) Bx) := by
    rw [← bc_row (A := A) (s := 0) (t := 104) (c := 21) (n := 16) (a := 21) (b := 125) rfl rfl (by decide) (by decide) (by decide) (fun j => by omega)]
    exact cpa F _ Bx (a := 21) (b := 125) (n := 16) (by decide) (by decide) rfl (by decide)
  have r22 : f_x_copyAll_22_126 F (mk (bcL A 0 104 [21, 20, 17, 18]) Bx) = some ((), mk (bcL A 0 104 [22, 21, 20, 17, 18]) Bx) := by
    rw [← bc_row (A := A) (s := 0) (t := 104) (c := 22) (n := 16) (a := 22) (b := 126) rfl rfl (by decide) (by decide) (by decide) (fun j => by omega)]
    exact cpa F _ Bx (a := 22) (b := 126) (n := 16) (by decide) (by decide) rfl (by decide)
  have r23 : f_x_copyAll_23_127 F (mk (bcL A 0 104 [22, 21, 20, 17, 18]) Bx) = some ((), mk (bcL A 0 104 [23, 22, 21, 20, 17, 18]) Bx) := by
    rw [← bc_row (A := A) (s := 0) (t := 104) (c := 23) (n := 16) (a := 23) (b := 127) rfl rfl (by decide) (by decide) (by decide) (fun j => by omega)]
    exact cpa F _ Bx (a := 23) (b := 127) (n := 16) (by decide) (by decide) rfl (by decide)
  have r24 : f_x_copyAll_24_128 F (mk (bcL A 0 104 [23, 22, 21, 20, 17, 18]) Bx) = some ((), mk (bcL A 0 104 [24, 23, 22, 21, 20, 17, 18]) Bx) := by
    rw [← bc_row (A := A) (s := 0) (t := 104) (c := 24) (n := 16) (a := 24) (b := 128) rfl rfl (by decide) (by decide) (by decide) (fun j => by omega)]
    exact cpa F _ Bx (a := 24) (b := 128) (n := 16) (by decide) (by decide) rfl (by decide)
  have r25 : f_x_copyAll_25_129 F (mk (bcL A 0 104 [24, 23, 22, 21, 20, 17, 18]) Bx) = some ((), mk (bcL A 0 104 [25, 24, 23, 22, 21, 20, 17, 18]) Bx) := by
    rw [← bc_row (A := A) (s := 0) (t := 104) (c := 25) (n := 16) (a := 25) (b := 129) rfl rfl (by decide) (by decide) (by decide) (fun j => by omega)]
    exact cpa F _ Bx (a := 25) (b := 129) (n := 16) (by decide) (by decide) rfl (by decide)
  have r26 : f_x_copyAll_26_130 F (mk (bcL A 0 104 [25, 24, 23, 22, 21, 20, 17, 18]) Bx) = some ((), mk (bcL A 0 104 [26, 25, 24, 23, 22, 21, 20, 17, 18]) Bx) := by
    rw [← bc_row (A := A) (s := 0) (t := 104) (c := 26) (n := 16) (a := 26) (b := 130) rfl rfl (by decide) (by decide) (by decide) (fun j => by omega)]
    exact cpa F _ Bx (a := 26) (b := 130) (n := 16) (by decide) (by decide) rfl (by decide)
  have r27 : f_x_copyAll_27_131 F (mk (bcL A 0 104 [26, 25, 24, 23, 22, 21, 20, 17, 18]) Bx) = some ((), mk (bcL A 0 104 [27, 26, 25, 24, 23, 22, 21, 20, 17, 18]) Bx) := by
    rw [← bc_row (A := A) (s := 0) (t := 104) (c := 27) (n := 16) (a := 27) (b := 131) rfl rfl (by decide) (by decide) (by decide) (fun j => by omega)]
    exact cpa F _ Bx (a := 27) (b := 131) (n := 16) (by decide) (by decide) rfl (by decide)
  have r28 : f_x_copyAll_28_132 F (mk (bcL A 0 104 [27, 26, 25, 24, 23, 22, 21, 20, 17, 18]) Bx) = some ((), mk (bcL A 0 104 [28, 27, 26, 25, 24, 23, 22, 21, 20, 17, 18]) Bx) := by
    rw [← bc_row (A := A) (s := 0) (t := 104) (c := 28) (n := 16) (a := 28) (b := 132) rfl rfl (by decide) (by decide) (by decide) (fun j => by omega)]
    exact cpa F _ Bx (a := 28) (b := 132) (n := 16) (by decide) (by decide) rfl (by decide)
  have r29 : f_x_copyAll_29_133 F (mk (bcL A 0 104 [28, 27, 26, 25, 24, 23, 22, 21, 20, 17, 18]) Bx) = some ((), mk (bcL A 0 104 [29, 28, 27, 26, 25, 24, 23, 22, 21, 20, 17, 18]) Bx) := by
    rw [← bc_row (A := A) (s := 0) (t := 104) (c := 29) (n := 16) (a := 29) (b := 133) rfl rfl (by decide) (by decide) (by decide) (fun j => by omega)]
    exact cpa F _ Bx (a := 29) (b := 133) (n := 16) (by decide) (by decide) rfl (by decide)
  have r30 : f_x_copyAll_30_134 F (mk (bcL A 0 104 [29, 28, 27, 26, 25, 24, 23, 22, 21, 20, 17, 18]) Bx) = some ((), mk (bcL A 0 104 [30, 29, 28, 27, 26, 25, 24, 23, 22, 21, 20, 17, 18]) Bx) := by
    rw [← bc_row (A := A) (s := 0) (t := 104) (c := 30) (n := 16) (a := 30) (b := 134) rfl rfl (by decide) (by decide) (by decide) (fun j => by omega)]
    exact cpa F _ Bx (a := 30) (b := 134) (n := 16) (by decide) (by decide) rfl (by decide)
  have o19 : f_Houses_become_123_19 F (mk (bcL A 0 104 [17, 18]) Bx) = some ((), mk (bcL A 0 104 [19, 30, 29, 28, 27, 26, 25, 24, 23, 22, 21, 20, 17, 18]) Bx) := by
    rw [← bc_sc (A := A) (s := 0) (t := 104) (c := 19) (a := 19) (b := 123) (js := [12, 11]) rfl rfl (by decide) (by decide) (by decide) (fun j => by simp only [List.mem_cons, List.not_mem_nil, or_false]; omega)]
    unfold f_Houses_become_123_19
    refine obd r20 ?_
    refine obd r21 ?_
    refine obd r22 ?_
    refine obd r23 ?_
    refine obd r24 ?_
    refine obd r25 ?_
    refine obd r26 ?_
    refine obd r27 ?_
    refine obd r28 ?_
    refine obd r29 ?_
    refine obd r30 ?_
    unfold uAs uAs uAs
    simp (disch := first | omega | (simp (disch := omega) only [uA_n]; done) | fail) only [iI_lit, iI_add, iI_sub, iI_mul, iI_neg, iI_lt, iI_le, iI_eq, zlt_t, zlt_f, zle_t, zle_f, zeq_t, zeq_f, nle_t, nle_f, iI_cl, rA, rS, rB, wA, wS, wB, mkp, mk2, uA_s, uA_n, ud_s, ud_n, bI_0, bI_1, nor_s, ↓reduceIte, or_false, false_or, or_true, true_or, or_self, not_true_eq_false, not_false_eq_true, and_true, true_and, and_false, false_and, bI_T, bI_F, Int.reduceToNat, Nat.reduceAdd, Nat.reduceMul, Int.reduceNeg, Option.bind_some, Int.toNat_natCast]
  have r32 : f_x_copyAll_32_136 F (mk (bcL A 0 104 [19, 30, 29, 28, 27, 26, 25, 24, 23, 22, 21, 20, 17, 18]) Bx) = some ((), mk (bcL A 0 104 [32, 19, 30, 29, 28, 27, 26, 25, 24, 23, 22, 21, 20, 17, 18]) Bx) := by
    rw [← bc_row (A := A) (s := 0) (t := 104) (c := 32) (n := 60) (a := 32) (b := 136) rfl rfl (by decide) (by decide) (by decide) (fun j => by omega)]
    exact cpa F _ Bx (a := 32) (b := 136) (n := 60) (by decide) (by decide) rfl (by decide)
  have r33 : f_x_copyAll_33_137 F (mk (bcL A 0 104 [32, 19, 30, 29, 28, 27, 26, 25, 24, 23, 22, 21, 20, 17, 18]) Bx) = some ((), mk (bcL A 0 104 [33, 32, 19, 30, 29, 28, 27, 26, 25, 24, 23, 22, 21, 20, 17, 18]) Bx) := by
    rw [← bc_row (A := A) (s := 0) (t := 104) (c := 33) (n := 60) (a := 33) (b := 137) rfl rfl (by decide) (by decide) (by decide) (fun j => by omega)]
    exact cpa F _ Bx (a := 33) (b := 137) (n := 60) (by decide) (by decide) rfl (by decide)
  have r34 : f_x_copyAll_34_138 F (mk (bcL A 0 104 [33, 32, 19, 30, 29, 28, 27, 26, 25, 24, 23, 22, 21, 20, 17, 18]) Bx) = some ((), mk (bcL A 0 104 [34, 33, 32, 19, 30, 29, 28, 27, 26, 25, 24, 23, 22, 21, 20, 17, 18]) Bx) := by
    rw [← bc_row (A := A) (s := 0) (t := 104) (c := 34) (n := 60) (a := 34) (b := 138) rfl rfl (by decide) (by decide) (by decide) (fun j => by omega)]
    exact cpa F _ Bx (a := 34) (b := 138) (n := 60) (by decide) (by decide) rfl (by decide)
  have r35 : f_x_copyAll_35_139 F (mk (bcL A 0 104 [34, 33, 32, 19, 30, 29, 28, 27, 26, 25, 24, 23, 22, 21, 20, 17, 18]) Bx) = some ((), mk (bcL A 0 104 [35, 34, 33, 32, 19, 30, 29, 28, 27, 26, 25, 24, 23, 22, 21, 20, 17, 18]) Bx) := by
    rw [← bc_row (A := A) (s := 0) (t := 104) (c := 35) (n := 60) (a := 35) (b := 139) rfl rfl (by decide) (by decide) (by decide) (fun j => by omega)]
    exact cpa F _ Bx (a := 35) (b := 139) (n := 60) (by decide) (by decide) rfl (by decide)
  have r36 : f_x_copyAll_36_140 F (mk (bcL A 0 104 [35, 34, 33, 32, 19, 30, 29, 28, 27, 26, 25, 24, 23, 22, 21, 20, 17, 18]) Bx) = some ((), mk (bcL A 0 104 [36, 35, 34, 33, 32, 19, 30, 29, 28, 27, 26, 25, 24, 23, 22, 21, 20, 17, 18]) Bx) := by
    rw [← bc_row (A := A) (s := 0) (t := 104) (c := 36) (n := 60) (a := 36) (b := 140) rfl rfl (by decide) (by decide) (by decide) (fun j => by omega)]
    exact cpa F _ Bx (a := 36) (b := 140) (n := 60) (by decide) (by decide) rfl (by decide)
  have r37 : f_x_copyAll_37_141 F (mk (bcL A 0 104 [36, 35, 34, 33, 32, 19, 30, 29, 28, 27, 26, 25, 24, 23, 22, 21, 20, 17, 18]) Bx) = some ((), mk (bcL A 0 104 [37, 36, 35, 34, 33, 32, 19, 30, 29, 28, 27, 26, 25, 24, 23, 22, 21, 20, 17, 18]) Bx) := by
    rw [← bc_row (A := A) (s := 0) (t := 104) (c := 37) (n := 60) (a := 37) (b := 141) rfl rfl (by decide) (by decide) (by decide) (fun j => by omega)]
    exact cpa F _ Bx (a := 37) (b := 141) (n := 60) (by decide) (by decide) rfl (by decide)
  have r38 : f_x_copyAll_38_142 F (mk (bcL A 0 104 [37, 36, 35, 34, 33, 32, 19, 30, 29, 28, 27, 26, 25, 24, 23, 22, 21, 20, 17, 18]) Bx) = some ((), mk (bcL A 0 104 [38, 37, 36, 35, 34, 33, 32, 19, 30, 29, 28, 27, 26, 25, 24, 23, 22, 21, 20, 17, 18]) Bx) := by
    rw [← bc_row (A := A) (s := 0) (t := 104) (c := 38) (n := 360) (a := 38) (b := 142) rfl rfl (by decide) (by decide) (by decide) (fun j => by omega)]
    exact cpa F _ Bx (a := 38) (b := 142) (n := 360) (by decide) (by decide) rfl (by decide)
  have r39 : f_x_copyAll_39_143 F (mk (bcL A 0 104 [38, 37, 36, 35, 34, 33, 32, 19, 30, 29, 28, 27, 26, 25, 24, 23, 22, 21, 20, 17, 18]) Bx) = some ((), mk (bcL A 0 104 [39, 38, 37, 36, 35, 34, 33, 32, 19, 30, 29, 28, 27, 26, 25, 24, 23, 22, 21, 20, 17, 18]) Bx) := by
    rw [← bc_row (A := A) (s := 0) (t := 104) (c := 39) (n := 60) (a := 39) (b := 143) rfl rfl (by decide) (by decide) (by decide) (fun j => by omega)]
    exact cpa F _ Bx (a := 39) (b := 143) (n := 60) (by decide) (by decide) rfl (by decide)
  have r40 : f_x_copyAll_40_144 F (mk (bcL A 0 104 [39, 38, 37, 36, 35, 34, 33, 32, 19, 30, 29, 28, 27, 26, 25, 24, 23, 22, 21, 20, 17, 18]) Bx) = some ((), mk (bcL A 0 104 [40, 39, 38, 37, 36, 35, 34, 33, 32, 19, 30, 29, 28, 27, 26, 25, 24, 23, 22, 21, 20, 17, 18]) Bx) := by
    rw [← bc_row (A := A) (s := 0) (t := 104) (c := 40) (n := 60) (a := 40) (b := 144) rfl rfl (by decide) (by decide) (by decide) (fun j => by omega)]
    exact cpa F _ Bx (a := 40) (b := 144) (n := 60) (by decide) (by decide) rfl (by decide)
  have r41 : f_x_copyAll_41_145 F (mk (bcL A 0 104 [40, 39, 38, 37, 36, 35, 34, 33, 32, 19, 30, 29, 28, 27, 26, 25, 24, 23, 22, 21, 20, 17, 18]) Bx) = some ((), mk (bcL A 0 104 [41, 40, 39, 38, 37, 36, 35, 34, 33, 32, 19, 30, 29, 28, 27, 26, 25, 24, 23, 22, 21, 20, 17, 18]) Bx) := by
    rw [← bc_row (A := A) (s := 0) (t := 104) (c := 41) (n := 60) (a := 41) (b := 145) rfl rfl (by decide) (by decide) (by decide) (fun j => by omega)]
    exact cpa F _ Bx (a := 41) (b := 145) (n := 60) (by decide) (by decide) rfl (by decide)
  have r42 : f_x_copyAll_42_146 F (mk (bcL A 0 104 [41, 40, 39, 38, 37, 36, 35, 34, 33, 32, 19, 30, 29, 28, 27, 26, 25, 24, 23, 22, 21, 20, 17, 18]) Bx) = some ((), mk (bcL A 0 104 [42, 41, 40, 39, 38, 37, 36, 35, 34, 33, 32, 19, 30, 29, 28, 27, 26, 25, 24, 23, 22, 21, 20, 17, 18]) Bx) := by
    rw [← bc_row (A := A) (s := 0) (t := 104) (c := 42) (n := 60) (a := 42) (b := 146) rfl rfl (by decide) (by decide) (by decide) (fun j => by omega)]
    exact cpa F _ Bx (a := 42) (b := 146) (n := 60) (by decide) (by decide) rfl (by decide)
  have r43 : f_x_copyAll_43_147 F (mk (bcL A 0 104 [42, 41, 40, 39, 38, 37, 36, 35, 34, 33, 32, 19, 30, 29, 28, 27, 26, 25, 24, 23, 22, 21, 20, 17, 18]) Bx) = some ((), mk (bcL A 0 104 [43, 42, 41, 40, 39, 38, 37, 36, 35, 34, 33, 32, 19, 30, 29, 28, 27, 26, 25, 24, 23, 22, 21, 20, 17, 18]) Bx) := by
    rw [← bc_row (A := A) (s := 0) (t := 104) (c := 43) (n := 60) (a := 43) (b := 147) rfl rfl (by decide) (by decide) (by decide) (fun j => by omega)]
    exact cpa F _ Bx (a := 43) (b := 147) (n := 60) (by decide) (by decide) rfl (by decide)
  have r44 : f_x_copyAll_44_148 F (mk (bcL A 0 104 [43, 42, 41, 40, 39, 38, 37, 36, 35, 34, 33, 32, 19, 30, 29, 28, 27, 26, 25, 24, 23, 22, 21, 20, 17, 18]) Bx) = some ((), mk (bcL A 0 104 [44, 43, 42, 41, 40, 39, 38, 37, 36, 35, 34, 33, 32, 19, 30, 29, 28, 27, 26, 25, 24, 23, 22, 21, 20, 17, 18]) Bx) := by
    rw [← bc_row (A := A) (s := 0) (t := 104) (c := 44) (n := 60) (a := 44) (b := 148) rfl rfl (by decide) (by decide) (by decide) (fun j => by omega)]
    exact cpa F _ Bx (a := 44) (b := 148) (n := 60) (by decide) (by decide) rfl (by decide)
  have o31 : f_Papers_become_135_31 F (mk (bcL A 0 104 [19, 30, 29, 28, 27, 26, 25, 24, 23, 22, 21, 20, 17, 18]) Bx) = some ((), mk (bcL A 0 104 [31, 44, 43, 42, 41, 40, 39, 38, 37, 36, 35, 34, 33, 32, 19, 30, 29, 28, 27, 26, 25, 24, 23, 22, 21, 20, 17, 18]) Bx) := by
    rw [← bc_sc (A := A) (s := 0) (t := 104) (c := 31) (a := 31) (b := 135) (js := [15, 14]) rfl rfl (by decide) (by decide) (by decide) (fun j => by simp only [List.mem_cons, List.not_mem_nil, or_false]; omega)]
    unfold f_Papers_become_135_31
    refine obd r32 ?_
    refine obd r33 ?_
    refine obd r34 ?_
    refine obd r35 ?_
    refine obd r36 ?_
    refine obd r37 ?_
    refine obd r38 ?_
    refine obd r39 ?_
    refine obd r40 ?_
    refine obd r41 ?_
    refine obd r42 ?_
    refine obd r43 ?_
    refine obd r44 ?_
    unfold uAs uAs uAs
    simp (disch := first | omega | (simp (disch := omega) only [uA_n]; done) | fail) only [iI_lit, iI_add, iI_sub, iI_mul, iI_neg, iI_lt, iI_le, iI_eq, zlt_t, zlt_f, zle_t, zle_f, zeq_t, zeq_f, nle_t, nle_f, iI_cl, rA, rS, rB, wA, wS, wB, mkp, mk2, uA_s, uA_n, ud_s, ud_n, bI_0, bI_1, nor_s, ↓reduceIte, or_false, false_or, or_true, true_or, or_self, not_true_eq_false, not_false_eq_true, and_true, true_and, and_false, false_and, bI_T, bI_F, Int.reduceToNat, Nat.reduceAdd, Nat.reduceMul, Int.reduceNeg, Option.bind_some, Int.toNat_natCast]
  have r47 : f_x_copyAll_47_151 F (mk (bcL A 0 104 [31, 44, 43, 42, 41, 40, 39, 38, 37, 36, 35, 34, 33, 32, 19, 30, 29, 28, 27, 26, 25, 24, 23, 22, 21, 20, 17, 18]) Bx) = some ((), mk (bcL A 0 104 [47, 31, 44, 43, 42, 41, 40, 39, 38, 37, 36, 35, 34, 33, 32, 19, 30, 29, 28, 27, 26, 25, 24, 23, 22, 21, 20, 17, 18]) Bx) := by
    rw [← bc_row (A := A) (s := 0) (t := 104) (c := 47) (n := 8) (a := 47) (b := 151) rfl rfl (by decide) (by decide) (by decide) (fun j => by omega)]
    exact cpa F _ Bx (a := 47) (b := 151) (n := 8) (by decide) (by decide) rfl (by decide)
  have r48 : f_x_copyAll_48_152 F (mk (bcL A 0 104 [47, 31, 44, 43, 42, 41, 40, 39, 38, 37, 36, 35, 34, 33, 32, 19, 30, 29, 28, 27, 26, 25, 24, 23, 22, 21, 20, 17, 18]) Bx) = some ((), mk (bcL A 0 104 [48, 47, 31, 44, 43, 42, 41, 40, 39, 38, 37, 36, 35, 34, 33, 32, 19, 30, 29, 28, 27, 26, 25, 24, 23, 22, 21, 20, 17, 18]) Bx) := by
    rw [← bc_row (A := A) (s := 0) (t := 104) (c := 48) (n := 8) (a := 48) (b := 152) rfl rfl (by decide) (by decide) (by decide) (fun j => by omega)]
    exact cpa F _ Bx (a := 48) (b := 152) (n := 8) (by decide) (by decide) rfl (by decide)
  have r49 : f_x_copyAll_49_153 F (mk (bcL A 0 104 [48, 47, 31, 44, 43, 42, 41, 40, 39, 38, 37, 36, 35, 34, 33, 32, 19, 30, 29, 28, 27, 26, 25, 24, 23, 22, 21, 20, 17, 18]) Bx) = some ((), mk (bcL A 0 104 [49, 48, 47, 31, 44, 43, 42, 41, 40, 39, 38, 37, 36, 35, 34, 33, 32, 19, 30, 29, 28, 27, 26, 25, 24, 23, 22, 21, 20, 17, 18]) Bx) := by
    rw [← bc_row (A := A) (s := 0) (t := 104) (c := 49) (n := 8) (a := 49) (b := 153) rfl rfl (by decide) (by decide) (by decide) (fun j => by omega)]
    exact cpa F _ Bx (a := 49) (b := 153) (n := 8) (by decide) (by decide) rfl (by decide)
  have r50 : f_x_copyAll_50_154 F (mk (bcL A 0 104 [49, 48, 47, 31, 44, 43, 42, 41, 40, 39, 38, 37, 36, 35, 34, 33, 32, 19, 30, 29, 28, 27, 26, 25, 24, 23, 22, 21, 20, 17, 18]) Bx) = some ((), mk (bcL A 0 104 [50, 49, 48, 47, 31, 44, 43, 42, 41, 40, 39, 38, 37, 36, 35, 34, 33, 32, 19, 30, 29, 28, 27, 26, 25, 24, 23, 22, 21, 20, 17, 18]) Bx) := by
    rw [← bc_row (A := A) (s := 0) (t := 104) (c := 50) (n := 8) (a := 50) (b := 154) rfl rfl (by decide) (by decide) (by decide) (fun j => by omega)]
    exact cpa F _ Bx (a := 50) (b := 154) (n := 8) (by decide) (by decide) rfl (by decide)
  have r51 : f_x_copyAll_51_155 F (mk (bcL A 0 104 [50, 49, 48, 47, 31, 44, 43, 42, 41, 40, 39, 38, 37, 36, 35, 34, 33, 32, 19, 30, 29, 28, 27, 26, 25, 24, 23, 22, 21, 20, 17, 18]) Bx) = some ((), mk (bcL A 0 104 [51, 50, 49, 48, 47, 31, 44, 43, 42, 41, 40, 39, 38, 37, 36, 35, 34, 33, 32, 19, 30, 29, 28, 27, 26, 25, 24, 23, 22, 21, 20, 17, 18]) Bx) := by
    rw [← bc_row (A := A) (s := 0) (t := 104) (c := 51) (n := 8) (a := 51) (b := 155) rfl rfl (by decide) (by decide) (by decide) (fun j => by omega)]
    exact cpa F _ Bx (a := 51) (b := 155) (n := 8) (by decide) (by decide) rfl (by decide)
  have o46 : f_Trades_become_150_46 F (mk (bcL A 0 104 [31, 44, 43, 42, 41, 40, 39, 38, 37, 36, 35, 34, 33, 32, 19, 30, 29, 28, 27, 26, 25, 24, 23, 22, 21, 20, 17, 18]) Bx) = some ((), mk (bcL A 0 104 [46, 51, 50, 49, 48, 47, 31, 44, 43, 42, 41, 40, 39, 38, 37, 36, 35, 34, 33, 32, 19, 30, 29, 28, 27, 26, 25, 24, 23, 22, 21, 20, 17, 18]) Bx) := by
    rw [← bc_sc (A := A) (s := 0) (t := 104) (c := 46) (a := 46) (b := 150) (js := [5]) rfl rfl (by decide) (by decide) (by decide) (fun j => by simp only [List.mem_cons, List.not_mem_nil, or_false]; omega)]
    unfold f_Trades_become_150_46
    refine obd r47 ?_
    refine obd r48 ?_
    refine obd r49 ?_
    refine obd r50 ?_
    refine obd r51 ?_
    unfold uAs uAs
    simp (disch := first | omega | (simp (disch := omega) only [uA_n]; done) | fail) only [iI_lit, iI_add, iI_sub, iI_mul, iI_neg, iI_lt, iI_le, iI_eq, zlt_t, zlt_f, zle_t, zle_f, zeq_t, zeq_f, nle_t, nle_f, iI_cl, rA, rS, rB, wA, wS, wB, mkp, mk2, uA_s, uA_n, ud_s, ud_n, bI_0, bI_1, nor_s, ↓reduceIte, or_false, false_or, or_true, true_or, or_self, not_true_eq_false, not_false_eq_true, and_true, true_and, and_false, false_and, bI_T, bI_F, Int.reduceToNat, Nat.reduceAdd, Nat.reduceMul, Int.reduceNeg, Option.bind_some, Int.toNat_natCast]
  have r53 : f_x_copyAll_53_157 F (mk (bcL A 0 104 [46, 51, 50, 49, 48, 47, 31, 44, 43, 42, 41, 40, 39, 38, 37, 36, 35, 34, 33, 32, 19, 30, 29, 28, 27, 26, 25, 24, 23, 22, 21, 20, 17, 18]) Bx) = some ((), mk (bcL A 0 104 [53, 46, 51, 50, 49, 48, 47, 31, 44, 43, 42, 41, 40, 39, 38, 37, 36, 35, 34, 33, 32, 19, 30, 29, 28, 27, 26, 25, 24, 23, 22, 21, 20, 17, 18]) Bx) := by
    rw [← bc_row (A := A) (s := 0) (t := 104) (c := 53) (n := 104) (a := 53) (b := 157) rfl rfl (by decide) (by decide) (by decide) (fun j => by omega)]
    exact cpa F _ Bx (a := 53) (b := 157) (n := 104) (by decide) (by decide) rfl (by decide)
  have o52 : f_Seasons_become_156_52 F (mk (bcL A 0 104 [46, 51, 50, 49, 48, 47, 31, 44, 43, 42, 41, 40, 39, 38, 37, 36, 35, 34, 33, 32, 19, 30, 29, 28, 27, 26, 25, 24, 23, 22, 21, 20, 17, 18]) Bx) = some ((), mk (bcL A 0 104 [53, 46, 51, 50, 49, 48, 47, 31, 44, 43, 42, 41, 40, 39, 38, 37, 36, 35, 34, 33, 32, 19, 30, 29, 28, 27, 26, 25, 24, 23, 22, 21, 20, 17, 18]) Bx) := by
    unfold f_Seasons_become_156_52
    refine obd r53 ?_
    rfl
  have r56 : f_x_copyAll_56_160 F (mk (bcL A 0 104 [53, 46, 51, 50, 49, 48, 47, 31, 44, 43, 42, 41, 40, 39, 38, 37, 36, 35, 34, 33, 32, 19, 30, 29, 28, 27, 26, 25, 24, 23, 22, 21, 20, 17, 18]) Bx) = some ((), mk (bcL A 0 104 [56, 53, 46, 51, 50, 49, 48, 47, 31, 44, 43, 42, 41, 40, 39, 38, 37, 36, 35, 34, 33, 32, 19, 30, 29, 28, 27, 26, 25, 24, 23, 22, 21, 20, 17, 18]) Bx) := by
    rw [← bc_row (A := A) (s := 0) (t := 104) (c := 56) (n := 300) (a := 56) (b := 160) rfl rfl (by decide) (by decide) (by decide) (fun j => by omega)]
    exact cpa F _ Bx (a := 56) (b := 160) (n := 300) (by decide) (by decide) rfl (by decide)
  have r57 : f_x_copyAll_57_161 F (mk (bcL A 0 104 [56, 53, 46, 51, 50, 49, 48, 47, 31, 44, 43, 42, 41, 40, 39, 38, 37, 36, 35, 34, 33, 32, 19, 30, 29, 28, 27, 26, 25, 24, 23, 22, 21, 20, 17, 18]) Bx) = some ((), mk (bcL A 0 104 [57, 56, 53, 46, 51, 50, 49, 48, 47, 31, 44, 43, 42, 41, 40, 39, 38, 37, 36, 35, 34, 33, 32, 19, 30, 29, 28, 27, 26, 25, 24, 23, 22, 21, 20, 17, 18]) Bx) := by
    rw [← bc_row (A := A) (s := 0) (t := 104) (c := 57) (n := 300) (a := 57) (b := 161) rfl rfl (by decide) (by decide) (by decide) (fun j => by omega)]
    exact cpa F _ Bx (a := 57) (b := 161) (n := 300) (by decide) (by decide) rfl (by decide)
  have r58 : f_x_copyAll_58_162 F (mk (bcL A 0 104 [57, 56, 53, 46, 51, 50, 49, 48, 47, 31, 44, 43, 42, 41, 40, 39, 38, 37, 36, 35, 34, 33, 32, 19, 30, 29, 28, 27, 26, 25, 24, 23, 22, 21, 20, 17, 18]) Bx) = some ((), mk (bcL A 0 104 [58, 57, 56, 53, 46, 51, 50, 49, 48, 47, 31, 44, 43, 42, 41, 40, 39, 38, 37, 36, 35, 34, 33, 32, 19, 30, 29, 28, 27, 26, 25, 24, 23, 22, 21, 20, 17, 18]) Bx) := by
    rw [← bc_row (A := A) (s := 0) (t := 104) (c := 58) (n := 400) (a := 58) (b := 162) rfl rfl (by decide) (by decide) (by decide) (fun j => by omega)]
    exact cpa F _ Bx (a := 58) (b := 162) (n := 400) (by decide) (by decide) rfl (by decide)
  have r59 : f_x_copyAll_59_163 F (mk (bcL A 0 104 [58, 57, 56, 53, 46, 51, 50, 49, 48, 47, 31, 44, 43, 42, 41, 40, 39, 38, 37, 36, 35, 34, 33, 32, 19, 30, 29, 28, 27, 26, 25, 24, 23, 22, 21, 20, 17, 18]) Bx) = some ((), mk (bcL A 0 104 [59, 58, 57, 56, 53, 46, 51, 50, 49, 48, 47, 31, 44, 43, 42, 41, 40, 39, 38, 37, 36, 35, 34, 33, 32, 19, 30, 29, 28, 27, 26, 25, 24, 23, 22, 21, 20, 17, 18]) Bx) := by
    rw [← bc_row (A := A) (s := 0) (t := 104) (c := 59) (n := 400) (a := 59) (b := 163) rfl rfl (by decide) (by decide) (by decide) (fun j => by omega)]
    exact cpa F _ Bx (a := 59) (b := 163) (n := 400) (by decide) (by decide) rfl (by decide)
  have r60 : f_x_copyAll_60_164 F (mk (bcL A 0 104 [59, 58, 57, 56, 53, 46, 51, 50, 49, 48, 47, 31, 44, 43, 42, 41, 40, 39, 38, 37, 36, 35, 34, 33, 32, 19, 30, 29, 28, 27, 26, 25, 24, 23, 22, 21, 20, 17, 18]) Bx) = some ((), mk (bcL A 0 104 [60, 59, 58, 57, 56, 53, 46, 51, 50, 49, 48, 47, 31, 44, 43, 42, 41, 40, 39, 38, 37, 36, 35, 34, 33, 32, 19, 30, 29, 28, 27, 26, 25, 24, 23, 22, 21, 20, 17, 18]) Bx) := by
    rw [← bc_row (A := A) (s := 0) (t := 104) (c := 60) (n := 400) (a := 60) (b := 164) rfl rfl (by decide) (by decide) (by decide) (fun j => by omega)]
    exact cpa F _ Bx (a := 60) (b := 164) (n := 400) (by decide) (by decide) rfl (by decide)
  have r61 : f_x_copyAll_61_165 F (mk (bcL A 0 104 [60, 59, 58, 57, 56, 53, 46, 51, 50, 49, 48, 47, 31, 44, 43, 42, 41, 40, 39, 38, 37, 36, 35, 34, 33, 32, 19, 30, 29, 28, 27, 26, 25, 24, 23, 22, 21, 20, 17, 18]) Bx) = some ((), mk (bcL A 0 104 [61, 60, 59, 58, 57, 56, 53, 46, 51, 50, 49, 48, 47, 31, 44, 43, 42, 41, 40, 39, 38, 37, 36, 35, 34, 33, 32, 19, 30, 29, 28, 27, 26, 25, 24, 23, 22, 21, 20, 17, 18]) Bx) := by
    rw [← bc_row (A := A) (s := 0) (t := 104) (c := 61) (n := 16) (a := 61) (b := 165) rfl rfl (by decide) (by decide) (by decide) (fun j => by omega)]
    exact cpa F _ Bx (a := 61) (b := 165) (n := 16) (by decide) (by decide) rfl (by decide)
  have o55 : f_Notes_become_159_55 F (mk (bcL A 0 104 [53, 46, 51, 50, 49, 48, 47, 31, 44, 43, 42, 41, 40, 39, 38, 37, 36, 35, 34, 33, 32, 19, 30, 29, 28, 27, 26, 25, 24, 23, 22, 21, 20, 17, 18]) Bx) = some ((), mk (bcL A 0 104 [55, 61, 60, 59, 58, 57, 56, 53, 46, 51, 50, 49, 48, 47, 31, 44, 43, 42, 41, 40, 39, 38, 37, 36, 35, 34, 33, 32, 19, 30, 29, 28, 27, 26, 25, 24, 23, 22, 21, 20, 17, 18]) Bx) := by
    rw [← bc_sc (A := A) (s := 0) (t := 104) (c := 55) (a := 55) (b := 159) (js := [12, 11, 10, 9, 8, 7]) rfl rfl (by decide) (by decide) (by decide) (fun j => by simp only [List.mem_cons, List.not_mem_nil, or_false]; omega)]
    unfold f_Notes_become_159_55
    refine obd r56 ?_
    refine obd r57 ?_
    refine obd r58 ?_
    refine obd r59 ?_
    refine obd r60 ?_
    refine obd r61 ?_
    simp only [f_Notes_become_159_55_90]
    unfold uAs uAs uAs uAs uAs uAs uAs
    simp (disch := first | omega | (simp (disch := omega) only [uA_n]; done) | fail) only [iI_lit, iI_add, iI_sub, iI_mul, iI_neg, iI_lt, iI_le, iI_eq, zlt_t, zlt_f, zle_t, zle_f, zeq_t, zeq_f, nle_t, nle_f, iI_cl, rA, rS, rB, wA, wS, wB, mkp, mk2, uA_s, uA_n, ud_s, ud_n, bI_0, bI_1, nor_s, ↓reduceIte, or_false, false_or, or_true, true_or, or_self, not_true_eq_false, not_false_eq_true, and_true, true_and, and_false, false_and, bI_T, bI_F, Int.reduceToNat, Nat.reduceAdd, Nat.reduceMul, Int.reduceNeg, Option.bind_some, Int.toNat_natCast]
  have fin : bcL A 0 104 [16, 55, 61, 60, 59, 58, 57, 56, 53, 46, 51, 50, 49, 48, 47, 31, 44, 43, 42, 41, 40, 39, 38, 37, 36, 35, 34, 33, 32, 19, 30, 29, 28, 27, 26, 25, 24, 23, 22, 21, 20, 17, 18] = bec A 0 104 := bcL_all A 0 104 (by decide)
  rw [← fin, ← bc_sc (A := A) (s := 0) (t := 104) (c := 16) (a := 16) (b := 120) (js := [14, 13, 12, 11, 10, 9]) rfl rfl (by decide) (by decide) (by decide) (fun j => by simp only [List.mem_cons, List.not_mem_nil, or_false]; omega)]
  have e0 : mk A Bx = mk (bcL A 0 104 []) Bx := by rw [bcL_nil]
  rw [e0]
  unfold f_World_become_120_16
  refine obd o17 ?_
  refine obd o19 ?_
  refine obd o31 ?_
  refine obd o46 ?_
  refine obd o52 ?_
  refine obd o55 ?_
  simp only [f_World_become_120_16_90]
  unfold uAs uAs uAs uAs uAs uAs uAs
  simp (disch := first | omega | (simp (disch := omega) only [uA_n]; done) | fail) only [iI_lit, iI_add, iI_sub, iI_mul, iI_neg, iI_lt, iI_le, iI_eq, zlt_t, zlt_f, zle_t, zle_f, zeq_t, zeq_f, nle_t, nle_f, iI_cl, rA, rS, rB, wA, wS, wB, mkp, mk2, uA_s, uA_n, ud_s, ud_n, bI_0, bI_1, nor_s, ↓reduceIte, or_false, false_or, or_true, true_or, or_self, not_true_eq_false, not_false_eq_true, and_true, true_and, and_false, false_and, bI_T, bI_F, Int.reduceToNat, Nat.reduceAdd, Nat.reduceMul, Int.reduceNeg, Option.bind_some, Int.toNat_natCast]
theorem ex_bc_16_120 (A Bx : hI) : f_World_become_16_120 F (mk A Bx) = some ((), mk (bec A 104 0) Bx) := by
  have r18 : f_x_copyAll_122_18 F (mk (bcL A 104 0 []) Bx) = some ((), mk (bcL A 104 0 [18]) Bx) := by
    rw [← bc_row (A := A) (s := 104) (t := 0) (c := 18) (n := 64) (a := 122) (b := 18) rfl rfl (by decide) (by decide) (by decide) (fun j => by omega)]
    exact cpa F _ Bx (a := 122) (b := 18) (n := 64) (by decide) (by decide) rfl (by decide)
  have o17 : f_Land_become_17_121 F (mk (bcL A 104 0 []) Bx) = some ((), mk (bcL A 104 0 [17, 18]) Bx) := by
    rw [← bc_sc (A := A) (s := 104) (t := 0) (c := 17) (a := 121) (b := 17) (js := [2, 1]) rfl rfl (by decide) (by decide) (by decide) (fun j => by simp only [List.mem_cons, List.not_mem_nil, or_false]; omega)]
    unfold f_Land_become_17_121
    refine obd r18 ?_
    unfold uAs uAs uAs
    simp (disch := first | omega | (simp (disch := omega) only [uA_n]; done) | fail) only [iI_lit, iI_add, iI_sub, iI_mul, iI_neg, iI_lt, iI_le, iI_eq, zlt_t, zlt_f, zle_t, zle_f, zeq_t, zeq_f, nle_t, nle_f, iI_cl, rA, rS, rB, wA, wS, wB, mkp, mk2, uA_s, uA_n, ud_s, ud_n, bI_0, bI_1, nor_s, ↓reduceIte, or_false, false_or, or_true, true_or, or_self, not_true_eq_false, not_false_eq_true, and_true, true_and, and_false, false_and, bI_T, bI_F, Int.reduceToNat, Nat.reduceAdd, Nat.reduceMul, Int.reduceNeg, Option.bind_some, Int.toNat_natCast]
  have r20 : f_x_copyAll_124_20 F (mk (bcL A 104 0 [17, 18]) Bx) = some ((), mk (bcL A 104 0 [20, 17, 18]) Bx) := by
    rw [← bc_row (A := A) (s := 104) (t := 0) (c := 20) (n := 16) (a := 124) (b := 20) rfl rfl (by decide) (by decide) (by decide) (fun j => by omega)]
    exact cpa F _ Bx (a := 124) (b := 20) (n := 16) (by decide) (by decide) rfl (by decide)
  have r21 : f_x_copyAll_125_21 F (mk (bcL A 104 0 [20, 17, 18]) Bx) = some ((), mk (bcL A 104 0 [21, 20, 17, 18]) Bx) := by
    rw [← bc_row (A := A) (s := 104) (t := 0) (c := 21) (n := 16) (a := 125) (b := 21) rfl rfl (by decide) (by decide) (by decide) (fun j => by omega)]
    exact cpa F _ Bx (a := 125) (b := 21) (n := 16) (by decide) (by decide) rfl (by decide)
  have r22 : f_x_copyAll_126_22 F (mk (bcL A 104 0 [21, 20, 17, 18]) Bx) = some ((), mk (bcL A 104 0 [22, 21, 20, 17, 18]) Bx) := by
    rw [← bc_row (A := A) (s := 104) (t := 0) (c := 22) (n := 16) (a := 126) (b := 22) rfl rfl (by decide) (by decide) (by decide) (fun j => by omega)]
    exact cpa F _ Bx (a := 126) (b := 22) (n := 16) (by decide) (by decide) rfl (by decide)
  have r23 : f_x_copyAll_127_23 F (mk (bcL A 104 0 [22, 21, 20, 17, 18]) Bx) = some ((), mk (bcL A 104 0 [23, 22, 21, 20, 17, 18]) Bx) := by
    rw [← bc_row (A := A) (s := 104) (t := 0) (c := 23) (n := 16) (a := 127) (b := 23) rfl rfl (by decide) (by decide) (by decide) (fun j => by omega)]
    exact cpa F _ Bx (a := 127) (b := 23) (n := 16) (by decide) (by decide) rfl (by decide)
  have r24 : f_x_copyAll_128_24 F (mk (bcL A 104 0 [23, 22, 21, 20, 17, 18]) Bx) = some ((), mk (bcL A 104 0 [24, 23, 22, 21, 20, 17, 18]) Bx) := by
    rw [← bc_row (A := A) (s := 104) (t := 0) (c := 24) (n := 16) (a := 128) (b := 24) rfl rfl (by decide) (by decide) (by decide) (fun j => by omega)]
    exact cpa F _ Bx (a := 128) (b := 24) (n := 16) (by decide) (by decide) rfl (by decide)
  have r25 : f_x_copyAll_129_25 F (mk (bcL A 104 0 [24, 23, 22, 21, 20, 17, 18]) Bx) = some ((), mk (bcL A 104 0 [25, 24, 23, 22, 21, 20, 17, 18]) Bx) := by
    rw [← bc_row (A := A) (s := 104) (t := 0) (c := 25) (n := 16) (a := 129) (b := 25) rfl rfl (by decide) (by decide) (by decide) (fun j => by omega)]
    exact cpa F _ Bx (a := 129) (b := 25) (n := 16) (by decide) (by decide) rfl (by decide)
  have r26 : f_x_copyAll_130_26 F (mk (bcL A 104 0 [25, 24, 23, 22, 21, 20, 17, 18]) Bx) = some ((), mk (bcL A 104 0 [26, 25, 24, 23, 22, 21, 20, 17, 18]) Bx) := by
    rw [← bc_row (A := A) (s := 104) (t := 0) (c := 26) (n := 16) (a := 130) (b := 26) rfl rfl (by decide) (by decide) (by decide) (fun j => by omega)]
    exact cpa F _ Bx (a := 130) (b := 26) (n := 16) (by decide) (by decide) rfl (by decide)
  have r27 : f_x_copyAll_131_27 F (mk (bcL A 104 0 [26, 25, 24, 23, 22, 21, 20, 17, 18]) Bx) = some ((), mk (bcL A 104 0 [27, 26, 25, 24, 23, 22, 21, 20, 17, 18]) Bx) := by
    rw [← bc_row (A := A) (s := 104) (t := 0) (c := 27) (n := 16) (a := 131) (b := 27) rfl rfl (by decide) (by decide) (by decide) (fun j => by omega)]
    exact cpa F _ Bx (a := 131) (b := 27) (n := 16) (by decide) (by decide) rfl (by decide)
  have r28 : f_x_copyAll_132_28 F (mk (bcL A 104 0 [27, 26, 25, 24, 23, 22, 21, 20, 17, 18]) Bx) = some ((), mk (bcL A 104 0 [28, 27, 26, 25, 24, 23, 22, 21, 20, 17, 18]) Bx) := by
    rw [← bc_row (A := A) (s := 104) (t := 0) (c := 28) (n := 16) (a := 132) (b := 28) rfl rfl (by decide) (by decide) (by decide) (fun j => by omega)]
    exact cpa F _ Bx (a := 132) (b := 28) (n := 16) (by decide) (by decide) rfl (by decide)
  have r29 : f_x_copyAll_133_29 F (mk (bcL A 104 0 [28, 27, 26, 25, 24, 23, 22, 21, 20, 17, 18]) Bx) = some ((), mk (bcL A 104 0 [29, 28, 27, 26, 25, 24, 23, 22, 21, 20, 17, 18]) Bx) := by
    rw [← bc_row (A := A) (s := 104) (t := 0) (c := 29) (n := 16) (a := 133) (b := 29) rfl rfl (by decide) (by decide) (by decide) (fun j => by omega)]
    exact cpa F _ Bx (a := 133) (b := 29) (n := 16) (by decide) (by decide) rfl (by decide)
  have r30 : f_x_copyAll_134_30 F (mk (bcL A 104 0 [29, 28, 27, 26, 25, 24, 23, 22, 21, 20, 17, 18]) Bx) = some ((), mk (bcL A 104 0 [30, 29, 28, 27, 26, 25, 24, 23, 22, 21, 20, 17, 18]) Bx) := by
    rw [← bc_row (A := A) (s := 104) (t := 0) (c := 30) (n := 16) (a := 134) (b := 30) rfl rfl (by decide) (by decide) (by decide) (fun j => by omega)]
    exact cpa F _ Bx (a := 134) (b := 30) (n := 16) (by decide) (by decide) rfl (by decide)
  have o19 : f_Houses_become_19_123 F (mk (bcL A 104 0 [17, 18]) Bx) = some ((), mk (bcL A 104 0 [19, 30, 29, 28, 27, 26, 25, 24, 23, 22, 21, 20, 17, 18]) Bx) := by
    rw [← bc_sc (A := A) (s := 104) (t := 0) (c := 19) (a := 123) (b := 19) (js := [12, 11]) rfl rfl (by decide) (by decide) (by decide) (fun j => by simp only [List.mem_cons, List.not_mem_nil, or_false]; omega)]
    unfold f_Houses_become_19_123
    refine obd r20 ?_
    refine obd r21 ?_
    refine obd r22 ?_
    refine obd r23 ?_
    refine obd r24 ?_
    refine obd r25 ?_
    refine obd r26 ?_
    refine obd r27 ?_
    refine obd r28 ?_
    refine obd r29 ?_
    refine obd r30 ?_
    unfold uAs uAs uAs
    simp (disch := first | omega | (simp (disch := omega) only [uA_n]; done) | fail) only [iI_lit, iI_add, iI_sub, iI_mul, iI_neg, iI_lt, iI_le, iI_eq, zlt_t, zlt_f, zle_t, zle_f, zeq_t, zeq_f, nle_t, nle_f, iI_cl, rA, rS, rB, wA, wS, wB, mkp, mk2, uA_s, uA_n, ud_s, ud_n, bI_0, bI_1, nor_s, ↓reduceIte, or_false, false_or, or_true, true_or, or_self, not_true_eq_false, not_false_eq_true, and_true, true_and, and_false, false_and, bI_T, bI_F, Int.reduceToNat, Nat.reduceAdd, Nat.reduceMul, Int.reduceNeg, Option.bind_some, Int.toNat_natCast]
  have r32 : f_x_copyAll_136_32 F (mk (bcL A 104 0 [19, 30, 29, 28, 27, 26, 25, 24, 23, 22, 21, 20, 17, 18]) Bx) = some ((), mk (bcL A 104 0 [32, 19, 30, 29, 28, 27, 26, 25, 24, 23, 22, 21, 20, 17, 18]) Bx) := by
    rw [← bc_row (A := A) (s := 104) (t := 0) (c := 32) (n := 60) (a := 136) (b := 32) rfl rfl (by decide) (by decide) (by decide) (fun j => by omega)]
    exact cpa F _ Bx (a := 136) (b := 32) (n := 60) (by decide) (by decide) rfl (by decide)
  have r33 : f_x_copyAll_137_33 F (mk (bcL A 104 0 [32, 19, 30, 29, 28, 27, 26, 25, 24, 23, 22, 21, 20, 17, 18]) Bx) = some ((), mk (bcL A 104 0 [33, 32, 19, 30, 29, 28, 27, 26, 25, 24, 23, 22, 21, 20, 17, 18]) Bx) := by
    rw [← bc_row (A := A) (s := 104) (t := 0) (c := 33) (n := 60) (a := 137) (b := 33) rfl rfl (by decide) (by decide) (by decide) (fun j => by omega)]
    exact cpa F _ Bx (a := 137) (b := 33) (n := 60) (by decide) (by decide) rfl (by decide)
  have r34 : f_x_copyAll_138_34 F (mk (bcL A 104 0 [33, 32, 19, 30, 29, 28, 27, 26, 25, 24, 23, 22, 21, 20, 17, 18]) Bx) = some ((), mk (bcL A 104 0 [34, 33, 32, 19, 30, 29, 28, 27, 26, 25, 24, 23, 22, 21, 20, 17, 18]) Bx) := by
    rw [← bc_row (A := A) (s := 104) (t := 0) (c := 34) (n := 60) (a := 138) (b := 34) rfl rfl (by decide) (by decide) (by decide) (fun j => by omega)]
    exact cpa F _ Bx (a := 138) (b := 34) (n := 60) (by decide) (by decide) rfl (by decide)
  have r35 : f_x_copyAll_139_35 F (mk (bcL A 104 0 [34, 33, 32, 19, 30, 29, 28, 27, 26, 25, 24, 23, 22, 21, 20, 17, 18]) Bx) = some ((), mk (bcL A 104 0 [35, 34, 33, 32, 19, 30, 29, 28, 27, 26, 25, 24, 23, 22, 21, 20, 17, 18]) Bx) := by
    rw [← bc_row (A := A) (s := 104) (t := 0) (c := 35) (n := 60) (a := 139) (b := 35) rfl rfl (by decide) (by decide) (by decide) (fun j => by omega)]
    exact cpa F _ Bx (a := 139) (b := 35) (n := 60) (by decide) (by decide) rfl (by decide)
  have r36 : f_x_copyAll_140_36 F (mk (bcL A 104 0 [35, 34, 33, 32, 19, 30, 29, 28, 27, 26, 25, 24, 23, 22, 21, 20, 17, 18]) Bx) = some ((), mk (bcL A 104 0 [36, 35, 34, 33, 32, 19, 30, 29, 28, 27, 26, 25, 24, 23, 22, 21, 20, 17, 18]) Bx) := by
    rw [← bc_row (A := A) (s := 104) (t := 0) (c := 36) (n := 60) (a := 140) (b := 36) rfl rfl (by decide) (by decide) (by decide) (fun j => by omega)]
    exact cpa F _ Bx (a := 140) (b := 36) (n := 60) (by decide) (by decide) rfl (by decide)
  have r37 : f_x_copyAll_141_37 F (mk (bcL A 104 0 [36, 35, 34, 33, 32, 19, 30, 29, 28, 27, 26, 25, 24, 23, 22, 21, 20, 17, 18]) Bx) = some ((), mk (bcL A 104 0 [37, 36, 35, 34, 33, 32, 19, 30, 29, 28, 27, 26, 25, 24, 23, 22, 21, 20, 17, 18]) Bx) := by
    rw [← bc_row (A := A) (s := 104) (t := 0) (c := 37) (n := 60) (a := 141) (b := 37) rfl rfl (by decide) (by decide) (by decide) (fun j => by omega)]
    exact cpa F _ Bx (a := 141) (b := 37) (n := 60) (by decide) (by decide) rfl (by decide)
  have r38 : f_x_copyAll_142_38 F (mk (bcL A 104 0 [37, 36, 35, 34, 33, 32, 19, 30, 29, 28, 27, 26, 25, 24, 23, 22, 21, 20, 17, 18]) Bx) = some ((), mk (bcL A 104 0 [38, 37, 36, 35, 34, 33, 32, 19, 30, 29, 28, 27, 26, 25, 24, 23, 22, 21, 20, 17, 18]) Bx) := by
    rw [← bc_row (A := A) (s := 104) (t := 0) (c := 38) (n := 360) (a := 142) (b := 38) rfl rfl (by decide) (by decide) (by decide) (fun j => by omega)]
    exact cpa F _ Bx (a := 142) (b := 38) (n := 360) (by decide) (by decide) rfl (by decide)
  have r39 : f_x_copyAll_143_39 F (mk (bcL A 104 0 [38, 37, 36, 35, 34, 33, 32, 19, 30, 29, 28, 27, 26, 25, 24, 23, 22, 21, 20, 17, 18]) Bx) = some ((), mk (bcL A 104 0 [39, 38, 37, 36, 35, 34, 33, 32, 19, 30, 29, 28, 27, 26, 25, 24, 23, 22, 21, 20, 17, 18]) Bx) := by
    rw [← bc_row (A := A) (s := 104) (t := 0) (c := 39) (n := 60) (a := 143) (b := 39) rfl rfl (by decide) (by decide) (by decide) (fun j => by omega)]
    exact cpa F _ Bx (a := 143) (b := 39) (n := 60) (by decide) (by decide) rfl (by decide)
  have r40 : f_x_copyAll_144_40 F (mk (bcL A 104 0 [39, 38, 37, 36, 35, 34, 33, 32, 19, 30, 29, 28, 27, 26, 25, 24, 23, 22, 21, 20, 17, 18]) Bx) = some ((), mk (bcL A 104 0 [40, 39, 38, 37, 36, 35, 34, 33, 32, 19, 30, 29, 28, 27, 26, 25, 24, 23, 22, 21, 20, 17, 18]) Bx) := by
    rw [← bc_row (A := A) (s := 104) (t := 0) (c := 40) (n := 60) (a := 144) (b := 40) rfl rfl (by decide) (by decide) (by decide) (fun j => by omega)]
    exact cpa F _ Bx (a := 144) (b := 40) (n := 60) (by decide) (by decide) rfl (by decide)
  have r41 : f_x_copyAll_145_41 F (mk (bcL A 104 0 [40, 39, 38, 37, 36, 35, 34, 33, 32, 19, 30, 29, 28, 27, 26, 25, 24, 23, 22, 21, 20, 17, 18]) Bx) = some ((), mk (bcL A 104 0 [41, 40, 39, 38, 37, 36, 35, 34, 33, 32, 19, 30, 29, 28, 27, 26, 25, 24, 23, 22, 21, 20, 17, 18]) Bx) := by
    rw [← bc_row (A := A) (s := 104) (t := 0) (c := 41) (n := 60) (a := 145) (b := 41) rfl rfl (by decide) (by decide) (by decide) (fun j => by omega)]
    exact cpa F _ Bx (a := 145) (b := 41) (n := 60) (by decide) (by decide) rfl (by decide)
  have r42 : f_x_copyAll_146_42 F (mk (bcL A 104 0 [41, 40, 39, 38, 37, 36, 35, 34, 33, 32, 19, 30, 29, 28, 27, 26, 25, 24, 23, 22, 21, 20, 17, 18]) Bx) = some ((), mk (bcL A 104 0 [42, 41, 40, 39, 38, 37, 36, 35, 34, 33, 32, 19, 30, 29, 28, 27, 26, 25, 24, 23, 22, 21, 20, 17, 18]) Bx) := by
    rw [← bc_row (A := A) (s := 104) (t := 0) (c := 42) (n := 60) (a := 146) (b := 42) rfl rfl (by decide) (by decide) (by decide) (fun j => by omega)]
    exact cpa F _ Bx (a := 146) (b := 42) (n := 60) (by decide) (by decide) rfl (by decide)
  have r43 : f_x_copyAll_147_43 F (mk (bcL A 104 0 [42, 41, 40, 39, 38, 37, 36, 35, 34, 33, 32, 19, 30, 29, 28, 27, 26, 25, 24, 23, 22, 21, 20, 17, 18]) Bx) = some ((), mk (bcL A 104 0 [43, 42, 41, 40, 39, 38, 37, 36, 35, 34, 33, 32, 19, 30, 29, 28, 27, 26, 25, 24, 23, 22, 21, 20, 17, 18]) Bx) := by
    rw [← bc_row (A := A) (s := 104) (t := 0) (c := 43) (n := 60) (a := 147) (b := 43) rfl rfl (by decide) (by decide) (by decide) (fun j => by omega)]
    exact cpa F _ Bx (a := 147) (b := 43) (n := 60) (by decide) (by decide) rfl (by decide)
  have r44 : f_x_copyAll_148_44 F (mk (bcL A 104 0 [43, 42, 41, 40, 39, 38, 37, 36, 35, 34, 33, 32, 19, 30, 29, 28, 27, 26, 25, 24, 23, 22, 21, 20, 17, 18]) Bx) = some ((), mk (bcL A 104 0 [44, 43, 42, 41, 40, 39, 38, 37, 36, 35, 34, 33, 32, 19, 30, 29, 28, 27, 26, 25, 24, 23, 22, 21, 20, 17, 18]) Bx) := by
    rw [← bc_row (A := A) (s := 104) (t := 0) (c := 44) (n := 60) (a := 148) (b := 44) rfl rfl (by decide) (by decide) (by decide) (fun j => by omega)]
    exact cpa F _ Bx (a := 148) (b := 44) (n := 60) (by decide) (by decide) rfl (by decide)
  have o31 : f_Papers_become_31_135 F (mk (bcL A 104 0 [19, 30, 29, 28, 27, 26, 25, 24, 23, 22, 21, 20, 17, 18]) Bx) = some ((), mk (bcL A 104 0 [31, 44, 43, 42, 41, 40, 39, 38, 37, 36, 35, 34, 33, 32, 19, 30, 29, 28, 27, 26, 25, 24, 23, 22, 21, 20, 17, 18]) Bx) := by
    rw [← bc_sc (A := A) (s := 104) (t := 0) (c := 31) (a := 135) (b := 31) (js := [15, 14]) rfl rfl (by decide) (by decide) (by decide) (fun j => by simp only [List.mem_cons, List.not_mem_nil, or_false]; omega)]
    unfold f_Papers_become_31_135
    refine obd r32 ?_
    refine obd r33 ?_
    refine obd r34 ?_
    refine obd r35 ?_
    refine obd r36 ?_
    refine obd r37 ?_
    refine obd r38 ?_
    refine obd r39 ?_
    refine obd r40 ?_
    refine obd r41 ?_
    refine obd r42 ?_
    refine obd r43 ?_
    refine obd r44 ?_
    unfold uAs uAs uAs
    simp (disch := first | omega | (simp (disch := omega) only [uA_n]; done) | fail) only [iI_lit, iI_add, iI_sub, iI_mul, iI_neg, iI_lt, iI_le, iI_eq, zlt_t, zlt_f, zle_t, zle_f, zeq_t, zeq_f, nle_t, nle_f, iI_cl, rA, rS, rB, wA, wS, wB, mkp, mk2, uA_s, uA_n, ud_s, ud_n, bI_0, bI_1, nor_s, ↓reduceIte, or_false, false_or, or_true, true_or, or_self, not_true_eq_false, not_false_eq_true, and_true, true_and, and_false, false_and, bI_T, bI_F, Int.reduceToNat, Nat.reduceAdd, Nat.reduceMul, Int.reduceNeg, Option.bind_some, Int.toNat_natCast]
  have r47 : f_x_copyAll_151_47 F (mk (bcL A 104 0 [31, 44, 43, 42, 41, 40, 39, 38, 37, 36, 35, 34, 33, 32, 19, 30, 29, 28, 27, 26, 25, 24, 23, 22, 21, 20, 17, 18]) Bx) = some ((), mk (bcL A 104 0 [47, 31, 44, 43, 42, 41, 40, 39, 38, 37, 36, 35, 34, 33, 32, 19, 30, 29, 28, 27, 26, 25, 24, 23, 22, 21, 20, 17, 18]) Bx) := by
    rw [← bc_row (A := A) (s := 104) (t := 0) (c := 47) (n := 8) (a := 151) (b := 47) rfl rfl (by decide) (by decide) (by decide) (fun j => by omega)]
    exact cpa F _ Bx (a := 151) (b := 47) (n := 8) (by decide) (by decide) rfl (by decide)
  have r48 : f_x_copyAll_152_48 F (mk (bcL A 104 0 [47, 31, 44, 43, 42, 41, 40, 39, 38, 37, 36, 35, 34, 33, 32, 19, 30, 29, 28, 27, 26, 25, 24, 23, 22, 21, 20, 17, 18]) Bx) = some ((), mk (bcL A 104 0 [48, 47, 31, 44, 43, 42, 41, 40, 39, 38, 37, 36, 35, 34, 33, 32, 19, 30, 29, 28, 27, 26, 25, 24, 23, 22, 21, 20, 17, 18]) Bx) := by
    rw [← bc_row (A := A) (s := 104) (t := 0) (c := 48) (n := 8) (a := 152) (b := 48) rfl rfl (by decide) (by decide) (by decide) (fun j => by omega)]
    exact cpa F _ Bx (a := 152) (b := 48) (n := 8) (by decide) (by decide) rfl (by decide)
  have r49 : f_x_copyAll_153_49 F (mk (bcL A 104 0 [48, 47, 31, 44, 43, 42, 41, 40, 39, 38, 37, 36, 35, 34, 33, 32, 19, 30, 29, 28, 27, 26, 25, 24, 23, 22, 21, 20, 17, 18]) Bx) = some ((), mk (bcL A 104 0 [49, 48, 47, 31, 44, 43, 42, 41, 40, 39, 38, 37, 36, 35, 34, 33, 32, 19, 30, 29, 28, 27, 26, 25, 24, 23, 22, 21, 20, 17, 18]) Bx) := by
    rw [← bc_row (A := A) (s := 104) (t := 0) (c := 49) (n := 8) (a := 153) (b := 49) rfl rfl (by decide) (by decide) (by decide) (fun j => by omega)]
    exact cpa F _ Bx (a := 153) (b := 49) (n := 8) (by decide) (by decide) rfl (by decide)
  have r50 : f_x_copyAll_154_50 F (mk (bcL A 104 0 [49, 48, 47, 31, 44, 43, 42, 41, 40, 39, 38, 37, 36, 35, 34, 33, 32, 19, 30, 29, 28, 27, 26, 25, 24, 23, 22, 21, 20, 17, 18]) Bx) = some ((), mk (bcL A 104 0 [50, 49, 48, 47, 31, 44, 43, 42, 41, 40, 39, 38, 37, 36, 35, 34, 33, 32, 19, 30, 29, 28, 27, 26, 25, 24, 23, 22, 21, 20, 17, 18]) Bx) := by
    rw [← bc_row (A := A) (s := 104) (t := 0) (c := 50) (n := 8) (a := 154) (b := 50) rfl rfl (by decide) (by decide) (by decide) (fun j => by omega)]
    exact cpa F _ Bx (a := 154) (b := 50) (n := 8) (by decide) (by decide) rfl (by decide)
  have r51 : f_x_copyAll_155_51 F (mk (bcL A 104 0 [50, 49, 48, 47, 31, 44, 43, 42, 41, 40, 39, 38, 37, 36, 35, 34, 33, 32, 19, 30, 29, 28, 27, 26, 25, 24, 23, 22, 21, 20, 17, 18]) Bx) = some ((), mk (bcL A 104 0 [51, 50, 49, 48, 47, 31, 44, 43, 42, 41, 40, 39, 38, 37, 36, 35, 34, 33, 32, 19, 30, 29, 28, 27, 26, 25, 24, 23, 22, 21, 20, 17, 18]) Bx) := by
    rw [← bc_row (A := A) (s := 104) (t := 0) (c := 51) (n := 8) (a := 155) (b := 51) rfl rfl (by decide) (by decide) (by decide) (fun j => by omega)]
    exact cpa F _ Bx (a := 155) (b := 51) (n := 8) (by decide) (by decide) rfl (by decide)
  have o46 : f_Trades_become_46_150 F (mk (bcL A 104 0 [31, 44, 43, 42, 41, 40, 39, 38, 37, 36, 35, 34, 33, 32, 19, 30, 29, 28, 27, 26, 25, 24, 23, 22, 21, 20, 17, 18]) Bx) = some ((), mk (bcL A 104 0 [46, 51, 50, 49, 48, 47, 31, 44, 43, 42, 41, 40, 39, 38, 37, 36, 35, 34, 33, 32, 19, 30, 29, 28, 27, 26, 25, 24, 23, 22, 21, 20, 17, 18]) Bx) := by
    rw [← bc_sc (A := A) (s := 104) (t := 0) (c := 46) (a := 150) (b := 46) (js := [5]) rfl rfl (by decide) (by decide) (by decide) (fun j => by simp only [List.mem_cons, List.not_mem_nil, or_false]; omega)]
    unfold f_Trades_become_46_150
    refine obd r47 ?_
    refine obd r48 ?_
    refine obd r49 ?_
    refine obd r50 ?_
    refine obd r51 ?_
    unfold uAs uAs
    simp (disch := first | omega | (simp (disch := omega) only [uA_n]; done) | fail) only [iI_lit, iI_add, iI_sub, iI_mul, iI_neg, iI_lt, iI_le, iI_eq, zlt_t, zlt_f, zle_t, zle_f, zeq_t, zeq_f, nle_t, nle_f, iI_cl, rA, rS, rB, wA, wS, wB, mkp, mk2, uA_s, uA_n, ud_s, ud_n, bI_0, bI_1, nor_s, ↓reduceIte, or_false, false_or, or_true, true_or, or_self, not_true_eq_false, not_false_eq_true, and_true, true_and, and_false, false_and, bI_T, bI_F, Int.reduceToNat, Nat.reduceAdd, Nat.reduceMul, Int.reduceNeg, Option.bind_some, Int.toNat_natCast]
  have r53 : f_x_copyAll_157_53 F (mk (bcL A 104 0 [46, 51, 50, 49, 48, 47, 31, 44, 43, 42, 41, 40, 39, 38, 37, 36, 35, 34, 33, 32, 19, 30, 29, 28, 27, 26, 25, 24, 23, 22, 21, 20, 17, 18]) Bx) = some ((), mk (bcL A 104 0 [53, 46, 51, 50, 49, 48, 47, 31, 44, 43, 42, 41, 40, 39, 38, 37, 36, 35, 34, 33, 32, 19, 30, 29, 28, 27, 26, 25, 24, 23, 22, 21, 20, 17, 18]) Bx) := by
    rw [← bc_row (A := A) (s := 104) (t := 0) (c := 53) (n := 104) (a := 157) (b := 53) rfl rfl (by decide) (by decide) (by decide) (fun j => by omega)]
    exact cpa F _ Bx (a := 157) (b := 53) (n := 104) (by decide) (by decide) rfl (by decide)
  have o52 : f_Seasons_become_52_156 F (mk (bcL A 104 0 [46, 51, 50, 49, 48, 47, 31, 44, 43, 42, 41, 40, 39, 38, 37, 36, 35, 34, 33, 32, 19, 30, 29, 28, 27, 26, 25, 24, 23, 22, 21, 20, 17, 18]) Bx) = some ((), mk (bcL A 104 0 [53, 46, 51, 50, 49, 48, 47, 31, 44, 43, 42, 41, 40, 39, 38, 37, 36, 35, 34, 33, 32, 19, 30, 29, 28, 27, 26, 25, 24, 23, 22, 21, 20, 17, 18]) Bx) := by
    unfold f_Seasons_become_52_156
    refine obd r53 ?_
    rfl
  have r56 : f_x_copyAll_160_56 F (mk (bcL A 104 0 [53, 46, 51, 50, 49, 48, 47, 31, 44, 43, 42, 41, 40, 39, 38, 37, 36, 35, 34, 33, 32, 19, 30, 29, 28, 27, 26, 25, 24, 23, 22, 21, 20, 17, 18]) Bx) = some ((), mk (bcL A 104 0 [56, 53, 46, 51, 50, 49, 48, 47, 31, 44, 43, 42, 41, 40, 39, 38, 37, 36, 35, 34, 33, 32, 19, 30, 29, 28, 27, 26, 25, 24, 23, 22, 21, 20, 17, 18]) Bx) := by
    rw [← bc_row (A := A) (s := 104) (t := 0) (c := 56) (n := 300) (a := 160) (b := 56) rfl rfl (by decide) (by decide) (by decide) (fun j => by omega)]
    exact cpa F _ Bx (a := 160) (b := 56) (n := 300) (by decide) (by decide) rfl (by decide)
  have r57 : f_x_copyAll_161_57 F (mk (bcL A 104 0 [56, 53, 46, 51, 50, 49, 48, 47, 31, 44, 43, 42, 41, 40, 39, 38, 37, 36, 35, 34, 33, 32, 19, 30, 29, 28, 27, 26, 25, 24, 23, 22, 21, 20, 17, 18]) Bx) = some ((), mk (bcL A 104 0 [57, 56, 53, 46, 51, 50, 49, 48, 47, 31, 44, 43, 42, 41, 40, 39, 38, 37, 36, 35, 34, 33, 32, 19, 30, 29, 28, 27, 26, 25, 24, 23, 22, 21, 20, 17, 18]) Bx) := by
    rw [← bc_row (A := A) (s := 104) (t := 0) (c := 57) (n := 300) (a := 161) (b := 57) rfl rfl (by decide) (by decide) (by decide) (fun j => by omega)]
    exact cpa F _ Bx (a := 161) (b := 57) (n := 300) (by decide) (by decide) rfl (by decide)
  have r58 : f_x_copyAll_162_58 F (mk (bcL A 104 0 [57, 56, 53, 46, 51, 50, 49, 48, 47, 31, 44, 43, 42, 41, 40, 39, 38, 37, 36, 35, 34, 33, 32, 19, 30, 29, 28, 27, 26, 25, 24, 23, 22, 21, 20, 17, 18]) Bx) = some ((), mk (bcL A 104 0 [58, 57, 56, 53, 46, 51, 50, 49, 48, 47, 31, 44, 43, 42, 41, 40, 39, 38, 37, 36, 35, 34, 33, 32, 19, 30, 29, 28, 27, 26, 25, 24, 23, 22, 21, 20, 17, 18]) Bx) := by
    rw [← bc_row (A := A) (s := 104) (t := 0) (c := 58) (n := 400) (a := 162) (b := 58) rfl rfl (by decide) (by decide) (by decide) (fun j => by omega)]
    exact cpa F _ Bx (a := 162) (b := 58) (n := 400) (by decide) (by decide) rfl (by decide)
  have r59 : f_x_copyAll_163_59 F (mk (bcL A 104 0 [58, 57, 56, 53, 46, 51, 50, 49, 48, 47, 31, 44, 43, 42, 41, 40, 39, 38, 37, 36, 35, 34, 33, 32, 19, 30, 29, 28, 27, 26, 25, 24, 23, 22, 21, 20, 17, 18]) Bx) = some ((), mk (bcL A 104 0 [59, 58, 57, 56, 53, 46, 51, 50, 49, 48, 47, 31, 44, 43, 42, 41, 40, 39, 38, 37, 36, 35, 34, 33, 32, 19, 30, 29, 28, 27, 26, 25, 24, 23, 22, 21, 20, 17, 18]) Bx) := by
    rw [← bc_row (A := A) (s := 104) (t := 0) (c := 59) (n := 400) (a := 163) (b := 59) rfl rfl (by decide) (by decide) (by decide) (fun j => by omega)]
    exact cpa F _ Bx (a := 163) (b := 59) (n := 400) (by decide) (by decide) rfl (by decide)
  have r60 : f_x_copyAll_164_60 F (mk (bcL A 104 0 [59, 58, 57, 56, 53, 46, 51, 50, 49, 48, 47, 31, 44, 43, 42, 41, 40, 39, 38, 37, 36, 35, 34, 33, 32, 19, 30, 29, 28, 27, 26, 25, 24, 23, 22, 21, 20, 17, 18]) Bx) = some ((), mk (bcL A 104 0 [60, 59, 58, 57, 56, 53, 46, 51, 50, 49, 48, 47, 31, 44, 43, 42, 41, 40, 39, 38, 37, 36, 35, 34, 33, 32, 19, 30, 29, 28, 27, 26, 25, 24, 23, 22, 21, 20, 17, 18]) Bx) := by
    rw [← bc_row (A := A) (s := 104) (t := 0) (c := 60) (n := 400) (a := 164) (b := 60) rfl rfl (by decide) (by decide) (by decide) (fun j => by omega)]
    exact cpa F _ Bx (a := 164) (b := 60) (n := 400) (by decide) (by decide) rfl (by decide)
  have r61 : f_x_copyAll_165_61 F (mk (bcL A 104 0 [60, 59, 58, 57, 56, 53, 46, 51, 50, 49, 48, 47, 31, 44, 43, 42, 41, 40, 39, 38, 37, 36, 35, 34, 33, 32, 19, 30, 29, 28, 27, 26, 25, 24, 23, 22, 21, 20, 17, 18]) Bx) = some ((), mk (bcL A 104 0 [61, 60, 59, 58, 57, 56, 53, 46, 51, 50, 49, 48, 47, 31, 44, 43, 42, 41, 40, 39, 38, 37, 36, 35, 34, 33, 32, 19, 30, 29, 28, 27, 26, 25, 24, 23, 22, 21, 20, 17, 18]) Bx) := by
    rw [← bc_row (A := A) (s := 104) (t := 0) (c := 61) (n := 16) (a := 165) (b := 61) rfl rfl (by decide) (by decide) (by decide) (fun j => by omega)]
    exact cpa F _ Bx (a := 165) (b := 61) (n := 16) (by decide) (by decide) rfl (by decide)
  have o55 : f_Notes_become_55_159 F (mk (bcL A 104 0 [53, 46, 51, 50, 49, 48, 47, 31, 44, 43, 42, 41, 40, 39, 38, 37, 36, 35, 34, 33, 32, 19, 30, 29, 28, 27, 26, 25, 24, 23, 22, 21, 20, 17, 18]) Bx) = some ((), mk (bcL A 104 0 [55, 61, 60, 59, 58, 57, 56, 53, 46, 51, 50, 49, 48, 47, 31, 44, 43, 42, 41, 40, 39, 38, 37, 36, 35, 34, 33, 32, 19, 30, 29, 28, 27, 26, 25, 24, 23, 22, 21, 20, 17, 18]) Bx) := by
    rw [← bc_sc (A := A) (s := 104) (t := 0) (c := 55) (a := 159) (b := 55) (js := [12, 11, 10, 9, 8, 7]) rfl rfl (by decide) (by decide) (by decide) (fun j => by simp only [List.mem_cons, List.not_mem_nil, or_false]; omega)]
    unfold f_Notes_become_55_159
    refine obd r56 ?_
    refine obd r57 ?_
    refine obd r58 ?_
    refine obd r59 ?_
    refine obd r60 ?_
    refine obd r61 ?_
    simp only [f_Notes_become_55_159_90]
    unfold uAs uAs uAs uAs uAs uAs uAs
    simp (disch := first | omega | (simp (disch := omega) only [uA_n]; done) | fail) only [iI_lit, iI_add, iI_sub, iI_mul, iI_neg, iI_lt, iI_le, iI_eq, zlt_t, zlt_f, zle_t, zle_f, zeq_t, zeq_f, nle_t, nle_f, iI_cl, rA, rS, rB, wA, wS, wB, mkp, mk2, uA_s, uA_n, ud_s, ud_n, bI_0, bI_1, nor_s, ↓reduceIte, or_false, false_or, or_true, true_or, or_self, not_true_eq_false, not_false_eq_true, and_true, true_and, and_false, false_and, bI_T, bI_F, Int.reduceToNat, Nat.reduceAdd, Nat.reduceMul, Int.reduceNeg, Option.bind_some, Int.toNat_natCast]
  have fin : bcL A 104 0 [16, 55, 61, 60, 59, 58, 57, 56, 53, 46, 51, 50, 49, 48, 47, 31, 44, 43, 42, 41, 40, 39, 38, 37, 36, 35, 34, 33, 32, 19, 30, 29, 28, 27, 26, 25, 24, 23, 22, 21, 20, 17, 18] = bec A 104 0 := bcL_all A 104 0 (by decide)
  rw [← fin, ← bc_sc (A := A) (s := 104) (t := 0) (c := 16) (a := 120) (b := 16) (js := [14, 13, 12, 11, 10, 9]) rfl rfl (by decide) (by decide) (by decide) (fun j => by simp only [List.mem_cons, List.not_mem_nil, or_false]; omega)]
  have e0 : mk A Bx = mk (bcL A 104 0 []) Bx := by rw [bcL_nil]
  rw [e0]
  unfold f_World_become_16_120
  refine obd o17 ?_
  refine obd o19 ?_
  refine obd o31 ?_
  refine obd o46 ?_
  refine obd o52 ?_
  refine obd o55 ?_
  simp only [f_World_become_16_120_90]
  unfold uAs uAs uAs uAs uAs uAs uAs
  simp (disch := first | omega | (simp (disch := omega) only [uA_n]; done) | fail) only [iI_lit, iI_add, iI_sub, iI_mul, iI_neg, iI_lt, iI_le, iI_eq, zlt_t, zlt_f, zle_t, zle_f, zeq_t, zeq_f, nle_t, nle_f, iI_cl, rA, rS, rB, wA, wS, wB, mkp, mk2, uA_s, uA_n, ud_s, ud_n, bI_0, bI_1, nor_s, ↓reduceIte, or_false, false_or, or_true, true_or, or_self, not_true_eq_false, not_false_eq_true, and_true, true_and, and_false, false_and, bI_T, bI_F, Int.reduceToNat, Nat.reduceAdd, Nat.reduceMul, Int.reduceNeg, Option.bind_some, Int.toNat_natCast]
end
