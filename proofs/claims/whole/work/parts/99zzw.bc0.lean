/-! ONE WORLD BECOMES ANOTHER: 16 to 62, 62 to 16 -/
section
variable (F : Nat)
theorem ex_bc_62_16 (A Bx : hI) : f_World_become_62_16 F (mk A Bx) = some ((), mk (bec A 0 46) Bx) := by
  have r18 : f_x_copyAll_18_64 F (mk (bcL A 0 46 []) Bx) = some ((), mk (bcL A 0 46 [18]) Bx) := by
    rw [← bc_row (A := A) (s := 0) (t := 46) (c := 18) (n := 64) (a := 18) (b := 64) rfl rfl (by decide) (by decide) (by decide) (fun j => by omega)]
    exact cpa F _ Bx (a := 18) (b := 64) (n := 64) (by decide) (by decide) rfl (by decide)
  have o17 : f_Land_become_63_17 F (mk (bcL A 0 46 []) Bx) = some ((), mk (bcL A 0 46 [17, 18]) Bx) := by
    rw [← bc_sc (A := A) (s := 0) (t := 46) (c := 17) (a := 17) (b := 63) (js := [2, 1]) rfl rfl (by decide) (by decide) (by decide) (fun j => by simp only [List.mem_cons, List.not_mem_nil, or_false]; omega)]
    unfold f_Land_become_63_17
    refine obd r18 ?_
    unfold uAs uAs uAs
    simp (disch := first | omega | (simp (disch := omega) only [uA_n]; done) | fail) only [iI_lit, iI_add, iI_sub, iI_mul, iI_neg, iI_lt, iI_le, iI_eq, zlt_t, zlt_f, zle_t, zle_f, zeq_t, zeq_f, nle_t, nle_f, iI_cl, rA, rS, rB, wA, wS, wB, mkp, mk2, uA_s, uA_n, ud_s, ud_n, bI_0, bI_1, nor_s, ↓reduceIte, or_false, false_or, or_true, true_or, or_self, not_true_eq_false, not_false_eq_true, and_true, true_and, and_false, false_and, bI_T, bI_F, Int.reduceToNat, Nat.reduceAdd, Nat.reduceMul, Int.reduceNeg, Option.bind_some, Int.toNat_natCast]
  have r20 : f_x_copyAll_20_66 F (mk (bcL A 0 46 [17, 18]) Bx) = some ((), mk (bcL A 0 46 [20, 17, 18]) Bx) := by
    rw [← bc_row (A := A) (s := 0) (t := 46) (c := 20) (n := 16) (a := 20) (b := 66) rfl rfl (by decide) (by decide) (by decide) (fun j => by omega)]
    exact cpa F _ Bx (a := 20) (b := 66) (n := 16) (by decide) (by decide) rfl (by decide)
  have r21 : f_x_copyAll_21_67 F (mk (bcL A 0 46 [20, 17, 18]) Bx) = some ((), mk (bcL A 0 46 [21, 20, 17, 18]) Bx) := by
    rw [← bc_row (A := A) (s := 0) (t := 46) (c := 21) (n := 16) (a := 21) (b := 67) rfl rfl (by decide) (by decide) (by decide) (fun j => by omega)]
    exact cpa F _ Bx (a := 21) (b := 67) (n := 16) (by decide) (by decide) rfl (by decide)
  have r22 : f_x_copyAll_22_68 F (mk (bcL A 0 46 [21, 20, 17, 18]) Bx) = some ((), mk (bcL A 0 46 [22, 21, 20, 17, 18]) Bx) := by
    rw [← bc_row (A := A) (s := 0) (t := 46) (c := 22) (n := 16) (a := 22) (b := 68) rfl rfl (by decide) (by decide) (by decide) (fun j => by omega)]
    exact cpa F _ Bx (a := 22) (b := 68) (n := 16) (by decide) (by decide) rfl (by decide)
  have r23 : f_x_copyAll_23_69 F (mk (bcL A 0 46 [22, 21, 20, 17, 18]) Bx) = some ((), mk (bcL A 0 46 [23, 22, 21, 20, 17, 18]) Bx) := by
    rw [← bc_row (A := A) (s := 0) (t := 46) (c := 23) (n := 16) (a := 23) (b := 69) rfl rfl (by decide) (by decide) (by decide) (fun j => by omega)]
    exact cpa F _ Bx (a := 23) (b := 69) (n := 16) (by decide) (by decide) rfl (by decide)
  have r24 : f_x_copyAll_24_70 F (mk (bcL A 0 46 [23, 22, 21, 20, 17, 18]) Bx) = some ((), mk (bcL A 0 46 [24, 23, 22, 21, 20, 17, 18]) Bx) := by
    rw [← bc_row (A := A) (s := 0) (t := 46) (c := 24) (n := 16) (a := 24) (b := 70) rfl rfl (by decide) (by decide) (by decide) (fun j => by omega)]
    exact cpa F _ Bx (a := 24) (b := 70) (n := 16) (by decide) (by decide) rfl (by decide)
  have r25 : f_x_copyAll_25_71 F (mk (bcL A 0 46 [24, 23, 22, 21, 20, 17, 18]) Bx) = some ((), mk (bcL A 0 46 [25, 24, 23, 22, 21, 20, 17, 18]) Bx) := by
    rw [← bc_row (A := A) (s := 0) (t := 46) (c := 25) (n := 16) (a := 25) (b := 71) rfl rfl (by decide) (by decide) (by decide) (fun j => by omega)]
    exact cpa F _ Bx (a := 25) (b := 71) (n := 16) (by decide) (by decide) rfl (by decide)
  have r26 : f_x_copyAll_26_72 F (mk (bcL A 0 46 [25, 24, 23, 22, 21, 20, 17, 18]) Bx) = some ((), mk (bcL A 0 46 [26, 25, 24, 23, 22, 21, 20, 17, 18]) Bx) := by
    rw [← bc_row (A := A) (s := 0) (t := 46) (c := 26) (n := 16) (a := 26) (b := 72) rfl rfl (by decide) (by decide) (by decide) (fun j => by omega)]
    exact cpa F _ Bx (a := 26) (b := 72) (n := 16) (by decide) (by decide) rfl (by decide)
  have r27 : f_x_copyAll_27_73 F (mk (bcL A 0 46 [26, 25, 24, 23, 22, 21, 20, 17, 18]) Bx) = some ((), mk (bcL A 0 46 [27, 26, 25, 24, 23, 22, 21, 20, 17, 18]) Bx) := by
    rw [← bc_row (A := A) (s := 0) (t := 46) (c := 27) (n := 16) (a := 27) (b := 73) rfl rfl (by decide) (by decide) (by decide) (fun j => by omega)]
    exact cpa F _ Bx (a := 27) (b := 73) (n := 16) (by decide) (by decide) rfl (by decide)
  have r28 : f_x_copyAll_28_74 F (mk (bcL A 0 46 [27, 26, 25, 24, 23, 22, 21, 20, 17, 18]) Bx) = some ((), mk (bcL A 0 46 [28, 27, 26, 25, 24, 23, 22, 21, 20, 17, 18]) Bx) := by
    rw [← bc_row (A := A) (s := 0) (t := 46) (c := 28) (n := 16) (a := 28) (b := 74) rfl rfl (by decide) (by decide) (by decide) (fun j => by omega)]
    exact cpa F _ Bx (a := 28) (b := 74) (n := 16) (by decide) (by decide) rfl (by decide)
  have r29 : f_x_copyAll_29_75 F (mk (bcL A 0 46 [28, 27, 26, 25, 24, 23, 22, 21, 20, 17, 18]) Bx) = some ((), mk (bcL A 0 46 [29, 28, 27, 26, 25, 24, 23, 22, 21, 20, 17, 18]) Bx) := by
    rw [← bc_row (A := A) (s := 0) (t := 46) (c := 29) (n := 16) (a := 29) (b := 75) rfl rfl (by decide) (by decide) (by decide) (fun j => by omega)]
    exact cpa F _ Bx (a := 29) (b := 75) (n := 16) (by decide) (by decide) rfl (by decide)
  have r30 : f_x_copyAll_30_76 F (mk (bcL A 0 46 [29, 28, 27, 26, 25, 24, 23, 22, 21, 20, 17, 18]) Bx) = some ((), mk (bcL A 0 46 [30, 29, 28, 27, 26, 25, 24, 23, 22, 21, 20, 17, 18]) Bx) := by
    rw [← bc_row (A := A) (s := 0) (t := 46) (c := 30) (n := 16) (a := 30) (b := 76) rfl rfl (by decide) (by decide) (by decide) (fun j => by omega)]
    exact cpa F _ Bx (a := 30) (b := 76) (n := 16) (by decide) (by decide) rfl (by decide)
  have o19 : f_Houses_become_65_19 F (mk (bcL A 0 46 [17, 18]) Bx) = some ((), mk (bcL A 0 46 [19, 30, 29, 28, 27, 26, 25, 24, 23, 22, 21, 20, 17, 18]) Bx) := by
    rw [← bc_sc (A := A) (s := 0) (t := 46) (c := 19) (a := 19) (b := 65) (js := [12, 11]) rfl rfl (by decide) (by decide) (by decide) (fun j => by simp only [List.mem_cons, List.not_mem_nil, or_false]; omega)]
    unfold f_Houses_become_65_19
    refine obd r20 ?_
    refine obd r21 ?_
    refine obd r22 ?_
    refine obd r23 ?_
    refine obd r24 ?_
    refine obd r25 ?_
    refine obd r26 ?_
    refine obd r27 ?_
    refine obd r28 ?_
    refine obd r29 ?_
    refine obd r30 ?_
    unfold uAs uAs uAs
    simp (disch := first | omega | (simp (disch := omega) only [uA_n]; done) | fail) only [iI_lit, iI_add, iI_sub, iI_mul, iI_neg, iI_lt, iI_le, iI_eq, zlt_t, zlt_f, zle_t, zle_f, zeq_t, zeq_f, nle_t, nle_f, iI_cl, rA, rS, rB, wA, wS, wB, mkp, mk2, uA_s, uA_n, ud_s, ud_n, bI_0, bI_1, nor_s, ↓reduceIte, or_false, false_or, or_true, true_or, or_self, not_true_eq_false, not_false_eq_true, and_true, true_and, and_false, false_and, bI_T, bI_F, Int.reduceToNat, Nat.reduceAdd, Nat.reduceMul, Int.reduceNeg, Option.bind_some, Int.toNat_natCast]
  have r32 : f_x_copyAll_32_78 F (mk (bcL A 0 46 [19, 30, 29, 28, 27, 26, 25, 24, 23, 22, 21, 20, 17, 18]) Bx) = some ((), mk (bcL A 0 46 [32, 19, 30, 29, 28, 27, 26, 25, 24, 23, 22, 21, 20, 17, 18]) Bx) := by
    rw [← bc_row (A := A) (s := 0) (t := 46) (c := 32) (n := 60) (a := 32) (b := 78) rfl rfl (by decide) (by decide) (by decide) (fun j => by omega)]
    exact cpa F _ Bx (a := 32) (b := 78) (n := 60) (by decide) (by decide) rfl (by decide)
  have r33 : f_x_copyAll_33_79 F (mk (bcL A 0 46 [32, 19, 30, 29, 28, 27, 26, 25, 24, 23, 22, 21, 20, 17, 18]) Bx) = some ((), mk (bcL A 0 46 [33, 32, 19, 30, 29, 28, 27, 26, 25, 24, 23, 22, 21, 20, 17, 18]) Bx) := by
    rw [← bc_row (A := A) (s := 0) (t := 46) (c := 33) (n := 60) (a := 33) (b := 79) rfl rfl (by decide) (by decide) (by decide) (fun j => by omega)]
    exact cpa F _ Bx (a := 33) (b := 79) (n := 60) (by decide) (by decide) rfl (by decide)
  have r34 : f_x_copyAll_34_80 F (mk (bcL A 0 46 [33, 32, 19, 30, 29, 28, 27, 26, 25, 24, 23, 22, 21, 20, 17, 18]) Bx) = some ((), mk (bcL A 0 46 [34, 33, 32, 19, 30, 29, 28, 27, 26, 25, 24, 23, 22, 21, 20, 17, 18]) Bx) := by
    rw [← bc_row (A := A) (s := 0) (t := 46) (c := 34) (n := 60) (a := 34) (b := 80) rfl rfl (by decide) (by decide) (by decide) (fun j => by omega)]
    exact cpa F _ Bx (a := 34) (b := 80) (n := 60) (by decide) (by decide) rfl (by decide)
  have r35 : f_x_copyAll_35_81 F (mk (bcL A 0 46 [34, 33, 32, 19, 30, 29, 28, 27, 26, 25, 24, 23, 22, 21, 20, 17, 18]) Bx) = some ((), mk (bcL A 0 46 [35, 34, 33, 32, 19, 30, 29, 28, 27, 26, 25, 24, 23, 22, 21, 20, 17, 18]) Bx) := by
    rw [← bc_row (A := A) (s := 0) (t := 46) (c := 35) (n := 60) (a := 35) (b := 81) rfl rfl (by decide) (by decide) (by decide) (fun j => by omega)]
    exact cpa F _ Bx (a := 35) (b := 81) (n := 60) (by decide) (by decide) rfl (by decide)
  have r36 : f_x_copyAll_36_82 F (mk (bcL A 0 46 [35, 34, 33, 32, 19, 30, 29, 28, 27, 26, 25, 24, 23, 22, 21, 20, 17, 18]) Bx) = some ((), mk (bcL A 0 46 [36, 35, 34, 33, 32, 19, 30, 29, 28, 27, 26, 25, 24, 23, 22, 21, 20, 17, 18]) Bx) := by
    rw [← bc_row (A := A) (s := 0) (t := 46) (c := 36) (n := 60) (a := 36) (b := 82) rfl rfl (by decide) (by decide) (by decide) (fun j => by omega)]
    exact cpa F _ Bx (a := 36) (b := 82) (n := 60) (by decide) (by decide) rfl (by decide)
  have r37 : f_x_copyAll_37_83 F (mk (bcL A 0 46 [36, 35, 34, 33, 32, 19, 30, 29, 28, 27, 26, 25, 24, 23, 22, 21, 20, 17, 18]) Bx) = some ((), mk (bcL A 0 46 [37, 36, 35, 34, 33, 32, 19, 30, 29, 28, 27, 26, 25, 24, 23, 22, 21, 20, 17, 18]) Bx) := by
    rw [← bc_row (A := A) (s := 0) (t := 46) (c := 37) (n := 60) (a := 37) (b := 83) rfl rfl (by decide) (by decide) (by decide) (fun j => by omega)]
    exact cpa F _ Bx (a := 37) (b := 83) (n := 60) (by decide) (by decide) rfl (by decide)
  have r38 : f_x_copyAll_38_84 F (mk (bcL A 0 46 [37, 36, 35, 34, 33, 32, 19, 30, 29, 28, 27, 26, 25, 24, 23, 22, 21, 20, 17, 18]) Bx) = some ((), mk (bcL A 0 46 [38, 37, 36, 35, 34, 33, 32, 19, 30, 29, 28, 27, 26, 25, 24, 23, 22, 21, 20, 17, 18]) Bx) := by
    rw [← bc_row (A := A) (s := 0) (t := 46) (c := 38) (n := 360) (a := 38) (b := 84) rfl rfl (by decide) (by decide) (by decide) (fun j => by omega)]
    exact cpa F _ Bx (a := 38) (b := 84) (n := 360) (by decide) (by decide) rfl (by decide)
  have r39 : f_x_copyAll_39_85 F (mk (bcL A 0 46 [38, 37, 36, 35, 34, 33, 32, 19, 30, 29, 28, 27, 26, 25, 24, 23, 22, 21, 20, 17, 18]) Bx) = some ((), mk (bcL A 0 46 [39, 38, 37, 36, 35, 34, 33, 32, 19, 30, 29, 28, 27, 26, 25, 24, 23, 22, 21, 20, 17, 18]) Bx) := by
    rw [← bc_row (A := A) (s := 0) (t := 46) (c := 39) (n := 60) (a := 39) (b := 85) rfl rfl (by decide) (by decide) (by decide) (fun j => by omega)]
    exact cpa F _ Bx (a := 39) (b := 85) (n := 60) (by decide) (by decide) rfl (by decide)
  have r40 : f_x_copyAll_40_86 F (mk (bcL A 0 46 [39, 38, 37, 36, 35, 34, 33, 32, 19, 30, 29, 28, 27, 26, 25, 24, 23, 22, 21, 20, 17, 18]) Bx) = some ((), mk (bcL A 0 46 [40, 39, 38, 37, 36, 35, 34, 33, 32, 19, 30, 29, 28, 27, 26, 25, 24, 23, 22, 21, 20, 17, 18]) Bx) := by
    rw [← bc_row (A := A) (s := 0) (t := 46) (c := 40) (n := 60) (a := 40) (b := 86) rfl rfl (by decide) (by decide) (by decide) (fun j => by omega)]
    exact cpa F _ Bx (a := 40) (b := 86) (n := 60) (by decide) (by decide) rfl (by decide)
  have r41 : f_x_copyAll_41_87 F (mk (bcL A 0 46 [40, 39, 38, 37, 36, 35, 34, 33, 32, 19, 30, 29, 28, 27, 26, 25, 24, 23, 22, 21, 20, 17, 18]) Bx) = some ((), mk (bcL A 0 46 [41, 40, 39, 38, 37, 36, 35, 34, 33, 32, 19, 30, 29, 28, 27, 26, 25, 24, 23, 22, 21, 20, 17, 18]) Bx) := by
    rw [← bc_row (A := A) (s := 0) (t := 46) (c := 41) (n := 60) (a := 41) (b := 87) rfl rfl (by decide) (by decide) (by decide) (fun j => by omega)]
    exact cpa F _ Bx (a := 41) (b := 87) (n := 60) (by decide) (by decide) rfl (by decide)
  have r42 : f_x_copyAll_42_88 F (mk (bcL A 0 46 [41, 40, 39, 38, 37, 36, 35, 34, 33, 32, 19, 30, 29, 28, 27, 26, 25, 24, 23, 22, 21, 20, 17, 18]) Bx) = some ((), mk (bcL A 0 46 [42, 41, 40, 39, 38, 37, 36, 35, 34, 33, 32, 19, 30, 29, 28, 27, 26, 25, 24, 23, 22, 21, 20, 17, 18]) Bx) := by
    rw [← bc_row (A := A) (s := 0) (t := 46) (c := 42) (n := 60) (a := 42) (b := 88) rfl rfl (by decide) (by decide) (by decide) (fun j => by omega)]
    exact cpa F _ Bx (a := 42) (b := 88) (n := 60) (by decide) (by decide) rfl (by decide)
  have r43 : f_x_copyAll_43_89 F (mk (bcL A 0 46 [42, 41, 40, 39, 38, 37, 36, 35, 34, 33, 32, 19, 30, 29, 28, 27, 26, 25, 24, 23, 22, 21, 20, 17, 18]) Bx) = some ((), mk (bcL A 0 46 [43, 42, 41, 40, 39, 38, 37, 36, 35, 34, 33, 32, 19, 30, 29, 28, 27, 26, 25, 24, 23, 22, 21, 20, 17, 18]) Bx) := by
    rw [← bc_row (A := A) (s := 0) (t := 46) (c := 43) (n := 60) (a := 43) (b := 89) rfl rfl (by decide) (by decide) (by decide) (fun j => by omega)]
    exact cpa F _ Bx (a := 43) (b := 89) (n := 60) (by decide) (by decide) rfl (by decide)
  have r44 : f_x_copyAll_44_90 F (mk (bcL A 0 46 [43, 42, 41, 40, 39, 38, 37, 36, 35, 34, 33, 32, 19, 30, 29, 28, 27, 26, 25, 24, 23, 22, 21, 20, 17, 18]) Bx) = some ((), mk (bcL A 0 46 [44, 43, 42, 41, 40, 39, 38, 37, 36, 35, 34, 33, 32, 19, 30, 29, 28, 27, 26, 25, 24, 23, 22, 21, 20, 17, 18]) Bx) := by
    rw [← bc_row (A := A) (s := 0) (t := 46) (c := 44) (n := 60) (a := 44) (b := 90) rfl rfl (by decide) (by decide) (by decide) (fun j => by omega)]
    exact cpa F _ Bx (a := 44) (b := 90) (n := 60) (by decide) (by decide) rfl (by decide)
  have o31 : f_Papers_become_77_31 F (mk (bcL A 0 46 [19, 30, 29, 28, 27, 26, 25, 24, 23, 22, 21, 20, 17, 18]) Bx) = some ((), mk (bcL A 0 46 [31, 44, 43, 42, 41, 40, 39, 38, 37, 36, 35, 34, 33, 32, 19, 30, 29, 28, 27, 26, 25, 24, 23, 22, 21, 20, 17, 18]) Bx) := by
    rw [← bc_sc (A := A) (s := 0) (t := 46) (c := 31) (a := 31) (b := 77) (js := [15, 14]) rfl rfl (by decide) (by decide) (by decide) (fun j => by simp only [List.mem_cons, List.not_mem_nil, or_false]; omega)]
    unfold f_Papers_become_77_31
    refine obd r32 ?_
    refine obd r33 ?_
    refine obd r34 ?_
    refine obd r35 ?_
    refine obd r36 ?_
    refine obd r37 ?_
    refine obd r38 ?_
    refine obd r39 ?_
    refine obd r40 ?_
    refine obd r41 ?_
    refine obd r42 ?_
    refine obd r43 ?_
    refine obd r44 ?_
    unfold uAs uAs uAs
    simp (disch := first | omega | (simp (disch := omega) only [uA_n]; done) | fail) only [iI_lit, iI_add, iI_sub, iI_mul, iI_neg, iI_lt, iI_le, iI_eq, zlt_t, zlt_f, zle_t, zle_f, zeq_t, zeq_f, nle_t, nle_f, iI_cl, rA, rS, rB, wA, wS, wB, mkp, mk2, uA_s, uA_n, ud_s, ud_n, bI_0, bI_1, nor_s, ↓reduceIte, or_false, false_or, or_true, true_or, or_self, not_true_eq_false, not_false_eq_true, and_true, true_and, and_false, false_and, bI_T, bI_F, Int.reduceToNat, Nat.reduceAdd, Nat.reduceMul, Int.reduceNeg, Option.bind_some, Int.toNat_natCast]
  have r47 : f_x_copyAll_47_93 F (mk (bcL A 0 46 [31, 44, 43, 42, 41, 40, 39, 38, 37, 36, 35, 34, 33, 32, 19, 30, 29, 28, 27, 26, 25, 24, 23, 22, 21, 20, 17, 18]) Bx) = some ((), mk (bcL A 0 46 [47, 31, 44, 43, 42, 41, 40, 39, 38, 37, 36, 35, 34, 33, 32, 19, 30, 29, 28, 27, 26, 25, 24, 23, 22, 21, 20, 17, 18]) Bx) := by
    rw [← bc_row (A := A) (s := 0) (t := 46) (c := 47) (n := 8) (a := 47) (b := 93) rfl rfl (by decide) (by decide) (by decide) (fun j => by omega)]
    exact cpa F _ Bx (a := 47) (b := 93) (n := 8) (by decide) (by decide) rfl (by decide)
  have r48 : f_x_copyAll_48_94 F (mk (bcL A 0 46 [47, 31, 44, 43, 42, 41, 40, 39, 38, 37, 36, 35, 34, 33, 32, 19, 30, 29, 28, 27, 26, 25, 24, 23, 22, 21, 20, 17, 18]) Bx) = some ((), mk (bcL A 0 46 [48, 47, 31, 44, 43, 42, 41, 40, 39, 38, 37, 36, 35, 34, 33, 32, 19, 30, 29, 28, 27, 26, 25, 24, 23, 22, 21, 20, 17, 18]) Bx) := by
    rw [← bc_row (A := A) (s := 0) (t := 46) (c := 48) (n := 8) (a := 48) (b := 94) rfl rfl (by decide) (by decide) (by decide) (fun j => by omega)]
    exact cpa F _ Bx (a := 48) (b := 94) (n := 8) (by decide) (by decide) rfl (by decide)
  have r49 : f_x_copyAll_49_95 F (mk (bcL A 0 46 [48, 47, 31, 44, 43, 42, 41, 40, 39, 38, 37, 36, 35, 34, 33, 32, 19, 30, 29, 28, 27, 26, 25, 24, 23, 22, 21, 20, 17, 18]) Bx) = some ((), mk (bcL A 0 46 [49, 48, 47, 31, 44, 43, 42, 41, 40, 39, 38, 37, 36, 35, 34, 33, 32, 19, 30, 29, 28, 27, 26, 25, 24, 23, 22, 21, 20, 17, 18]) Bx) := by
    rw [← bc_row (A := A) (s := 0) (t := 46) (c := 49) (n := 8) (a := 49) (b := 95) rfl rfl (by decide) (by decide) (by decide) (fun j => by omega)]
    exact cpa F _ Bx (a := 49) (b := 95) (n := 8) (by decide) (by decide) rfl (by decide)
  have r50 : f_x_copyAll_50_96 F (mk (bcL A 0 46 [49, 48, 47, 31, 44, 43, 42, 41, 40, 39, 38, 37, 36, 35, 34, 33, 32, 19, 30, 29, 28, 27, 26, 25, 24, 23, 22, 21, 20, 17, 18]) Bx) = some ((), mk (bcL A 0 46 [50, 49, 48, 47, 31, 44, 43, 42, 41, 40, 39, 38, 37, 36, 35, 34, 33, 32, 19, 30, 29, 28, 27, 26, 25, 24, 23, 22, 21, 20, 17, 18]) Bx) := by
    rw [← bc_row (A := A) (s := 0) (t := 46) (c := 50) (n := 8) (a := 50) (b := 96) rfl rfl (by decide) (by decide) (by decide) (fun j => by omega)]
    exact cpa F _ Bx (a := 50) (b := 96) (n := 8) (by decide) (by decide) rfl (by decide)
  have r51 : f_x_copyAll_51_97 F (mk (bcL A 0 46 [50, 49, 48, 47, 31, 44, 43, 42, 41, 40, 39, 38, 37, 36, 35, 34, 33, 32, 19, 30, 29, 28, 27, 26, 25, 24, 23, 22, 21, 20, 17, 18]) Bx) = some ((), mk (bcL A 0 46 [51, 50, 49, 48, 47, 31, 44, 43, 42, 41, 40, 39, 38, 37, 36, 35, 34, 33, 32, 19, 30, 29, 28, 27, 26, 25, 24, 23, 22, 21, 20, 17, 18]) Bx) := by
    rw [← bc_row (A := A) (s := 0) (t := 46) (c := 51) (n := 8) (a := 51) (b := 97) rfl rfl (by decide) (by decide) (by decide) (fun j => by omega)]
    exact cpa F _ Bx (a := 51) (b := 97) (n := 8) (by decide) (by decide) rfl (by decide)
  have o46 : f_Trades_become_92_46 F (mk (bcL A 0 46 [31, 44, 43, 42, 41, 40, 39, 38, 37, 36, 35, 34, 33, 32, 19, 30, 29, 28, 27, 26, 25, 24, 23, 22, 21, 20, 17, 18]) Bx) = some ((), mk (bcL A 0 46 [46, 51, 50, 49, 48, 47, 31, 44, 43, 42, 41, 40, 39, 38, 37, 36, 35, 34, 33, 32, 19, 30, 29, 28, 27, 26, 25, 24, 23, 22, 21, 20, 17, 18]) Bx) := by
    rw [← bc_sc (A := A) (s := 0) (t := 46) (c := 46) (a := 46) (b := 92) (js := [5]) rfl rfl (by decide) (by decide) (by decide) (fun j => by simp only [List.mem_cons, List.not_mem_nil, or_false]; omega)]
    unfold f_Trades_become_92_46
    refine obd r47 ?_
    refine obd r48 ?_
    refine obd r49 ?_
    refine obd r50 ?_
    refine obd r51 ?_
    unfold uAs uAs
    simp (disch := first | omega | (simp (disch := omega) only [uA_n]; done) | fail) only [iI_lit, iI_add, iI_sub, iI_mul, iI_neg, iI_lt, iI_le, iI_eq, zlt_t, zlt_f, zle_t, zle_f, zeq_t, zeq_f, nle_t, nle_f, iI_cl, rA, rS, rB, wA, wS, wB, mkp, mk2, uA_s, uA_n, ud_s, ud_n, bI_0, bI_1, nor_s, ↓reduceIte, or_false, false_or, or_true, true_or, or_self, not_true_eq_false, not_false_eq_true, and_true, true_and, and_false, false_and, bI_T, bI_F, Int.reduceToNat, Nat.reduceAdd, Nat.reduceMul, Int.reduceNeg, Option.bind_some, Int.toNat_natCast]
  have r53 : f_x_copyAll_53_99 F (mk (bcL A 0 46 [46, 51, 50, 49, 48, 47, 31, 44, 43, 42, 41, 40, 39, 38, 37, 36, 35, 34, 33, 32, 19, 30, 29, 28, 27, 26, 25, 24, 23, 22, 21, 20, 17, 18]) Bx) = some ((), mk (bcL A 0 46 [53, 46, 51, 50, 49, 48, 47, 31, 44, 43, 42, 41, 40, 39, 38, 37, 36, 35, 34, 33, 32, 19, 30, 29, 28, 27, 26, 25, 24, 23, 22, 21, 20, 17, 18]) Bx) := by
    rw [← bc_row (A := A) (s := 0) (t := 46) (c := 53) (n := 104) (a := 53) (b := 99) rfl rfl (by decide) (by decide) (by decide) (fun j => by omega)]
    exact cpa F _ Bx (a := 53) (b := 99) (n := 104) (by decide) (by decide) rfl (by decide)
  have o52 : f_Seasons_become_98_52 F (mk (bcL A 0 46 [46, 51, 50, 49, 48, 47, 31, 44, 43, 42, 41, 40, 39, 38, 37, 36, 35, 34, 33, 32, 19, 30, 29, 28, 27, 26, 25, 24, 23, 22, 21, 20, 17, 18]) Bx) = some ((), mk (bcL A 0 46 [53, 46, 51, 50, 49, 48, 47, 31, 44, 43, 42, 41, 40, 39, 38, 37, 36, 35, 34, 33, 32, 19, 30, 29, 28, 27, 26, 25, 24, 23, 22, 21, 20, 17, 18]) Bx) := by
    unfold f_Seasons_become_98_52
    refine obd r53 ?_
    rfl
  have r56 : f_x_copyAll_56_102 F (mk (bcL A 0 46 [53, 46, 51, 50, 49, 48, 47, 31, 44, 43, 42, 41, 40, 39, 38, 37, 36, 35, 34, 33, 32, 19, 30, 29, 28, 27, 26, 25, 24, 23, 22, 21, 20, 17, 18]) Bx) = some ((), mk (bcL A 0 46 [56, 53, 46, 51, 50, 49, 48, 47, 31, 44, 43, 42, 41, 40, 39, 38, 37, 36, 35, 34, 33, 32, 19, 30, 29, 28, 27, 26, 25, 24, 23, 22, 21, 20, 17, 18]) Bx) := by
    rw [← bc_row (A := A) (s := 0) (t := 46) (c := 56) (n := 300) (a := 56) (b := 102) rfl rfl (by decide) (by decide) (by decide) (fun j => by omega)]
    exact cpa F _ Bx (a := 56) (b := 102) (n := 300) (by decide) (by decide) rfl (by decide)
  have r57 : f_x_copyAll_57_103 F (mk (bcL A 0 46 [56, 53, 46, 51, 50, 49, 48, 47, 31, 44, 43, 42, 41, 40, 39, 38, 37, 36, 35, 34, 33, 32, 19, 30, 29, 28, 27, 26, 25, 24, 23, 22, 21, 20, 17, 18]) Bx) = some ((), mk (bcL A 0 46 [57, 56, 53, 46, 51, 50, 49, 48, 47, 31, 44, 43, 42, 41, 40, 39, 38, 37, 36, 35, 34, 33, 32, 19, 30, 29, 28, 27, 26, 25, 24, 23, 22, 21, 20, 17, 18]) Bx) := by
    rw [← bc_row (A := A) (s := 0) (t := 46) (c := 57) (n := 300) (a := 57) (b := 103) rfl rfl (by decide) (by decide) (by decide) (fun j => by omega)]
    exact cpa F _ Bx (a := 57) (b := 103) (n := 300) (by decide) (by decide) rfl (by decide)
  have r58 : f_x_copyAll_58_104 F (mk (bcL A 0 46 [57, 56, 53, 46, 51, 50, 49, 48, 47, 31, 44, 43, 42, 41, 40, 39, 38, 37, 36, 35, 34, 33, 32, 19, 30, 29, 28, 27, 26, 25, 24, 23, 22, 21, 20, 17, 18]) Bx) = some ((), mk (bcL A 0 46 [58, 57, 56, 53, 46, 51, 50, 49, 48, 47, 31, 44, 43, 42, 41, 40, 39, 38, 37, 36, 35, 34, 33, 32, 19, 30, 29, 28, 27, 26, 25, 24, 23, 22, 21, 20, 17, 18]) Bx) := by
    rw [← bc_row (A := A) (s := 0) (t := 46) (c := 58) (n := 400) (a := 58) (b := 104) rfl rfl (by decide) (by decide) (by decide) (fun j => by omega)]
    exact cpa F _ Bx (a := 58) (b := 104) (n := 400) (by decide) (by decide) rfl (by decide)
  have r59 : f_x_copyAll_59_105 F (mk (bcL A 0 46 [58, 57, 56, 53, 46, 51, 50, 49, 48, 47, 31, 44, 43, 42, 41, 40, 39, 38, 37, 36, 35, 34, 33, 32, 19, 30, 29, 28, 27, 26, 25, 24, 23, 22, 21, 20, 17, 18]) Bx) = some ((), mk (bcL A 0 46 [59, 58, 57, 56, 53, 46, 51, 50, 49, 48, 47, 31, 44, 43, 42, 41, 40, 39, 38, 37, 36, 35, 34, 33, 32, 19, 30, 29, 28, 27, 26, 25, 24, 23, 22, 21, 20, 17, 18]) Bx) := by
    rw [← bc_row (A := A) (s := 0) (t := 46) (c := 59) (n := 400) (a := 59) (b := 105) rfl rfl (by decide) (by decide) (by decide) (fun j => by omega)]
    exact cpa F _ Bx (a := 59) (b := 105) (n := 400) (by decide) (by decide) rfl (by decide)
  have r60 : f_x_copyAll_60_106 F (mk (bcL A 0 46 [59, 58, 57, 56, 53, 46, 51, 50, 49, 48, 47, 31, 44, 43, 42, 41, 40, 39, 38, 37, 36, 35, 34, 33, 32, 19, 30, 29, 28, 27, 26, 25, 24, 23, 22, 21, 20, 17, 18]) Bx) = some ((), mk (bcL A 0 46 [60, 59, 58, 57, 56, 53, 46, 51, 50, 49, 48, 47, 31, 44, 43, 42, 41, 40, 39, 38, 37, 36, 35, 34, 33, 32, 19, 30, 29, 28, 27, 26, 25, 24, 23, 22, 21, 20, 17, 18]) Bx) := by
    rw [← bc_row (A := A) (s := 0) (t := 46) (c := 60) (n := 400) (a := 60) (b := 106) rfl rfl (by decide) (by decide) (by decide) (fun j => by omega)]
    exact cpa F _ Bx (a := 60) (b := 106) (n := 400) (by decide) (by decide) rfl (by decide)
  have r61 : f_x_copyAll_61_107 F (mk (bcL A 0 46 [60, 59, 58, 57, 56, 53, 46, 51, 50, 49, 48, 47, 31, 44, 43, 42, 41, 40, 39, 38, 37, 36, 35, 34, 33, 32, 19, 30, 29, 28, 27, 26, 25, 24, 23, 22, 21, 20, 17, 18]) Bx) = some ((), mk (bcL A 0 46 [61, 60, 59, 58, 57, 56, 53, 46, 51, 50, 49, 48, 47, 31, 44, 43, 42, 41, 40, 39, 38, 37, 36, 35, 34, 33, 32, 19, 30, 29, 28, 27, 26, 25, 24, 23, 22, 21, 20, 17, 18]) Bx) := by
    rw [← bc_row (A := A) (s := 0) (t := 46) (c := 61) (n := 16) (a := 61) (b := 107) rfl rfl (by decide) (by decide) (by decide) (fun j => by omega)]
    exact cpa F _ Bx (a := 61) (b := 107) (n := 16) (by decide) (by decide) rfl (by decide)
  have o55 : f_Notes_become_101_55 F (mk (bcL A 0 46 [53, 46, 51, 50, 49, 48, 47, 31, 44, 43, 42, 41, 40, 39, 38, 37, 36, 35, 34, 33, 32, 19, 30, 29, 28, 27, 26, 25, 24, 23, 22, 21, 20, 17, 18]) Bx) = some ((), mk (bcL A 0 46 [55, 61, 60, 59, 58, 57, 56, 53, 46, 51, 50, 49, 48, 47, 31, 44, 43, 42, 41, 40, 39, 38, 37, 36, 35, 34, 33, 32, 19, 30, 29, 28, 27, 26, 25, 24, 23, 22, 21, 20, 17, 18]) Bx) := by
    rw [← bc_sc (A := A) (s := 0) (t := 46) (c := 55) (a := 55) (b := 101) (js := [12, 11, 10, 9, 8, 7]) rfl rfl (by decide) (by decide) (by decide) (fun j => by simp only [List.mem_cons, List.not_mem_nil, or_false]; omega)]
    unfold f_Notes_become_101_55
    refine obd r56 ?_
    refine obd r57 ?_
    refine obd r58 ?_
    refine obd r59 ?_
    refine obd r60 ?_
    refine obd r61 ?_
    simp only [f_Notes_become_101_55_90]
    unfold uAs uAs uAs uAs uAs uAs uAs
    simp (disch := first | omega | (simp (disch := omega) only [uA_n]; done) | fail) only [iI_lit, iI_add, iI_sub, iI_mul, iI_neg, iI_lt, iI_le, iI_eq, zlt_t, zlt_f, zle_t, zle_f, zeq_t, zeq_f, nle_t, nle_f, iI_cl, rA, rS, rB, wA, wS, wB, mkp, mk2, uA_s, uA_n, ud_s, ud_n, bI_0, bI_1, nor_s, ↓reduceIte, or_false, false_or, or_true, true_or, or_self, not_true_eq_false, not_false_eq_true, and_true, true_and, and_false, false_and, bI_T, bI_F, Int.reduceToNat, Nat.reduceAdd, Nat.reduceMul, Int.reduceNeg, Option.bind_some, Int.toNat_natCast]
  have fin : bcL A 0 46 [16, 55, 61, 60, 59, 58, 57, 56, 53, 46, 51, 50, 49, 48, 47, 31, 44, 43, 42, 41, 40, 39, 38, 37, 36, 35, 34, 33, 32, 19, 30, 29, 28, 27, 26, 25, 24, 23, 22, 21, 20, 17, 18] = bec A 0 46 := bcL_all A 0 46 (by decide)
  rw [← fin, ← bc_sc (A := A) (s := 0) (t := 46) (c := 16) (a := 16) (b := 62) (js := [14, 13, 12, 11, 10, 9]) rfl rfl (by decide) (by decide) (by decide) (fun j => by simp only [List.mem_cons, List.not_mem_nil, or_false]; omega)]
  have e0 : mk A Bx = mk (bcL A 0 46 []) Bx := by rw [bcL_nil]
  rw [e0]
  unfold f_World_become_62_16
  refine obd o17 ?_
  refine obd o19 ?_
  refine obd o31 ?_
  refine obd o46 ?_
  refine obd o52 ?_
  refine obd o55 ?_
  simp only [f_World_become_62_16_90]
  unfold uAs uAs uAs uAs uAs uAs uAs
  simp (disch := first | omega | (simp (disch := omega) only [uA_n]; done) | fail) only [iI_lit, iI_add, iI_sub, iI_mul, iI_neg, iI_lt, iI_le, iI_eq, zlt_t, zlt_f, zle_t, zle_f, zeq_t, zeq_f, nle_t, nle_f, iI_cl, rA, rS, rB, wA, wS, wB, mkp, mk2, uA_s, uA_n, ud_s, ud_n, bI_0, bI_1, nor_s, ↓reduceIte, or_false, false_or, or_true, true_or, or_self, not_true_eq_false, not_false_eq_true, and_true, true_and, and_false, false_and, bI_T, bI_F, Int.reduceToNat, Nat.reduceAdd, Nat.reduceMul, Int.reduceNeg, Option.bind_some, Int.toNat_natCast]
theorem ex_bc_16_62 (A Bx : hI) : f_World_become_16_62 F (mk A Bx) = some ((), mk (bec A 46 0) Bx) := by
  have r18 : f_x_copyAll_64_18 F (mk (bcL A 46 0 []) Bx) = some ((), mk (bcL A 46 0 [18]) Bx) := by
    rw [← bc_row (A := A) (s := 46) (t := 0) (c := 18) (n := 64) (a := 64) (b := 18) rfl rfl (by decide) (by decide) (by decide) (fun j => by omega)]
    exact cpa F _ Bx (a := 64) (b := 18) (n := 64) (by decide) (by decide) rfl (by decide)
  have o17 : f_Land_become_17_63 F (mk (bcL A 46 0 []) Bx) = some ((), mk (bcL A 46 0 [17, 18]) Bx) := by
    rw [← bc_sc (A := A) (s := 46) (t := 0) (c := 17) (a := 63) (b := 17) (js := [2, 1]) rfl rfl (by decide) (by decide) (by decide) (fun j => by simp only [List.mem_cons, List.not_mem_nil, or_false]; omega)]
    unfold f_Land_become_17_63
    refine obd r18 ?_
    unfold uAs uAs uAs
    simp (disch := first | omega | (simp (disch := omega) only [uA_n]; done) | fail) only [iI_lit, iI_add, iI_sub, iI_mul, iI_neg, iI_lt, iI_le, iI_eq, zlt_t, zlt_f, zle_t, zle_f, zeq_t, zeq_f, nle_t, nle_f, iI_cl, rA, rS, rB, wA, wS, wB, mkp, mk2, uA_s, uA_n, ud_s, ud_n, bI_0, bI_1, nor_s, ↓reduceIte, or_false, false_or, or_true, true_or, or_self, not_true_eq_false, not_false_eq_true, and_true, true_and, and_false, false_and, bI_T, bI_F, Int.reduceToNat, Nat.reduceAdd, Nat.reduceMul, Int.reduceNeg, Option.bind_some, Int.toNat_natCast]
  have r20 : f_x_copyAll_66_20 F (mk (bcL A 46 0 [17, 18]) Bx) = some ((), mk (bcL A 46 0 [20, 17, 18]) Bx) := by
    rw [← bc_row (A := A) (s := 46) (t := 0) (c := 20) (n := 16) (a := 66) (b := 20) rfl rfl (by decide) (by decide) (by decide) (fun j => by omega)]
    exact cpa F _ Bx (a := 66) (b := 20) (n := 16) (by decide) (by decide) rfl (by decide)
  have r21 : f_x_copyAll_67_21 F (mk (bcL A 46 0 [20, 17, 18]) Bx) = some ((), mk (bcL A 46 0 [21, 20, 17, 18]) Bx) := by
    rw [← bc_row (A := A) (s := 46) (t := 0) (c := 21) (n := 16) (a := 67) (b := 21) rfl rfl (by decide) (by decide) (by decide) (fun j => by omega)]
    exact cpa F _ Bx (a := 67) (b := 21) (n := 16) (by decide) (by decide) rfl (by decide)
  have r22 : f_x_copyAll_68_22 F (mk (bcL A 46 0 [21, 20, 17, 18]) Bx) = some ((), mk (bcL A 46 0 [22, 21, 20, 17, 18]) Bx) := by
    rw [← bc_row (A := A) (s := 46) (t := 0) (c := 22) (n := 16) (a := 68) (b := 22) rfl rfl (by decide) (by decide) (by decide) (fun j => by omega)]
    exact cpa F _ Bx (a := 68) (b := 22) (n := 16) (by decide) (by decide) rfl (by decide)
  have r23 : f_x_copyAll_69_23 F (mk (bcL A 46 0 [22, 21, 20, 17, 18]) Bx) = some ((), mk (bcL A 46 0 [23, 22, 21, 20, 17, 18]) Bx) := by
    rw [← bc_row (A := A) (s := 46) (t := 0) (c := 23) (n := 16) (a := 69) (b := 23) rfl rfl (by decide) (by decide) (by decide) (fun j => by omega)]
    exact cpa F _ Bx (a := 69) (b := 23) (n := 16) (by decide) (by decide) rfl (by decide)
  have r24 : f_x_copyAll_70_24 F (mk (bcL A 46 0 [23, 22, 21, 20, 17, 18]) Bx) = some ((), mk (bcL A 46 0 [24, 23, 22, 21, 20, 17, 18]) Bx) := by
    rw [← bc_row (A := A) (s := 46) (t := 0) (c := 24) (n := 16) (a := 70) (b := 24) rfl rfl (by decide) (by decide) (by decide) (fun j => by omega)]
    exact cpa F _ Bx (a := 70) (b := 24) (n := 16) (by decide) (by decide) rfl (by decide)
  have r25 : f_x_copyAll_71_25 F (mk (bcL A 46 0 [24, 23, 22, 21, 20, 17, 18]) Bx) = some ((), mk (bcL A 46 0 [25, 24, 23, 22, 21, 20, 17, 18]) Bx) := by
    rw [← bc_row (A := A) (s := 46) (t := 0) (c := 25) (n := 16) (a := 71) (b := 25) rfl rfl (by decide) (by decide) (by decide) (fun j => by omega)]
    exact cpa F _ Bx (a := 71) (b := 25) (n := 16) (by decide) (by decide) rfl (by decide)
  have r26 : f_x_copyAll_72_26 F (mk (bcL A 46 0 [25, 24, 23, 22, 21, 20, 17, 18]) Bx) = some ((), mk (bcL A 46 0 [26, 25, 24, 23, 22, 21, 20, 17, 18]) Bx) := by
    rw [← bc_row (A := A) (s := 46) (t := 0) (c := 26) (n := 16) (a := 72) (b := 26) rfl rfl (by decide) (by decide) (by decide) (fun j => by omega)]
    exact cpa F _ Bx (a := 72) (b := 26) (n := 16) (by decide) (by decide) rfl (by decide)
  have r27 : f_x_copyAll_73_27 F (mk (bcL A 46 0 [26, 25, 24, 23, 22, 21, 20, 17, 18]) Bx) = some ((), mk (bcL A 46 0 [27, 26, 25, 24, 23, 22, 21, 20, 17, 18]) Bx) := by
    rw [← bc_row (A := A) (s := 46) (t := 0) (c := 27) (n := 16) (a := 73) (b := 27) rfl rfl (by decide) (by decide) (by decide) (fun j => by omega)]
    exact cpa F _ Bx (a := 73) (b := 27) (n := 16) (by decide) (by decide) rfl (by decide)
  have r28 : f_x_copyAll_74_28 F (mk (bcL A 46 0 [27, 26, 25, 24, 23, 22, 21, 20, 17, 18]) Bx) = some ((), mk (bcL A 46 0 [28, 27, 26, 25, 24, 23, 22, 21, 20, 17, 18]) Bx) := by
    rw [← bc_row (A := A) (s := 46) (t := 0) (c := 28) (n := 16) (a := 74) (b := 28) rfl rfl (by decide) (by decide) (by decide) (fun j => by omega)]
    exact cpa F _ Bx (a := 74) (b := 28) (n := 16) (by decide) (by decide) rfl (by decide)
  have r29 : f_x_copyAll_75_29 F (mk (bcL A 46 0 [28, 27, 26, 25, 24, 23, 22, 21, 20, 17, 18]) Bx) = some ((), mk (bcL A 46 0 [29, 28, 27, 26, 25, 24, 23, 22, 21, 20, 17, 18]) Bx) := by
    rw [← bc_row (A := A) (s := 46) (t := 0) (c := 29) (n := 16) (a := 75) (b := 29) rfl rfl (by decide) (by decide) (by decide) (fun j => by omega)]
    exact cpa F _ Bx (a := 75) (b := 29) (n := 16) (by decide) (by decide) rfl (by decide)
  have r30 : f_x_copyAll_76_30 F (mk (bcL A 46 0 [29, 28, 27, 26, 25, 24, 23, 22, 21, 20, 17, 18]) Bx) = some ((), mk (bcL A 46 0 [30, 29, 28, 27, 26, 25, 24, 23, 22, 21, 20, 17, 18]) Bx) := by
    rw [← bc_row (A := A) (s := 46) (t := 0) (c := 30) (n := 16) (a := 76) (b := 30) rfl rfl (by decide) (by decide) (by decide) (fun j => by omega)]
    exact cpa F _ Bx (a := 76) (b := 30) (n := 16) (by decide) (by decide) rfl (by decide)
  have o19 : f_Houses_become_19_65 F (mk (bcL A 46 0 [17, 18]) Bx) = some ((), mk (bcL A 46 0 [19, 30, 29, 28, 27, 26, 25, 24, 23, 22, 21, 20, 17, 18]) Bx) := by
    rw [← bc_sc (A := A) (s := 46) (t := 0) (c := 19) (a := 65) (b := 19) (js := [12, 11]) rfl rfl (by decide) (by decide) (by decide) (fun j => by simp only [List.mem_cons, List.not_mem_nil, or_false]; omega)]
    unfold f_Houses_become_19_65
    refine obd r20 ?_
    refine obd r21 ?_
    refine obd r22 ?_
    refine obd r23 ?_
    refine obd r24 ?_
    refine obd r25 ?_
    refine obd r26 ?_
    refine obd r27 ?_
    refine obd r28 ?_
    refine obd r29 ?_
    refine obd r30 ?_
    unfold uAs uAs uAs
    simp (disch := first | omega | (simp (disch := omega) only [uA_n]; done) | fail) only [iI_lit, iI_add, iI_sub, iI_mul, iI_neg, iI_lt, iI_le, iI_eq, zlt_t, zlt_f, zle_t, zle_f, zeq_t, zeq_f, nle_t, nle_f, iI_cl, rA, rS, rB, wA, wS, wB, mkp, mk2, uA_s, uA_n, ud_s, ud_n, bI_0, bI_1, nor_s, ↓reduceIte, or_false, false_or, or_true, true_or, or_self, not_true_eq_false, not_false_eq_true, and_true, true_and, and_false, false_and, bI_T, bI_F, Int.reduceToNat, Nat.reduceAdd, Nat.reduceMul, Int.reduceNeg, Option.bind_some, Int.toNat_natCast]
  have r32 : f_x_copyAll_78_32 F (mk (bcL A 46 0 [19, 30, 29, 28, 27, 26, 25, 24, 23, 22, 21, 20, 17, 18]) Bx) = some ((), mk (bcL A 46 0 [32, 19, 30, 29, 28, 27, 26, 25, 24, 23, 22, 21, 20, 17, 18]) Bx) := by
    rw [← bc_row (A := A) (s := 46) (t := 0) (c := 32) (n := 60) (a := 78) (b := 32) rfl rfl (by decide) (by decide) (by decide) (fun j => by omega)]
    exact cpa F _ Bx (a := 78) (b := 32) (n := 60) (by decide) (by decide) rfl (by decide)
  have r33 : f_x_copyAll_79_33 F (mk (bcL A 46 0 [32, 19, 30, 29, 28, 27, 26, 25, 24, 23, 22, 21, 20, 17, 18]) Bx) = some ((), mk (bcL A 46 0 [33, 32, 19, 30, 29, 28, 27, 26, 25, 24, 23, 22, 21, 20, 17, 18]) Bx) := by
    rw [← bc_row (A := A) (s := 46) (t := 0) (c := 33) (n := 60) (a := 79) (b := 33) rfl rfl (by decide) (by decide) (by decide) (fun j => by omega)]
    exact cpa F _ Bx (a := 79) (b := 33) (n := 60) (by decide) (by decide) rfl (by decide)
  have r34 : f_x_copyAll_80_34 F (mk (bcL A 46 0 [33, 32, 19, 30, 29, 28, 27, 26, 25, 24, 23, 22, 21, 20, 17, 18]) Bx) = some ((), mk (bcL A 46 0 [34, 33, 32, 19, 30, 29, 28, 27, 26, 25, 24, 23, 22, 21, 20, 17, 18]) Bx) := by
    rw [← bc_row (A := A) (s := 46) (t := 0) (c := 34) (n := 60) (a := 80) (b := 34) rfl rfl (by decide) (by decide) (by decide) (fun j => by omega)]
    exact cpa F _ Bx (a := 80) (b := 34) (n := 60) (by decide) (by decide) rfl (by decide)
  have r35 : f_x_copyAll_81_35 F (mk (bcL A 46 0 [34, 33, 32, 19, 30, 29, 28, 27, 26, 25, 24, 23, 22, 21, 20, 17, 18]) Bx) = some ((), mk (bcL A 46 0 [35, 34, 33, 32, 19, 30, 29, 28, 27, 26, 25, 24, 23, 22, 21, 20, 17, 18]) Bx) := by
    rw [← bc_row (A := A) (s := 46) (t := 0) (c := 35) (n := 60) (a := 81) (b := 35) rfl rfl (by decide) (by decide) (by decide) (fun j => by omega)]
    exact cpa F _ Bx (a := 81) (b := 35) (n := 60) (by decide) (by decide) rfl (by decide)
  have r36 : f_x_copyAll_82_36 F (mk (bcL A 46 0 [35, 34, 33, 32, 19, 30, 29, 28, 27, 26, 25, 24, 23, 22, 21, 20, 17, 18]) Bx) = some ((), mk (bcL A 46 0 [36, 35, 34, 33, 32, 19, 30, 29, 28, 27, 26, 25, 24, 23, 22, 21, 20, 17, 18]) Bx) := by
    rw [← bc_row (A := A) (s := 46) (t := 0) (c := 36) (n := 60) (a := 82) (b := 36) rfl rfl (by decide) (by decide) (by decide) (fun j => by omega)]
    exact cpa F _ Bx (a := 82) (b := 36) (n := 60) (by decide) (by decide) rfl (by decide)
  have r37 : f_x_copyAll_83_37 F (mk (bcL A 46 0 [36, 35, 34, 33, 32, 19, 30, 29, 28, 27, 26, 25, 24, 23, 22, 21, 20, 17, 18]) Bx) = some ((), mk (bcL A 46 0 [37, 36, 35, 34, 33, 32, 19, 30, 29, 28, 27, 26, 25, 24, 23, 22, 21, 20, 17, 18]) Bx) := by
    rw [← bc_row (A := A) (s := 46) (t := 0) (c := 37) (n := 60) (a := 83) (b := 37) rfl rfl (by decide) (by decide) (by decide) (fun j => by omega)]
    exact cpa F _ Bx (a := 83) (b := 37) (n := 60) (by decide) (by decide) rfl (by decide)
  have r38 : f_x_copyAll_84_38 F (mk (bcL A 46 0 [37, 36, 35, 34, 33, 32, 19, 30, 29, 28, 27, 26, 25, 24, 23, 22, 21, 20, 17, 18]) Bx) = some ((), mk (bcL A 46 0 [38, 37, 36, 35, 34, 33, 32, 19, 30, 29, 28, 27, 26, 25, 24, 23, 22, 21, 20, 17, 18]) Bx) := by
    rw [← bc_row (A := A) (s := 46) (t := 0) (c := 38) (n := 360) (a := 84) (b := 38) rfl rfl (by decide) (by decide) (by decide) (fun j => by omega)]
    exact cpa F _ Bx (a := 84) (b := 38) (n := 360) (by decide) (by decide) rfl (by decide)
  have r39 : f_x_copyAll_85_39 F (mk (bcL A 46 0 [38, 37, 36, 35, 34, 33, 32, 19, 30, 29, 28, 27, 26, 25, 24, 23, 22, 21, 20, 17, 18]) Bx) = some ((), mk (bcL A 46 0 [39, 38, 37, 36, 35, 34, 33, 32, 19, 30, 29, 28, 27, 26, 25, 24, 23, 22, 21, 20, 17, 18]) Bx) := by
    rw [← bc_row (A := A) (s := 46) (t := 0) (c := 39) (n := 60) (a := 85) (b := 39) rfl rfl (by decide) (by decide) (by decide) (fun j => by omega)]
    exact cpa F _ Bx (a := 85) (b := 39) (n := 60) (by decide) (by decide) rfl (by decide)
  have r40 : f_x_copyAll_86_40 F (mk (bcL A 46 0 [39, 38, 37, 36, 35, 34, 33, 32, 19, 30, 29, 28, 27, 26, 25, 24, 23, 22, 21, 20, 17, 18]) Bx) = some ((), mk (bcL A 46 0 [40, 39, 38, 37, 36, 35, 34, 33, 32, 19, 30, 29, 28, 27, 26, 25, 24, 23, 22, 21, 20, 17, 18]) Bx) := by
    rw [← bc_row (A := A) (s := 46) (t := 0) (c := 40) (n := 60) (a := 86) (b := 40) rfl rfl (by decide) (by decide) (by decide) (fun j => by omega)]
    exact cpa F _ Bx (a := 86) (b := 40) (n := 60) (by decide) (by decide) rfl (by decide)
  have r41 : f_x_copyAll_87_41 F (mk (bcL A 46 0 [40, 39, 38, 37, 36, 35, 34, 33, 32, 19, 30, 29, 28, 27, 26, 25, 24, 23, 22, 21, 20, 17, 18]) Bx) = some ((), mk (bcL A 46 0 [41, 40, 39, 38, 37, 36, 35, 34, 33, 32, 19, 30, 29, 28, 27, 26, 25, 24, 23, 22, 21, 20, 17, 18]) Bx) := by
    rw [← bc_row (A := A) (s := 46) (t := 0) (c := 41) (n := 60) (a := 87) (b := 41) rfl rfl (by decide) (by decide) (by decide) (fun j => by omega)]
    exact cpa F _ Bx (a := 87) (b := 41) (n := 60) (by decide) (by decide) rfl (by decide)
  have r42 : f_x_copyAll_88_42 F (mk (bcL A 46 0 [41, 40, 39, 38, 37, 36, 35, 34, 33, 32, 19, 30, 29, 28, 27, 26, 25, 24, 23, 22, 21, 20, 17, 18]) Bx) = some ((), mk (bcL A 46 0 [42, 41, 40, 39, 38, 37, 36, 35, 34, 33, 32, 19, 30, 29, 28, 27, 26, 25, 24, 23, 22, 21, 20, 17, 18]) Bx) := by
    rw [← bc_row (A := A) (s := 46) (t := 0) (c := 42) (n := 60) (a := 88) (b := 42) rfl rfl (by decide) (by decide) (by decide) (fun j => by omega)]
    exact cpa F _ Bx (a := 88) (b := 42) (n := 60) (by decide) (by decide) rfl (by decide)
  have r43 : f_x_copyAll_89_43 F (mk (bcL A 46 0 [42, 41, 40, 39, 38, 37, 36, 35, 34, 33, 32, 19, 30, 29, 28, 27, 26, 25, 24, 23, 22, 21, 20, 17, 18]) Bx) = some ((), mk (bcL A 46 0 [43, 42, 41, 40, 39, 38, 37, 36, 35, 34, 33, 32, 19, 30, 29, 28, 27, 26, 25, 24, 23, 22, 21, 20, 17, 18]) Bx) := by
    rw [← bc_row (A := A) (s := 46) (t := 0) (c := 43) (n := 60) (a := 89) (b := 43) rfl rfl (by decide) (by decide) (by decide) (fun j => by omega)]
    exact cpa F _ Bx (a := 89) (b := 43) (n := 60) (by decide) (by decide) rfl (by decide)
  have r44 : f_x_copyAll_90_44 F (mk (bcL A 46 0 [43, 42, 41, 40, 39, 38, 37, 36, 35, 34, 33, 32, 19, 30, 29, 28, 27, 26, 25, 24, 23, 22, 21, 20, 17, 18]) Bx) = some ((), mk (bcL A 46 0 [44, 43, 42, 41, 40, 39, 38, 37, 36, 35, 34, 33, 32, 19, 30, 29, 28, 27, 26, 25, 24, 23, 22, 21, 20, 17, 18]) Bx) := by
    rw [← bc_row (A := A) (s := 46) (t := 0) (c := 44) (n := 60) (a := 90) (b := 44) rfl rfl (by decide) (by decide) (by decide) (fun j => by omega)]
    exact cpa F _ Bx (a := 90) (b := 44) (n := 60) (by decide) (by decide) rfl (by decide)
  have o31 : f_Papers_become_31_77 F (mk (bcL A 46 0 [19, 30, 29, 28, 27, 26, 25, 24, 23, 22, 21, 20, 17, 18]) Bx) = some ((), mk (bcL A 46 0 [31, 44, 43, 42, 41, 40, 39, 38, 37, 36, 35, 34, 33, 32, 19, 30, 29, 28, 27, 26, 25, 24, 23, 22, 21, 20, 17, 18]) Bx) := by
    rw [← bc_sc (A := A) (s := 46) (t := 0) (c := 31) (a := 77) (b := 31) (js := [15, 14]) rfl rfl (by decide) (by decide) (by decide) (fun j => by simp only [List.mem_cons, List.not_mem_nil, or_false]; omega)]
    unfold f_Papers_become_31_77
    refine obd r32 ?_
    refine obd r33 ?_
    refine obd r34 ?_
    refine obd r35 ?_
    refine obd r36 ?_
    refine obd r37 ?_
    refine obd r38 ?_
    refine obd r39 ?_
    refine obd r40 ?_
    refine obd r41 ?_
    refine obd r42 ?_
    refine obd r43 ?_
    refine obd r44 ?_
    unfold uAs uAs uAs
    simp (disch := first | omega | (simp (disch := omega) only [uA_n]; done) | fail) only [iI_lit, iI_add, iI_sub, iI_mul, iI_neg, iI_lt, iI_le, iI_eq, zlt_t, zlt_f, zle_t, zle_f, zeq_t, zeq_f, nle_t, nle_f, iI_cl, rA, rS, rB, wA, wS, wB, mkp, mk2, uA_s, uA_n, ud_s, ud_n, bI_0, bI_1, nor_s, ↓reduceIte, or_false, false_or, or_true, true_or, or_self, not_true_eq_false, not_false_eq_true, and_true, true_and, and_false, false_and, bI_T, bI_F, Int.reduceToNat, Nat.reduceAdd, Nat.reduceMul, Int.reduceNeg, Option.bind_some, Int.toNat_natCast]
  have r47 : f_x_copyAll_93_47 F (mk (bcL A 46 0 [31, 44, 43, 42, 41, 40, 39, 38, 37, 36, 35, 34, 33, 32, 19, 30, 29, 28, 27, 26, 25, 24, 23, 22, 21, 20, 17, 18]) Bx) = some ((), mk (bcL A 46 0 [47, 31, 44, 43, 42, 41, 40, 39, 38, 37, 36, 35, 34, 33, 32, 19, 30, 29, 28, 27, 26, 25, 24, 23, 22, 21, 20, 17, 18]) Bx) := by
    rw [← bc_row (A := A) (s := 46) (t := 0) (c := 47) (n := 8) (a := 93) (b := 47) rfl rfl (by decide) (by decide) (by decide) (fun j => by omega)]
    exact cpa F _ Bx (a := 93) (b := 47) (n := 8) (by decide) (by decide) rfl (by decide)
  have r48 : f_x_copyAll_94_48 F (mk (bcL A 46 0 [47, 31, 44, 43, 42, 41, 40, 39, 38, 37, 36, 35, 34, 33, 32, 19, 30, 29, 28, 27, 26, 25, 24, 23, 22, 21, 20, 17, 18]) Bx) = some ((), mk (bcL A 46 0 [48, 47, 31, 44, 43, 42, 41, 40, 39, 38, 37, 36, 35, 34, 33, 32, 19, 30, 29, 28, 27, 26, 25, 24, 23, 22, 21, 20, 17, 18]) Bx) := by
    rw [← bc_row (A := A) (s := 46) (t := 0) (c := 48) (n := 8) (a := 94) (b := 48) rfl rfl (by decide) (by decide) (by decide) (fun j => by omega)]
    exact cpa F _ Bx (a := 94) (b := 48) (n := 8) (by decide) (by decide) rfl (by decide)
  have r49 : f_x_copyAll_95_49 F (mk (bcL A 46 0 [48, 47, 31, 44, 43, 42, 41, 40, 39, 38, 37, 36, 35, 34, 33, 32, 19, 30, 29, 28, 27, 26, 25, 24, 23, 22, 21, 20, 17, 18]) Bx) = some ((), mk (bcL A 46 0 [49, 48, 47, 31, 44, 43, 42, 41, 40, 39, 38, 37, 36, 35, 34, 33, 32, 19, 30, 29, 28, 27, 26, 25, 24, 23, 22, 21, 20, 17, 18]) Bx) := by
    rw [← bc_row (A := A) (s := 46) (t := 0) (c := 49) (n := 8) (a := 95) (b := 49) rfl rfl (by decide) (by decide) (by decide) (fun j => by omega)]
    exact cpa F _ Bx (a := 95) (b := 49) (n := 8) (by decide) (by decide) rfl (by decide)
  have r50 : f_x_copyAll_96_50 F (mk (bcL A 46 0 [49, 48, 47, 31, 44, 43, 42, 41, 40, 39, 38, 37, 36, 35, 34, 33, 32, 19, 30, 29, 28, 27, 26, 25, 24, 23, 22, 21, 20, 17, 18]) Bx) = some ((), mk (bcL A 46 0 [50, 49, 48, 47, 31, 44, 43, 42, 41, 40, 39, 38, 37, 36, 35, 34, 33, 32, 19, 30, 29, 28, 27, 26, 25, 24, 23, 22, 21, 20, 17, 18]) Bx) := by
    rw [← bc_row (A := A) (s := 46) (t := 0) (c := 50) (n := 8) (a := 96) (b := 50) rfl rfl (by decide) (by decide) (by decide) (fun j => by omega)]
    exact cpa F _ Bx (a := 96) (b := 50) (n := 8) (by decide) (by decide) rfl (by decide)
  have r51 : f_x_copyAll_97_51 F (mk (bcL A 46 0 [50, 49, 48, 47, 31, 44, 43, 42, 41, 40, 39, 38, 37, 36, 35, 34, 33, 32, 19, 30, 29, 28, 27, 26, 25, 24, 23, 22, 21, 20, 17, 18]) Bx) = some ((), mk (bcL A 46 0 [51, 50, 49, 48, 47, 31, 44, 43, 42, 41, 40, 39, 38, 37, 36, 35, 34, 33, 32, 19, 30, 29, 28, 27, 26, 25, 24, 23, 22, 21, 20, 17, 18]) Bx) := by
    rw [← bc_row (A := A) (s := 46) (t := 0) (c := 51) (n := 8) (a := 97) (b := 51) rfl rfl (by decide) (by decide) (by decide) (fun j => by omega)]
    exact cpa F _ Bx (a := 97) (b := 51) (n := 8) (by decide) (by decide) rfl (by decide)
  have o46 : f_Trades_become_46_92 F (mk (bcL A 46 0 [31, 44, 43, 42, 41, 40, 39, 38, 37, 36, 35, 34, 33, 32, 19, 30, 29, 28, 27, 26, 25, 24, 23, 22, 21, 20, 17, 18]) Bx) = some ((), mk (bcL A 46 0 [46, 51, 50, 49, 48, 47, 31, 44, 43, 42, 41, 40, 39, 38, 37, 36, 35, 34, 33, 32, 19, 30, 29, 28, 27, 26, 25, 24, 23, 22, 21, 20, 17, 18]) Bx) := by
    rw [← bc_sc (A := A) (s := 46) (t := 0) (c := 46) (a := 92) (b := 46) (js := [5]) rfl rfl (by decide) (by decide) (by decide) (fun j => by simp only [List.mem_cons, List.not_mem_nil, or_false]; omega)]
    unfold f_Trades_become_46_92
    refine obd r47 ?_
    refine obd r48 ?_
    refine obd r49 ?_
    refine obd r50 ?_
    refine obd r51 ?_
    unfold uAs uAs
    simp (disch := first | omega | (simp (disch := omega) only [uA_n]; done) | fail) only [iI_lit, iI_add, iI_sub, iI_mul, iI_neg, iI_lt, iI_le, iI_eq, zlt_t, zlt_f, zle_t, zle_f, zeq_t, zeq_f, nle_t, nle_f, iI_cl, rA, rS, rB, wA, wS, wB, mkp, mk2, uA_s, uA_n, ud_s, ud_n, bI_0, bI_1, nor_s, ↓reduceIte, or_false, false_or, or_true, true_or, or_self, not_true_eq_false, not_false_eq_true, and_true, true_and, and_false, false_and, bI_T, bI_F, Int.reduceToNat, Nat.reduceAdd, Nat.reduceMul, Int.reduceNeg, Option.bind_some, Int.toNat_natCast]
  have r53 : f_x_copyAll_99_53 F (mk (bcL A 46 0 [46, 51, 50, 49, 48, 47, 31, 44, 43, 42, 41, 40, 39, 38, 37, 36, 35, 34, 33, 32, 19, 30, 29, 28, 27, 26, 25, 24, 23, 22, 21, 20, 17, 18]) Bx) = some ((), mk (bcL A 46 0 [53, 46, 51, 50, 49, 48, 47, 31, 44, 43, 42, 41, 40, 39, 38, 37, 36, 35, 34, 33, 32, 19, 30, 29, 28, 27, 26, 25, 24, 23, 22, 21, 20, 17, 18]) Bx) := by
    rw [← bc_row (A := A) (s := 46) (t := 0) (c := 53) (n := 104) (a := 99) (b := 53) rfl rfl (by decide) (by decide) (by decide) (fun j => by omega)]
    exact cpa F _ Bx (a := 99) (b := 53) (n := 104) (by decide) (by decide) rfl (by decide)
  have o52 : f_Seasons_become_52_98 F (mk (bcL A 46 0 [46, 51, 50, 49, 48, 47, 31, 44, 43, 42, 41, 40, 39, 38, 37, 36, 35, 34, 33, 32, 19, 30, 29, 28, 27, 26, 25, 24, 23, 22, 21, 20, 17, 18]) Bx) = some ((), mk (bcL A 46 0 [53, 46, 51, 50, 49, 48, 47, 31, 44, 43, 42, 41, 40, 39, 38, 37, 36, 35, 34, 33, 32, 19, 30, 29, 28, 27, 26, 25, 24, 23, 22, 21, 20, 17, 18]) Bx) := by
    unfold f_Seasons_become_52_98
    refine obd r53 ?_
    rfl
  have r56 : f_x_copyAll_102_56 F (mk (bcL A 46 0 [53, 46, 51, 50, 49, 48, 47, 31, 44, 43, 42, 41, 40, 39, 38, 37, 36, 35, 34, 33, 32, 19, 30, 29, 28, 27, 26, 25, 24, 23, 22, 21, 20, 17, 18]) Bx) = some ((), mk (bcL A 46 0 [56, 53, 46, 51, 50, 49, 48, 47, 31, 44, 43, 42, 41, 40, 39, 38, 37, 36, 35, 34, 33, 32, 19, 30, 29, 28, 27, 26, 25, 24, 23, 22, 21, 20, 17, 18]) Bx) := by
    rw [← bc_row (A := A) (s := 46) (t := 0) (c := 56) (n := 300) (a := 102) (b := 56) rfl rfl (by decide) (by decide) (by decide) (fun j => by omega)]
    exact cpa F _ Bx (a := 102) (b := 56) (n := 300) (by decide) (by decide) rfl (by decide)
  have r57 : f_x_copyAll_103_57 F (mk (bcL A 46 0 [56, 53, 46, 51, 50, 49, 48, 47, 31, 44, 43, 42, 41, 40, 39, 38, 37, 36, 35, 34, 33, 32, 19, 30, 29, 28, 27, 26, 25, 24, 23, 22, 21, 20, 17, 18]) Bx) = some ((), mk (bcL A 46 0 [57, 56, 53, 46, 51, 50, 49, 48, 47, 31, 44, 43, 42, 41, 40, 39, 38, 37, 36, 35, 34, 33, 32, 19, 30, 29, 28, 27, 26, 25, 24, 23, 22, 21, 20, 17, 18]) Bx) := by
    rw [← bc_row (A := A) (s := 46) (t := 0) (c := 57) (n := 300) (a := 103) (b := 57) rfl rfl (by decide) (by decide) (by decide) (fun j => by omega)]
    exact cpa F _ Bx (a := 103) (b := 57) (n := 300) (by decide) (by decide) rfl (by decide)
  have r58 : f_x_copyAll_104_58 F (mk (bcL A 46 0 [57, 56, 53, 46, 51, 50, 49, 48, 47, 31, 44, 43, 42, 41, 40, 39, 38, 37, 36, 35, 34, 33, 32, 19, 30, 29, 28, 27, 26, 25, 24, 23, 22, 21, 20, 17, 18]) Bx) = some ((), mk (bcL A 46 0 [58, 57, 56, 53, 46, 51, 50, 49, 48, 47, 31, 44, 43, 42, 41, 40, 39, 38, 37, 36, 35, 34, 33, 32, 19, 30, 29, 28, 27, 26, 25, 24, 23, 22, 21, 20, 17, 18]) Bx) := by
    rw [← bc_row (A := A) (s := 46) (t := 0) (c := 58) (n := 400) (a := 104) (b := 58) rfl rfl (by decide) (by decide) (by decide) (fun j => by omega)]
    exact cpa F _ Bx (a := 104) (b := 58) (n := 400) (by decide) (by decide) rfl (by decide)
  have r59 : f_x_copyAll_105_59 F (mk (bcL A 46 0 [58, 57, 56, 53, 46, 51, 50, 49, 48, 47, 31, 44, 43, 42, 41, 40, 39, 38, 37, 36, 35, 34, 33, 32, 19, 30, 29, 28, 27, 26, 25, 24, 23, 22, 21, 20, 17, 18]) Bx) = some ((), mk (bcL A 46 0 [59, 58, 57, 56, 53, 46, 51, 50, 49, 48, 47, 31, 44, 43, 42, 41, 40, 39, 38, 37, 36, 35, 34, 33, 32, 19, 30, 29, 28, 27, 26, 25, 24, 23, 22, 21, 20, 17, 18]) Bx) := by
    rw [← bc_row (A := A) (s := 46) (t := 0) (c := 59) (n := 400) (a := 105) (b := 59) rfl rfl (by decide) (by decide) (by decide) (fun j => by omega)]
    exact cpa F _ Bx (a := 105) (b := 59) (n := 400) (by decide) (by decide) rfl (by decide)
  have r60 : f_x_copyAll_106_60 F (mk (bcL A 46 0 [59, 58, 57, 56, 53, 46, 51, 50, 49, 48, 47, 31, 44, 43, 42, 41, 40, 39, 38, 37, 36, 35, 34, 33, 32, 19, 30, 29, 28, 27, 26, 25, 24, 23, 22, 21, 20, 17, 18]) Bx) = some ((), mk (bcL A 46 0 [60, 59, 58, 57, 56, 53, 46, 51, 50, 49, 48, 47, 31, 44, 43, 42, 41, 40, 39, 38, 37, 36, 35, 34, 33, 32, 19, 30, 29, 28, 27, 26, 25, 24, 23, 22, 21, 20, 17, 18]) Bx) := by
    rw [← bc_row (A := A) (s := 46) (t := 0) (c := 60) (n := 400) (a := 106) (b := 60) rfl rfl (by decide) (by decide) (by decide) (fun j => by omega)]
    exact cpa F _ Bx (a := 106) (b := 60) (n := 400) (by decide) (by decide) rfl (by decide)
  have r61 : f_x_copyAll_107_61 F (mk (bcL A 46 0 [60, 59, 58, 57, 56, 53, 46, 51, 50, 49, 48, 47, 31, 44, 43, 42, 41, 40, 39, 38, 37, 36, 35, 34, 33, 32, 19, 30, 29, 28, 27, 26, 25, 24, 23, 22, 21, 20, 17, 18]) Bx) = some ((), mk (bcL A 46 0 [61, 60, 59, 58, 57, 56, 53, 46, 51, 50, 49, 48, 47, 31, 44, 43, 42, 41, 40, 39, 38, 37, 36, 35, 34, 33, 32, 19, 30, 29, 28, 27, 26, 25, 24, 23, 22, 21, 20, 17, 18]) Bx) := by
    rw [← bc_row (A := A) (s := 46) (t := 0) (c := 61) (n := 16) (a := 107) (b := 61) rfl rfl (by decide) (by decide) (by decide) (fun j => by omega)]
    exact cpa F _ Bx (a := 107) (b := 61) (n := 16) (by decide) (by decide) rfl (by decide)
  have o55 : f_Notes_become_55_101 F (mk (bcL A 46 0 [53, 46, 51, 50, 49, 48, 47, 31, 44, 43, 42, 41, 40, 39, 38, 37, 36, 35, 34, 33, 32, 19, 30, 29, 28, 27, 26, 25, 24, 23, 22, 21, 20, 17, 18]) Bx) = some ((), mk (bcL A 46 0 [55, 61, 60, 59, 58, 57, 56, 53, 46, 51, 50, 49, 48, 47, 31, 44, 43, 42, 41, 40, 39, 38, 37, 36, 35, 34, 33, 32, 19, 30, 29, 28, 27, 26, 25, 24, 23, 22, 21, 20, 17, 18]) Bx) := by
    rw [← bc_sc (A := A) (s := 46) (t := 0) (c := 55) (a := 101) (b := 55) (js := [12, 11, 10, 9, 8, 7]) rfl rfl (by decide) (by decide) (by decide) (fun j => by simp only [List.mem_cons, List.not_mem_nil, or_false]; omega)]
    unfold f_Notes_become_55_101
    refine obd r56 ?_
    refine obd r57 ?_
    refine obd r58 ?_
    refine obd r59 ?_
    refine obd r60 ?_
    refine obd r61 ?_
    simp only [f_Notes_become_55_101_90]
    unfold uAs uAs uAs uAs uAs uAs uAs
    simp (disch := first | omega | (simp (disch := omega) only [uA_n]; done) | fail) only [iI_lit, iI_add, iI_sub, iI_mul, iI_neg, iI_lt, iI_le, iI_eq, zlt_t, zlt_f, zle_t, zle_f, zeq_t, zeq_f, nle_t, nle_f, iI_cl, rA, rS, rB, wA, wS, wB, mkp, mk2, uA_s, uA_n, ud_s, ud_n, bI_0, bI_1, nor_s, ↓reduceIte, or_false, false_or, or_true, true_or, or_self, not_true_eq_false, not_false_eq_true, and_true, true_and, and_false, false_and, bI_T, bI_F, Int.reduceToNat, Nat.reduceAdd, Nat.reduceMul, Int.reduceNeg, Option.bind_some, Int.toNat_natCast]
  have fin : bcL A 46 0 [16, 55, 61, 60, 59, 58, 57, 56, 53, 46, 51, 50, 49, 48, 47, 31, 44, 43, 42, 41, 40, 39, 38, 37, 36, 35, 34, 33, 32, 19, 30, 29, 28, 27, 26, 25, 24, 23, 22, 21, 20, 17, 18] = bec A 46 0 := bcL_all A 46 0 (by decide)
  rw [← fin, ← bc_sc (A := A) (s := 46) (t := 0) (c := 16) (a := 62) (b := 16) (js := [14, 13, 12, 11, 10, 9]) rfl rfl (by decide) (by decide) (by decide) (fun j => by simp only [List.mem_cons, List.not_mem_nil, or_false]; omega)]
  have e0 : mk A Bx = mk (bcL A 46 0 []) Bx := by rw [bcL_nil]
  rw [e0]
  unfold f_World_become_16_62
  refine obd o17 ?_
  refine obd o19 ?_
  refine obd o31 ?_
  refine obd o46 ?_
  refine obd o52 ?_
  refine obd o55 ?_
  simp only [f_World_become_16_62_90]
  unfold uAs uAs uAs uAs uAs uAs uAs
  simp (disch := first | omega | (simp (disch := omega) only [uA_n]; done) | fail) only [iI_lit, iI_add, iI_sub, iI_mul, iI_neg, iI_lt, iI_le, iI_eq, zlt_t, zlt_f, zle_t, zle_f, zeq_t, zeq_f, nle_t, nle_f, iI_cl, rA, rS, rB, wA, wS, wB, mkp, mk2, uA_s, uA_n, ud_s, ud_n, bI_0, bI_1, nor_s, ↓reduceIte, or_false, false_or, or_true, true_or, or_self, not_true_eq_false, not_false_eq_true, and_true, true_and, and_false, false_and, bI_T, bI_F, Int.reduceToNat, Nat.reduceAdd, Nat.reduceMul, Int.reduceNeg, Option.bind_some, Int.toNat_natCast]
end
