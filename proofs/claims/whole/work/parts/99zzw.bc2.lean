/-! ONE WORLD BECOMES ANOTHER: 16 to 166, 166 to 16 -/
section
variable (F : Nat)
theorem ex_bc_166_16 (A Bx : hI) : f_World_become_166_16 F (mk A Bx) = some ((), mk (bec A 0 150) Bx) := by
  have r18 : f_x_copyAll_18_168 F (mk (bcL A 0 150 []) Bx) = some ((), mk (bcL A 0 150 [18]) Bx) := by
    rw [← bc_row (A := A) (s := 0) (t := 150) (c := 18) (n := 64) (a := 18) (b := 168) rfl rfl (by decide) (by decide) (by decide) (fun j => by omega)]
    exact cpa F _ Bx (a := 18) (b := 168) (n := 64) (by decide) (by decide) rfl (by decide)
  have o17 : f_Land_become_167_17 F (mk (bcL A 0 150 []) Bx) = some ((), mk (bcL A 0 150 [17, 18]) Bx) := by
    rw [← bc_sc (A := A) (s := 0) (t := 150) (c := 17) (a := 17) (b := 167) (js := [2, 1]) rfl rfl (by decide) (by decide) (by decide) (fun j => by simp only [List.mem_cons, List.not_mem_nil, or_false]; omega)]
    unfold f_Land_become_167_17
    refine obd r18 ?_
    unfold uAs uAs uAs
    simp (disch := first | omega | (simp (disch := omega) only [uA_n]; done) | fail) only [iI_lit, iI_add, iI_sub, iI_mul, iI_neg, iI_lt, iI_le, iI_eq, zlt_t, zlt_f, zle_t, zle_f, zeq_t, zeq_f, nle_t, nle_f, iI_cl, rA, rS, rB, wA, wS, wB, mkp, mk2, uA_s, uA_n, ud_s, ud_n, bI_0, bI_1, nor_s, ↓reduceIte, or_false, false_or, or_true, true_or, or_self, not_true_eq_false, not_false_eq_true, and_true, true_and, and_false, false_and, bI_T, bI_F, Int.reduceToNat, Nat.reduceAdd, Nat.reduceMul, Int.reduceNeg, Option.bind_some, Int.toNat_natCast]
  have r20 : f_x_copyAll_20_170 F (mk (bcL A 0 150 [17, 18]) Bx) = some ((), mk (bcL A 0 150 [20, 17, 18]) Bx) := by
    rw [← bc_row (A := A) (s := 0) (t := 150) (c := 20) (n := 16) (a := 20) (b := 170) rfl rfl (by decide) (by decide) (by decide) (fun j => by omega)]
    exact cpa F _ Bx (a := 20) (b := 170) (n := 16) (by decide) (by decide) rfl (by decide)
  have r21 : f_x_copyAll_21_171 F (mk (bcL A 0 150 [20, 17, 18]) Bx) = some ((), mk (bcL A 0 150 [21, 20, 17, 18]) Bx) := by
    rw [← bc_row (A := A) (s := 0) (t := 150) (c := 21) (n := 16) (a := 21) (b := 171) rfl rfl (by decide) (by decide) (by decide) (fun j => by omega)]
    exact cpa F _ Bx (a := 21) (b := 171) (n := 16) (by decide) (by decide) rfl (by decide)
  have r22 : f_x_copyAll_22_172 F (mk (bcL A 0 150 [21, 20, 17, 18]) Bx) = some ((), mk (bcL A 0 150 [22, 21, 20, 17, 18]) Bx) := by
    rw [← bc_row (A := A) (s := 0) (t := 150) (c := 22) (n := 16) (a := 22) (b := 172) rfl rfl (by decide) (by decide) (by decide) (fun j => by omega)]
    exact cpa F _ Bx (a := 22) (b := 172) (n := 16) (by decide) (by decide) rfl (by decide)
  have r23 : f_x_copyAll_23_173 F (mk (bcL A 0 150 [22, 21, 20, 17, 18]) Bx) = some ((), mk (bcL A 0 150 [23, 22, 21, 20, 17, 18]) Bx) := by
    rw [← bc_row (A := A) (s := 0) (t := 150) (c := 23) (n := 16) (a := 23) (b := 173) rfl rfl (by decide) (by decide) (by decide) (fun j => by omega)]
    exact cpa F _ Bx (a := 23) (b := 173) (n := 16) (by decide) (by decide) rfl (by decide)
  have r24 : f_x_copyAll_24_174 F (mk (bcL A 0 150 [23, 22, 21, 20, 17, 18]) Bx) = some ((), mk (bcL A 0 150 [24, 23, 22, 21, 20, 17, 18]) Bx) := by
    rw [← bc_row (A := A) (s := 0) (t := 150) (c := 24) (n := 16) (a := 24) (b := 174) rfl rfl (by decide) (by decide) (by decide) (fun j => by omega)]
    exact cpa F _ Bx (a := 24) (b := 174) (n := 16) (by decide) (by decide) rfl (by decide)
  have r25 : f_x_copyAll_25_175 F (mk (bcL A 0 150 [24, 23, 22, 21, 20, 17, 18]) Bx) = some ((), mk (bcL A 0 150 [25, 24, 23, 22, 21, 20, 17, 18]) Bx) := by
    rw [← bc_row (A := A) (s := 0) (t := 150) (c := 25) (n := 16) (a := 25) (b := 175) rfl rfl (by decide) (by decide) (by decide) (fun j => by omega)]
    exact cpa F _ Bx (a := 25) (b := 175) (n := 16) (by decide) (by decide) rfl (by decide)
  have r26 : f_x_copyAll_26_176 F (mk (bcL A 0 150 [25, 24, 23, 22, 21, 20, 17, 18]) Bx) = some ((), mk (bcL A 0 150 [26, 25, 24, 23, 22, 21, 20, 17, 18]) Bx) := by
    rw [← bc_row (A := A) (s := 0) (t := 150) (c := 26) (n := 16) (a := 26) (b := 176) rfl rfl (by decide) (by decide) (by decide) (fun j => by omega)]
    exact cpa F _ Bx (a := 26) (b := 176) (n := 16) (by decide) (by decide) rfl (by decide)
  have r27 : f_x_copyAll_27_177 F (mk (bcL A 0 150 [26, 25, 24, 23, 22, 21, 20, 17, 18]) Bx) = some ((), mk (bcL A 0 150 [27, 26, 25, 24, 23, 22, 21, 20, 17, 18]) Bx) := by
    rw [← bc_row (A := A) (s := 0) (t := 150) (c := 27) (n := 16) (a := 27) (b := 177) rfl rfl (by decide) (by decide) (by decide) (fun j => by omega)]
    exact cpa F _ Bx (a := 27) (b := 177) (n := 16) (by decide) (by decide) rfl (by decide)
  have r28 : f_x_copyAll_28_178 F (mk (bcL A 0 150 [27, 26, 25, 24, 23, 22, 21, 20, 17, 18]) Bx) = some ((), mk (bcL A 0 150 [28, 27, 26, 25, 24, 23, 22, 21, 20, 17, 18]) Bx) := by
    rw [← bc_row (A := A) (s := 0) (t := 150) (c := 28) (n := 16) (a := 28) (b := 178) rfl rfl (by decide) (by decide) (by decide) (fun j => by omega)]
    exact cpa F _ Bx (a := 28) (b := 178) (n := 16) (by decide) (by decide) rfl (by decide)
  have r29 : f_x_copyAll_29_179 F (mk (bcL A 0 150 [28, 27, 26, 25, 24, 23, 22, 21, 20, 17, 18]) Bx) = some ((), mk (bcL A 0 150 [29, 28, 27, 26, 25, 24, 23, 22, 21, 20, 17, 18]) Bx) := by
    rw [← bc_row (A := A) (s := 0) (t := 150) (c := 29) (n := 16) (a := 29) (b := 179) rfl rfl (by decide) (by decide) (by decide) (fun j => by omega)]
    exact cpa F _ Bx (a := 29) (b := 179) (n := 16) (by decide) (by decide) rfl (by decide)
  have r30 : f_x_copyAll_30_180 F (mk (bcL A 0 150 [29, 28, 27, 26, 25, 24, 23, 22, 21, 20, 17, 18]) Bx) = some ((), mk (bcL A 0 150 [30, 29, 28, 27, 26, 25, 24, 23, 22, 21, 20, 17, 18]) Bx) := by
    rw [← bc_row (A := A) (s := 0) (t := 150) (c := 30) (n := 16) (a := 30) (b := 180) rfl rfl (by decide) (by decide) (by decide) (fun j => by omega)]
    exact cpa F _ Bx (a := 30) (b := 180) (n := 16) (by decide) (by decide) rfl (by decide)
  have o19 : f_Houses_become_169_19 F (mk (bcL A 0 150 [17, 18]) Bx) = some ((), mk (bcL A 0 150 [19, 30, 29, 28, 27, 26, 25, 24, 23, 22, 21, 20, 17, 18]) Bx) := by
    rw [← bc_sc (A := A) (s := 0) (t := 150) (c := 19) (a := 19) (b := 169) (js := [12, 11]) rfl rfl (by decide) (by decide) (by decide) (fun j => by simp only [List.mem_cons, List.not_mem_nil, or_false]; omega)]
    unfold f_Houses_become_169_19
    refine obd r20 ?_
    refine obd r21 ?_
    refine obd r22 ?_
    refine obd r23 ?_
    refine obd r24 ?_
    refine obd r25 ?_
    refine obd r26 ?_
    refine obd r27 ?_
    refine obd r28 ?_
    refine obd r29 ?_
    refine obd r30 ?_
    unfold uAs uAs uAs
    simp (disch := first | omega | (simp (disch := omega) only [uA_n]; done) | fail) only [iI_lit, iI_add, iI_sub, iI_mul, iI_neg, iI_lt, iI_le, iI_eq, zlt_t, zlt_f, zle_t, zle_f, zeq_t, zeq_f, nle_t, nle_f, iI_cl, rA, rS, rB, wA, wS, wB, mkp, mk2, uA_s, uA_n, ud_s, ud_n, bI_0, bI_1, nor_s, ↓reduceIte, or_false, false_or, or_true, true_or, or_self, not_true_eq_false, not_false_eq_true, and_true, true_and, and_false, false_and, bI_T, bI_F, Int.reduceToNat, Nat.reduceAdd, Nat.reduceMul, Int.reduceNeg, Option.bind_some, Int.toNat_natCast]
  have r32 : f_x_copyAll_32_182 F (mk (bcL A 0 150 [19, 30, 29, 28, 27, 26, 25, 24, 23, 22, 21, 20, 17, 18]) Bx) = some ((), mk (bcL A 0 150 [32, 19, 30, 29, 28, 27, 26, 25, 24, 23, 22, 21, 20, 17, 18]) Bx) := by
    rw [← bc_row (A := A) (s := 0) (t := 150) (c := 32) (n := 60) (a := 32) (b := 182) rfl rfl (by decide) (by decide) (by decide) (fun j => by omega)]
    exact cpa F _ Bx (a := 32) (b := 182) (n := 60) (by decide) (by decide) rfl (by decide)
  have r33 : f_x_copyAll_33_183 F (mk (bcL A 0 150 [32, 19, 30, 29, 28, 27, 26, 25, 24, 23, 22, 21, 20, 17, 18]) Bx) = some ((), mk (bcL A 0 150 [33, 32, 19, 30, 29, 28, 27, 26, 25, 24, 23, 22, 21, 20, 17, 18]) Bx) := by
    rw [← bc_row (A := A) (s := 0) (t := 150) (c := 33) (n := 60) (a := 33) (b := 183) rfl rfl (by decide) (by decide) (by decide) (fun j => by omega)]
    exact cpa F _ Bx (a := 33) (b := 183) (n := 60) (by decide) (by decide) rfl (by decide)
  have r34 : f_x_copyAll_34_184 F (mk (bcL A 0 150 [33, 32, 19, 30, 29, 28, 27, 26, 25, 24, 23, 22, 21, 20, 17, 18]) Bx) = some ((), mk (bcL A 0 150 [34, 33, 32, 19, 30, 29, 28, 27, 26, 25, 24, 23, 22, 21, 20, 17, 18]) Bx) := by
    rw [← bc_row (A := A) (s := 0) (t := 150) (c := 34) (n := 60) (a := 34) (b := 184) rfl rfl (by decide) (by decide) (by decide) (fun j => by omega)]
    exact cpa F _ Bx (a := 34) (b := 184) (n := 60) (by decide) (by decide) rfl (by decide)
  have r35 : f_x_copyAll_35_185 F (mk (bcL A 0 150 [34, 33, 32, 19, 30, 29, 28, 27, 26, 25, 24, 23, 22, 21, 20, 17, 18]) Bx) = some ((), mk (bcL A 0 150 [35, 34, 33, 32, 19, 30, 29, 28, 27, 26, 25, 24, 23, 22, 21, 20, 17, 18]) Bx) := by
    rw [← bc_row (A := A) (s := 0) (t := 150) (c := 35) (n := 60) (a := 35) (b := 185) rfl rfl (by decide) (by decide) (by decide) (fun j => by omega)]
    exact cpa F _ Bx (a := 35) (b := 185) (n := 60) (by decide) (by decide) rfl (by decide)
  have r36 : f_x_copyAll_36_186 F (mk (bcL A 0 150 [35, 34, 33, 32, 19, 30, 29, 28, 27, 26, 25, 24, 23, 22, 21, 20, 17, 18]) Bx) = some ((), mk (bcL A 0 150 [36, 35, 34, 33, 32, 19, 30, 29, 28, 27, 26, 25, 24, 23, 22, 21, 20, 17, 18]) Bx) := by
    rw [← bc_row (A := A) (s := 0) (t := 150) (c := 36) (n := 60) (a := 36) (b := 186) rfl rfl (by decide) (by decide) (by decide) (fun j => by omega)]
    exact cpa F _ Bx (a := 36) (b := 186) (n := 60) (by decide) (by decide) rfl (by decide)
  have r37 : f_x_copyAll_37_187 F (mk (bcL A 0 150 [36, 35, 34, 33, 32, 19, 30, 29, 28, 27, 26, 25, 24, 23, 22, 21, 20, 17, 18]) Bx) = some ((), mk (bcL A 0 150 [37, 36, 35, 34, 33, 32, 19, 30, 29, 28, 27, 26, 25, 24, 23, 22, 21, 20, 17, 18]) Bx) := by
    rw [← bc_row (A := A) (s := 0) (t := 150) (c := 37) (n := 60) (a := 37) (b := 187) rfl rfl (by decide) (by decide) (by decide) (fun j => by omega)]
    exact cpa F _ Bx (a := 37) (b := 187) (n := 60) (by decide) (by decide) rfl (by decide)
  have r38 : f_x_copyAll_38_188 F (mk (bcL A 0 150 [37, 36, 35, 34, 33, 32, 19, 30, 29, 28, 27, 26, 25, 24, 23, 22, 21, 20, 17, 18]) Bx) = some ((), mk (bcL A 0 150 [38, 37, 36, 35, 34, 33, 32, 19, 30, 29, 28, 27, 26, 25, 24, 23, 22, 21, 20, 17, 18]) Bx) := by
    rw [← bc_row (A := A) (s := 0) (t := 150) (c := 38) (n := 360) (a := 38) (b := 188) rfl rfl (by decide) (by decide) (by decide) (fun j => by omega)]
    exact cpa F _ Bx (a := 38) (b := 188) (n := 360) (by decide) (by decide) rfl (by decide)
  have r39 : f_x_copyAll_39_189 F (mk (bcL A 0 150 [38, 37, 36, 35, 34, 33, 32, 19, 30, 29, 28, 27, 26, 25, 24, 23, 22, 21, 20, 17, 18]) Bx) = some ((), mk (bcL A 0 150 [39, 38, 37, 36, 35, 34, 33, 32, 19, 30, 29, 28, 27, 26, 25, 24, 23, 22, 21, 20, 17, 18]) Bx) := by
    rw [← bc_row (A := A) (s := 0) (t := 150) (c := 39) (n := 60) (a := 39) (b := 189) rfl rfl (by decide) (by decide) (by decide) (fun j => by omega)]
    exact cpa F _ Bx (a := 39) (b := 189) (n := 60) (by decide) (by decide) rfl (by decide)
  have r40 : f_x_copyAll_40_190 F (mk (bcL A 0 150 [39, 38, 37, 36, 35, 34, 33, 32, 19, 30, 29, 28, 27, 26, 25, 24, 23, 22, 21, 20, 17, 18]) Bx) = some ((), mk (bcL A 0 150 [40, 39, 38, 37, 36, 35, 34, 33, 32, 19, 30, 29, 28, 27, 26, 25, 24, 23, 22, 21, 20, 17, 18]) Bx) := by
    rw [← bc_row (A := A) (s := 0) (t := 150) (c := 40) (n := 60) (a := 40) (b := 190) rfl rfl (by decide) (by decide) (by decide) (fun j => by omega)]
    exact cpa F _ Bx (a := 40) (b := 190) (n := 60) (by decide) (by decide) rfl (by decide)
  have r41 : f_x_copyAll_41_191 F (mk (bcL A 0 150 [40, 39, 38, 37, 36, 35, 34, 33, 32, 19, 30, 29, 28, 27, 26, 25, 24, 23, 22, 21, 20, 17, 18]) Bx) = some ((), mk (bcL A 0 150 [41, 40, 39, 38, 37, 36, 35, 34, 33, 32, 19, 30, 29, 28, 27, 26, 25, 24, 23, 22, 21, 20, 17, 18]) Bx) := by
    rw [← bc_row (A := A) (s := 0) (t := 150) (c := 41) (n := 60) (a := 41) (b := 191) rfl rfl (by decide) (by decide) (by decide) (fun j => by omega)]
    exact cpa F _ Bx (a := 41) (b := 191) (n := 60) (by decide) (by decide) rfl (by decide)
  have r42 : f_x_copyAll_42_192 F (mk (bcL A 0 150 [41, 40, 39, 38, 37, 36, 35, 34, 33, 32, 19, 30, 29, 28, 27, 26, 25, 24, 23, 22, 21, 20, 17, 18]) Bx) = some ((), mk (bcL A 0 150 [42, 41, 40, 39, 38, 37, 36, 35, 34, 33, 32, 19, 30, 29, 28, 27, 26, 25, 24, 23, 22, 21, 20, 17, 18]) Bx) := by
    rw [← bc_row (A := A) (s := 0) (t := 150) (c := 42) (n := 60) (a := 42) (b := 192) rfl rfl (by decide) (by decide) (by decide) (fun j => by omega)]
    exact cpa F _ Bx (a := 42) (b := 192) (n := 60) (by decide) (by decide) rfl (by decide)
  have r43 : f_x_copyAll_43_193 F (mk (bcL A 0 150 [42, 41, 40, 39, 38, 37, 36, 35, 34, 33, 32, 19, 30, 29, 28, 27, 26, 25, 24, 23, 22, 21, 20, 17, 18]) Bx) = some ((), mk (bcL A 0 150 [43, 42, 41, 40, 39, 38, 37, 36, 35, 34, 33, 32, 19, 30, 29, 28, 27, 26, 25, 24, 23, 22, 21, 20, 17, 18]) Bx) := by
    rw [← bc_row (A := A) (s := 0) (t := 150) (c := 43) (n := 60) (a := 43) (b := 193) rfl rfl (by decide) (by decide) (by decide) (fun j => by omega)]
    exact cpa F _ Bx (a := 43) (b := 193) (n := 60) (by decide) (by decide) rfl (by decide)
  have r44 : f_x_copyAll_44_194 F (mk (bcL A 0 150 [43, 42, 41, 40, 39, 38, 37, 36, 35, 34, 33, 32, 19, 30, 29, 28, 27, 26, 25, 24, 23, 22, 21, 20, 17, 18]) Bx) = some ((), mk (bcL A 0 150 [44, 43, 42, 41, 40, 39, 38, 37, 36, 35, 34, 33, 32, 19, 30, 29, 28, 27, 26, 25, 24, 23, 22, 21, 20, 17, 18]) Bx) := by
    rw [← bc_row (A := A) (s := 0) (t := 150) (c := 44) (n := 60) (a := 44) (b := 194) rfl rfl (by decide) (by decide) (by decide) (fun j => by omega)]
    exact cpa F _ Bx (a := 44) (b := 194) (n := 60) (by decide) (by decide) rfl (by decide)
  have o31 : f_Papers_become_181_31 F (mk (bcL A 0 150 [19, 30, 29, 28, 27, 26, 25, 24, 23, 22, 21, 20, 17, 18]) Bx) = some ((), mk (bcL A 0 150 [31, 44, 43, 42, 41, 40, 39, 38, 37, 36, 35, 34, 33, 32, 19, 30, 29, 28, 27, 26, 25, 24, 23, 22, 21, 20, 17, 18]) Bx) := by
    rw [← bc_sc (A := A) (s := 0) (t := 150) (c := 31) (a := 31) (b := 181) (js := [15, 14]) rfl rfl (by decide) (by decide) (by decide) (fun j => by simp only [List.mem_cons, List.not_mem_nil, or_false]; omega)]
    unfold f_Papers_become_181_31
    refine obd r32 ?_
    refine obd r33 ?_
    refine obd r34 ?_
    refine obd r35 ?_
    refine obd r36 ?_
    refine obd r37 ?_
    refine obd r38 ?_
    refine obd r39 ?_
    refine obd r40 ?_
    refine obd r41 ?_
    refine obd r42 ?_
    refine obd r43 ?_
    refine obd r44 ?_
    unfold uAs uAs uAs
    simp (disch := first | omega | (simp (disch := omega) only [uA_n]; done) | fail) only [iI_lit, iI_add, iI_sub, iI_mul, iI_neg, iI_lt, iI_le, iI_eq, zlt_t, zlt_f, zle_t, zle_f, zeq_t, zeq_f, nle_t, nle_f, iI_cl, rA, rS, rB, wA, wS, wB, mkp, mk2, uA_s, uA_n, ud_s, ud_n, bI_0, bI_1, nor_s, ↓reduceIte, or_false, false_or, or_true, true_or, or_self, not_true_eq_false, not_false_eq_true, and_true, true_and, and_false, false_and, bI_T, bI_F, Int.reduceToNat, Nat.reduceAdd, Nat.reduceMul, Int.reduceNeg, Option.bind_some, Int.toNat_natCast]
  have r47 : f_x_copyAll_47_197 F (mk (bcL A 0 150 [31, 44, 43, 42, 41, 40, 39, 38, 37, 36, 35, 34, 33, 32, 19, 30, 29, 28, 27, 26, 25, 24, 23, 22, 21, 20, 17, 18]) Bx) = some ((), mk (bcL A 0 150 [47, 31, 44, 43, 42, 41, 40, 39, 38, 37, 36, 35, 34, 33, 32, 19, 30, 29, 28, 27, 26, 25, 24, 23, 22, 21, 20, 17, 18]) Bx) := by
    rw [← bc_row (A := A) (s := 0) (t := 150) (c := 47) (n := 8) (a := 47) (b := 197) rfl rfl (by decide) (by decide) (by decide) (fun j => by omega)]
    exact cpa F _ Bx (a := 47) (b := 197) (n := 8) (by decide) (by decide) rfl (by decide)
  have r48 : f_x_copyAll_48_198 F (mk (bcL A 0 150 [47, 31, 44, 43, 42, 41, 40, 39, 38, 37, 36, 35, 34, 33, 32, 19, 30, 29, 28, 27, 26, 25, 24, 23, 22, 21, 20, 17, 18]) Bx) = some ((), mk (bcL A 0 150 [48, 47, 31, 44, 43, 42, 41, 40, 39, 38, 37, 36, 35, 34, 33, 32, 19, 30, 29, 28, 27, 26, 25, 24, 23, 22, 21, 20, 17, 18]) Bx) := by
    rw [← bc_row (A := A) (s := 0) (t := 150) (c := 48) (n := 8) (a := 48) (b := 198) rfl rfl (by decide) (by decide) (by decide) (fun j => by omega)]
    exact cpa F _ Bx (a := 48) (b := 198) (n := 8) (by decide) (by decide) rfl (by decide)
  have r49 : f_x_copyAll_49_199 F (mk (bcL A 0 150 [48, 47, 31, 44, 43, 42, 41, 40, 39, 38, 37, 36, 35, 34, 33, 32, 19, 30, 29, 28, 27, 26, 25, 24, 23, 22, 21, 20, 17, 18]) Bx) = some ((), mk (bcL A 0 150 [49, 48, 47, 31, 44, 43, 42, 41, 40, 39, 38, 37, 36, 35, 34, 33, 32, 19, 30, 29, 28, 27, 26, 25, 24, 23, 22, 21, 20, 17, 18]) Bx) := by
    rw [← bc_row (A := A) (s := 0) (t := 150) (c := 49) (n := 8) (a := 49) (b := 199) rfl rfl (by decide) (by decide) (by decide) (fun j => by omega)]
    exact cpa F _ Bx (a := 49) (b := 199) (n := 8) (by decide) (by decide) rfl (by decide)
  have r50 : f_x_copyAll_50_200 F (mk (bcL A 0 150 [49, 48, 47, 31, 44, 43, 42, 41, 40, 39, 38, 37, 36, 35, 34, 33, 32, 19, 30, 29, 28, 27, 26, 25, 24, 23, 22, 21, 20, 17, 18]) Bx) = some ((), mk (bcL A 0 150 [50, 49, 48, 47, 31, 44, 43, 42, 41, 40, 39, 38, 37, 36, 35, 34, 33, 32, 19, 30, 29, 28, 27, 26, 25, 24, 23, 22, 21, 20, 17, 18]) Bx) := by
    rw [← bc_row (A := A) (s := 0) (t := 150) (c := 50) (n := 8) (a := 50) (b := 200) rfl rfl (by decide) (by decide) (by decide) (fun j => by omega)]
    exact cpa F _ Bx (a := 50) (b := 200) (n := 8) (by decide) (by decide) rfl (by decide)
  have r51 : f_x_copyAll_51_201 F (mk (bcL A 0 150 [50, 49, 48, 47, 31, 44, 43, 42, 41, 40, 39, 38, 37, 36, 35, 34, 33, 32, 19, 30, 29, 28, 27, 26, 25, 24, 23, 22, 21, 20, 17, 18]) Bx) = some ((), mk (bcL A 0 150 [51, 50, 49, 48, 47, 31, 44, 43, 42, 41, 40, 39, 38, 37, 36, 35, 34, 33, 32, 19, 30, 29, 28, 27, 26, 25, 24, 23, 22, 21, 20, 17, 18]) Bx) := by
    rw [← bc_row (A := A) (s := 0) (t := 150) (c := 51) (n := 8) (a := 51) (b := 201) rfl rfl (by decide) (by decide) (by decide) (fun j => by omega)]
    exact cpa F _ Bx (a := 51) (b := 201) (n := 8) (by decide) (by decide) rfl (by decide)
  have o46 : f_Trades_become_196_46 F (mk (bcL A 0 150 [31, 44, 43, 42, 41, 40, 39, 38, 37, 36, 35, 34, 33, 32, 19, 30, 29, 28, 27, 26, 25, 24, 23, 22, 21, 20, 17, 18]) Bx) = some ((), mk (bcL A 0 150 [46, 51, 50, 49, 48, 47, 31, 44, 43, 42, 41, 40, 39, 38, 37, 36, 35, 34, 33, 32, 19, 30, 29, 28, 27, 26, 25, 24, 23, 22, 21, 20, 17, 18]) Bx) := by
    rw [← bc_sc (A := A) (s := 0) (t := 150) (c := 46) (a := 46) (b := 196) (js := [5]) rfl rfl (by decide) (by decide) (by decide) (fun j => by simp only [List.mem_cons, List.not_mem_nil, or_false]; omega)]
    unfold f_Trades_become_196_46
    refine obd r47 ?_
    refine obd r48 ?_
    refine obd r49 ?_
    refine obd r50 ?_
    refine obd r51 ?_
    unfold uAs uAs
    simp (disch := first | omega | (simp (disch := omega) only [uA_n]; done) | fail) only [iI_lit, iI_add, iI_sub, iI_mul, iI_neg, iI_lt, iI_le, iI_eq, zlt_t, zlt_f, zle_t, zle_f, zeq_t, zeq_f, nle_t, nle_f, iI_cl, rA, rS, rB, wA, wS, wB, mkp, mk2, uA_s, uA_n, ud_s, ud_n, bI_0, bI_1, nor_s, ↓reduceIte, or_false, false_or, or_true, true_or, or_self, not_true_eq_false, not_false_eq_true, and_true, true_and, and_false, false_and, bI_T, bI_F, Int.reduceToNat, Nat.reduceAdd, Nat.reduceMul, Int.reduceNeg, Option.bind_some, Int.toNat_natCast]
  have r53 : f_x_copyAll_53_203 F (mk (bcL A 0 150 [46, 51, 50, 49, 48, 47, 31, 44, 43, 42, 41, 40, 39, 38, 37, 36, 35, 34, 33, 32, 19, 30, 29, 28, 27, 26, 25, 24, 23, 22, 21, 20, 17, 18]) Bx) = some ((), mk (bcL A 0 150 [53, 46, 51, 50, 49, 48, 47, 31, 44, 43, 42, 41, 40, 39, 38, 37, 36, 35, 34, 33, 32, 19, 30, 29, 28, 27, 26, 25, 24, 23, 22, 21, 20, 17, 18]) Bx) := by
    rw [← bc_row (A := A) (s := 0) (t := 150) (c := 53) (n := 104) (a := 53) (b := 203) rfl rfl (by decide) (by decide) (by decide) (fun j => by omega)]
    exact cpa F _ Bx (a := 53) (b := 203) (n := 104) (by decide) (by decide) rfl (by decide)
  have o52 : f_Seasons_become_202_52 F (mk (bcL A 0 150 [46, 51, 50, 49, 48, 47, 31, 44, 43, 42, 41, 40, 39, 38, 37, 36, 35, 34, 33, 32, 19, 30, 29, 28, 27, 26, 25, 24, 23, 22, 21, 20, 17, 18]) Bx) = some ((), mk (bcL A 0 150 [53, 46, 51, 50, 49, 48, 47, 31, 44, 43, 42, 41, 40, 39, 38, 37, 36, 35, 34, 33, 32, 19, 30, 29, 28, 27, 26, 25, 24, 23, 22, 21, 20, 17, 18]) Bx) := by
    unfold f_Seasons_become_202_52
    refine obd r53 ?_
    rfl
  have r56 : f_x_copyAll_56_206 F (mk (bcL A 0 150 [53, 46, 51, 50, 49, 48, 47, 31, 44, 43, 42, 41, 40, 39, 38, 37, 36, 35, 34, 33, 32, 19, 30, 29, 28, 27, 26, 25, 24, 23, 22, 21, 20, 17, 18]) Bx) = some ((), mk (bcL A 0 150 [56, 53, 46, 51, 50, 49, 48, 47, 31, 44, 43, 42, 41, 40, 39, 38, 37, 36, 35, 34, 33, 32, 19, 30, 29, 28, 27, 26, 25, 24, 23, 22, 21, 20, 17, 18]) Bx) := by
    rw [← bc_row (A := A) (s := 0) (t := 150) (c := 56) (n := 300) (a := 56) (b := 206) rfl rfl (by decide) (by decide) (by decide) (fun j => by omega)]
    exact cpa F _ Bx (a := 56) (b := 206) (n := 300) (by decide) (by decide) rfl (by decide)
  have r57 : f_x_copyAll_57_207 F (mk (bcL A 0 150 [56, 53, 46, 51, 50, 49, 48, 47, 31, 44, 43, 42, 41, 40, 39, 38, 37, 36, 35, 34, 33, 32, 19, 30, 29, 28, 27, 26, 25, 24, 23, 22, 21, 20, 17, 18]) Bx) = some ((), mk (bcL A 0 150 [57, 56, 53, 46, 51, 50, 49, 48, 47, 31, 44, 43, 42, 41, 40, 39, 38, 37, 36, 35, 34, 33, 32, 19, 30, 29, 28, 27, 26, 25, 24, 23, 22, 21, 20, 17, 18]) Bx) := by
    rw [← bc_row (A := A) (s := 0) (t := 150) (c := 57) (n := 300) (a := 57) (b := 207) rfl rfl (by decide) (by decide) (by decide) (fun j => by omega)]
    exact cpa F _ Bx (a := 57) (b := 207) (n := 300) (by decide) (by decide) rfl (by decide)
  have r58 : f_x_copyAll_58_208 F (mk (bcL A 0 150 [57, 56, 53, 46, 51, 50, 49, 48, 47, 31, 44, 43, 42, 41, 40, 39, 38, 37, 36, 35, 34, 33, 32, 19, 30, 29, 28, 27, 26, 25, 24, 23, 22, 21, 20, 17, 18]) Bx) = some ((), mk (bcL A 0 150 [58, 57, 56, 53, 46, 51, 50, 49, 48, 47, 31, 44, 43, 42, 41, 40, 39, 38, 37, 36, 35, 34, 33, 32, 19, 30, 29, 28, 27, 26, 25, 24, 23, 22, 21, 20, 17, 18]) Bx) := by
    rw [← bc_row (A := A) (s := 0) (t := 150) (c := 58) (n := 400) (a := 58) (b := 208) rfl rfl (by decide) (by decide) (by decide) (fun j => by omega)]
    exact cpa F _ Bx (a := 58) (b := 208) (n := 400) (by decide) (by decide) rfl (by decide)
  have r59 : f_x_copyAll_59_209 F (mk (bcL A 0 150 [58, 57, 56, 53, 46, 51, 50, 49, 48, 47, 31, 44, 43, 42, 41, 40, 39, 38, 37, 36, 35, 34, 33, 32, 19, 30, 29, 28, 27, 26, 25, 24, 23, 22, 21, 20, 17, 18]) Bx) = some ((), mk (bcL A 0 150 [59, 58, 57, 56, 53, 46, 51, 50, 49, 48, 47, 31, 44, 43, 42, 41, 40, 39, 38, 37, 36, 35, 34, 33, 32, 19, 30, 29, 28, 27, 26, 25, 24, 23, 22, 21, 20, 17, 18]) Bx) := by
    rw [← bc_row (A := A) (s := 0) (t := 150) (c := 59) (n := 400) (a := 59) (b := 209) rfl rfl (by decide) (by decide) (by decide) (fun j => by omega)]
    exact cpa F _ Bx (a := 59) (b := 209) (n := 400) (by decide) (by decide) rfl (by decide)
  have r60 : f_x_copyAll_60_210 F (mk (bcL A 0 150 [59, 58, 57, 56, 53, 46, 51, 50, 49, 48, 47, 31, 44, 43, 42, 41, 40, 39, 38, 37, 36, 35, 34, 33, 32, 19, 30, 29, 28, 27, 26, 25, 24, 23, 22, 21, 20, 17, 18]) Bx) = some ((), mk (bcL A 0 150 [60, 59, 58, 57, 56, 53, 46, 51, 50, 49, 48, 47, 31, 44, 43, 42, 41, 40, 39, 38, 37, 36, 35, 34, 33, 32, 19, 30, 29, 28, 27, 26, 25, 24, 23, 22, 21, 20, 17, 18]) Bx) := by
    rw [← bc_row (A := A) (s := 0) (t := 150) (c := 60) (n := 400) (a := 60) (b := 210) rfl rfl (by decide) (by decide) (by decide) (fun j => by omega)]
    exact cpa F _ Bx (a := 60) (b := 210) (n := 400) (by decide) (by decide) rfl (by decide)
  have r61 : f_x_copyAll_61_211 F (mk (bcL A 0 150 [60, 59, 58, 57, 56, 53, 46, 51, 50, 49, 48, 47, 31, 44, 43, 42, 41, 40, 39, 38, 37, 36, 35, 34, 33, 32, 19, 30, 29, 28, 27, 26, 25, 24, 23, 22, 21, 20, 17, 18]) Bx) = some ((), mk (bcL A 0 150 [61, 60, 59, 58, 57, 56, 53, 46, 51, 50, 49, 48, 47, 31, 44, 43, 42, 41, 40, 39, 38, 37, 36, 35, 34, 33, 32, 19, 30, 29, 28, 27, 26, 25, 24, 23, 22, 21, 20, 17, 18]) Bx) := by
    rw [← bc_row (A := A) (s := 0) (t := 150) (c := 61) (n := 16) (a := 61) (b := 211) rfl rfl (by decide) (by decide) (by decide) (fun j => by omega)]
    exact cpa F _ Bx (a := 61) (b := 211) (n := 16) (by decide) (by decide) rfl (by decide)
  have o55 : f_Notes_become_205_55 F (mk (bcL A 0 150 [53, 46, 51, 50, 49, 48, 47, 31, 44, 43, 42, 41, 40, 39, 38, 37, 36, 35, 34, 33, 32, 19, 30, 29, 28, 27, 26, 25, 24, 23, 22, 21, 20, 17, 18]) Bx) = some ((), mk (bcL A 0 150 [55, 61, 60, 59, 58, 57, 56, 53, 46, 51, 50, 49, 48, 47, 31, 44, 43, 42, 41, 40, 39, 38, 37, 36, 35, 34, 33, 32, 19, 30, 29, 28, 27, 26, 25, 24, 23, 22, 21, 20, 17, 18]) Bx) := by
    rw [← bc_sc (A := A) (s := 0) (t := 150) (c := 55) (a := 55) (b := 205) (js := [12, 11, 10, 9, 8, 7]) rfl rfl (by decide) (by decide) (by decide) (fun j => by simp only [List.mem_cons, List.not_mem_nil, or_false]; omega)]
    unfold f_Notes_become_205_55
    refine obd r56 ?_
    refine obd r57 ?_
    refine obd r58 ?_
    refine obd r59 ?_
    refine obd r60 ?_
    refine obd r61 ?_
    simp only [f_Notes_become_205_55_90]
    unfold uAs uAs uAs uAs uAs uAs uAs
    simp (disch := first | omega | (simp (disch := omega) only [uA_n]; done) | fail) only [iI_lit, iI_add, iI_sub, iI_mul, iI_neg, iI_lt, iI_le, iI_eq, zlt_t, zlt_f, zle_t, zle_f, zeq_t, zeq_f, nle_t, nle_f, iI_cl, rA, rS, rB, wA, wS, wB, mkp, mk2, uA_s, uA_n, ud_s, ud_n, bI_0, bI_1, nor_s, ↓reduceIte, or_false, false_or, or_true, true_or, or_self, not_true_eq_false, not_false_eq_true, and_true, true_and, and_false, false_and, bI_T, bI_F, Int.reduceToNat, Nat.reduceAdd, Nat.reduceMul, Int.reduceNeg, Option.bind_some, Int.toNat_natCast]
  have fin : bcL A 0 150 [16, 55, 61, 60, 59, 58, 57, 56, 53, 46, 51, 50, 49, 48, 47, 31, 44, 43, 42, 41, 40, 39, 38, 37, 36, 35, 34, 33, 32, 19, 30, 29, 28, 27, 26, 25, 24, 23, 22, 21, 20, 17, 18] = bec A 0 150 := bcL_all A 0 150 (by decide)
  rw [← fin, ← bc_sc (A := A) (s := 0) (t := 150) (c := 16) (a := 16) (b := 166) (js := [14, 13, 12, 11, 10, 9]) rfl rfl (by decide) (by decide) (by decide) (fun j => by simp only [List.mem_cons, List.not_mem_nil, or_false]; omega)]
  have e0 : mk A Bx = mk (bcL A 0 150 []) Bx := by rw [bcL_nil]
  rw [e0]
  unfold f_World_become_166_16
  refine obd o17 ?_
  refine obd o19 ?_
  refine obd o31 ?_
  refine obd o46 ?_
  refine obd o52 ?_
  refine obd o55 ?_
  simp only [f_World_become_166_16_90]
  unfold uAs uAs uAs uAs uAs uAs uAs
  simp (disch := first | omega | (simp (disch := omega) only [uA_n]; done) | fail) only [iI_lit, iI_add, iI_sub, iI_mul, iI_neg, iI_lt, iI_le, iI_eq, zlt_t, zlt_f, zle_t, zle_f, zeq_t, zeq_f, nle_t, nle_f, iI_cl, rA, rS, rB, wA, wS, wB, mkp, mk2, uA_s, uA_n, ud_s, ud_n, bI_0, bI_1, nor_s, ↓reduceIte, or_false, false_or, or_true, true_or, or_self, not_true_eq_false, not_false_eq_true, and_true, true_and, and_false, false_and, bI_T, bI_F, Int.reduceToNat, Nat.reduceAdd, Nat.reduceMul, Int.reduceNeg, Option.bind_some, Int.toNat_natCast]
theorem ex_bc_16_166 (A Bx : hI) : f_World_become_16_166 F (mk A Bx) = some ((), mk (bec A 150 0) Bx) := by
  have r18 : f_x_copyAll_168_18 F (mk (bcL A 150 0 []) Bx) = some ((), mk (bcL A 150 0 [18]) Bx) := by
    rw [← bc_row (A := A) (s := 150) (t := 0) (c := 18) (n := 64) (a := 168) (b := 18) rfl rfl (by decide) (by decide) (by decide) (fun j => by omega)]
    exact cpa F _ Bx (a := 168) (b := 18) (n := 64) (by decide) (by decide) rfl (by decide)
  have o17 : f_Land_become_17_167 F (mk (bcL A 150 0 []) Bx) = some ((), mk (bcL A 150 0 [17, 18]) Bx) := by
    rw [← bc_sc (A := A) (s := 150) (t := 0) (c := 17) (a := 167) (b := 17) (js := [2, 1]) rfl rfl (by decide) (by decide) (by decide) (fun j => by simp only [List.mem_cons, List.not_mem_nil, or_false]; omega)]
    unfold f_Land_become_17_167
    refine obd r18 ?_
    unfold uAs uAs uAs
    simp (disch := first | omega | (simp (disch := omega) only [uA_n]; done) | fail) only [iI_lit, iI_add, iI_sub, iI_mul, iI_neg, iI_lt, iI_le, iI_eq, zlt_t, zlt_f, zle_t, zle_f, zeq_t, zeq_f, nle_t, nle_f, iI_cl, rA, rS, rB, wA, wS, wB, mkp, mk2, uA_s, uA_n, ud_s, ud_n, bI_0, bI_1, nor_s, ↓reduceIte, or_false, false_or, or_true, true_or, or_self, not_true_eq_false, not_false_eq_true, and_true, true_and, and_false, false_and, bI_T, bI_F, Int.reduceToNat, Nat.reduceAdd, Nat.reduceMul, Int.reduceNeg, Option.bind_some, Int.toNat_natCast]
  have r20 : f_x_copyAll_170_20 F (mk (bcL A 150 0 [17, 18]) Bx) = some ((), mk (bcL A 150 0 [20, 17, 18]) Bx) := by
    rw [← bc_row (A := A) (s := 150) (t := 0) (c := 20) (n := 16) (a := 170) (b := 20) rfl rfl (by decide) (by decide) (by decide) (fun j => by omega)]
    exact cpa F _ Bx (a := 170) (b := 20) (n := 16) (by decide) (by decide) rfl (by decide)
  have r21 : f_x_copyAll_171_21 F (mk (bcL A 150 0 [20, 17, 18]) Bx) = some ((), mk (bcL A 150 0 [21, 20, 17, 18]) Bx) := by
    rw [← bc_row (A := A) (s := 150) (t := 0) (c := 21) (n := 16) (a := 171) (b := 21) rfl rfl (by decide) (by decide) (by decide) (fun j => by omega)]
    exact cpa F _ Bx (a := 171) (b := 21) (n := 16) (by decide) (by decide) rfl (by decide)
  have r22 : f_x_copyAll_172_22 F (mk (bcL A 150 0 [21, 20, 17, 18]) Bx) = some ((), mk (bcL A 150 0 [22, 21, 20, 17, 18]) Bx) := by
    rw [← bc_row (A := A) (s := 150) (t := 0) (c := 22) (n := 16) (a := 172) (b := 22) rfl rfl (by decide) (by decide) (by decide) (fun j => by omega)]
    exact cpa F _ Bx (a := 172) (b := 22) (n := 16) (by decide) (by decide) rfl (by decide)
  have r23 : f_x_copyAll_173_23 F (mk (bcL A 150 0 [22, 21, 20, 17, 18]) Bx) = some ((), mk (bcL A 150 0 [23, 22, 21, 20, 17, 18]) Bx) := by
    rw [← bc_row (A := A) (s := 150) (t := 0) (c := 23) (n := 16) (a := 173) (b := 23) rfl rfl (by decide) (by decide) (by decide) (fun j => by omega)]
    exact cpa F _ Bx (a := 173) (b := 23) (n := 16) (by decide) (by decide) rfl (by decide)
  have r24 : f_x_copyAll_174_24 F (mk (bcL A 150 0 [23, 22, 21, 20, 17, 18]) Bx) = some ((), mk (bcL A 150 0 [24, 23, 22, 21, 20, 17, 18]) Bx) := by
    rw [← bc_row (A := A) (s := 150) (t := 0) (c := 24) (n := 16) (a := 174) (b := 24) rfl rfl (by decide) (by decide) (by decide) (fun j => by omega)]
    exact cpa F _ Bx (a := 174) (b := 24) (n := 16) (by decide) (by decide) rfl (by decide)
  have r25 : f_x_copyAll_175_25 F (mk (bcL A 150 0 [24, 23, 22, 21, 20, 17, 18]) Bx) = some ((), mk (bcL A 150 0 [25, 24, 23, 22, 21, 20, 17, 18]) Bx) := by
    rw [← bc_row (A := A) (s := 150) (t := 0) (c := 25) (n := 16) (a := 175) (b := 25) rfl rfl (by decide) (by decide) (by decide) (fun j => by omega)]
    exact cpa F _ Bx (a := 175) (b := 25) (n := 16) (by decide) (by decide) rfl (by decide)
  have r26 : f_x_copyAll_176_26 F (mk (bcL A 150 0 [25, 24, 23, 22, 21, 20, 17, 18]) Bx) = some ((), mk (bcL A 150 0 [26, 25, 24, 23, 22, 21, 20, 17, 18]) Bx) := by
    rw [← bc_row (A := A) (s := 150) (t := 0) (c := 26) (n := 16) (a := 176) (b := 26) rfl rfl (by decide) (by decide) (by decide) (fun j => by omega)]
    exact cpa F _ Bx (a := 176) (b := 26) (n := 16) (by decide) (by decide) rfl (by decide)
  have r27 : f_x_copyAll_177_27 F (mk (bcL A 150 0 [26, 25, 24, 23, 22, 21, 20, 17, 18]) Bx) = some ((), mk (bcL A 150 0 [27, 26, 25, 24, 23, 22, 21, 20, 17, 18]) Bx) := by
    rw [← bc_row (A := A) (s := 150) (t := 0) (c := 27) (n := 16) (a := 177) (b := 27) rfl rfl (by decide) (by decide) (by decide) (fun j => by omega)]
    exact cpa F _ Bx (a := 177) (b := 27) (n := 16) (by decide) (by decide) rfl (by decide)
  have r28 : f_x_copyAll_178_28 F (mk (bcL A 150 0 [27, 26, 25, 24, 23, 22, 21, 20, 17, 18]) Bx) = some ((), mk (bcL A 150 0 [28, 27, 26, 25, 24, 23, 22, 21, 20, 17, 18]) Bx) := by
    rw [← bc_row (A := A) (s := 150) (t := 0) (c := 28) (n := 16) (a := 178) (b := 28) rfl rfl (by decide) (by decide) (by decide) (fun j => by omega)]
    exact cpa F _ Bx (a := 178) (b := 28) (n := 16) (by decide) (by decide) rfl (by decide)
  have r29 : f_x_copyAll_179_29 F (mk (bcL A 150 0 [28, 27, 26, 25, 24, 23, 22, 21, 20, 17, 18]) Bx) = some ((), mk (bcL A 150 0 [29, 28, 27, 26, 25, 24, 23, 22, 21, 20, 17, 18]) Bx) := by
    rw [← bc_row (A := A) (s := 150) (t := 0) (c := 29) (n := 16) (a := 179) (b := 29) rfl rfl (by decide) (by decide) (by decide) (fun j => by omega)]
    exact cpa F _ Bx (a := 179) (b := 29) (n := 16) (by decide) (by decide) rfl (by decide)
  have r30 : f_x_copyAll_180_30 F (mk (bcL A 150 0 [29, 28, 27, 26, 25, 24, 23, 22, 21, 20, 17, 18]) Bx) = some ((), mk (bcL A 150 0 [30, 29, 28, 27, 26, 25, 24, 23, 22, 21, 20, 17, 18]) Bx) := by
    rw [← bc_row (A := A) (s := 150) (t := 0) (c := 30) (n := 16) (a := 180) (b := 30) rfl rfl (by decide) (by decide) (by decide) (fun j => by omega)]
    exact cpa F _ Bx (a := 180) (b := 30) (n := 16) (by decide) (by decide) rfl (by decide)
  have o19 : f_Houses_become_19_169 F (mk (bcL A 150 0 [17, 18]) Bx) = some ((), mk (bcL A 150 0 [19, 30, 29, 28, 27, 26, 25, 24, 23, 22, 21, 20, 17, 18]) Bx) := by
    rw [← bc_sc (A := A) (s := 150) (t := 0) (c := 19) (a := 169) (b := 19) (js := [12, 11]) rfl rfl (by decide) (by decide) (by decide) (fun j => by simp only [List.mem_cons, List.not_mem_nil, or_false]; omega)]
    unfold f_Houses_become_19_169
    refine obd r20 ?_
    refine obd r21 ?_
    refine obd r22 ?_
    refine obd r23 ?_
    refine obd r24 ?_
    refine obd r25 ?_
    refine obd r26 ?_
    refine obd r27 ?_
    refine obd r28 ?_
    refine obd r29 ?_
    refine obd r30 ?_
    unfold uAs uAs uAs
    simp (disch := first | omega | (simp (disch := omega) only [uA_n]; done) | fail) only [iI_lit, iI_add, iI_sub, iI_mul, iI_neg, iI_lt, iI_le, iI_eq, zlt_t, zlt_f, zle_t, zle_f, zeq_t, zeq_f, nle_t, nle_f, iI_cl, rA, rS, rB, wA, wS, wB, mkp, mk2, uA_s, uA_n, ud_s, ud_n, bI_0, bI_1, nor_s, ↓reduceIte, or_false, false_or, or_true, true_or, or_self, not_true_eq_false, not_false_eq_true, and_true, true_and, and_false, false_and, bI_T, bI_F, Int.reduceToNat, Nat.reduceAdd, Nat.reduceMul, Int.reduceNeg, Option.bind_some, Int.toNat_natCast]
  have r32 : f_x_copyAll_182_32 F (mk (bcL A 150 0 [19, 30, 29, 28, 27, 26, 25, 24, 23, 22, 21, 20, 17, 18]) Bx) = some ((), mk (bcL A 150 0 [32, 19, 30, 29, 28, 27, 26, 25, 24, 23, 22, 21, 20, 17, 18]) Bx) := by
    rw [← bc_row (A := A) (s := 150) (t := 0) (c := 32) (n := 60) (a := 182) (b := 32) rfl rfl (by decide) (by decide) (by decide) (fun j => by omega)]
    exact cpa F _ Bx (a := 182) (b := 32) (n := 60) (by decide) (by decide) rfl (by decide)
  have r33 : f_x_copyAll_183_33 F (mk (bcL A 150 0 [32, 19, 30, 29, 28, 27, 26, 25, 24, 23, 22, 21, 20, 17, 18]) Bx) = some ((), mk (bcL A 150 0 [33, 32, 19, 30, 29, 28, 27, 26, 25, 24, 23, 22, 21, 20, 17, 18]) Bx) := by
    rw [← bc_row (A := A) (s := 150) (t := 0) (c := 33) (n := 60) (a := 183) (b := 33) rfl rfl (by decide) (by decide) (by decide) (fun j => by omega)]
    exact cpa F _ Bx (a := 183) (b := 33) (n := 60) (by decide) (by decide) rfl (by decide)
  have r34 : f_x_copyAll_184_34 F (mk (bcL A 150 0 [33, 32, 19, 30, 29, 28, 27, 26, 25, 24, 23, 22, 21, 20, 17, 18]) Bx) = some ((), mk (bcL A 150 0 [34, 33, 32, 19, 30, 29, 28, 27, 26, 25, 24, 23, 22, 21, 20, 17, 18]) Bx) := by
    rw [← bc_row (A := A) (s := 150) (t := 0) (c := 34) (n := 60) (a := 184) (b := 34) rfl rfl (by decide) (by decide) (by decide) (fun j => by omega)]
    exact cpa F _ Bx (a := 184) (b := 34) (n := 60) (by decide) (by decide) rfl (by decide)
  have r35 : f_x_copyAll_185_35 F (mk (bcL A 150 0 [34, 33, 32, 19, 30, 29, 28, 27, 26, 25, 24, 23, 22, 21, 20, 17, 18]) Bx) = some ((), mk (bcL A 150 0 [35, 34, 33, 32, 19, 30, 29, 28, 27, 26, 25, 24, 23, 22, 21, 20, 17, 18]) Bx) := by
    rw [← bc_row (A := A) (s := 150) (t := 0) (c := 35) (n := 60) (a := 185) (b := 35) rfl rfl (by decide) (by decide) (by decide) (fun j => by omega)]
    exact cpa F _ Bx (a := 185) (b := 35) (n := 60) (by decide) (by decide) rfl (by decide)
  have r36 : f_x_copyAll_186_36 F (mk (bcL A 150 0 [35, 34, 33, 32, 19, 30, 29, 28, 27, 26, 25, 24, 23, 22, 21, 20, 17, 18]) Bx) = some ((), mk (bcL A 150 0 [36, 35, 34, 33, 32, 19, 30, 29, 28, 27, 26, 25, 24, 23, 22, 21, 20, 17, 18]) Bx) := by
    rw [← bc_row (A := A) (s := 150) (t := 0) (c := 36) (n := 60) (a := 186) (b := 36) rfl rfl (by decide) (by decide) (by decide) (fun j => by omega)]
    exact cpa F _ Bx (a := 186) (b := 36) (n := 60) (by decide) (by decide) rfl (by decide)
  have r37 : f_x_copyAll_187_37 F (mk (bcL A 150 0 [36, 35, 34, 33, 32, 19, 30, 29, 28, 27, 26, 25, 24, 23, 22, 21, 20, 17, 18]) Bx) = some ((), mk (bcL A 150 0 [37, 36, 35, 34, 33, 32, 19, 30, 29, 28, 27, 26, 25, 24, 23, 22, 21, 20, 17, 18]) Bx) := by
    rw [← bc_row (A := A) (s := 150) (t := 0) (c := 37) (n := 60) (a := 187) (b := 37) rfl rfl (by decide) (by decide) (by decide) (fun j => by omega)]
    exact cpa F _ Bx (a := 187) (b := 37) (n := 60) (by decide) (by decide) rfl (by decide)
  have r38 : f_x_copyAll_188_38 F (mk (bcL A 150 0 [37, 36, 35, 34, 33, 32, 19, 30, 29, 28, 27, 26, 25, 24, 23, 22, 21, 20, 17, 18]) Bx) = some ((), mk (bcL A 150 0 [38, 37, 36, 35, 34, 33, 32, 19, 30, 29, 28, 27, 26, 25, 24, 23, 22, 21, 20, 17, 18]) Bx) := by
    rw [← bc_row (A := A) (s := 150) (t := 0) (c := 38) (n := 360) (a := 188) (b := 38) rfl rfl (by decide) (by decide) (by decide) (fun j => by omega)]
    exact cpa F _ Bx (a := 188) (b := 38) (n := 360) (by decide) (by decide) rfl (by decide)
  have r39 : f_x_copyAll_189_39 F (mk (bcL A 150 0 [38, 37, 36, 35, 34, 33, 32, 19, 30, 29, 28, 27, 26, 25, 24, 23, 22, 21, 20, 17, 18]) Bx) = some ((), mk (bcL A 150 0 [39, 38, 37, 36, 35, 34, 33, 32, 19, 30, 29, 28, 27, 26, 25, 24, 23, 22, 21, 20, 17, 18]) Bx) := by
    rw [← bc_row (A := A) (s := 150) (t := 0) (c := 39) (n := 60) (a := 189) (b := 39) rfl rfl (by decide) (by decide) (by decide) (fun j => by omega)]
    exact cpa F _ Bx (a := 189) (b := 39) (n := 60) (by decide) (by decide) rfl (by decide)
  have r40 : f_x_copyAll_190_40 F (mk (bcL A 150 0 [39, 38, 37, 36, 35, 34, 33, 32, 19, 30, 29, 28, 27, 26, 25, 24, 23, 22, 21, 20, 17, 18]) Bx) = some ((), mk (bcL A 150 0 [40, 39, 38, 37, 36, 35, 34, 33, 32, 19, 30, 29, 28, 27, 26, 25, 24, 23, 22, 21, 20, 17, 18]) Bx) := by
    rw [← bc_row (A := A) (s := 150) (t := 0) (c := 40) (n := 60) (a := 190) (b := 40) rfl rfl (by decide) (by decide) (by decide) (fun j => by omega)]
    exact cpa F _ Bx (a := 190) (b := 40) (n := 60) (by decide) (by decide) rfl (by decide)
  have r41 : f_x_copyAll_191_41 F (mk (bcL A 150 0 [40, 39, 38, 37, 36, 35, 34, 33, 32, 19, 30, 29, 28, 27, 26, 25, 24, 23, 22, 21, 20, 17, 18]) Bx) = some ((), mk (bcL A 150 0 [41, 40, 39, 38, 37, 36, 35, 34, 33, 32, 19, 30, 29, 28, 27, 26, 25, 24, 23, 22, 21, 20, 17, 18]) Bx) := by
    rw [← bc_row (A := A) (s := 150) (t := 0) (c := 41) (n := 60) (a := 191) (b := 41) rfl rfl (by decide) (by decide) (by decide) (fun j => by omega)]
    exact cpa F _ Bx (a := 191) (b := 41) (n := 60) (by decide) (by decide) rfl (by decide)
  have r42 : f_x_copyAll_192_42 F (mk (bcL A 150 0 [41, 40, 39, 38, 37, 36, 35, 34, 33, 32, 19, 30, 29, 28, 27, 26, 25, 24, 23, 22, 21, 20, 17, 18]) Bx) = some ((), mk (bcL A 150 0 [42, 41, 40, 39, 38, 37, 36, 35, 34, 33, 32, 19, 30, 29, 28, 27, 26, 25, 24, 23, 22, 21, 20, 17, 18]) Bx) := by
    rw [← bc_row (A := A) (s := 150) (t := 0) (c := 42) (n := 60) (a := 192) (b := 42) rfl rfl (by decide) (by decide) (by decide) (fun j => by omega)]
    exact cpa F _ Bx (a := 192) (b := 42) (n := 60) (by decide) (by decide) rfl (by decide)
  have r43 : f_x_copyAll_193_43 F (mk (bcL A 150 0 [42, 41, 40, 39, 38, 37, 36, 35, 34, 33, 32, 19, 30, 29, 28, 27, 26, 25, 24, 23, 22, 21, 20, 17, 18]) Bx) = some ((), mk (bcL A 150 0 [43, 42, 41, 40, 39, 38, 37, 36, 35, 34, 33, 32, 19, 30, 29, 28, 27, 26, 25, 24, 23, 22, 21, 20, 17, 18]) Bx) := by
    rw [← bc_row (A := A) (s := 150) (t := 0) (c := 43) (n := 60) (a := 193) (b := 43) rfl rfl (by decide) (by decide) (by decide) (fun j => by omega)]
    exact cpa F _ Bx (a := 193) (b := 43) (n := 60) (by decide) (by decide) rfl (by decide)
  have r44 : f_x_copyAll_194_44 F (mk (bcL A 150 0 [43, 42, 41, 40, 39, 38, 37, 36, 35, 34, 33, 32, 19, 30, 29, 28, 27, 26, 25, 24, 23, 22, 21, 20, 17, 18]) Bx) = some ((), mk (bcL A 150 0 [44, 43, 42, 41, 40, 39, 38, 37, 36, 35, 34, 33, 32, 19, 30, 29, 28, 27, 26, 25, 24, 23, 22, 21, 20, 17, 18]) Bx) := by
    rw [← bc_row (A := A) (s := 150) (t := 0) (c := 44) (n := 60) (a := 194) (b := 44) rfl rfl (by decide) (by decide) (by decide) (fun j => by omega)]
    exact cpa F _ Bx (a := 194) (b := 44) (n := 60) (by decide) (by decide) rfl (by decide)
  have o31 : f_Papers_become_31_181 F (mk (bcL A 150 0 [19, 30, 29, 28, 27, 26, 25, 24, 23, 22, 21, 20, 17, 18]) Bx) = some ((), mk (bcL A 150 0 [31, 44, 43, 42, 41, 40, 39, 38, 37, 36, 35, 34, 33, 32, 19, 30, 29, 28, 27, 26, 25, 24, 23, 22, 21, 20, 17, 18]) Bx) := by
    rw [← bc_sc (A := A) (s := 150) (t := 0) (c := 31) (a := 181) (b := 31) (js := [15, 14]) rfl rfl (by decide) (by decide) (by decide) (fun j => by simp only [List.mem_cons, List.not_mem_nil, or_false]; omega)]
    unfold f_Papers_become_31_181
    refine obd r32 ?_
    refine obd r33 ?_
    refine obd r34 ?_
    refine obd r35 ?_
    refine obd r36 ?_
    refine obd r37 ?_
    refine obd r38 ?_
    refine obd r39 ?_
    refine obd r40 ?_
    refine obd r41 ?_
    refine obd r42 ?_
    refine obd r43 ?_
    refine obd r44 ?_
    unfold uAs uAs uAs
    simp (disch := first | omega | (simp (disch := omega) only [uA_n]; done) | fail) only [iI_lit, iI_add, iI_sub, iI_mul, iI_neg, iI_lt, iI_le, iI_eq, zlt_t, zlt_f, zle_t, zle_f, zeq_t, zeq_f, nle_t, nle_f, iI_cl, rA, rS, rB, wA, wS, wB, mkp, mk2, uA_s, uA_n, ud_s, ud_n, bI_0, bI_1, nor_s, ↓reduceIte, or_false, false_or, or_true, true_or, or_self, not_true_eq_false, not_false_eq_true, and_true, true_and, and_false, false_and, bI_T, bI_F, Int.reduceToNat, Nat.reduceAdd, Nat.reduceMul, Int.reduceNeg, Option.bind_some, Int.toNat_natCast]
  have r47 : f_x_copyAll_197_47 F (mk (bcL A 150 0 [31, 44, 43, 42, 41, 40, 39, 38, 37, 36, 35, 34, 33, 32, 19, 30, 29, 28, 27, 26, 25, 24, 23, 22, 21, 20, 17, 18]) Bx) = some ((), mk (bcL A 150 0 [47, 31, 44, 43, 42, 41, 40, 39, 38, 37, 36, 35, 34, 33, 32, 19, 30, 29, 28, 27, 26, 25, 24, 23, 22, 21, 20, 17, 18]) Bx) := by
    rw [← bc_row (A := A) (s := 150) (t := 0) (c := 47) (n := 8) (a := 197) (b := 47) rfl rfl (by decide) (by decide) (by decide) (fun j => by omega)]
    exact cpa F _ Bx (a := 197) (b := 47) (n := 8) (by decide) (by decide) rfl (by decide)
  have r48 : f_x_copyAll_198_48 F (mk (bcL A 150 0 [47, 31, 44, 43, 42, 41, 40, 39, 38, 37, 36, 35, 34, 33, 32, 19, 30, 29, 28, 27, 26, 25, 24, 23, 22, 21, 20, 17, 18]) Bx) = some ((), mk (bcL A 150 0 [48, 47, 31, 44, 43, 42, 41, 40, 39, 38, 37, 36, 35, 34, 33, 32, 19, 30, 29, 28, 27, 26, 25, 24, 23, 22, 21, 20, 17, 18]) Bx) := by
    rw [← bc_row (A := A) (s := 150) (t := 0) (c := 48) (n := 8) (a := 198) (b := 48) rfl rfl (by decide) (by decide) (by decide) (fun j => by omega)]
    exact cpa F _ Bx (a := 198) (b := 48) (n := 8) (by decide) (by decide) rfl (by decide)
  have r49 : f_x_copyAll_199_49 F (mk (bcL A 150 0 [48, 47, 31, 44, 43, 42, 41, 40, 39, 38, 37, 36, 35, 34, 33, 32, 19, 30, 29, 28, 27, 26, 25, 24, 23, 22, 21, 20, 17, 18]) Bx) = some ((), mk (bcL A 150 0 [49, 48, 47, 31, 44, 43, 42, 41, 40, 39, 38, 37, 36, 35, 34, 33, 32, 19, 30, 29, 28, 27, 26, 25, 24, 23, 22, 21, 20, 17, 18]) Bx) := by
    rw [← bc_row (A := A) (s := 150) (t := 0) (c := 49) (n := 8) (a := 199) (b := 49) rfl rfl (by decide) (by decide) (by decide) (fun j => by omega)]
    exact cpa F _ Bx (a := 199) (b := 49) (n := 8) (by decide) (by decide) rfl (by decide)
  have r50 : f_x_copyAll_200_50 F (mk (bcL A 150 0 [49, 48, 47, 31, 44, 43, 42, 41, 40, 39, 38, 37, 36, 35, 34, 33, 32, 19, 30, 29, 28, 27, 26, 25, 24, 23, 22, 21, 20, 17, 18]) Bx) = some ((), mk (bcL A 150 0 [50, 49, 48, 47, 31, 44, 43, 42, 41, 40, 39, 38, 37, 36, 35, 34, 33, 32, 19, 30, 29, 28, 27, 26, 25, 24, 23, 22, 21, 20, 17, 18]) Bx) := by
    rw [← bc_row (A := A) (s := 150) (t := 0) (c := 50) (n := 8) (a := 200) (b := 50) rfl rfl (by decide) (by decide) (by decide) (fun j => by omega)]
    exact cpa F _ Bx (a := 200) (b := 50) (n := 8) (by decide) (by decide) rfl (by decide)
  have r51 : f_x_copyAll_201_51 F (mk (bcL A 150 0 [50, 49, 48, 47, 31, 44, 43, 42, 41, 40, 39, 38, 37, 36, 35, 34, 33, 32, 19, 30, 29, 28, 27, 26, 25, 24, 23, 22, 21, 20, 17, 18]) Bx) = some ((), mk (bcL A 150 0 [51, 50, 49, 48, 47, 31, 44, 43, 42, 41, 40, 39, 38, 37, 36, 35, 34, 33, 32, 19, 30, 29, 28, 27, 26, 25, 24, 23, 22, 21, 20, 17, 18]) Bx) := by
    rw [← bc_row (A := A) (s := 150) (t := 0) (c := 51) (n := 8) (a := 201) (b := 51) rfl rfl (by decide) (by decide) (by decide) (fun j => by omega)]
    exact cpa F _ Bx (a := 201) (b := 51) (n := 8) (by decide) (by decide) rfl (by decide)
  have o46 : f_Trades_become_46_196 F (mk (bcL A 150 0 [31, 44, 43, 42, 41, 40, 39, 38, 37, 36, 35, 34, 33, 32, 19, 30, 29, 28, 27, 26, 25, 24, 23, 22, 21, 20, 17, 18]) Bx) = some ((), mk (bcL A 150 0 [46, 51, 50, 49, 48, 47, 31, 44, 43, 42, 41, 40, 39, 38, 37, 36, 35, 34, 33, 32, 19, 30, 29, 28, 27, 26, 25, 24, 23, 22, 21, 20, 17, 18]) Bx) := by
    rw [← bc_sc (A := A) (s := 150) (t := 0) (c := 46) (a := 196) (b := 46) (js := [5]) rfl rfl (by decide) (by decide) (by decide) (fun j => by simp only [List.mem_cons, List.not_mem_nil, or_false]; omega)]
    unfold f_Trades_become_46_196
    refine obd r47 ?_
    refine obd r48 ?_
    refine obd r49 ?_
    refine obd r50 ?_
    refine obd r51 ?_
    unfold uAs uAs
    simp (disch := first | omega | (simp (disch := omega) only [uA_n]; done) | fail) only [iI_lit, iI_add, iI_sub, iI_mul, iI_neg, iI_lt, iI_le, iI_eq, zlt_t, zlt_f, zle_t, zle_f, zeq_t, zeq_f, nle_t, nle_f, iI_cl, rA, rS, rB, wA, wS, wB, mkp, mk2, uA_s, uA_n, ud_s, ud_n, bI_0, bI_1, nor_s, ↓reduceIte, or_false, false_or, or_true, true_or, or_self, not_true_eq_false, not_false_eq_true, and_true, true_and, and_false, false_and, bI_T, bI_F, Int.reduceToNat, Nat.reduceAdd, Nat.reduceMul, Int.reduceNeg, Option.bind_some, Int.toNat_natCast]
  have r53 : f_x_copyAll_203_53 F (mk (bcL A 150 0 [46, 51, 50, 49, 48, 47, 31, 44, 43, 42, 41, 40, 39, 38, 37, 36, 35, 34, 33, 32, 19, 30, 29, 28, 27, 26, 25, 24, 23, 22, 21, 20, 17, 18]) Bx) = some ((), mk (bcL A 150 0 [53, 46, 51, 50, 49, 48, 47, 31, 44, 43, 42, 41, 40, 39, 38, 37, 36, 35, 34, 33, 32, 19, 30, 29, 28, 27, 26, 25, 24, 23, 22, 21, 20, 17, 18]) Bx) := by
    rw [← bc_row (A := A) (s := 150) (t := 0) (c := 53) (n := 104) (a := 203) (b := 53) rfl rfl (by decide) (by decide) (by decide) (fun j => by omega)]
    exact cpa F _ Bx (a := 203) (b := 53) (n := 104) (by decide) (by decide) rfl (by decide)
  have o52 : f_Seasons_become_52_202 F (mk (bcL A 150 0 [46, 51, 50, 49, 48, 47, 31, 44, 43, 42, 41, 40, 39, 38, 37, 36, 35, 34, 33, 32, 19, 30, 29, 28, 27, 26, 25, 24, 23, 22, 21, 20, 17, 18]) Bx) = some ((), mk (bcL A 150 0 [53, 46, 51, 50, 49, 48, 47, 31, 44, 43, 42, 41, 40, 39, 38, 37, 36, 35, 34, 33, 32, 19, 30, 29, 28, 27, 26, 25, 24, 23, 22, 21, 20, 17, 18]) Bx) := by
    unfold f_Seasons_become_52_202
    refine obd r53 ?_
    rfl
  have r56 : f_x_copyAll_206_56 F (mk (bcL A 150 0 [53, 46, 51, 50, 49, 48, 47, 31, 44, 43, 42, 41, 40, 39, 38, 37, 36, 35, 34, 33, 32, 19, 30, 29, 28, 27, 26, 25, 24, 23, 22, 21, 20, 17, 18]) Bx) = some ((), mk (bcL A 150 0 [56, 53, 46, 51, 50, 49, 48, 47, 31, 44, 43, 42, 41, 40, 39, 38, 37, 36, 35, 34, 33, 32, 19, 30, 29, 28, 27, 26, 25, 24, 23, 22, 21, 20, 17, 18]) Bx) := by
    rw [← bc_row (A := A) (s := 150) (t := 0) (c := 56) (n := 300) (a := 206) (b := 56) rfl rfl (by decide) (by decide) (by decide) (fun j => by omega)]
    exact cpa F _ Bx (a := 206) (b := 56) (n := 300) (by decide) (by decide) rfl (by decide)
  have r57 : f_x_copyAll_207_57 F (mk (bcL A 150 0 [56, 53, 46, 51, 50, 49, 48, 47, 31, 44, 43, 42, 41, 40, 39, 38, 37, 36, 35, 34, 33, 32, 19, 30, 29, 28, 27, 26, 25, 24, 23, 22, 21, 20, 17, 18]) Bx) = some ((), mk (bcL A 150 0 [57, 56, 53, 46, 51, 50, 49, 48, 47, 31, 44, 43, 42, 41, 40, 39, 38, 37, 36, 35, 34, 33, 32, 19, 30, 29, 28, 27, 26, 25, 24, 23, 22, 21, 20, 17, 18]) Bx) := by
    rw [← bc_row (A := A) (s := 150) (t := 0) (c := 57) (n := 300) (a := 207) (b := 57) rfl rfl (by decide) (by decide) (by decide) (fun j => by omega)]
    exact cpa F _ Bx (a := 207) (b := 57) (n := 300) (by decide) (by decide) rfl (by decide)
  have r58 : f_x_copyAll_208_58 F (mk (bcL A 150 0 [57, 56, 53, 46, 51, 50, 49, 48, 47, 31, 44, 43, 42, 41, 40, 39, 38, 37, 36, 35, 34, 33, 32, 19, 30, 29, 28, 27, 26, 25, 24, 23, 22, 21, 20, 17, 18]) Bx) = some ((), mk (bcL A 150 0 [58, 57, 56, 53, 46, 51, 50, 49, 48, 47, 31, 44, 43, 42, 41, 40, 39, 38, 37, 36, 35, 34, 33, 32, 19, 30, 29, 28, 27, 26, 25, 24, 23, 22, 21, 20, 17, 18]) Bx) := by
    rw [← bc_row (A := A) (s := 150) (t := 0) (c := 58) (n := 400) (a := 208) (b := 58) rfl rfl (by decide) (by decide) (by decide) (fun j => by omega)]
    exact cpa F _ Bx (a := 208) (b := 58) (n := 400) (by decide) (by decide) rfl (by decide)
  have r59 : f_x_copyAll_209_59 F (mk (bcL A 150 0 [58, 57, 56, 53, 46, 51, 50, 49, 48, 47, 31, 44, 43, 42, 41, 40, 39, 38, 37, 36, 35, 34, 33, 32, 19, 30, 29, 28, 27, 26, 25, 24, 23, 22, 21, 20, 17, 18]) Bx) = some ((), mk (bcL A 150 0 [59, 58, 57, 56, 53, 46, 51, 50, 49, 48, 47, 31, 44, 43, 42, 41, 40, 39, 38, 37, 36, 35, 34, 33, 32, 19, 30, 29, 28, 27, 26, 25, 24, 23, 22, 21, 20, 17, 18]) Bx) := by
    rw [← bc_row (A := A) (s := 150) (t := 0) (c := 59) (n := 400) (a := 209) (b := 59) rfl rfl (by decide) (by decide) (by decide) (fun j => by omega)]
    exact cpa F _ Bx (a := 209) (b := 59) (n := 400) (by decide) (by decide) rfl (by decide)
  have r60 : f_x_copyAll_210_60 F (mk (bcL A 150 0 [59, 58, 57, 56, 53, 46, 51, 50, 49, 48, 47, 31, 44, 43, 42, 41, 40, 39, 38, 37, 36, 35, 34, 33, 32, 19, 30, 29, 28, 27, 26, 25, 24, 23, 22, 21, 20, 17, 18]) Bx) = some ((), mk (bcL A 150 0 [60, 59, 58, 57, 56, 53, 46, 51, 50, 49, 48, 47, 31, 44, 43, 42, 41, 40, 39, 38, 37, 36, 35, 34, 33, 32, 19, 30, 29, 28, 27, 26, 25, 24, 23, 22, 21, 20, 17, 18]) Bx) := by
    rw [← bc_row (A := A) (s := 150) (t := 0) (c := 60) (n := 400) (a := 210) (b := 60) rfl rfl (by decide) (by decide) (by decide) (fun j => by omega)]
    exact cpa F _ Bx (a := 210) (b := 60) (n := 400) (by decide) (by decide) rfl (by decide)
  have r61 : f_x_copyAll_211_61 F (mk (bcL A 150 0 [60, 59, 58, 57, 56, 53, 46, 51, 50, 49, 48, 47, 31, 44, 43, 42, 41, 40, 39, 38, 37, 36, 35, 34, 33, 32, 19, 30, 29, 28, 27, 26, 25, 24, 23, 22, 21, 20, 17, 18]) Bx) = some ((), mk (bcL A 150 0 [61, 60, 59, 58, 57, 56, 53, 46, 51, 50, 49, 48, 47, 31, 44, 43, 42, 41, 40, 39, 38, 37, 36, 35, 34, 33, 32, 19, 30, 29, 28, 27, 26, 25, 24, 23, 22, 21, 20, 17, 18]) Bx) := by
    rw [← bc_row (A := A) (s := 150) (t := 0) (c := 61) (n := 16) (a := 211) (b := 61) rfl rfl (by decide) (by decide) (by decide) (fun j => by omega)]
    exact cpa F _ Bx (a := 211) (b := 61) (n := 16) (by decide) (by decide) rfl (by decide)
  have o55 : f_Notes_become_55_205 F (mk (bcL A 150 0 [53, 46, 51, 50, 49, 48, 47, 31, 44, 43, 42, 41, 40, 39, 38, 37, 36, 35, 34, 33, 32, 19, 30, 29, 28, 27, 26, 25, 24, 23, 22, 21, 20, 17, 18]) Bx) = some ((), mk (bcL A 150 0 [55, 61, 60, 59, 58, 57, 56, 53, 46, 51, 50, 49, 48, 47, 31, 44, 43, 42, 41, 40, 39, 38, 37, 36, 35, 34, 33, 32, 19, 30, 29, 28, 27, 26, 25, 24, 23, 22, 21, 20, 17, 18]) Bx) := by
    rw [← bc_sc (A := A) (s := 150) (t := 0) (c := 55) (a := 205) (b := 55) (js := [12, 11, 10, 9, 8, 7]) rfl rfl (by decide) (by decide) (by decide) (fun j => by simp only [List.mem_cons, List.not_mem_nil, or_false]; omega)]
    unfold f_Notes_become_55_205
    refine obd r56 ?_
    refine obd r57 ?_
    refine obd r58 ?_
    refine obd r59 ?_
    refine obd r60 ?_
    refine obd r61 ?_
    simp only [f_Notes_become_55_205_90]
    unfold uAs uAs uAs uAs uAs uAs uAs
    simp (disch := first | omega | (simp (disch := omega) only [uA_n]; done) | fail) only [iI_lit, iI_add, iI_sub, iI_mul, iI_neg, iI_lt, iI_le, iI_eq, zlt_t, zlt_f, zle_t, zle_f, zeq_t, zeq_f, nle_t, nle_f, iI_cl, rA, rS, rB, wA, wS, wB, mkp, mk2, uA_s, uA_n, ud_s, ud_n, bI_0, bI_1, nor_s, ↓reduceIte, or_false, false_or, or_true, true_or, or_self, not_true_eq_false, not_false_eq_true, and_true, true_and, and_false, false_and, bI_T, bI_F, Int.reduceToNat, Nat.reduceAdd, Nat.reduceMul, Int.reduceNeg, Option.bind_some, Int.toNat_natCast]
  have fin : bcL A 150 0 [16, 55, 61, 60, 59, 58, 57, 56, 53, 46, 51, 50, 49, 48, 47, 31, 44, 43, 42, 41, 40, 39, 38, 37, 36, 35, 34, 33, 32, 19, 30, 29, 28, 27, 26, 25, 24, 23, 22, 21, 20, 17, 18] = bec A 150 0 := bcL_all A 150 0 (by decide)
  rw [← fin, ← bc_sc (A := A) (s := 150) (t := 0) (c := 16) (a := 166) (b := 16) (js := [14, 13, 12, 11, 10, 9]) rfl rfl (by decide) (by decide) (by decide) (fun j => by simp only [List.mem_cons, List.not_mem_nil, or_false]; omega)]
  have e0 : mk A Bx = mk (bcL A 150 0 []) Bx := by rw [bcL_nil]
  rw [e0]
  unfold f_World_become_16_166
  refine obd o17 ?_
  refine obd o19 ?_
  refine obd o31 ?_
  refine obd o46 ?_
  refine obd o52 ?_
  refine obd o55 ?_
  simp only [f_World_become_16_166_90]
  unfold uAs uAs uAs uAs uAs uAs uAs
  simp (disch := first | omega | (simp (disch := omega) only [uA_n]; done) | fail) only [iI_lit, iI_add, iI_sub, iI_mul, iI_neg, iI_lt, iI_le, iI_eq, zlt_t, zlt_f, zle_t, zle_f, zeq_t, zeq_f, nle_t, nle_f, iI_cl, rA, rS, rB, wA, wS, wB, mkp, mk2, uA_s, uA_n, ud_s, ud_n, bI_0, bI_1, nor_s, ↓reduceIte, or_false, false_or, or_true, true_or, or_self, not_true_eq_false, not_false_eq_true, and_true, true_and, and_false, false_and, bI_T, bI_F, Int.reduceToNat, Nat.reduceAdd, Nat.reduceMul, Int.reduceNeg, Option.bind_some, Int.toNat_natCast]
end
