/-! ONE WORLD BECOMES ANOTHER: 16 to 212, 212 to 16 -/
section
variable (F : Nat)
theorem ex_bc_212_16 (A Bx : hI) : f_World_become_212_16 F (mk A Bx) = some ((), mk (bec A 0 196) Bx) := by
  have r18 : f_x_copyAll_18_214 F (mk (bcL A 0 196 []) Bx) = some ((), mk (bcL A 0 196 [18]) Bx) := by
    rw [← bc_row (A := A) (s := 0) (t := 196) (c := 18) (n := 64) (a := 18) (b := 214) rfl rfl (by decide) (by decide) (by decide) (fun j => by omega)]
    exact cpa F _ Bx (a := 18) (b := 214) (n := 64) (by decide) (by decide) rfl (by decide)
  have o17 : f_Land_become_213_17 F (mk (bcL A 0 196 []) Bx) = some ((), mk (bcL A 0 196 [17, 18]) Bx) := by
    rw [← bc_sc (A := A) (s := 0) (t := 196) (c := 17) (a := 17) (b := 213) (js := [2, 1]) rfl rfl (by decide) (by decide) (by decide) (fun j => by simp only [List.mem_cons, List.not_mem_nil, or_false]; omega)]
    unfold f_Land_become_213_17
    refine obd r18 ?_
    unfold uAs uAs uAs
    simp (disch := first | omega | (simp (disch := omega) only [uA_n]; done) | fail) only [iI_lit, iI_add, iI_sub, iI_mul, iI_neg, iI_lt, iI_le, iI_eq, zlt_t, zlt_f, zle_t, zle_f, zeq_t, zeq_f, nle_t, nle_f, iI_cl, rA, rS, rB, wA, wS, wB, mkp, mk2, uA_s, uA_n, ud_s, ud_n, bI_0, bI_1, nor_s, ↓reduceIte, or_false, false_or, or_true, true_or, or_self, not_true_eq_false, not_false_eq_true, and_true, true_and, and_false, false_and, bI_T, bI_F, Int.reduceToNat, Nat.reduceAdd, Nat.reduceMul, Int.reduceNeg, Option.bind_some, Int.toNat_natCast]
  have r20 : f_x_copyAll_20_216 F (mk (bcL A 0 196 [17, 18]) Bx) = some ((), mk (bcL A 0 196 [20, 17, 18]) Bx) := by
    rw [← bc_row (A := A) (s := 0) (t := 196) (c := 20) (n := 16) (a := 20) (b := 216) rfl rfl (by decide) (by decide) (by decide) (fun j => by omega)]
    exact cpa F _ Bx (a := 20) (b := 216) (n := 16) (by decide) (by decide) rfl (by decide)
  have r21 : f_x_copyAll_21_217 F (mk (bcL A 0 196 [20, 17, 18]) Bx) = some ((), mk (bcL A 0 196 [21, 20, 17, 18]) Bx) := by
    rw [← bc_row (A := A) (s := 0) (t := 196) (c := 21) (n := 16) (a := 21) (b := 217) rfl rfl (by decide) (by decide) (by decide) (fun j => by omega)]
    exact cpa F _ Bx (a := 21) (b := 217) (n := 16) (by decide) (by decide) rfl (by decide)
  have r22 : f_x_copyAll_22_218 F (mk (bcL A 0 196 [21, 20, 17, 18]) Bx) = some ((), mk (bcL A 0 196 [22, 21, 20, 17, 18]) Bx) := by
    rw [← bc_row (A := A) (s := 0) (t := 196) (c := 22) (n := 16) (a := 22) (b := 218) rfl rfl (by decide) (by decide) (by decide) (fun j => by omega)]
    exact cpa F _ Bx (a := 22) (b := 218) (n := 16) (by decide) (by decide) rfl (by decide)
  have r23 : f_x_copyAll_23_219 F (mk (bcL A 0 196 [22, 21, 20, 17, 18]) Bx) = some ((), mk (bcL A 0 196 [23, 22, 21, 20, 17, 18]) Bx) := by
    rw [← bc_row (A := A) (s := 0) (t := 196) (c := 23) (n := 16) (a := 23) (b := 219) rfl rfl (by decide) (by decide) (by decide) (fun j => by omega)]
    exact cpa F _ Bx (a := 23) (b := 219) (n := 16) (by decide) (by decide) rfl (by decide)
  have r24 : f_x_copyAll_24_220 F (mk (bcL A 0 196 [23, 22, 21, 20, 17, 18]) Bx) = some ((), mk (bcL A 0 196 [24, 23, 22, 21, 20, 17, 18]) Bx) := by
    rw [← bc_row (A := A) (s := 0) (t := 196) (c := 24) (n := 16) (a := 24) (b := 220) rfl rfl (by decide) (by decide) (by decide) (fun j => by omega)]
    exact cpa F _ Bx (a := 24) (b := 220) (n := 16) (by decide) (by decide) rfl (by decide)
  have r25 : f_x_copyAll_25_221 F (mk (bcL A 0 196 [24, 23, 22, 21, 20, 17, 18]) Bx) = some ((), mk (bcL A 0 196 [25, 24, 23, 22, 21, 20, 17, 18]) Bx) := by
    rw [← bc_row (A := A) (s := 0) (t := 196) (c := 25) (n := 16) (a := 25) (b := 221) rfl rfl (by decide) (by decide) (by decide) (fun j => by omega)]
    exact cpa F _ Bx (a := 25) (b := 221) (n := 16) (by decide) (by decide) rfl (by decide)
  have r26 : f_x_copyAll_26_222 F (mk (bcL A 0 196 [25, 24, 23, 22, 21, 20, 17, 18]) Bx) = some ((), mk (bcL A 0 196 [26, 25, 24, 23, 22, 21, 20, 17, 18]) Bx) := by
    rw [← bc_row (A := A) (s := 0) (t := 196) (c := 26) (n := 16) (a := 26) (b := 222) rfl rfl (by decide) (by decide) (by decide) (fun j => by omega)]
    exact cpa F _ Bx (a := 26) (b := 222) (n := 16) (by decide) (by decide) rfl (by decide)
  have r27 : f_x_copyAll_27_223 F (mk (bcL A 0 196 [26, 25, 24, 23, 22, 21, 20, 17, 18]) Bx) = some ((), mk (bcL A 0 196 [27, 26, 25, 24, 23, 22, 21, 20, 17, 18]) Bx) := by
    rw [← bc_row (A := A) (s := 0) (t := 196) (c := 27) (n := 16) (a := 27) (b := 223) rfl rfl (by decide) (by decide) (by decide) (fun j => by omega)]
    exact cpa F _ Bx (a := 27) (b := 223) (n := 16) (by decide) (by decide) rfl (by decide)
  have r28 : f_x_copyAll_28_224 F (mk (bcL A 0 196 [27, 26, 25, 24, 23, 22, 21, 20, 17, 18]) Bx) = some ((), mk (bcL A 0 196 [28, 27, 26, 25, 24, 23, 22, 21, 20, 17, 18]) Bx) := by
    rw [← bc_row (A := A) (s := 0) (t := 196) (c := 28) (n := 16) (a := 28) (b := 224) rfl rfl (by decide) (by decide) (by decide) (fun j => by omega)]
    exact cpa F _ Bx (a := 28) (b := 224) (n := 16) (by decide) (by decide) rfl (by decide)
  have r29 : f_x_copyAll_29_225 F (mk (bcL A 0 196 [28, 27, 26, 25, 24, 23, 22, 21, 20, 17, 18]) Bx) = some ((), mk (bcL A 0 196 [29, 28, 27, 26, 25, 24, 23, 22, 21, 20, 17, 18]) Bx) := by
    rw [← bc_row (A := A) (s := 0) (t := 196) (c := 29) (n := 16) (a := 29) (b := 225) rfl rfl (by decide) (by decide) (by decide) (fun j => by omega)]
    exact cpa F _ Bx (a := 29) (b := 225) (n := 16) (by decide) (by decide) rfl (by decide)
  have r30 : f_x_copyAll_30_226 F (mk (bcL A 0 196 [29, 28, 27, 26, 25, 24, 23, 22, 21, 20, 17, 18]) Bx) = some ((), mk (bcL A 0 196 [30, 29, 28, 27, 26, 25, 24, 23, 22, 21, 20, 17, 18]) Bx) := by
    rw [← bc_row (A := A) (s := 0) (t := 196) (c := 30) (n := 16) (a := 30) (b := 226) rfl rfl (by decide) (by decide) (by decide) (fun j => by omega)]
    exact cpa F _ Bx (a := 30) (b := 226) (n := 16) (by decide) (by decide) rfl (by decide)
  have o19 : f_Houses_become_215_19 F (mk (bcL A 0 196 [17, 18]) Bx) = some ((), mk (bcL A 0 196 [19, 30, 29, 28, 27, 26, 25, 24, 23, 22, 21, 20, 17, 18]) Bx) := by
    rw [← bc_sc (A := A) (s := 0) (t := 196) (c := 19) (a := 19) (b := 215) (js := [12, 11]) rfl rfl (by decide) (by decide) (by decide) (fun j => by simp only [List.mem_cons, List.not_mem_nil, or_false]; omega)]
    unfold f_Houses_become_215_19
    refine obd r20 ?_
    refine obd r21 ?_
    refine obd r22 ?_
    refine obd r23 ?_
    refine obd r24 ?_
    refine obd r25 ?_
    refine obd r26 ?_
    refine obd r27 ?_
    refine obd r28 ?_
    refine obd r29 ?_
    refine obd r30 ?_
    unfold uAs uAs uAs
    simp (disch := first | omega | (simp (disch := omega) only [uA_n]; done) | fail) only [iI_lit, iI_add, iI_sub, iI_mul, iI_neg, iI_lt, iI_le, iI_eq, zlt_t, zlt_f, zle_t, zle_f, zeq_t, zeq_f, nle_t, nle_f, iI_cl, rA, rS, rB, wA, wS, wB, mkp, mk2, uA_s, uA_n, ud_s, ud_n, bI_0, bI_1, nor_s, ↓reduceIte, or_false, false_or, or_true, true_or, or_self, not_true_eq_false, not_false_eq_true, and_true, true_and, and_false, false_and, bI_T, bI_F, Int.reduceToNat, Nat.reduceAdd, Nat.reduceMul, Int.reduceNeg, Option.bind_some, Int.toNat_natCast]
  have r32 : f_x_copyAll_32_228 F (mk (bcL A 0 196 [19, 30, 29, 28, 27, 26, 25, 24, 23, 22, 21, 20, 17, 18]) Bx) = some ((), mk (bcL A 0 196 [32, 19, 30, 29, 28, 27, 26, 25, 24, 23, 22, 21, 20, 17, 18]) Bx) := by
    rw [← bc_row (A := A) (s := 0) (t := 196) (c := 32) (n := 60) (a := 32) (b := 228) rfl rfl (by decide) (by decide) (by decide) (fun j => by omega)]
    exact cpa F _ Bx (a := 32) (b := 228) (n := 60) (by decide) (by decide) rfl (by decide)
  have r33 : f_x_copyAll_33_229 F (mk (bcL A 0 196 [32, 19, 30, 29, 28, 27, 26, 25, 24, 23, 22, 21, 20, 17, 18]) Bx) = some ((), mk (bcL A 0 196 [33, 32, 19, 30, 29, 28, 27, 26, 25, 24, 23, 22, 21, 20, 17, 18]) Bx) := by
    rw [← bc_row (A := A) (s := 0) (t := 196) (c := 33) (n := 60) (a := 33) (b := 229) rfl rfl (by decide) (by decide) (by decide) (fun j => by omega)]
    exact cpa F _ Bx (a := 33) (b := 229) (n := 60) (by decide) (by decide) rfl (by decide)
  have r34 : f_x_copyAll_34_230 F (mk (bcL A 0 196 [33, 32, 19, 30, 29, 28, 27, 26, 25, 24, 23, 22, 21, 20, 17, 18]) Bx) = some ((), mk (bcL A 0 196 [34, 33, 32, 19, 30, 29, 28, 27, 26, 25, 24, 23, 22, 21, 20, 17, 18]) Bx) := by
    rw [← bc_row (A := A) (s := 0) (t := 196) (c := 34) (n := 60) (a := 34) (b := 230) rfl rfl (by decide) (by decide) (by decide) (fun j => by omega)]
    exact cpa F _ Bx (a := 34) (b := 230) (n := 60) (by decide) (by decide) rfl (by decide)
  have r35 : f_x_copyAll_35_231 F (mk (bcL A 0 196 [34, 33, 32, 19, 30, 29, 28, 27, 26, 25, 24, 23, 22, 21, 20, 17, 18]) Bx) = some ((), mk (bcL A 0 196 [35, 34, 33, 32, 19, 30, 29, 28, 27, 26, 25, 24, 23, 22, 21, 20, 17, 18]) Bx) := by
    rw [← bc_row (A := A) (s := 0) (t := 196) (c := 35) (n := 60) (a := 35) (b := 231) rfl rfl (by decide) (by decide) (by decide) (fun j => by omega)]
    exact cpa F _ Bx (a := 35) (b := 231) (n := 60) (by decide) (by decide) rfl (by decide)
  have r36 : f_x_copyAll_36_232 F (mk (bcL A 0 196 [35, 34, 33, 32, 19, 30, 29, 28, 27, 26, 25, 24, 23, 22, 21, 20, 17, 18]) Bx) = some ((), mk (bcL A 0 196 [36, 35, 34, 33, 32, 19, 30, 29, 28, 27, 26, 25, 24, 23, 22, 21, 20, 17, 18]) Bx) := by
    rw [← bc_row (A := A) (s := 0) (t := 196) (c := 36) (n := 60) (a := 36) (b := 232) rfl rfl (by decide) (by decide) (by decide) (fun j => by omega)]
    exact cpa F _ Bx (a := 36) (b := 232) (n := 60) (by decide) (by decide) rfl (by decide)
  have r37 : f_x_copyAll_37_233 F (mk (bcL A 0 196 [36, 35, 34, 33, 32, 19, 30, 29, 28, 27, 26, 25, 24, 23, 22, 21, 20, 17, 18]) Bx) = some ((), mk (bcL A 0 196 [37, 36, 35, 34, 33, 32, 19, 30, 29, 28, 27, 26, 25, 24, 23, 22, 21, 20, 17, 18]) Bx) := by
    rw [← bc_row (A := A) (s := 0) (t := 196) (c := 37) (n := 60) (a := 37) (b := 233) rfl rfl (by decide) (by decide) (by decide) (fun j => by omega)]
    exact cpa F _ Bx (a := 37) (b := 233) (n := 60) (by decide) (by decide) rfl (by decide)
  have r38 : f_x_copyAll_38_234 F (mk (bcL A 0 196 [37, 36, 35, 34, 33, 32, 19, 30, 29, 28, 27, 26, 25, 24, 23, 22, 21, 20, 17, 18]) Bx) = some ((), mk (bcL A 0 196 [38, 37, 36, 35, 34, 33, 32, 19, 30, 29, 28, 27, 26, 25, 24, 23, 22, 21, 20, 17, 18]) Bx) := by
    rw [← bc_row (A := A) (s := 0) (t := 196) (c := 38) (n := 360) (a := 38) (b := 234) rfl rfl (by decide) (by decide) (by decide) (fun j => by omega)]
    exact cpa F _ Bx (a := 38) (b := 234) (n := 360) (by decide) (by decide) rfl (by decide)
  have r39 : f_x_copyAll_39_235 F (mk (bcL A 0 196 [38, 37, 36, 35, 34, 33, 32, 19, 30, 29, 28, 27, 26, 25, 24, 23, 22, 21, 20, 17, 18]) Bx) = some ((), mk (bcL A 0 196 [39, 38, 37, 36, 35, 34, 33, 32, 19, 30, 29, 28, 27, 26, 25, 24, 23, 22, 21, 20, 17, 18]) Bx) := by
    rw [← bc_row (A := A) (s := 0) (t := 196) (c := 39) (n := 60) (a := 39) (b := 235) rfl rfl (by decide) (by decide) (by decide) (fun j => by omega)]
    exact cpa F _ Bx (a := 39) (b := 235) (n := 60) (by decide) (by decide) rfl (by decide)
  have r40 : f_x_copyAll_40_236 F (mk (bcL A 0 196 [39, 38, 37, 36, 35, 34, 33, 32, 19, 30, 29, 28, 27, 26, 25, 24, 23, 22, 21, 20, 17, 18]) Bx) = some ((), mk (bcL A 0 196 [40, 39, 38, 37, 36, 35, 34, 33, 32, 19, 30, 29, 28, 27, 26, 25, 24, 23, 22, 21, 20, 17, 18]) Bx) := by
    rw [← bc_row (A := A) (s := 0) (t := 196) (c := 40) (n := 60) (a := 40) (b := 236) rfl rfl (by decide) (by decide) (by decide) (fun j => by omega)]
    exact cpa F _ Bx (a := 40) (b := 236) (n := 60) (by decide) (by decide) rfl (by decide)
  have r41 : f_x_copyAll_41_237 F (mk (bcL A 0 196 [40, 39, 38, 37, 36, 35, 34, 33, 32, 19, 30, 29, 28, 27, 26, 25, 24, 23, 22, 21, 20, 17, 18]) Bx) = some ((), mk (bcL A 0 196 [41, 40, 39, 38, 37, 36, 35, 34, 33, 32, 19, 30, 29, 28, 27, 26, 25, 24, 23, 22, 21, 20, 17, 18]) Bx) := by
    rw [← bc_row (A := A) (s := 0) (t := 196) (c := 41) (n := 60) (a := 41) (b := 237) rfl rfl (by decide) (by decide) (by decide) (fun j => by omega)]
    exact cpa F _ Bx (a := 41) (b := 237) (n := 60) (by decide) (by decide) rfl (by decide)
  have r42 : f_x_copyAll_42_238 F (mk (bcL A 0 196 [41, 40, 39, 38, 37, 36, 35, 34, 33, 32, 19, 30, 29, 28, 27, 26, 25, 24, 23, 22, 21, 20, 17, 18]) Bx) = some ((), mk (bcL A 0 196 [42, 41, 40, 39, 38, 37, 36, 35, 34, 33, 32, 19, 30, 29, 28, 27, 26, 25, 24, 23, 22, 21, 20, 17, 18]) Bx) := by
    rw [← bc_row (A := A) (s := 0) (t := 196) (c := 42) (n := 60) (a := 42) (b := 238) rfl rfl (by decide) (by decide) (by decide) (fun j => by omega)]
    exact cpa F _ Bx (a := 42) (b := 238) (n := 60) (by decide) (by decide) rfl (by decide)
  have r43 : f_x_copyAll_43_239 F (mk (bcL A 0 196 [42, 41, 40, 39, 38, 37, 36, 35, 34, 33, 32, 19, 30, 29, 28, 27, 26, 25, 24, 23, 22, 21, 20, 17, 18]) Bx) = some ((), mk (bcL A 0 196 [43, 42, 41, 40, 39, 38, 37, 36, 35, 34, 33, 32, 19, 30, 29, 28, 27, 26, 25, 24, 23, 22, 21, 20, 17, 18]) Bx) := by
    rw [← bc_row (A := A) (s := 0) (t := 196) (c := 43) (n := 60) (a := 43) (b := 239) rfl rfl (by decide) (by decide) (by decide) (fun j => by omega)]
    exact cpa F _ Bx (a := 43) (b := 239) (n := 60) (by decide) (by decide) rfl (by decide)
  have r44 : f_x_copyAll_44_240 F (mk (bcL A 0 196 [43, 42, 41, 40, 39, 38, 37, 36, 35, 34, 33, 32, 19, 30, 29, 28, 27, 26, 25, 24, 23, 22, 21, 20, 17, 18]) Bx) = some ((), mk (bcL A 0 196 [44, 43, 42, 41, 40, 39, 38, 37, 36, 35, 34, 33, 32, 19, 30, 29, 28, 27, 26, 25, 24, 23, 22, 21, 20, 17, 18]) Bx) := by
    rw [← bc_row (A := A) (s := 0) (t := 196) (c := 44) (n := 60) (a := 44) (b := 240) rfl rfl (by decide) (by decide) (by decide) (fun j => by omega)]
    exact cpa F _ Bx (a := 44) (b := 240) (n := 60) (by decide) (by decide) rfl (by decide)
  have o31 : f_Papers_become_227_31 F (mk (bcL A 0 196 [19, 30, 29, 28, 27, 26, 25, 24, 23, 22, 21, 20, 17, 18]) Bx) = some ((), mk (bcL A 0 196 [31, 44, 43, 42, 41, 40, 39, 38, 37, 36, 35, 34, 33, 32, 19, 30, 29, 28, 27, 26, 25, 24, 23, 22, 21, 20, 17, 18]) Bx) := by
    rw [← bc_sc (A := A) (s := 0) (t := 196) (c := 31) (a := 31) (b := 227) (js := [15, 14]) rfl rfl (by decide) (by decide) (by decide) (fun j => by simp only [List.mem_cons, List.not_mem_nil, or_false]; omega)]
    unfold f_Papers_become_227_31
    refine obd r32 ?_
    refine obd r33 ?_
    refine obd r34 ?_
    refine obd r35 ?_
    refine obd r36 ?_
    refine obd r37 ?_
    refine obd r38 ?_
    refine obd r39 ?_
    refine obd r40 ?_
    refine obd r41 ?_
    refine obd r42 ?_
    refine obd r43 ?_
    refine obd r44 ?_
    unfold uAs uAs uAs
    simp (disch := first | omega | (simp (disch := omega) only [uA_n]; done) | fail) only [iI_lit, iI_add, iI_sub, iI_mul, iI_neg, iI_lt, iI_le, iI_eq, zlt_t, zlt_f, zle_t, zle_f, zeq_t, zeq_f, nle_t, nle_f, iI_cl, rA, rS, rB, wA, wS, wB, mkp, mk2, uA_s, uA_n, ud_s, ud_n, bI_0, bI_1, nor_s, ↓reduceIte, or_false, false_or, or_true, true_or, or_self, not_true_eq_false, not_false_eq_true, and_true, true_and, and_false, false_and, bI_T, bI_F, Int.reduceToNat, Nat.reduceAdd, Nat.reduceMul, Int.reduceNeg, Option.bind_some, Int.toNat_natCast]
  have r47 : f_x_copyAll_47_243 F (mk (bcL A 0 196 [31, 44, 43, 42, 41, 40, 39, 38, 37, 36, 35, 34, 33, 32, 19, 30, 29, 28, 27, 26, 25, 24, 23, 22, 21, 20, 17, 18]) Bx) = some ((), mk (bcL A 0 196 [47, 31, 44, 43, 42, 41, 40, 39, 38, 37, 36, 35, 34, 33, 32, 19, 30, 29, 28, 27, 26, 25, 24, 23, 22, 21, 20, 17, 18]) Bx) := by
    rw [← bc_row (A := A) (s := 0) (t := 196) (c := 47) (n := 8) (a := 47) (b := 243) rfl rfl (by decide) (by decide) (by decide) (fun j => by omega)]
    exact cpa F _ Bx (a := 47) (b := 243) (n := 8) (by decide) (by decide) rfl (by decide)
  have r48 : f_x_copyAll_48_244 F (mk (bcL A 0 196 [47, 31, 44, 43, 42, 41, 40, 39, 38, 37, 36, 35, 34, 33, 32, 19, 30, 29, 28, 27, 26, 25, 24, 23, 22, 21, 20, 17, 18]) Bx) = some ((), mk (bcL A 0 196 [48, 47, 31, 44, 43, 42, 41, 40, 39, 38, 37, 36, 35, 34, 33, 32, 19, 30, 29, 28, 27, 26, 25, 24, 23, 22, 21, 20, 17, 18]) Bx) := by
    rw [← bc_row (A := A) (s := 0) (t := 196) (c := 48) (n := 8) (a := 48) (b := 244) rfl rfl (by decide) (by decide) (by decide) (fun j => by omega)]
    exact cpa F _ Bx (a := 48) (b := 244) (n := 8) (by decide) (by decide) rfl (by decide)
  have r49 : f_x_copyAll_49_245 F (mk (bcL A 0 196 [48, 47, 31, 44, 43, 42, 41, 40, 39, 38, 37, 36, 35, 34, 33, 32, 19, 30, 29, 28, 27, 26, 25, 24, 23, 22, 21, 20, 17, 18]) Bx) = some ((), mk (bcL A 0 196 [49, 48, 47, 31, 44, 43, 42, 41, 40, 39, 38, 37, 36, 35, 34, 33, 32, 19, 30, 29, 28, 27, 26, 25, 24, 23, 22, 21, 20, 17, 18]) Bx) := by
    rw [← bc_row (A := A) (s := 0) (t := 196) (c := 49) (n := 8) (a := 49) (b := 245) rfl rfl (by decide) (by decide) (by decide) (fun j => by omega)]
    exact cpa F _ Bx (a := 49) (b := 245) (n := 8) (by decide) (by decide) rfl (by decide)
  have r50 : f_x_copyAll_50_246 F (mk (bcL A 0 196 [49, 48, 47, 31, 44, 43, 42, 41, 40, 39, 38, 37, 36, 35, 34, 33, 32, 19, 30, 29, 28, 27, 26, 25, 24, 23, 22, 21, 20, 17, 18]) Bx) = some ((), mk (bcL A 0 196 [50, 49, 48, 47, 31, 44, 43, 42, 41, 40, 39, 38, 37, 36, 35, 34, 33, 32, 19, 30, 29, 28, 27, 26, 25, 24, 23, 22, 21, 20, 17, 18]) Bx) := by
    rw [← bc_row (A := A) (s := 0) (t := 196) (c := 50) (n := 8) (a := 50) (b := 246) rfl rfl (by decide) (by decide) (by decide) (fun j => by omega)]
    exact cpa F _ Bx (a := 50) (b := 246) (n := 8) (by decide) (by decide) rfl (by decide)
  have r51 : f_x_copyAll_51_247 F (mk (bcL A 0 196 [50, 49, 48, 47, 31, 44, 43, 42, 41, 40, 39, 38, 37, 36, 35, 34, 33, 32, 19, 30, 29, 28, 27, 26, 25, 24, 23, 22, 21, 20, 17, 18]) Bx) = some ((), mk (bcL A 0 196 [51, 50, 49, 48, 47, 31, 44, 43, 42, 41, 40, 39, 38, 37, 36, 35, 34, 33, 32, 19, 30, 29, 28, 27, 26, 25, 24, 23, 22, 21, 20, 17, 18]) Bx) := by
    rw [← bc_row (A := A) (s := 0) (t := 196) (c := 51) (n := 8) (a := 51) (b := 247) rfl rfl (by decide) (by decide) (by decide) (fun j => by omega)]
    exact cpa F _ Bx (a := 51) (b := 247) (n := 8) (by decide) (by decide) rfl (by decide)
  have o46 : f_Trades_become_242_46 F (mk (bcL A 0 196 [31, 44, 43, 42, 41, 40, 39, 38, 37, 36, 35, 34, 33, 32, 19, 30, 29, 28, 27, 26, 25, 24, 23, 22, 21, 20, 17, 18]) Bx) = some ((), mk (bcL A 0 196 [46, 51, 50, 49, 48, 47, 31, 44, 43, 42, 41, 40, 39, 38, 37, 36, 35, 34, 33, 32, 19, 30, 29, 28, 27, 26, 25, 24, 23, 22, 21, 20, 17, 18]) Bx) := by
    rw [← bc_sc (A := A) (s := 0) (t := 196) (c := 46) (a := 46) (b := 242) (js := [5]) rfl rfl (by decide) (by decide) (by decide) (fun j => by simp only [List.mem_cons, List.not_mem_nil, or_false]; omega)]
    unfold f_Trades_become_242_46
    refine obd r47 ?_
    refine obd r48 ?_
    refine obd r49 ?_
    refine obd r50 ?_
    refine obd r51 ?_
    unfold uAs uAs
    simp (disch := first | omega | (simp (disch := omega) only [uA_n]; done) | fail) only [iI_lit, iI_add, iI_sub, iI_mul, iI_neg, iI_lt, iI_le, iI_eq, zlt_t, zlt_f, zle_t, zle_f, zeq_t, zeq_f, nle_t, nle_f, iI_cl, rA, rS, rB, wA, wS, wB, mkp, mk2, uA_s, uA_n, ud_s, ud_n, bI_0, bI_1, nor_s, ↓reduceIte, or_false, false_or, or_true, true_or, or_self, not_true_eq_false, not_false_eq_true, and_true, true_and, and_false, false_and, bI_T, bI_F, Int.reduceToNat, Nat.reduceAdd, Nat.reduceMul, Int.reduceNeg, Option.bind_some, Int.toNat_natCast]
  have r53 : f_x_copyAll_53_249 F (mk (bcL A 0 196 [46, 51, 50, 49, 48, 47, 31, 44, 43, 42, 41, 40, 39, 38, 37, 36, 35, 34, 33, 32, 19, 30, 29, 28, 27, 26, 25, 24, 23, 22, 21, 20, 17, 18]) Bx) = some ((), mk (bcL A 0 196 [53, 46, 51, 50, 49, 48, 47, 31, 44, 43, 42, 41, 40, 39, 38, 37, 36, 35, 34, 33, 32, 19, 30, 29, 28, 27, 26, 25, 24, 23, 22, 21, 20, 17, 18]) Bx) := by
    rw [← bc_row (A := A) (s := 0) (t := 196) (c := 53) (n := 104) (a := 53) (b := 249) rfl rfl (by decide) (by decide) (by decide) (fun j => by omega)]
    exact cpa F _ Bx (a := 53) (b := 249) (n := 104) (by decide) (by decide) rfl (by decide)
  have o52 : f_Seasons_become_248_52 F (mk (bcL A 0 196 [46, 51, 50, 49, 48, 47, 31, 44, 43, 42, 41, 40, 39, 38, 37, 36, 35, 34, 33, 32, 19, 30, 29, 28, 27, 26, 25, 24, 23, 22, 21, 20, 17, 18]) Bx) = some ((), mk (bcL A 0 196 [53, 46, 51, 50, 49, 48, 47, 31, 44, 43, 42, 41, 40, 39, 38, 37, 36, 35, 34, 33, 32, 19, 30, 29, 28, 27, 26, 25, 24, 23, 22, 21, 20, 17, 18]) Bx) := by
    unfold f_Seasons_become_248_52
    refine obd r53 ?_
    rfl
  have r56 : f_x_copyAll_56_252 F (mk (bcL A 0 196 [53, 46, 51, 50, 49, 48, 47, 31, 44, 43, 42, 41, 40, 39, 38, 37, 36, 35, 34, 33, 32, 19, 30, 29, 28, 27, 26, 25, 24, 23, 22, 21, 20, 17, 18]) Bx) = some ((), mk (bcL A 0 196 [56, 53, 46, 51, 50, 49, 48, 47, 31, 44, 43, 42, 41, 40, 39, 38, 37, 36, 35, 34, 33, 32, 19, 30, 29, 28, 27, 26, 25, 24, 23, 22, 21, 20, 17, 18]) Bx) := by
    rw [← bc_row (A := A) (s := 0) (t := 196) (c := 56) (n := 300) (a := 56) (b := 252) rfl rfl (by decide) (by decide) (by decide) (fun j => by omega)]
    exact cpa F _ Bx (a := 56) (b := 252) (n := 300) (by decide) (by decide) rfl (by decide)
  have r57 : f_x_copyAll_57_253 F (mk (bcL A 0 196 [56, 53, 46, 51, 50, 49, 48, 47, 31, 44, 43, 42, 41, 40, 39, 38, 37, 36, 35, 34, 33, 32, 19, 30, 29, 28, 27, 26, 25, 24, 23, 22, 21, 20, 17, 18]) Bx) = some ((), mk (bcL A 0 196 [57, 56, 53, 46, 51, 50, 49, 48, 47, 31, 44, 43, 42, 41, 40, 39, 38, 37, 36, 35, 34, 33, 32, 19, 30, 29, 28, 27, 26, 25, 24, 23, 22, 21, 20, 17, 18]) Bx) := by
    rw [← bc_row (A := A) (s := 0) (t := 196) (c := 57) (n := 300) (a := 57) (b := 253) rfl rfl (by decide) (by decide) (by decide) (fun j => by omega)]
    exact cpa F _ Bx (a := 57) (b := 253) (n := 300) (by decide) (by decide) rfl (by decide)
  have r58 : f_x_copyAll_58_254 F (mk (bcL A 0 196 [57, 56, 53, 46, 51, 50, 49, 48, 47, 31, 44, 43, 42, 41, 40, 39, 38, 37, 36, 35, 34, 33, 32, 19, 30, 29, 28, 27, 26, 25, 24, 23, 22, 21, 20, 17, 18]) Bx) = some ((), mk (bcL A 0 196 [58, 57, 56, 53, 46, 51, 50, 49, 48, 47, 31, 44, 43, 42, 41, 40, 39, 38, 37, 36, 35, 34, 33, 32, 19, 30, 29, 28, 27, 26, 25, 24, 23, 22, 21, 20, 17, 18]) Bx) := by
    rw [← bc_row (A := A) (s := 0) (t := 196) (c := 58) (n := 400) (a := 58) (b := 254) rfl rfl (by decide) (by decide) (by decide) (fun j => by omega)]
    exact cpa F _ Bx (a := 58) (b := 254) (n := 400) (by decide) (by decide) rfl (by decide)
  have r59 : f_x_copyAll_59_255 F (mk (bcL A 0 196 [58, 57, 56, 53, 46, 51, 50, 49, 48, 47, 31, 44, 43, 42, 41, 40, 39, 38, 37, 36, 35, 34, 33, 32, 19, 30, 29, 28, 27, 26, 25, 24, 23, 22, 21, 20, 17, 18]) Bx) = some ((), mk (bcL A 0 196 [59, 58, 57, 56, 53, 46, 51, 50, 49, 48, 47, 31, 44, 43, 42, 41, 40, 39, 38, 37, 36, 35, 34, 33, 32, 19, 30, 29, 28, 27, 26, 25, 24, 23, 22, 21, 20, 17, 18]) Bx) := by
    rw [← bc_row (A := A) (s := 0) (t := 196) (c := 59) (n := 400) (a := 59) (b := 255) rfl rfl (by decide) (by decide) (by decide) (fun j => by omega)]
    exact cpa F _ Bx (a := 59) (b := 255) (n := 400) (by decide) (by decide) rfl (by decide)
  have r60 : f_x_copyAll_60_256 F (mk (bcL A 0 196 [59, 58, 57, 56, 53, 46, 51, 50, 49, 48, 47, 31, 44, 43, 42, 41, 40, 39, 38, 37, 36, 35, 34, 33, 32, 19, 30, 29, 28, 27, 26, 25, 24, 23, 22, 21, 20, 17, 18]) Bx) = some ((), mk (bcL A 0 196 [60, 59, 58, 57, 56, 53, 46, 51, 50, 49, 48, 47, 31, 44, 43, 42, 41, 40, 39, 38, 37, 36, 35, 34, 33, 32, 19, 30, 29, 28, 27, 26, 25, 24, 23, 22, 21, 20, 17, 18]) Bx) := by
    rw [← bc_row (A := A) (s := 0) (t := 196) (c := 60) (n := 400) (a := 60) (b := 256) rfl rfl (by decide) (by decide) (by decide) (fun j => by omega)]
    exact cpa F _ Bx (a := 60) (b := 256) (n := 400) (by decide) (by decide) rfl (by decide)
  have r61 : f_x_copyAll_61_257 F (mk (bcL A 0 196 [60, 59, 58, 57, 56, 53, 46, 51, 50, 49, 48, 47, 31, 44, 43, 42, 41, 40, 39, 38, 37, 36, 35, 34, 33, 32, 19, 30, 29, 28, 27, 26, 25, 24, 23, 22, 21, 20, 17, 18]) Bx) = some ((), mk (bcL A 0 196 [61, 60, 59, 58, 57, 56, 53, 46, 51, 50, 49, 48, 47, 31, 44, 43, 42, 41, 40, 39, 38, 37, 36, 35, 34, 33, 32, 19, 30, 29, 28, 27, 26, 25, 24, 23, 22, 21, 20, 17, 18]) Bx) := by
    rw [← bc_row (A := A) (s := 0) (t := 196) (c := 61) (n := 16) (a := 61) (b := 257) rfl rfl (by decide) (by decide) (by decide) (fun j => by omega)]
    exact cpa F _ Bx (a := 61) (b := 257) (n := 16) (by decide) (by decide) rfl (by decide)
  have o55 : f_Notes_become_251_55 F (mk (bcL A 0 196 [53, 46, 51, 50, 49, 48, 47, 31, 44, 43, 42, 41, 40, 39, 38, 37, 36, 35, 34, 33, 32, 19, 30, 29, 28, 27, 26, 25, 24, 23, 22, 21, 20, 17, 18]) Bx) = some ((), mk (bcL A 0 196 [55, 61, 60, 59, 58, 57, 56, 53, 46, 51, 50, 49, 48, 47, 31, 44, 43, 42, 41, 40, 39, 38, 37, 36, 35, 34, 33, 32, 19, 30, 29, 28, 27, 26, 25, 24, 23, 22, 21, 20, 17, 18]) Bx) := by
    rw [← bc_sc (A := A) (s := 0) (t := 196) (c := 55) (a := 55) (b := 251) (js := [12, 11, 10, 9, 8, 7]) rfl rfl (by decide) (by decide) (by decide) (fun j => by simp only [List.mem_cons, List.not_mem_nil, or_false]; omega)]
    unfold f_Notes_become_251_55
    refine obd r56 ?_
    refine obd r57 ?_
    refine obd r58 ?_
    refine obd r59 ?_
    refine obd r60 ?_
    refine obd r61 ?_
    simp only [f_Notes_become_251_55_90]
    unfold uAs uAs uAs uAs uAs uAs uAs
    simp (disch := first | omega | (simp (disch := omega) only [uA_n]; done) | fail) only [iI_lit, iI_add, iI_sub, iI_mul, iI_neg, iI_lt, iI_le, iI_eq, zlt_t, zlt_f, zle_t, zle_f, zeq_t, zeq_f, nle_t, nle_f, iI_cl, rA, rS, rB, wA, wS, wB, mkp, mk2, uA_s, uA_n, ud_s, ud_n, bI_0, bI_1, nor_s, ↓reduceIte, or_false, false_or, or_true, true_or, or_self, not_true_eq_false, not_false_eq_true, and_true, true_and, and_false, false_and, bI_T, bI_F, Int.reduceToNat, Nat.reduceAdd, Nat.reduceMul, Int.reduceNeg, Option.bind_some, Int.toNat_natCast]
  have fin : bcL A 0 196 [16, 55, 61, 60, 59, 58, 57, 56, 53, 46, 51, 50, 49, 48, 47, 31, 44, 43, 42, 41, 40, 39, 38, 37, 36, 35, 34, 33, 32, 19, 30, 29, 28, 27, 26, 25, 24, 23, 22, 21, 20, 17, 18] = bec A 0 196 := bcL_all A 0 196 (by decide)
  rw [← fin, ← bc_sc (A := A) (s := 0) (t := 196) (c := 16) (a := 16) (b := 212) (js := [14, 13, 12, 11, 10, 9]) rfl rfl (by decide) (by decide) (by decide) (fun j => by simp only [List.mem_cons, List.not_mem_nil, or_false]; omega)]
  have e0 : mk A Bx = mk (bcL A 0 196 []) Bx := by rw [bcL_nil]
  rw [e0]
  unfold f_World_become_212_16
  refine obd o17 ?_
  refine obd o19 ?_
  refine obd o31 ?_
  refine obd o46 ?_
  refine obd o52 ?_
  refine obd o55 ?_
  simp only [f_World_become_212_16_90]
  unfold uAs uAs uAs uAs uAs uAs uAs
  simp (disch := first | omega | (simp (disch := omega) only [uA_n]; done) | fail) only [iI_lit, iI_add, iI_sub, iI_mul, iI_neg, iI_lt, iI_le, iI_eq, zlt_t, zlt_f, zle_t, zle_f, zeq_t, zeq_f, nle_t, nle_f, iI_cl, rA, rS, rB, wA, wS, wB, mkp, mk2, uA_s, uA_n, ud_s, ud_n, bI_0, bI_1, nor_s, ↓reduceIte, or_false, false_or, or_true, true_or, or_self, not_true_eq_false, not_false_eq_true, and_true, true_and, and_false, false_and, bI_T, bI_F, Int.reduceToNat, Nat.reduceAdd, Nat.reduceMul, Int.reduceNeg, Option.bind_some, Int.toNat_natCast]
theorem ex_bc_16_212 (A Bx : hI) : f_World_become_16_212 F (mk A Bx) = some ((), mk (bec A 196 0) Bx) := by
  have r18 : f_x_copyAll_214_18 F (mk (bcL A 196 0 []) Bx) = some ((), mk (bcL A 196 0 [18]) Bx) := by
    rw [← bc_row (A := A) (s := 196) (t := 0) (c := 18) (n := 64) (a := 214) (b := 18) rfl rfl (by decide) (by decide) (by decide) (fun j => by omega)]
    exact cpa F _ Bx (a := 214) (b := 18) (n := 64) (by decide) (by decide) rfl (by decide)
  have o17 : f_Land_become_17_213 F (mk (bcL A 196 0 []) Bx) = some ((), mk (bcL A 196 0 [17, 18]) Bx) := by
    rw [← bc_sc (A := A) (s := 196) (t := 0) (c := 17) (a := 213) (b := 17) (js := [2, 1]) rfl rfl (by decide) (by decide) (by decide) (fun j => by simp only [List.mem_cons, List.not_mem_nil, or_false]; omega)]
    unfold f_Land_become_17_213
    refine obd r18 ?_
    unfold uAs uAs uAs
    simp (disch := first | omega | (simp (disch := omega) only [uA_n]; done) | fail) only [iI_lit, iI_add, iI_sub, iI_mul, iI_neg, iI_lt, iI_le, iI_eq, zlt_t, zlt_f, zle_t, zle_f, zeq_t, zeq_f, nle_t, nle_f, iI_cl, rA, rS, rB, wA, wS, wB, mkp, mk2, uA_s, uA_n, ud_s, ud_n, bI_0, bI_1, nor_s, ↓reduceIte, or_false, false_or, or_true, true_or, or_self, not_true_eq_false, not_false_eq_true, and_true, true_and, and_false, false_and, bI_T, bI_F, Int.reduceToNat, Nat.reduceAdd, Nat.reduceMul, Int.reduceNeg, Option.bind_some, Int.toNat_natCast]
  have r20 : f_x_copyAll_216_20 F (mk (bcL A 196 0 [17, 18]) Bx) = some ((), mk (bcL A 196 0 [20, 17, 18]) Bx) := by
    rw [← bc_row (A := A) (s := 196) (t := 0) (c := 20) (n := 16) (a := 216) (b := 20) rfl rfl (by decide) (by decide) (by decide) (fun j => by omega)]
    exact cpa F _ Bx (a := 216) (b := 20) (n := 16) (by decide) (by decide) rfl (by decide)
  have r21 : f_x_copyAll_217_21 F (mk (bcL A 196 0 [20, 17, 18]) Bx) = some ((), mk (bcL A 196 0 [21, 20, 17, 18]) Bx) := by
    rw [← bc_row (A := A) (s := 196) (t := 0) (c := 21) (n := 16) (a := 217) (b := 21) rfl rfl (by decide) (by decide) (by decide) (fun j => by omega)]
    exact cpa F _ Bx (a := 217) (b := 21) (n := 16) (by decide) (by decide) rfl (by decide)
  have r22 : f_x_copyAll_218_22 F (mk (bcL A 196 0 [21, 20, 17, 18]) Bx) = some ((), mk (bcL A 196 0 [22, 21, 20, 17, 18]) Bx) := by
    rw [← bc_row (A := A) (s := 196) (t := 0) (c := 22) (n := 16) (a := 218) (b := 22) rfl rfl (by decide) (by decide) (by decide) (fun j => by omega)]
    exact cpa F _ Bx (a := 218) (b := 22) (n := 16) (by decide) (by decide) rfl (by decide)
  have r23 : f_x_copyAll_219_23 F (mk (bcL A 196 0 [22, 21, 20, 17, 18]) Bx) = some ((), mk (bcL A 196 0 [23, 22, 21, 20, 17, 18]) Bx) := by
    rw [← bc_row (A := A) (s := 196) (t := 0) (c := 23) (n := 16) (a := 219) (b := 23) rfl rfl (by decide) (by decide) (by decide) (fun j => by omega)]
    exact cpa F _ Bx (a := 219) (b := 23) (n := 16) (by decide) (by decide) rfl (by decide)
  have r24 : f_x_copyAll_220_24 F (mk (bcL A 196 0 [23, 22, 21, 20, 17, 18]) Bx) = some ((), mk (bcL A 196 0 [24, 23, 22, 21, 20, 17, 18]) Bx) := by
    rw [← bc_row (A := A) (s := 196) (t := 0) (c := 24) (n := 16) (a := 220) (b := 24) rfl rfl (by decide) (by decide) (by decide) (fun j => by omega)]
    exact cpa F _ Bx (a := 220) (b := 24) (n := 16) (by decide) (by decide) rfl (by decide)
  have r25 : f_x_copyAll_221_25 F (mk (bcL A 196 0 [24, 23, 22, 21, 20, 17, 18]) Bx) = some ((), mk (bcL A 196 0 [25, 24, 23, 22, 21, 20, 17, 18]) Bx) := by
    rw [← bc_row (A := A) (s := 196) (t := 0) (c := 25) (n := 16) (a := 221) (b := 25) rfl rfl (by decide) (by decide) (by decide) (fun j => by omega)]
    exact cpa F _ Bx (a := 221) (b := 25) (n := 16) (by decide) (by decide) rfl (by decide)
  have r26 : f_x_copyAll_222_26 F (mk (bcL A 196 0 [25, 24, 23, 22, 21, 20, 17, 18]) Bx) = some ((), mk (bcL A 196 0 [26, 25, 24, 23, 22, 21, 20, 17, 18]) Bx) := by
    rw [← bc_row (A := A) (s := 196) (t := 0) (c := 26) (n := 16) (a := 222) (b := 26) rfl rfl (by decide) (by decide) (by decide) (fun j => by omega)]
    exact cpa F _ Bx (a := 222) (b := 26) (n := 16) (by decide) (by decide) rfl (by decide)
  have r27 : f_x_copyAll_223_27 F (mk (bcL A 196 0 [26, 25, 24, 23, 22, 21, 20, 17, 18]) Bx) = some ((), mk (bcL A 196 0 [27, 26, 25, 24, 23, 22, 21, 20, 17, 18]) Bx) := by
    rw [← bc_row (A := A) (s := 196) (t := 0) (c := 27) (n := 16) (a := 223) (b := 27) rfl rfl (by decide) (by decide) (by decide) (fun j => by omega)]
    exact cpa F _ Bx (a := 223) (b := 27) (n := 16) (by decide) (by decide) rfl (by decide)
  have r28 : f_x_copyAll_224_28 F (mk (bcL A 196 0 [27, 26, 25, 24, 23, 22, 21, 20, 17, 18]) Bx) = some ((), mk (bcL A 196 0 [28, 27, 26, 25, 24, 23, 22, 21, 20, 17, 18]) Bx) := by
    rw [← bc_row (A := A) (s := 196) (t := 0) (c := 28) (n := 16) (a := 224) (b := 28) rfl rfl (by decide) (by decide) (by decide) (fun j => by omega)]
    exact cpa F _ Bx (a := 224) (b := 28) (n := 16) (by decide) (by decide) rfl (by decide)
  have r29 : f_x_copyAll_225_29 F (mk (bcL A 196 0 [28, 27, 26, 25, 24, 23, 22, 21, 20, 17, 18]) Bx) = some ((), mk (bcL A 196 0 [29, 28, 27, 26, 25, 24, 23, 22, 21, 20, 17, 18]) Bx) := by
    rw [← bc_row (A := A) (s := 196) (t := 0) (c := 29) (n := 16) (a := 225) (b := 29) rfl rfl (by decide) (by decide) (by decide) (fun j => by omega)]
    exact cpa F _ Bx (a := 225) (b := 29) (n := 16) (by decide) (by decide) rfl (by decide)
  have r30 : f_x_copyAll_226_30 F (mk (bcL A 196 0 [29, 28, 27, 26, 25, 24, 23, 22, 21, 20, 17, 18]) Bx) = some ((), mk (bcL A 196 0 [30, 29, 28, 27, 26, 25, 24, 23, 22, 21, 20, 17, 18]) Bx) := by
    rw [← bc_row (A := A) (s := 196) (t := 0) (c := 30) (n := 16) (a := 226) (b := 30) rfl rfl (by decide) (by decide) (by decide) (fun j => by omega)]
    exact cpa F _ Bx (a := 226) (b := 30) (n := 16) (by decide) (by decide) rfl (by decide)
  have o19 : f_Houses_become_19_215 F (mk (bcL A 196 0 [17, 18]) Bx) = some ((), mk (bcL A 196 0 [19, 30, 29, 28, 27, 26, 25, 24, 23, 22, 21, 20, 17, 18]) Bx) := by
    rw [← bc_sc (A := A) (s := 196) (t := 0) (c := 19) (a := 215) (b := 19) (js := [12, 11]) rfl rfl (by decide) (by decide) (by decide) (fun j => by simp only [List.mem_cons, List.not_mem_nil, or_false]; omega)]
    unfold f_Houses_become_19_215
    refine obd r20 ?_
    refine obd r21 ?_
    refine obd r22 ?_
    refine obd r23 ?_
    refine obd r24 ?_
    refine obd r25 ?_
    refine obd r26 ?_
    refine obd r27 ?_
    refine obd r28 ?_
    refine obd r29 ?_
    refine obd r30 ?_
    unfold uAs uAs uAs
    simp (disch := first | omega | (simp (disch := omega) only [uA_n]; done) | fail) only [iI_lit, iI_add, iI_sub, iI_mul, iI_neg, iI_lt, iI_le, iI_eq, zlt_t, zlt_f, zle_t, zle_f, zeq_t, zeq_f, nle_t, nle_f, iI_cl, rA, rS, rB, wA, wS, wB, mkp, mk2, uA_s, uA_n, ud_s, ud_n, bI_0, bI_1, nor_s, ↓reduceIte, or_false, false_or, or_true, true_or, or_self, not_true_eq_false, not_false_eq_true, and_true, true_and, and_false, false_and, bI_T, bI_F, Int.reduceToNat, Nat.reduceAdd, Nat.reduceMul, Int.reduceNeg, Option.bind_some, Int.toNat_natCast]
  have r32 : f_x_copyAll_228_32 F (mk (bcL A 196 0 [19, 30, 29, 28, 27, 26, 25, 24, 23, 22, 21, 20, 17, 18]) Bx) = some ((), mk (bcL A 196 0 [32, 19, 30, 29, 28, 27, 26, 25, 24, 23, 22, 21, 20, 17, 18]) Bx) := by
    rw [← bc_row (A := A) (s := 196) (t := 0) (c := 32) (n := 60) (a := 228) (b := 32) rfl rfl (by decide) (by decide) (by decide) (fun j => by omega)]
    exact cpa F _ Bx (a := 228) (b := 32) (n := 60) (by decide) (by decide) rfl (by decide)
  have r33 : f_x_copyAll_229_33 F (mk (bcL A 196 0 [32, 19, 30, 29, 28, 27, 26, 25, 24, 23, 22, 21, 20, 17, 18]) Bx) = some ((), mk (bcL A 196 0 [33, 32, 19, 30, 29, 28, 27, 26, 25, 24, 23, 22, 21, 20, 17, 18]) Bx) := by
    rw [← bc_row (A := A) (s := 196) (t := 0) (c := 33) (n := 60) (a := 229) (b := 33) rfl rfl (by decide) (by decide) (by decide) (fun j => by omega)]
    exact cpa F _ Bx (a := 229) (b := 33) (n := 60) (by decide) (by decide) rfl (by decide)
  have r34 : f_x_copyAll_230_34 F (mk (bcL A 196 0 [33, 32, 19, 30, 29, 28, 27, 26, 25, 24, 23, 22, 21, 20, 17, 18]) Bx) = some ((), mk (bcL A 196 0 [34, 33, 32, 19, 30, 29, 28, 27, 26, 25, 24, 23, 22, 21, 20, 17, 18]) Bx) := by
    rw [← bc_row (A := A) (s := 196) (t := 0) (c := 34) (n := 60) (a := 230) (b := 34) rfl rfl (by decide) (by decide) (by decide) (fun j => by omega)]
    exact cpa F _ Bx (a := 230) (b := 34) (n := 60) (by decide) (by decide) rfl (by decide)
  have r35 : f_x_copyAll_231_35 F (mk (bcL A 196 0 [34, 33, 32, 19, 30, 29, 28, 27, 26, 25, 24, 23, 22, 21, 20, 17, 18]) Bx) = some ((), mk (bcL A 196 0 [35, 34, 33, 32, 19, 30, 29, 28, 27, 26, 25, 24, 23, 22, 21, 20, 17, 18]) Bx) := by
    rw [← bc_row (A := A) (s := 196) (t := 0) (c := 35) (n := 60) (a := 231) (b := 35) rfl rfl (by decide) (by decide) (by decide) (fun j => by omega)]
    exact cpa F _ Bx (a := 231) (b := 35) (n := 60) (by decide) (by decide) rfl (by decide)
  have r36 : f_x_copyAll_232_36 F (mk (bcL A 196 0 [35, 34, 33, 32, 19, 30, 29, 28, 27, 26, 25, 24, 23, 22, 21, 20, 17, 18]) Bx) = some ((), mk (bcL A 196 0 [36, 35, 34, 33, 32, 19, 30, 29, 28, 27, 26, 25, 24, 23, 22, 21, 20, 17, 18]) Bx) := by
    rw [← bc_row (A := A) (s := 196) (t := 0) (c := 36) (n := 60) (a := 232) (b := 36) rfl rfl (by decide) (by decide) (by decide) (fun j => by omega)]
    exact cpa F _ Bx (a := 232) (b := 36) (n := 60) (by decide) (by decide) rfl (by decide)
  have r37 : f_x_copyAll_233_37 F (mk (bcL A 196 0 [36, 35, 34, 33, 32, 19, 30, 29, 28, 27, 26, 25, 24, 23, 22, 21, 20, 17, 18]) Bx) = some ((), mk (bcL A 196 0 [37, 36, 35, 34, 33, 32, 19, 30, 29, 28, 27, 26, 25, 24, 23, 22, 21, 20, 17, 18]) Bx) := by
    rw [← bc_row (A := A) (s := 196) (t := 0) (c := 37) (n := 60) (a := 233) (b := 37) rfl rfl (by decide) (by decide) (by decide) (fun j => by omega)]
    exact cpa F _ Bx (a := 233) (b := 37) (n := 60) (by decide) (by decide) rfl (by decide)
  have r38 : f_x_copyAll_234_38 F (mk (bcL A 196 0 [37, 36, 35, 34, 33, 32, 19, 30, 29, 28, 27, 26, 25, 24, 23, 22, 21, 20, 17, 18]) Bx) = some ((), mk (bcL A 196 0 [38, 37, 36, 35, 34, 33, 32, 19, 30, 29, 28, 27, 26, 25, 24, 23, 22, 21, 20, 17, 18]) Bx) := by
    rw [← bc_row (A := A) (s := 196) (t := 0) (c := 38) (n := 360) (a := 234) (b := 38) rfl rfl (by decide) (by decide) (by decide) (fun j => by omega)]
    exact cpa F _ Bx (a := 234) (b := 38) (n := 360) (by decide) (by decide) rfl (by decide)
  have r39 : f_x_copyAll_235_39 F (mk (bcL A 196 0 [38, 37, 36, 35, 34, 33, 32, 19, 30, 29, 28, 27, 26, 25, 24, 23, 22, 21, 20, 17, 18]) Bx) = some ((), mk (bcL A 196 0 [39, 38, 37, 36, 35, 34, 33, 32, 19, 30, 29, 28, 27, 26, 25, 24, 23, 22, 21, 20, 17, 18]) Bx) := by
    rw [← bc_row (A := A) (s := 196) (t := 0) (c := 39) (n := 60) (a := 235) (b := 39) rfl rfl (by decide) (by decide) (by decide) (fun j => by omega)]
    exact cpa F _ Bx (a := 235) (b := 39) (n := 60) (by decide) (by decide) rfl (by decide)
  have r40 : f_x_copyAll_236_40 F (mk (bcL A 196 0 [39, 38, 37, 36, 35, 34, 33, 32, 19, 30, 29, 28, 27, 26, 25, 24, 23, 22, 21, 20, 17, 18]) Bx) = some ((), mk (bcL A 196 0 [40, 39, 38, 37, 36, 35, 34, 33, 32, 19, 30, 29, 28, 27, 26, 25, 24, 23, 22, 21, 20, 17, 18]) Bx) := by
    rw [← bc_row (A := A) (s := 196) (t := 0) (c := 40) (n := 60) (a := 236) (b := 40) rfl rfl (by decide) (by decide) (by decide) (fun j => by omega)]
    exact cpa F _ Bx (a := 236) (b := 40) (n := 60) (by decide) (by decide) rfl (by decide)
  have r41 : f_x_copyAll_237_41 F (mk (bcL A 196 0 [40, 39, 38, 37, 36, 35, 34, 33, 32, 19, 30, 29, 28, 27, 26, 25, 24, 23, 22, 21, 20, 17, 18]) Bx) = some ((), mk (bcL A 196 0 [41, 40, 39, 38, 37, 36, 35, 34, 33, 32, 19, 30, 29, 28, 27, 26, 25, 24, 23, 22, 21, 20, 17, 18]) Bx) := by
    rw [← bc_row (A := A) (s := 196) (t := 0) (c := 41) (n := 60) (a := 237) (b := 41) rfl rfl (by decide) (by decide) (by decide) (fun j => by omega)]
    exact cpa F _ Bx (a := 237) (b := 41) (n := 60) (by decide) (by decide) rfl (by decide)
  have r42 : f_x_copyAll_238_42 F (mk (bcL A 196 0 [41, 40, 39, 38, 37, 36, 35, 34, 33, 32, 19, 30, 29, 28, 27, 26, 25, 24, 23, 22, 21, 20, 17, 18]) Bx) = some ((), mk (bcL A 196 0 [42, 41, 40, 39, 38, 37, 36, 35, 34, 33, 32, 19, 30, 29, 28, 27, 26, 25, 24, 23, 22, 21, 20, 17, 18]) Bx) := by
    rw [← bc_row (A := A) (s := 196) (t := 0) (c := 42) (n := 60) (a := 238) (b := 42) rfl rfl (by decide) (by decide) (by decide) (fun j => by omega)]
    exact cpa F _ Bx (a := 238) (b := 42) (n := 60) (by decide) (by decide) rfl (by decide)
  have r43 : f_x_copyAll_239_43 F (mk (bcL A 196 0 [42, 41, 40, 39, 38, 37, 36, 35, 34, 33, 32, 19, 30, 29, 28, 27, 26, 25, 24, 23, 22, 21, 20, 17, 18]) Bx) = some ((), mk (bcL A 196 0 [43, 42, 41, 40, 39, 38, 37, 36, 35, 34, 33, 32, 19, 30, 29, 28, 27, 26, 25, 24, 23, 22, 21, 20, 17, 18]) Bx) := by
    rw [← bc_row (A := A) (s := 196) (t := 0) (c := 43) (n := 60) (a := 239) (b := 43) rfl rfl (by decide) (by decide) (by decide) (fun j => by omega)]
    exact cpa F _ Bx (a := 239) (b := 43) (n := 60) (by decide) (by decide) rfl (by decide)
  have r44 : f_x_copyAll_240_44 F (mk (bcL A 196 0 [43, 42, 41, 40, 39, 38, 37, 36, 35, 34, 33, 32, 19, 30, 29, 28, 27, 26, 25, 24, 23, 22, 21, 20, 17, 18]) Bx) = some ((), mk (bcL A 196 0 [44, 43, 42, 41, 40, 39, 38, 37, 36, 35, 34, 33, 32, 19, 30, 29, 28, 27, 26, 25, 24, 23, 22, 21, 20, 17, 18]) Bx) := by
    rw [← bc_row (A := A) (s := 196) (t := 0) (c := 44) (n := 60) (a := 240) (b := 44) rfl rfl (by decide) (by decide) (by decide) (fun j => by omega)]
    exact cpa F _ Bx (a := 240) (b := 44) (n := 60) (by decide) (by decide) rfl (by decide)
  have o31 : f_Papers_become_31_227 F (mk (bcL A 196 0 [19, 30, 29, 28, 27, 26, 25, 24, 23, 22, 21, 20, 17, 18]) Bx) = some ((), mk (bcL A 196 0 [31, 44, 43, 42, 41, 40, 39, 38, 37, 36, 35, 34, 33, 32, 19, 30, 29, 28, 27, 26, 25, 24, 23, 22, 21, 20, 17, 18]) Bx) := by
    rw [← bc_sc (A := A) (s := 196) (t := 0) (c := 31) (a := 227) (b := 31) (js := [15, 14]) rfl rfl (by decide) (by decide) (by decide) (fun j => by simp only [List.mem_cons, List.not_mem_nil, or_false]; omega)]
    unfold f_Papers_become_31_227
    refine obd r32 ?_
    refine obd r33 ?_
    refine obd r34 ?_
    refine obd r35 ?_
    refine obd r36 ?_
    refine obd r37 ?_
    refine obd r38 ?_
    refine obd r39 ?_
    refine obd r40 ?_
    refine obd r41 ?_
    refine obd r42 ?_
    refine obd r43 ?_
    refine obd r44 ?_
    unfold uAs uAs uAs
    simp (disch := first | omega | (simp (disch := omega) only [uA_n]; done) | fail) only [iI_lit, iI_add, iI_sub, iI_mul, iI_neg, iI_lt, iI_le, iI_eq, zlt_t, zlt_f, zle_t, zle_f, zeq_t, zeq_f, nle_t, nle_f, iI_cl, rA, rS, rB, wA, wS, wB, mkp, mk2, uA_s, uA_n, ud_s, ud_n, bI_0, bI_1, nor_s, ↓reduceIte, or_false, false_or, or_true, true_or, or_self, not_true_eq_false, not_false_eq_true, and_true, true_and, and_false, false_and, bI_T, bI_F, Int.reduceToNat, Nat.reduceAdd, Nat.reduceMul, Int.reduceNeg, Option.bind_some, Int.toNat_natCast]
  have r47 : f_x_copyAll_243_47 F (mk (bcL A 196 0 [31, 44, 43, 42, 41, 40, 39, 38, 37, 36, 35, 34, 33, 32, 19, 30, 29, 28, 27, 26, 25, 24, 23, 22, 21, 20, 17, 18]) Bx) = some ((), mk (bcL A 196 0 [47, 31, 44, 43, 42, 41, 40, 39, 38, 37, 36, 35, 34, 33, 32, 19, 30, 29, 28, 27, 26, 25, 24, 23, 22, 21, 20, 17, 18]) Bx) := by
    rw [← bc_row (A := A) (s := 196) (t := 0) (c := 47) (n := 8) (a := 243) (b := 47) rfl rfl (by decide) (by decide) (by decide) (fun j => by omega)]
    exact cpa F _ Bx (a := 243) (b := 47) (n := 8) (by decide) (by decide) rfl (by decide)
  have r48 : f_x_copyAll_244_48 F (mk (bcL A 196 0 [47, 31, 44, 43, 42, 41, 40, 39, 38, 37, 36, 35, 34, 33, 32, 19, 30, 29, 28, 27, 26, 25, 24, 23, 22, 21, 20, 17, 18]) Bx) = some ((), mk (bcL A 196 0 [48, 47, 31, 44, 43, 42, 41, 40, 39, 38, 37, 36, 35, 34, 33, 32, 19, 30, 29, 28, 27, 26, 25, 24, 23, 22, 21, 20, 17, 18]) Bx) := by
    rw [← bc_row (A := A) (s := 196) (t := 0) (c := 48) (n := 8) (a := 244) (b := 48) rfl rfl (by decide) (by decide) (by decide) (fun j => by omega)]
    exact cpa F _ Bx (a := 244) (b := 48) (n := 8) (by decide) (by decide) rfl (by decide)
  have r49 : f_x_copyAll_245_49 F (mk (bcL A 196 0 [48, 47, 31, 44, 43, 42, 41, 40, 39, 38, 37, 36, 35, 34, 33, 32, 19, 30, 29, 28, 27, 26, 25, 24, 23, 22, 21, 20, 17, 18]) Bx) = some ((), mk (bcL A 196 0 [49, 48, 47, 31, 44, 43, 42, 41, 40, 39, 38, 37, 36, 35, 34, 33, 32, 19, 30, 29, 28, 27, 26, 25, 24, 23, 22, 21, 20, 17, 18]) Bx) := by
    rw [← bc_row (A := A) (s := 196) (t := 0) (c := 49) (n := 8) (a := 245) (b := 49) rfl rfl (by decide) (by decide) (by decide) (fun j => by omega)]
    exact cpa F _ Bx (a := 245) (b := 49) (n := 8) (by decide) (by decide) rfl (by decide)
  have r50 : f_x_copyAll_246_50 F (mk (bcL A 196 0 [49, 48, 47, 31, 44, 43, 42, 41, 40, 39, 38, 37, 36, 35, 34, 33, 32, 19, 30, 29, 28, 27, 26, 25, 24, 23, 22, 21, 20, 17, 18]) Bx) = some ((), mk (bcL A 196 0 [50, 49, 48, 47, 31, 44, 43, 42, 41, 40, 39, 38, 37, 36, 35, 34, 33, 32, 19, 30, 29, 28, 27, 26, 25, 24, 23, 22, 21, 20, 17, 18]) Bx) := by
    rw [← bc_row (A := A) (s := 196) (t := 0) (c := 50) (n := 8) (a := 246) (b := 50) rfl rfl (by decide) (by decide) (by decide) (fun j => by omega)]
    exact cpa F _ Bx (a := 246) (b := 50) (n := 8) (by decide) (by decide) rfl (by decide)
  have r51 : f_x_copyAll_247_51 F (mk (bcL A 196 0 [50, 49, 48, 47, 31, 44, 43, 42, 41, 40, 39, 38, 37, 36, 35, 34, 33, 32, 19, 30, 29, 28, 27, 26, 25, 24, 23, 22, 21, 20, 17, 18]) Bx) = some ((), mk (bcL A 196 0 [51, 50, 49, 48, 47, 31, 44, 43, 42, 41, 40, 39, 38, 37, 36, 35, 34, 33, 32, 19, 30, 29, 28, 27, 26, 25, 24, 23, 22, 21, 20, 17, 18]) Bx) := by
    rw [← bc_row (A := A) (s := 196) (t := 0) (c := 51) (n := 8) (a := 247) (b := 51) rfl rfl (by decide) (by decide) (by decide) (fun j => by omega)]
    exact cpa F _ Bx (a := 247) (b := 51) (n := 8) (by decide) (by decide) rfl (by decide)
  have o46 : f_Trades_become_46_242 F (mk (bcL A 196 0 [31, 44, 43, 42, 41, 40, 39, 38, 37, 36, 35, 34, 33, 32, 19, 30, 29, 28, 27, 26, 25, 24, 23, 22, 21, 20, 17, 18]) Bx) = some ((), mk (bcL A 196 0 [46, 51, 50, 49, 48, 47, 31, 44, 43, 42, 41, 40, 39, 38, 37, 36, 35, 34, 33, 32, 19, 30, 29, 28, 27, 26, 25, 24, 23, 22, 21, 20, 17, 18]) Bx) := by
    rw [← bc_sc (A := A) (s := 196) (t := 0) (c := 46) (a := 242) (b := 46) (js := [5]) rfl rfl (by decide) (by decide) (by decide) (fun j => by simp only [List.mem_cons, List.not_mem_nil, or_false]; omega)]
    unfold f_Trades_become_46_242
    refine obd r47 ?_
    refine obd r48 ?_
    refine obd r49 ?_
    refine obd r50 ?_
    refine obd r51 ?_
    unfold uAs uAs
    simp (disch := first | omega | (simp (disch := omega) only [uA_n]; done) | fail) only [iI_lit, iI_add, iI_sub, iI_mul, iI_neg, iI_lt, iI_le, iI_eq, zlt_t, zlt_f, zle_t, zle_f, zeq_t, zeq_f, nle_t, nle_f, iI_cl, rA, rS, rB, wA, wS, wB, mkp, mk2, uA_s, uA_n, ud_s, ud_n, bI_0, bI_1, nor_s, ↓reduceIte, or_false, false_or, or_true, true_or, or_self, not_true_eq_false, not_false_eq_true, and_true, true_and, and_false, false_and, bI_T, bI_F, Int.reduceToNat, Nat.reduceAdd, Nat.reduceMul, Int.reduceNeg, Option.bind_some, Int.toNat_natCast]
  have r53 : f_x_copyAll_249_53 F (mk (bcL A 196 0 [46, 51, 50, 49, 48, 47, 31, 44, 43, 42, 41, 40, 39, 38, 37, 36, 35, 34, 33, 32, 19, 30, 29, 28, 27, 26, 25, 24, 23, 22, 21, 20, 17, 18]) Bx) = some ((), mk (bcL A 196 0 [53, 46, 51, 50, 49, 48, 47, 31, 44, 43, 42, 41, 40, 39, 38, 37, 36, 35, 34, 33, 32, 19, 30, 29, 28, 27, 26, 25, 24, 23, 22, 21, 20, 17, 18]) Bx) := by
    rw [← bc_row (A := A) (s := 196) (t := 0) (c := 53) (n := 104) (a := 249) (b := 53) rfl rfl (by decide) (by decide) (by decide) (fun j => by omega)]
    exact cpa F _ Bx (a := 249) (b := 53) (n := 104) (by decide) (by decide) rfl (by decide)
  have o52 : f_Seasons_become_52_248 F (mk (bcL A 196 0 [46, 51, 50, 49, 48, 47, 31, 44, 43, 42, 41, 40, 39, 38, 37, 36, 35, 34, 33, 32, 19, 30, 29, 28, 27, 26, 25, 24, 23, 22, 21, 20, 17, 18]) Bx) = some ((), mk (bcL A 196 0 [53, 46, 51, 50, 49, 48, 47, 31, 44, 43, 42, 41, 40, 39, 38, 37, 36, 35, 34, 33, 32, 19, 30, 29, 28, 27, 26, 25, 24, 23, 22, 21, 20, 17, 18]) Bx) := by
    unfold f_Seasons_become_52_248
    refine obd r53 ?_
    rfl
  have r56 : f_x_copyAll_252_56 F (mk (bcL A 196 0 [53, 46, 51, 50, 49, 48, 47, 31, 44, 43, 42, 41, 40, 39, 38, 37, 36, 35, 34, 33, 32, 19, 30, 29, 28, 27, 26, 25, 24, 23, 22, 21, 20, 17, 18]) Bx) = some ((), mk (bcL A 196 0 [56, 53, 46, 51, 50, 49, 48, 47, 31, 44, 43, 42, 41, 40, 39, 38, 37, 36, 35, 34, 33, 32, 19, 30, 29, 28, 27, 26, 25, 24, 23, 22, 21, 20, 17, 18]) Bx) := by
    rw [← bc_row (A := A) (s := 196) (t := 0) (c := 56) (n := 300) (a := 252) (b := 56) rfl rfl (by decide) (by decide) (by decide) (fun j => by omega)]
    exact cpa F _ Bx (a := 252) (b := 56) (n := 300) (by decide) (by decide) rfl (by decide)
  have r57 : f_x_copyAll_253_57 F (mk (bcL A 196 0 [56, 53, 46, 51, 50, 49, 48, 47, 31, 44, 43, 42, 41, 40, 39, 38, 37, 36, 35, 34, 33, 32, 19, 30, 29, 28, 27, 26, 25, 24, 23, 22, 21, 20, 17, 18]) Bx) = some ((), mk (bcL A 196 0 [57, 56, 53, 46, 51, 50, 49, 48, 47, 31, 44, 43, 42, 41, 40, 39, 38, 37, 36, 35, 34, 33, 32, 19, 30, 29, 28, 27, 26, 25, 24, 23, 22, 21, 20, 17, 18]) Bx) := by
    rw [← bc_row (A := A) (s := 196) (t := 0) (c := 57) (n := 300) (a := 253) (b := 57) rfl rfl (by decide) (by decide) (by decide) (fun j => by omega)]
    exact cpa F _ Bx (a := 253) (b := 57) (n := 300) (by decide) (by decide) rfl (by decide)
  have r58 : f_x_copyAll_254_58 F (mk (bcL A 196 0 [57, 56, 53, 46, 51, 50, 49, 48, 47, 31, 44, 43, 42, 41, 40, 39, 38, 37, 36, 35, 34, 33, 32, 19, 30, 29, 28, 27, 26, 25, 24, 23, 22, 21, 20, 17, 18]) Bx) = some ((), mk (bcL A 196 0 [58, 57, 56, 53, 46, 51, 50, 49, 48, 47, 31, 44, 43, 42, 41, 40, 39, 38, 37, 36, 35, 34, 33, 32, 19, 30, 29, 28, 27, 26, 25, 24, 23, 22, 21, 20, 17, 18]) Bx) := by
    rw [← bc_row (A := A) (s := 196) (t := 0) (c := 58) (n := 400) (a := 254) (b := 58) rfl rfl (by decide) (by decide) (by decide) (fun j => by omega)]
    exact cpa F _ Bx (a := 254) (b := 58) (n := 400) (by decide) (by decide) rfl (by decide)
  have r59 : f_x_copyAll_255_59 F (mk (bcL A 196 0 [58, 57, 56, 53, 46, 51, 50, 49, 48, 47, 31, 44, 43, 42, 41, 40, 39, 38, 37, 36, 35, 34, 33, 32, 19, 30, 29, 28, 27, 26, 25, 24, 23, 22, 21, 20, 17, 18]) Bx) = some ((), mk (bcL A 196 0 [59, 58, 57, 56, 53, 46, 51, 50, 49, 48, 47, 31, 44, 43, 42, 41, 40, 39, 38, 37, 36, 35, 34, 33, 32, 19, 30, 29, 28, 27, 26, 25, 24, 23, 22, 21, 20, 17, 18]) Bx) := by
    rw [← bc_row (A := A) (s := 196) (t := 0) (c := 59) (n := 400) (a := 255) (b := 59) rfl rfl (by decide) (by decide) (by decide) (fun j => by omega)]
    exact cpa F _ Bx (a := 255) (b := 59) (n := 400) (by decide) (by decide) rfl (by decide)
  have r60 : f_x_copyAll_256_60 F (mk (bcL A 196 0 [59, 58, 57, 56, 53, 46, 51, 50, 49, 48, 47, 31, 44, 43, 42, 41, 40, 39, 38, 37, 36, 35, 34, 33, 32, 19, 30, 29, 28, 27, 26, 25, 24, 23, 22, 21, 20, 17, 18]) Bx) = some ((), mk (bcL A 196 0 [60, 59, 58, 57, 56, 53, 46, 51, 50, 49, 48, 47, 31, 44, 43, 42, 41, 40, 39, 38, 37, 36, 35, 34, 33, 32, 19, 30, 29, 28, 27, 26, 25, 24, 23, 22, 21, 20, 17, 18]) Bx) := by
    rw [← bc_row (A := A) (s := 196) (t := 0) (c := 60) (n := 400) (a := 256) (b := 60) rfl rfl (by decide) (by decide) (by decide) (fun j => by omega)]
    exact cpa F _ Bx (a := 256) (b := 60) (n := 400) (by decide) (by decide) rfl (by decide)
  have r61 : f_x_copyAll_257_61 F (mk (bcL A 196 0 [60, 59, 58, 57, 56, 53, 46, 51, 50, 49, 48, 47, 31, 44, 43, 42, 41, 40, 39, 38, 37, 36, 35, 34, 33, 32, 19, 30, 29, 28, 27, 26, 25, 24, 23, 22, 21, 20, 17, 18]) Bx) = some ((), mk (bcL A 196 0 [61, 60, 59, 58, 57, 56, 53, 46, 51, 50, 49, 48, 47, 31, 44, 43, 42, 41, 40, 39, 38, 37, 36, 35, 34, 33, 32, 19, 30, 29, 28, 27, 26, 25, 24, 23, 22, 21, 20, 17, 18]) Bx) := by
    rw [← bc_row (A := A) (s := 196) (t := 0) (c := 61) (n := 16) (a := 257) (b := 61) rfl rfl (by decide) (by decide) (by decide) (fun j => by omega)]
    exact cpa F _ Bx (a := 257) (b := 61) (n := 16) (by decide) (by decide) rfl (by decide)
  have o55 : f_Notes_become_55_251 F (mk (bcL A 196 0 [53, 46, 51, 50, 49, 48, 47, 31, 44, 43, 42, 41, 40, 39, 38, 37, 36, 35, 34, 33, 32, 19, 30, 29, 28, 27, 26, 25, 24, 23, 22, 21, 20, 17, 18]) Bx) = some ((), mk (bcL A 196 0 [55, 61, 60, 59, 58, 57, 56, 53, 46, 51, 50, 49, 48, 47, 31, 44, 43, 42, 41, 40, 39, 38, 37, 36, 35, 34, 33, 32, 19, 30, 29, 28, 27, 26, 25, 24, 23, 22, 21, 20, 17, 18]) Bx) := by
    rw [← bc_sc (A := A) (s := 196) (t := 0) (c := 55) (a := 251) (b := 55) (js := [12, 11, 10, 9, 8, 7]) rfl rfl (by decide) (by decide) (by decide) (fun j => by simp only [List.mem_cons, List.not_mem_nil, or_false]; omega)]
    unfold f_Notes_become_55_251
    refine obd r56 ?_
    refine obd r57 ?_
    refine obd r58 ?_
    refine obd r59 ?_
    refine obd r60 ?_
    refine obd r61 ?_
    simp only [f_Notes_become_55_251_90]
    unfold uAs uAs uAs uAs uAs uAs uAs
    simp (disch := first | omega | (simp (disch := omega) only [uA_n]; done) | fail) only [iI_lit, iI_add, iI_sub, iI_mul, iI_neg, iI_lt, iI_le, iI_eq, zlt_t, zlt_f, zle_t, zle_f, zeq_t, zeq_f, nle_t, nle_f, iI_cl, rA, rS, rB, wA, wS, wB, mkp, mk2, uA_s, uA_n, ud_s, ud_n, bI_0, bI_1, nor_s, ↓reduceIte, or_false, false_or, or_true, true_or, or_self, not_true_eq_false, not_false_eq_true, and_true, true_and, and_false, false_and, bI_T, bI_F, Int.reduceToNat, Nat.reduceAdd, Nat.reduceMul, Int.reduceNeg, Option.bind_some, Int.toNat_natCast]
  have fin : bcL A 196 0 [16, 55, 61, 60, 59, 58, 57, 56, 53, 46, 51, 50, 49, 48, 47, 31, 44, 43, 42, 41, 40, 39, 38, 37, 36, 35, 34, 33, 32, 19, 30, 29, 28, 27, 26, 25, 24, 23, 22, 21, 20, 17, 18] = bec A 196 0 := bcL_all A 196 0 (by decide)
  rw [← fin, ← bc_sc (A := A) (s := 196) (t := 0) (c := 16) (a := 212) (b := 16) (js := [14, 13, 12, 11, 10, 9]) rfl rfl (by decide) (by decide) (by decide) (fun j => by simp only [List.mem_cons, List.not_mem_nil, or_false]; omega)]
  have e0 : mk A Bx = mk (bcL A 196 0 []) Bx := by rw [bcL_nil]
  rw [e0]
  unfold f_World_become_16_212
  refine obd o17 ?_
  refine obd o19 ?_
  refine obd o31 ?_
  refine obd o46 ?_
  refine obd o52 ?_
  refine obd o55 ?_
  simp only [f_World_become_16_212_90]
  unfold uAs uAs uAs uAs uAs uAs uAs
  simp (disch := first | omega | (simp (disch := omega) only [uA_n]; done) | fail) only [iI_lit, iI_add, iI_sub, iI_mul, iI_neg, iI_lt, iI_le, iI_eq, zlt_t, zlt_f, zle_t, zle_f, zeq_t, zeq_f, nle_t, nle_f, iI_cl, rA, rS, rB, wA, wS, wB, mkp, mk2, uA_s, uA_n, ud_s, ud_n, bI_0, bI_1, nor_s, ↓reduceIte, or_false, false_or, or_true, true_or, or_self, not_true_eq_false, not_false_eq_true, and_true, true_and, and_false, false_and, bI_T, bI_F, Int.reduceToNat, Nat.reduceAdd, Nat.reduceMul, Int.reduceNeg, Option.bind_some, Int.toNat_natCast]
end
