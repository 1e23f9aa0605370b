/-! ONE WORLD BECOMES ANOTHER: 16 to 258, 258 to 16 -/
section
variable (F : Nat)
theorem ex_bc_258_16 (A Bx : hI) : f_World_become_258_16 F (mk A Bx) = some ((), mk (bec A 0 242) Bx) := by
  have r18 : f_x_copyAll_18_260 F (mk (bcL A 0 242 []) Bx) = some ((), mk (bcL A 0 242 [18]) Bx) := by
    rw [← bc_row (A := A) (s := 0) (t := 242) (c := 18) (n := 64) (a := 18) (b := 260) rfl rfl (by decide) (by decide) (by decide) (fun j => by omega)]
    exact cpa F _ Bx (a := 18) (b := 260) (n := 64) (by decide) (by decide) rfl (by decide)
  have o17 : f_Land_become_259_17 F (mk (bcL A 0 242 []) Bx) = some ((), mk (bcL A 0 242 [17, 18]) Bx) := by
    rw [← bc_sc (A := A) (s := 0) (t := 242) (c := 17) (a := 17) (b := 259) (js := [2, 1]) rfl rfl (by decide) (by decide) (by decide) (fun j => by simp only [List.mem_cons, List.not_mem_nil, or_false]; omega)]
    unfold f_Land_become_259_17
    refine obd r18 ?_
    unfold uAs uAs uAs
    simp (disch := first | omega | (simp (disch := omega) only [uA_n]; done) | fail) only [iI_lit, iI_add, iI_sub, iI_mul, iI_neg, iI_lt, iI_le, iI_eq, zlt_t, zlt_f, zle_t, zle_f, zeq_t, zeq_f, nle_t, nle_f, iI_cl, rA, rS, rB, wA, wS, wB, mkp, mk2, uA_s, uA_n, ud_s, ud_n, bI_0, bI_1, nor_s, ↓reduceIte, or_false, false_or, or_true, true_or, or_self, not_true_eq_false, not_false_eq_true, and_true, true_and, and_false, false_and, bI_T, bI_F, Int.reduceToNat, Nat.reduceAdd, Nat.reduceMul, Int.reduceNeg, Option.bind_some, Int.toNat_natCast]
  have r20 : f_x_copyAll_20_262 F (mk (bcL A 0 242 [17, 18]) Bx) = some ((), mk (bcL A 0 242 [20, 17, 18]) Bx) := by
    rw [← bc_row (A := A) (s := 0) (t := 242) (c := 20) (n := 16) (a := 20) (b := 262) rfl rfl (by decide) (by decide) (by decide) (fun j => by omega)]
    exact cpa F _ Bx (a := 20) (b := 262) (n := 16) (by decide) (by decide) rfl (by decide)
  have r21 : f_x_copyAll_21_263 F (mk (bcL A 0 242 [20, 17, 18]) Bx) = some ((), mk (bcL A 0 242 [21, 20, 17, 18]) Bx) := by
    rw [← bc_row (A := A) (s := 0) (t := 242) (c := 21) (n := 16) (a := 21) (b := 263) rfl rfl (by decide) (by decide) (by decide) (fun j => by omega)]
    exact cpa F _ Bx (a := 21) (b := 263) (n := 16) (by decide) (by decide) rfl (by decide)
  have r22 : f_x_copyAll_22_264 F (mk (bcL A 0 242 [21, 20, 17, 18]) Bx) = some ((), mk (bcL A 0 242 [22, 21, 20, 17, 18]) Bx) := by
    rw [← bc_row (A := A) (s := 0) (t := 242) (c := 22) (n := 16) (a := 22) (b := 264) rfl rfl (by decide) (by decide) (by decide) (fun j => by omega)]
    exact cpa F _ Bx (a := 22) (b := 264) (n := 16) (by decide) (by decide) rfl (by decide)
  have r23 : f_x_copyAll_23_265 F (mk (bcL A 0 242 [22, 21, 20, 17, 18]) Bx) = some ((), mk (bcL A 0 242 [23, 22, 21, 20, 17, 18]) Bx) := by
    rw [← bc_row (A := A) (s := 0) (t := 242) (c := 23) (n := 16) (a := 23) (b := 265) rfl rfl (by decide) (by decide) (by decide) (fun j => by omega)]
    exact cpa F _ Bx (a := 23) (b := 265) (n := 16) (by decide) (by decide) rfl (by decide)
  have r24 : f_x_copyAll_24_266 F (mk (bcL A 0 242 [23, 22, 21, 20, 17, 18]) Bx) = some ((), mk (bcL A 0 242 [24, 23, 22, 21, 20, 17, 18]) Bx) := by
    rw [← bc_row (A := A) (s := 0) (t := 242) (c := 24) (n := 16) (a := 24) (b := 266) rfl rfl (by decide) (by decide) (by decide) (fun j => by omega)]
    exact cpa F _ Bx (a := 24) (b := 266) (n := 16) (by decide) (by decide) rfl (by decide)
  have r25 : f_x_copyAll_25_267 F (mk (bcL A 0 242 [24, 23, 22, 21, 20, 17, 18]) Bx) = some ((), mk (bcL A 0 242 [25, 24, 23, 22, 21, 20, 17, 18]) Bx) := by
    rw [← bc_row (A := A) (s := 0) (t := 242) (c := 25) (n := 16) (a := 25) (b := 267) rfl rfl (by decide) (by decide) (by decide) (fun j => by omega)]
    exact cpa F _ Bx (a := 25) (b := 267) (n := 16) (by decide) (by decide) rfl (by decide)
  have r26 : f_x_copyAll_26_268 F (mk (bcL A 0 242 [25, 24, 23, 22, 21, 20, 17, 18]) Bx) = some ((), mk (bcL A 0 242 [26, 25, 24, 23, 22, 21, 20, 17, 18]) Bx) := by
    rw [← bc_row (A := A) (s := 0) (t := 242) (c := 26) (n := 16) (a := 26) (b := 268) rfl rfl (by decide) (by decide) (by decide) (fun j => by omega)]
    exact cpa F _ Bx (a := 26) (b := 268) (n := 16) (by decide) (by decide) rfl (by decide)
  have r27 : f_x_copyAll_27_269 F (mk (bcL A 0 242 [26, 25, 24, 23, 22, 21, 20, 17, 18]) Bx) = some ((), mk (bcL A 0 242 [27, 26, 25, 24, 23, 22, 21, 20, 17, 18]) Bx) := by
    rw [← bc_row (A := A) (s := 0) (t := 242) (c := 27) (n := 16) (a := 27) (b := 269) rfl rfl (by decide) (by decide) (by decide) (fun j => by omega)]
    exact cpa F _ Bx (a := 27) (b := 269) (n := 16) (by decide) (by decide) rfl (by decide)
  have r28 : f_x_copyAll_28_270 F (mk (bcL A 0 242 [27, 26, 25, 24, 23, 22, 21, 20, 17, 18]) Bx) = some ((), mk (bcL A 0 242 [28, 27, 26, 25, 24, 23, 22, 21, 20, 17, 18]) Bx) := by
    rw [← bc_row (A := A) (s := 0) (t := 242) (c := 28) (n := 16) (a := 28) (b := 270) rfl rfl (by decide) (by decide) (by decide) (fun j => by omega)]
    exact cpa F _ Bx (a := 28) (b := 270) (n := 16) (by decide) (by decide) rfl (by decide)
  have r29 : f_x_copyAll_29_271 F (mk (bcL A 0 242 [28, 27, 26, 25, 24, 23, 22, 21, 20, 17, 18]) Bx) = some ((), mk (bcL A 0 242 [29, 28, 27, 26, 25, 24, 23, 22, 21, 20, 17, 18]) Bx) := by
    rw [← bc_row (A := A) (s := 0) (t := 242) (c := 29) (n := 16) (a := 29) (b := 271) rfl rfl (by decide) (by decide) (by decide) (fun j => by omega)]
    exact cpa F _ Bx (a := 29) (b := 271) (n := 16) (by decide) (by decide) rfl (by decide)
  have r30 : f_x_copyAll_30_272 F (mk (bcL A 0 242 [29, 28, 27, 26, 25, 24, 23, 22, 21, 20, 17, 18]) Bx) = some ((), mk (bcL A 0 242 [30, 29, 28, 27, 26, 25, 24, 23, 22, 21, 20, 17, 18]) Bx) := by
    rw [← bc_row (A := A) (s := 0) (t := 242) (c := 30) (n := 16) (a := 30) (b := 272) rfl rfl (by decide) (by decide) (by decide) (fun j => by omega)]
    exact cpa F _ Bx (a := 30) (b := 272) (n := 16) (by decide) (by decide) rfl (by decide)
  have o19 : f_Houses_become_261_19 F (mk (bcL A 0 242 [17, 18]) Bx) = some ((), mk (bcL A 0 242 [19, 30, 29, 28, 27, 26, 25, 24, 23, 22, 21, 20, 17, 18]) Bx) := by
    rw [← bc_sc (A := A) (s := 0) (t := 242) (c := 19) (a := 19) (b := 261) (js := [12, 11]) rfl rfl (by decide) (by decide) (by decide) (fun j => by simp only [List.mem_cons, List.not_mem_nil, or_false]; omega)]
    unfold f_Houses_become_261_19
    refine obd r20 ?_
    refine obd r21 ?_
    refine obd r22 ?_
    refine obd r23 ?_
    refine obd r24 ?_
    refine obd r25 ?_
    refine obd r26 ?_
    refine obd r27 ?_
    refine obd r28 ?_
    refine obd r29 ?_
    refine obd r30 ?_
    unfold uAs uAs uAs
    simp (disch := first | omega | (simp (disch := omega) only [uA_n]; done) | fail) only [iI_lit, iI_add, iI_sub, iI_mul, iI_neg, iI_lt, iI_le, iI_eq, zlt_t, zlt_f, zle_t, zle_f, zeq_t, zeq_f, nle_t, nle_f, iI_cl, rA, rS, rB, wA, wS, wB, mkp, mk2, uA_s, uA_n, ud_s, ud_n, bI_0, bI_1, nor_s, ↓reduceIte, or_false, false_or, or_true, true_or, or_self, not_true_eq_false, not_false_eq_true, and_true, true_and, and_false, false_and, bI_T, bI_F, Int.reduceToNat, Nat.reduceAdd, Nat.reduceMul, Int.reduceNeg, Option.bind_some, Int.toNat_natCast]
  have r32 : f_x_copyAll_32_274 F (mk (bcL A 0 242 [19, 30, 29, 28, 27, 26, 25, 24, 23, 22, 21, 20, 17, 18]) Bx) = some ((), mk (bcL A 0 242 [32, 19, 30, 29, 28, 27, 26, 25, 24, 23, 22, 21, 20, 17, 18]) Bx) := by
    rw [← bc_row (A := A) (s := 0) (t := 242) (c := 32) (n := 60) (a := 32) (b := 274) rfl rfl (by decide) (by decide) (by decide) (fun j => by omega)]
    exact cpa F _ Bx (a := 32) (b := 274) (n := 60) (by decide) (by decide) rfl (by decide)
  have r33 : f_x_copyAll_33_275 F (mk (bcL A 0 242 [32, 19, 30, 29, 28, 27, 26, 25, 24, 23, 22, 21, 20, 17, 18]) Bx) = some ((), mk (bcL A 0 242 [33, 32, 19, 30, 29, 28, 27, 26, 25, 24, 23, 22, 21, 20, 17, 18]) Bx) := by
    rw [← bc_row (A := A) (s := 0) (t := 242) (c := 33) (n := 60) (a := 33) (b := 275) rfl rfl (by decide) (by decide) (by decide) (fun j => by omega)]
    exact cpa F _ Bx (a := 33) (b := 275) (n := 60) (by decide) (by decide) rfl (by decide)
  have r34 : f_x_copyAll_34_276 F (mk (bcL A 0 242 [33, 32, 19, 30, 29, 28, 27, 26, 25, 24, 23, 22, 21, 20, 17, 18]) Bx) = some ((), mk (bcL A 0 242 [34, 33, 32, 19, 30, 29, 28, 27, 26, 25, 24, 23, 22, 21, 20, 17, 18]) Bx) := by
    rw [← bc_row (A := A) (s := 0) (t := 242) (c := 34) (n := 60) (a := 34) (b := 276) rfl rfl (by decide) (by decide) (by decide) (fun j => by omega)]
    exact cpa F _ Bx (a := 34) (b := 276) (n := 60) (by decide) (by decide) rfl (by decide)
  have r35 : f_x_copyAll_35_277 F (mk (bcL A 0 242 [34, 33, 32, 19, 30, 29, 28, 27, 26, 25, 24, 23, 22, 21, 20, 17, 18]) Bx) = some ((), mk (bcL A 0 242 [35, 34, 33, 32, 19, 30, 29, 28, 27, 26, 25, 24, 23, 22, 21, 20, 17, 18]) Bx) := by
    rw [← bc_row (A := A) (s := 0) (t := 242) (c := 35) (n := 60) (a := 35) (b := 277) rfl rfl (by decide) (by decide) (by decide) (fun j => by omega)]
    exact cpa F _ Bx (a := 35) (b := 277) (n := 60) (by decide) (by decide) rfl (by decide)
  have r36 : f_x_copyAll_36_278 F (mk (bcL A 0 242 [35, 34, 33, 32, 19, 30, 29, 28, 27, 26, 25, 24, 23, 22, 21, 20, 17, 18]) Bx) = some ((), mk (bcL A 0 242 [36, 35, 34, 33, 32, 19, 30, 29, 28, 27, 26, 25, 24, 23, 22, 21, 20, 17, 18]) Bx) := by
    rw [← bc_row (A := A) (s := 0) (t := 242) (c := 36) (n := 60) (a := 36) (b := 278) rfl rfl (by decide) (by decide) (by decide) (fun j => by omega)]
    exact cpa F _ Bx (a := 36) (b := 278) (n := 60) (by decide) (by decide) rfl (by decide)
  have r37 : f_x_copyAll_37_279 F (mk (bcL A 0 242 [36, 35, 34, 33, 32, 19, 30, 29, 28, 27, 26, 25, 24, 23, 22, 21, 20, 17, 18]) Bx) = some ((), mk (bcL A 0 242 [37, 36, 35, 34, 33, 32, 19, 30, 29, 28, 27, 26, 25, 24, 23, 22, 21, 20, 17, 18]) Bx) := by
    rw [← bc_row (A := A) (s := 0) (t := 242) (c := 37) (n := 60) (a := 37) (b := 279) rfl rfl (by decide) (by decide) (by decide) (fun j => by omega)]
    exact cpa F _ Bx (a := 37) (b := 279) (n := 60) (by decide) (by decide) rfl (by decide)
  have r38 : f_x_copyAll_38_280 F (mk (bcL A 0 242 [37, 36, 35, 34, 33, 32, 19, 30, 29, 28, 27, 26, 25, 24, 23, 22, 21, 20, 17, 18]) Bx) = some ((), mk (bcL A 0 242 [38, 37, 36, 35, 34, 33, 32, 19, 30, 29, 28, 27, 26, 25, 24, 23, 22, 21, 20, 17, 18]) Bx) := by
    rw [← bc_row (A := A) (s := 0) (t := 242) (c := 38) (n := 360) (a := 38) (b := 280) rfl rfl (by decide) (by decide) (by decide) (fun j => by omega)]
    exact cpa F _ Bx (a := 38) (b := 280) (n := 360) (by decide) (by decide) rfl (by decide)
  have r39 : f_x_copyAll_39_281 F (mk (bcL A 0 242 [38, 37, 36, 35, 34, 33, 32, 19, 30, 29, 28, 27, 26, 25, 24, 23, 22, 21, 20, 17, 18]) Bx) = some ((), mk (bcL A 0 242 [39, 38, 37, 36, 35, 34, 33, 32, 19, 30, 29, 28, 27, 26, 25, 24, 23, 22, 21, 20, 17, 18]) Bx) := by
    rw [← bc_row (A := A) (s := 0) (t := 242) (c := 39) (n := 60) (a := 39) (b := 281) rfl rfl (by decide) (by decide) (by decide) (fun j => by omega)]
    exact cpa F _ Bx (a := 39) (b := 281) (n := 60) (by decide) (by decide) rfl (by decide)
  have r40 : f_x_copyAll_40_282 F (mk (bcL A 0 242 [39, 38, 37, 36, 35, 34, 33, 32, 19, 30, 29, 28, 27, 26, 25, 24, 23, 22, 21, 20, 17, 18]) Bx) = some ((), mk (bcL A 0 242 [40, 39, 38, 37, 36, 35, 34, 33, 32, 19, 30, 29, 28, 27, 26, 25, 24, 23, 22, 21, 20, 17, 18]) Bx) := by
    rw [← bc_row (A := A) (s := 0) (t := 242) (c := 40) (n := 60) (a := 40) (b := 282) rfl rfl (by decide) (by decide) (by decide) (fun j => by omega)]
    exact cpa F _ Bx (a := 40) (b := 282) (n := 60) (by decide) (by decide) rfl (by decide)
  have r41 : f_x_copyAll_41_283 F (mk (bcL A 0 242 [40, 39, 38, 37, 36, 35, 34, 33, 32, 19, 30, 29, 28, 27, 26, 25, 24, 23, 22, 21, 20, 17, 18]) Bx) = some ((), mk (bcL A 0 242 [41, 40, 39, 38, 37, 36, 35, 34, 33, 32, 19, 30, 29, 28, 27, 26, 25, 24, 23, 22, 21, 20, 17, 18]) Bx) := by
    rw [← bc_row (A := A) (s := 0) (t := 242) (c := 41) (n := 60) (a := 41) (b := 283) rfl rfl (by decide) (by decide) (by decide) (fun j => by omega)]
    exact cpa F _ Bx (a := 41) (b := 283) (n := 60) (by decide) (by decide) rfl (by decide)
  have r42 : f_x_copyAll_42_284 F (mk (bcL A 0 242 [41, 40, 39, 38, 37, 36, 35, 34, 33, 32, 19, 30, 29, 28, 27, 26, 25, 24, 23, 22, 21, 20, 17, 18]) Bx) = some ((), mk (bcL A 0 242 [42, 41, 40, 39, 38, 37, 36, 35, 34, 33, 32, 19, 30, 29, 28, 27, 26, 25, 24, 23, 22, 21, 20, 17, 18]) Bx) := by
    rw [← bc_row (A := A) (s := 0) (t := 242) (c := 42) (n := 60) (a := 42) (b := 284) rfl rfl (by decide) (by decide) (by decide) (fun j => by omega)]
    exact cpa F _ Bx (a := 42) (b := 284) (n := 60) (by decide) (by decide) rfl (by decide)
  have r43 : f_x_copyAll_43_285 F (mk (bcL A 0 242 [42, 41, 40, 39, 38, 37, 36, 35, 34, 33, 32, 19, 30, 29, 28, 27, 26, 25, 24, 23, 22, 21, 20, 17, 18]) Bx) = some ((), mk (bcL A 0 242 [43, 42, 41, 40, 39, 38, 37, 36, 35, 34, 33, 32, 19, 30, 29, 28, 27, 26, 25, 24, 23, 22, 21, 20, 17, 18]) Bx) := by
    rw [← bc_row (A := A) (s := 0) (t := 242) (c := 43) (n := 60) (a := 43) (b := 285) rfl rfl (by decide) (by decide) (by decide) (fun j => by omega)]
    exact cpa F _ Bx (a := 43) (b := 285) (n := 60) (by decide) (by decide) rfl (by decide)
  have r44 : f_x_copyAll_44_286 F (mk (bcL A 0 242 [43, 42, 41, 40, 39, 38, 37, 36, 35, 34, 33, 32, 19, 30, 29, 28, 27, 26, 25, 24, 23, 22, 21, 20, 17, 18]) Bx) = some ((), mk (bcL A 0 242 [44, 43, 42, 41, 40, 39, 38, 37, 36, 35, 34, 33, 32, 19, 30, 29, 28, 27, 26, 25, 24, 23, 22, 21, 20, 17, 18]) Bx) := by
    rw [← bc_row (A := A) (s := 0) (t := 242) (c := 44) (n := 60) (a := 44) (b := 286) rfl rfl (by decide) (by decide) (by decide) (fun j => by omega)]
    exact cpa F _ Bx (a := 44) (b := 286) (n := 60) (by decide) (by decide) rfl (by decide)
  have o31 : f_Papers_become_273_31 F (mk (bcL A 0 242 [19, 30, 29, 28, 27, 26, 25, 24, 23, 22, 21, 20, 17, 18]) Bx) = some ((), mk (bcL A 0 242 [31, 44, 43, 42, 41, 40, 39, 38, 37, 36, 35, 34, 33, 32, 19, 30, 29, 28, 27, 26, 25, 24, 23, 22, 21, 20, 17, 18]) Bx) := by
    rw [← bc_sc (A := A) (s := 0) (t := 242) (c := 31) (a := 31) (b := 273) (js := [15, 14]) rfl rfl (by decide) (by decide) (by decide) (fun j => by simp only [List.mem_cons, List.not_mem_nil, or_false]; omega)]
    unfold f_Papers_become_273_31
    refine obd r32 ?_
    refine obd r33 ?_
    refine obd r34 ?_
    refine obd r35 ?_
    refine obd r36 ?_
    refine obd r37 ?_
    refine obd r38 ?_
    refine obd r39 ?_
    refine obd r40 ?_
    refine obd r41 ?_
    refine obd r42 ?_
    refine obd r43 ?_
    refine obd r44 ?_
    unfold uAs uAs uAs
    simp (disch := first | omega | (simp (disch := omega) only [uA_n]; done) | fail) only [iI_lit, iI_add, iI_sub, iI_mul, iI_neg, iI_lt, iI_le, iI_eq, zlt_t, zlt_f, zle_t, zle_f, zeq_t, zeq_f, nle_t, nle_f, iI_cl, rA, rS, rB, wA, wS, wB, mkp, mk2, uA_s, uA_n, ud_s, ud_n, bI_0, bI_1, nor_s, ↓reduceIte, or_false, false_or, or_true, true_or, or_self, not_true_eq_false, not_false_eq_true, and_true, true_and, and_false, false_and, bI_T, bI_F, Int.reduceToNat, Nat.reduceAdd, Nat.reduceMul, Int.reduceNeg, Option.bind_some, Int.toNat_natCast]
  have r47 : f_x_copyAll_47_289 F (mk (bcL A 0 242 [31, 44, 43, 42, 41, 40, 39, 38, 37, 36, 35, 34, 33, 32, 19, 30, 29, 28, 27, 26, 25, 24, 23, 22, 21, 20, 17, 18]) Bx) = some ((), mk (bcL A 0 242 [47, 31, 44, 43, 42, 41, 40, 39, 38, 37, 36, 35, 34, 33, 32, 19, 30, 29, 28, 27, 26, 25, 24, 23, 22, 21, 20, 17, 18]) Bx) := by
    rw [← bc_row (A := A) (s := 0) (t := 242) (c := 47) (n := 8) (a := 47) (b := 289) rfl rfl (by decide) (by decide) (by decide) (fun j => by omega)]
    exact cpa F _ Bx (a := 47) (b := 289) (n := 8) (by decide) (by decide) rfl (by decide)
  have r48 : f_x_copyAll_48_290 F (mk (bcL A 0 242 [47, 31, 44, 43, 42, 41, 40, 39, 38, 37, 36, 35, 34, 33, 32, 19, 30, 29, 28, 27, 26, 25, 24, 23, 22, 21, 20, 17, 18]) Bx) = some ((), mk (bcL A 0 242 [48, 47, 31, 44, 43, 42, 41, 40, 39, 38, 37, 36, 35, 34, 33, 32, 19, 30, 29, 28, 27, 26, 25, 24, 23, 22, 21, 20, 17, 18]) Bx) := by
    rw [← bc_row (A := A) (s := 0) (t := 242) (c := 48) (n := 8) (a := 48) (b := 290) rfl rfl (by decide) (by decide) (by decide) (fun j => by omega)]
    exact cpa F _ Bx (a := 48) (b := 290) (n := 8) (by decide) (by decide) rfl (by decide)
  have r49 : f_x_copyAll_49_291 F (mk (bcL A 0 242 [48, 47, 31, 44, 43, 42, 41, 40, 39, 38, 37, 36, 35, 34, 33, 32, 19, 30, 29, 28, 27, 26, 25, 24, 23, 22, 21, 20, 17, 18]) Bx) = some ((), mk (bcL A 0 242 [49, 48, 47, 31, 44, 43, 42, 41, 40, 39, 38, 37, 36, 35, 34, 33, 32, 19, 30, 29, 28, 27, 26, 25, 24, 23, 22, 21, 20, 17, 18]) Bx) := by
    rw [← bc_row (A := A) (s := 0) (t := 242) (c := 49) (n := 8) (a := 49) (b := 291) rfl rfl (by decide) (by decide) (by decide) (fun j => by omega)]
    exact cpa F _ Bx (a := 49) (b := 291) (n := 8) (by decide) (by decide) rfl (by decide)
  have r50 : f_x_copyAll_50_292 F (mk (bcL A 0 242 [49, 48, 47, 31, 44, 43, 42, 41, 40, 39, 38, 37, 36, 35, 34, 33, 32, 19, 30, 29, 28, 27, 26, 25, 24, 23, 22, 21, 20, 17, 18]) Bx) = some ((), mk (bcL A 0 242 [50, 49, 48, 47, 31, 44, 43, 42, 41, 40, 39, 38, 37, 36, 35, 34, 33, 32, 19, 30, 29, 28, 27, 26, 25, 24, 23, 22, 21, 20, 17, 18]) Bx) := by
    rw [← bc_row (A := A) (s := 0) (t := 242) (c := 50) (n := 8) (a := 50) (b := 292) rfl rfl (by decide) (by decide) (by decide) (fun j => by omega)]
    exact cpa F _ Bx (a := 50) (b := 292) (n := 8) (by decide) (by decide) rfl (by decide)
  have r51 : f_x_copyAll_51_293 F (mk (bcL A 0 242 [50, 49, 48, 47, 31, 44, 43, 42, 41, 40, 39, 38, 37, 36, 35, 34, 33, 32, 19, 30, 29, 28, 27, 26, 25, 24, 23, 22, 21, 20, 17, 18]) Bx) = some ((), mk (bcL A 0 242 [51, 50, 49, 48, 47, 31, 44, 43, 42, 41, 40, 39, 38, 37, 36, 35, 34, 33, 32, 19, 30, 29, 28, 27, 26, 25, 24, 23, 22, 21, 20, 17, 18]) Bx) := by
    rw [← bc_row (A := A) (s := 0) (t := 242) (c := 51) (n := 8) (a := 51) (b := 293) rfl rfl (by decide) (by decide) (by decide) (fun j => by omega)]
    exact cpa F _ Bx (a := 51) (b := 293) (n := 8) (by decide) (by decide) rfl (by decide)
  have o46 : f_Trades_become_288_46 F (mk (bcL A 0 242 [31, 44, 43, 42, 41, 40, 39, 38, 37, 36, 35, 34, 33, 32, 19, 30, 29, 28, 27, 26, 25, 24, 23, 22, 21, 20, 17, 18]) Bx) = some ((), mk (bcL A 0 242 [46, 51, 50, 49, 48, 47, 31, 44, 43, 42, 41, 40, 39, 38, 37, 36, 35, 34, 33, 32, 19, 30, 29, 28, 27, 26, 25, 24, 23, 22, 21, 20, 17, 18]) Bx) := by
    rw [← bc_sc (A := A) (s := 0) (t := 242) (c := 46) (a := 46) (b := 288) (js := [5]) rfl rfl (by decide) (by decide) (by decide) (fun j => by simp only [List.mem_cons, List.not_mem_nil, or_false]; omega)]
    unfold f_Trades_become_288_46
    refine obd r47 ?_
    refine obd r48 ?_
    refine obd r49 ?_
    refine obd r50 ?_
    refine obd r51 ?_
    unfold uAs uAs
    simp (disch := first | omega | (simp (disch := omega) only [uA_n]; done) | fail) only [iI_lit, iI_add, iI_sub, iI_mul, iI_neg, iI_lt, iI_le, iI_eq, zlt_t, zlt_f, zle_t, zle_f, zeq_t, zeq_f, nle_t, nle_f, iI_cl, rA, rS, rB, wA, wS, wB, mkp, mk2, uA_s, uA_n, ud_s, ud_n, bI_0, bI_1, nor_s, ↓reduceIte, or_false, false_or, or_true, true_or, or_self, not_true_eq_false, not_false_eq_true, and_true, true_and, and_false, false_and, bI_T, bI_F, Int.reduceToNat, Nat.reduceAdd, Nat.reduceMul, Int.reduceNeg, Option.bind_some, Int.toNat_natCast]
  have r53 : f_x_copyAll_53_295 F (mk (bcL A 0 242 [46, 51, 50, 49, 48, 47, 31, 44, 43, 42, 41, 40, 39, 38, 37, 36, 35, 34, 33, 32, 19, 30, 29, 28, 27, 26, 25, 24, 23, 22, 21, 20, 17, 18]) Bx) = some ((), mk (bcL A 0 242 [53, 46, 51, 50, 49, 48, 47, 31, 44, 43, 42, 41, 40, 39, 38, 37, 36, 35, 34, 33, 32, 19, 30, 29, 28, 27, 26, 25, 24, 23, 22, 21, 20, 17, 18]) Bx) := by
    rw [← bc_row (A := A) (s := 0) (t := 242) (c := 53) (n := 104) (a := 53) (b := 295) rfl rfl (by decide) (by decide) (by decide) (fun j => by omega)]
    exact cpa F _ Bx (a := 53) (b := 295) (n := 104) (by decide) (by decide) rfl (by decide)
  have o52 : f_Seasons_become_294_52 F (mk (bcL A 0 242 [46, 51, 50, 49, 48, 47, 31, 44, 43, 42, 41, 40, 39, 38, 37, 36, 35, 34, 33, 32, 19, 30, 29, 28, 27, 26, 25, 24, 23, 22, 21, 20, 17, 18]) Bx) = some ((), mk (bcL A 0 242 [53, 46, 51, 50, 49, 48, 47, 31, 44, 43, 42, 41, 40, 39, 38, 37, 36, 35, 34, 33, 32, 19, 30, 29, 28, 27, 26, 25, 24, 23, 22, 21, 20, 17, 18]) Bx) := by
    unfold f_Seasons_become_294_52
    refine obd r53 ?_
    rfl
  have r56 : f_x_copyAll_56_298 F (mk (bcL A 0 242 [53, 46, 51, 50, 49, 48, 47, 31, 44, 43, 42, 41, 40, 39, 38, 37, 36, 35, 34, 33, 32, 19, 30, 29, 28, 27, 26, 25, 24, 23, 22, 21, 20, 17, 18]) Bx) = some ((), mk (bcL A 0 242 [56, 53, 46, 51, 50, 49, 48, 47, 31, 44, 43, 42, 41, 40, 39, 38, 37, 36, 35, 34, 33, 32, 19, 30, 29, 28, 27, 26, 25, 24, 23, 22, 21, 20, 17, 18]) Bx) := by
    rw [← bc_row (A := A) (s := 0) (t := 242) (c := 56) (n := 300) (a := 56) (b := 298) rfl rfl (by decide) (by decide) (by decide) (fun j => by omega)]
    exact cpa F _ Bx (a := 56) (b := 298) (n := 300) (by decide) (by decide) rfl (by decide)
  have r57 : f_x_copyAll_57_299 F (mk (bcL A 0 242 [56, 53, 46, 51, 50, 49, 48, 47, 31, 44, 43, 42, 41, 40, 39, 38, 37, 36, 35, 34, 33, 32, 19, 30, 29, 28, 27, 26, 25, 24, 23, 22, 21, 20, 17, 18]) Bx) = some ((), mk (bcL A 0 242 [57, 56, 53, 46, 51, 50, 49, 48, 47, 31, 44, 43, 42, 41, 40, 39, 38, 37, 36, 35, 34, 33, 32, 19, 30, 29, 28, 27, 26, 25, 24, 23, 22, 21, 20, 17, 18]) Bx) := by
    rw [← bc_row (A := A) (s := 0) (t := 242) (c := 57) (n := 300) (a := 57) (b := 299) rfl rfl (by decide) (by decide) (by decide) (fun j => by omega)]
    exact cpa F _ Bx (a := 57) (b := 299) (n := 300) (by decide) (by decide) rfl (by decide)
  have r58 : f_x_copyAll_58_300 F (mk (bcL A 0 242 [57, 56, 53, 46, 51, 50, 49, 48, 47, 31, 44, 43, 42, 41, 40, 39, 38, 37, 36, 35, 34, 33, 32, 19, 30, 29, 28, 27, 26, 25, 24, 23, 22, 21, 20, 17, 18]) Bx) = some ((), mk (bcL A 0 242 [58, 57, 56, 53, 46, 51, 50, 49, 48, 47, 31, 44, 43, 42, 41, 40, 39, 38, 37, 36, 35, 34, 33, 32, 19, 30, 29, 28, 27, 26, 25, 24, 23, 22, 21, 20, 17, 18]) Bx) := by
    rw [← bc_row (A := A) (s := 0) (t := 242) (c := 58) (n := 400) (a := 58) (b := 300) rfl rfl (by decide) (by decide) (by decide) (fun j => by omega)]
    exact cpa F _ Bx (a := 58) (b := 300) (n := 400) (by decide) (by decide) rfl (by decide)
  have r59 : f_x_copyAll_59_301 F (mk (bcL A 0 242 [58, 57, 56, 53, 46, 51, 50, 49, 48, 47, 31, 44, 43, 42, 41, 40, 39, 38, 37, 36, 35, 34, 33, 32, 19, 30, 29, 28, 27, 26, 25, 24, 23, 22, 21, 20, 17, 18]) Bx) = some ((), mk (bcL A 0 242 [59, 58, 57, 56, 53, 46, 51, 50, 49, 48, 47, 31, 44, 43, 42, 41, 40, 39, 38, 37, 36, 35, 34, 33, 32, 19, 30, 29, 28, 27, 26, 25, 24, 23, 22, 21, 20, 17, 18]) Bx) := by
    rw [← bc_row (A := A) (s := 0) (t := 242) (c := 59) (n := 400) (a := 59) (b := 301) rfl rfl (by decide) (by decide) (by decide) (fun j => by omega)]
    exact cpa F _ Bx (a := 59) (b := 301) (n := 400) (by decide) (by decide) rfl (by decide)
  have r60 : f_x_copyAll_60_302 F (mk (bcL A 0 242 [59, 58, 57, 56, 53, 46, 51, 50, 49, 48, 47, 31, 44, 43, 42, 41, 40, 39, 38, 37, 36, 35, 34, 33, 32, 19, 30, 29, 28, 27, 26, 25, 24, 23, 22, 21, 20, 17, 18]) Bx) = some ((), mk (bcL A 0 242 [60, 59, 58, 57, 56, 53, 46, 51, 50, 49, 48, 47, 31, 44, 43, 42, 41, 40, 39, 38, 37, 36, 35, 34, 33, 32, 19, 30, 29, 28, 27, 26, 25, 24, 23, 22, 21, 20, 17, 18]) Bx) := by
    rw [← bc_row (A := A) (s := 0) (t := 242) (c := 60) (n := 400) (a := 60) (b := 302) rfl rfl (by decide) (by decide) (by decide) (fun j => by omega)]
    exact cpa F _ Bx (a := 60) (b := 302) (n := 400) (by decide) (by decide) rfl (by decide)
  have r61 : f_x_copyAll_61_303 F (mk (bcL A 0 242 [60, 59, 58, 57, 56, 53, 46, 51, 50, 49, 48, 47, 31, 44, 43, 42, 41, 40, 39, 38, 37, 36, 35, 34, 33, 32, 19, 30, 29, 28, 27, 26, 25, 24, 23, 22, 21, 20, 17, 18]) Bx) = some ((), mk (bcL A 0 242 [61, 60, 59, 58, 57, 56, 53, 46, 51, 50, 49, 48, 47, 31, 44, 43, 42, 41, 40, 39, 38, 37, 36, 35, 34, 33, 32, 19, 30, 29, 28, 27, 26, 25, 24, 23, 22, 21, 20, 17, 18]) Bx) := by
    rw [← bc_row (A := A) (s := 0) (t := 242) (c := 61) (n := 16) (a := 61) (b := 303) rfl rfl (by decide) (by decide) (by decide) (fun j => by omega)]
    exact cpa F _ Bx (a := 61) (b := 303) (n := 16) (by decide) (by decide) rfl (by decide)
  have o55 : f_Notes_become_297_55 F (mk (bcL A 0 242 [53, 46, 51, 50, 49, 48, 47, 31, 44, 43, 42, 41, 40, 39, 38, 37, 36, 35, 34, 33, 32, 19, 30, 29, 28, 27, 26, 25, 24, 23, 22, 21, 20, 17, 18]) Bx) = some ((), mk (bcL A 0 242 [55, 61, 60, 59, 58, 57, 56, 53, 46, 51, 50, 49, 48, 47, 31, 44, 43, 42, 41, 40, 39, 38, 37, 36, 35, 34, 33, 32, 19, 30, 29, 28, 27, 26, 25, 24, 23, 22, 21, 20, 17, 18]) Bx) := by
    rw [← bc_sc (A := A) (s := 0) (t := 242) (c := 55) (a := 55) (b := 297) (js := [12, 11, 10, 9, 8, 7]) rfl rfl (by decide) (by decide) (by decide) (fun j => by simp only [List.mem_cons, List.not_mem_nil, or_false]; omega)]
    unfold f_Notes_become_297_55
    refine obd r56 ?_
    refine obd r57 ?_
    refine obd r58 ?_
    refine obd r59 ?_
    refine obd r60 ?_
    refine obd r61 ?_
    simp only [f_Notes_become_297_55_90]
    unfold uAs uAs uAs uAs uAs uAs uAs
    simp (disch := first | omega | (simp (disch := omega) only [uA_n]; done) | fail) only [iI_lit, iI_add, iI_sub, iI_mul, iI_neg, iI_lt, iI_le, iI_eq, zlt_t, zlt_f, zle_t, zle_f, zeq_t, zeq_f, nle_t, nle_f, iI_cl, rA, rS, rB, wA, wS, wB, mkp, mk2, uA_s, uA_n, ud_s, ud_n, bI_0, bI_1, nor_s, ↓reduceIte, or_false, false_or, or_true, true_or, or_self, not_true_eq_false, not_false_eq_true, and_true, true_and, and_false, false_and, bI_T, bI_F, Int.reduceToNat, Nat.reduceAdd, Nat.reduceMul, Int.reduceNeg, Option.bind_some, Int.toNat_natCast]
  have fin : bcL A 0 242 [16, 55, 61, 60, 59, 58, 57, 56, 53, 46, 51, 50, 49, 48, 47, 31, 44, 43, 42, 41, 40, 39, 38, 37, 36, 35, 34, 33, 32, 19, 30, 29, 28, 27, 26, 25, 24, 23, 22, 21, 20, 17, 18] = bec A 0 242 := bcL_all A 0 242 (by decide)
  rw [← fin, ← bc_sc (A := A) (s := 0) (t := 242) (c := 16) (a := 16) (b := 258) (js := [14, 13, 12, 11, 10, 9]) rfl rfl (by decide) (by decide) (by decide) (fun j => by simp only [List.mem_cons, List.not_mem_nil, or_false]; omega)]
  have e0 : mk A Bx = mk (bcL A 0 242 []) Bx := by rw [bcL_nil]
  rw [e0]
  unfold f_World_become_258_16
  refine obd o17 ?_
  refine obd o19 ?_
  refine obd o31 ?_
  refine obd o46 ?_
  refine obd o52 ?_
  refine obd o55 ?_
  simp only [f_World_become_258_16_90]
  unfold uAs uAs uAs uAs uAs uAs uAs
  simp (disch := first | omega | (simp (disch := omega) only [uA_n]; done) | fail) only [iI_lit, iI_add, iI_sub, iI_mul, iI_neg, iI_lt, iI_le, iI_eq, zlt_t, zlt_f, zle_t, zle_f, zeq_t, zeq_f, nle_t, nle_f, iI_cl, rA, rS, rB, wA, wS, wB, mkp, mk2, uA_s, uA_n, ud_s, ud_n, bI_0, bI_1, nor_s, ↓reduceIte, or_false, false_or, or_true, true_or, or_self, not_true_eq_false, not_false_eq_true, and_true, true_and, and_false, false_and, bI_T, bI_F, Int.reduceToNat, Nat.reduceAdd, Nat.reduceMul, Int.reduceNeg, Option.bind_some, Int.toNat_natCast]
theorem ex_bc_16_258 (A Bx : hI) : f_World_become_16_258 F (mk A Bx) = some ((), mk (bec A 242 0) Bx) := by
  have r18 : f_x_copyAll_260_18 F (mk (bcL A 242 0 []) Bx) = some ((), mk (bcL A 242 0 [18]) Bx) := by
    rw [← bc_row (A := A) (s := 242) (t := 0) (c := 18) (n := 64) (a := 260) (b := 18) rfl rfl (by decide) (by decide) (by decide) (fun j => by omega)]
    exact cpa F _ Bx (a := 260) (b := 18) (n := 64) (by decide) (by decide) rfl (by decide)
  have o17 : f_Land_become_17_259 F (mk (bcL A 242 0 []) Bx) = some ((), mk (bcL A 242 0 [17, 18]) Bx) := by
    rw [← bc_sc (A := A) (s := 242) (t := 0) (c := 17) (a := 259) (b := 17) (js := [2, 1]) rfl rfl (by decide) (by decide) (by decide) (fun j => by simp only [List.mem_cons, List.not_mem_nil, or_false]; omega)]
    unfold f_Land_become_17_259
    refine obd r18 ?_
    unfold uAs uAs uAs
    simp (disch := first | omega | (simp (disch := omega) only [uA_n]; done) | fail) only [iI_lit, iI_add, iI_sub, iI_mul, iI_neg, iI_lt, iI_le, iI_eq, zlt_t, zlt_f, zle_t, zle_f, zeq_t, zeq_f, nle_t, nle_f, iI_cl, rA, rS, rB, wA, wS, wB, mkp, mk2, uA_s, uA_n, ud_s, ud_n, bI_0, bI_1, nor_s, ↓reduceIte, or_false, false_or, or_true, true_or, or_self, not_true_eq_false, not_false_eq_true, and_true, true_and, and_false, false_and, bI_T, bI_F, Int.reduceToNat, Nat.reduceAdd, Nat.reduceMul, Int.reduceNeg, Option.bind_some, Int.toNat_natCast]
  have r20 : f_x_copyAll_262_20 F (mk (bcL A 242 0 [17, 18]) Bx) = some ((), mk (bcL A 242 0 [20, 17, 18]) Bx) := by
    rw [← bc_row (A := A) (s := 242) (t := 0) (c := 20) (n := 16) (a := 262) (b := 20) rfl rfl (by decide) (by decide) (by decide) (fun j => by omega)]
    exact cpa F _ Bx (a := 262) (b := 20) (n := 16) (by decide) (by decide) rfl (by decide)
  have r21 : f_x_copyAll_263_21 F (mk (bcL A 242 0 [20, 17, 18]) Bx) = some ((), mk (bcL A 242 0 [21, 20, 17, 18]) Bx) := by
    rw [← bc_row (A := A) (s := 242) (t := 0) (c := 21) (n := 16) (a := 263) (b := 21) rfl rfl (by decide) (by decide) (by decide) (fun j => by omega)]
    exact cpa F _ Bx (a := 263) (b := 21) (n := 16) (by decide) (by decide) rfl (by decide)
  have r22 : f_x_copyAll_264_22 F (mk (bcL A 242 0 [21, 20, 17, 18]) Bx) = some ((), mk (bcL A 242 0 [22, 21, 20, 17, 18]) Bx) := by
    rw [← bc_row (A := A) (s := 242) (t := 0) (c := 22) (n := 16) (a := 264) (b := 22) rfl rfl (by decide) (by decide) (by decide) (fun j => by omega)]
    exact cpa F _ Bx (a := 264) (b := 22) (n := 16) (by decide) (by decide) rfl (by decide)
  have r23 : f_x_copyAll_265_23 F (mk (bcL A 242 0 [22, 21, 20, 17, 18]) Bx) = some ((), mk (bcL A 242 0 [23, 22, 21, 20, 17, 18]) Bx) := by
    rw [← bc_row (A := A) (s := 242) (t := 0) (c := 23) (n := 16) (a := 265) (b := 23) rfl rfl (by decide) (by decide) (by decide) (fun j => by omega)]
    exact cpa F _ Bx (a := 265) (b := 23) (n := 16) (by decide) (by decide) rfl (by decide)
  have r24 : f_x_copyAll_266_24 F (mk (bcL A 242 0 [23, 22, 21, 20, 17, 18]) Bx) = some ((), mk (bcL A 242 0 [24, 23, 22, 21, 20, 17, 18]) Bx) := by
    rw [← bc_row (A := A) (s := 242) (t := 0) (c := 24) (n := 16) (a := 266) (b := 24) rfl rfl (by decide) (by decide) (by decide) (fun j => by omega)]
    exact cpa F _ Bx (a := 266) (b := 24) (n := 16) (by decide) (by decide) rfl (by decide)
  have r25 : f_x_copyAll_267_25 F (mk (bcL A 242 0 [24, 23, 22, 21, 20, 17, 18]) Bx) = some ((), mk (bcL A 242 0 [25, 24, 23, 22, 21, 20, 17, 18]) Bx) := by
    rw [← bc_row (A := A) (s := 242) (t := 0) (c := 25) (n := 16) (a := 267) (b := 25) rfl rfl (by decide) (by decide) (by decide) (fun j => by omega)]
    exact cpa F _ Bx (a := 267) (b := 25) (n := 16) (by decide) (by decide) rfl (by decide)
  have r26 : f_x_copyAll_268_26 F (mk (bcL A 242 0 [25, 24, 23, 22, 21, 20, 17, 18]) Bx) = some ((), mk (bcL A 242 0 [26, 25, 24, 23, 22, 21, 20, 17, 18]) Bx) := by
    rw [← bc_row (A := A) (s := 242) (t := 0) (c := 26) (n := 16) (a := 268) (b := 26) rfl rfl (by decide) (by decide) (by decide) (fun j => by omega)]
    exact cpa F _ Bx (a := 268) (b := 26) (n := 16) (by decide) (by decide) rfl (by decide)
  have r27 : f_x_copyAll_269_27 F (mk (bcL A 242 0 [26, 25, 24, 23, 22, 21, 20, 17, 18]) Bx) = some ((), mk (bcL A 242 0 [27, 26, 25, 24, 23, 22, 21, 20, 17, 18]) Bx) := by
    rw [← bc_row (A := A) (s := 242) (t := 0) (c := 27) (n := 16) (a := 269) (b := 27) rfl rfl (by decide) (by decide) (by decide) (fun j => by omega)]
    exact cpa F _ Bx (a := 269) (b := 27) (n := 16) (by decide) (by decide) rfl (by decide)
  have r28 : f_x_copyAll_270_28 F (mk (bcL A 242 0 [27, 26, 25, 24, 23, 22, 21, 20, 17, 18]) Bx) = some ((), mk (bcL A 242 0 [28, 27, 26, 25, 24, 23, 22, 21, 20, 17, 18]) Bx) := by
    rw [← bc_row (A := A) (s := 242) (t := 0) (c := 28) (n := 16) (a := 270) (b := 28) rfl rfl (by decide) (by decide) (by decide) (fun j => by omega)]
    exact cpa F _ Bx (a := 270) (b := 28) (n := 16) (by decide) (by decide) rfl (by decide)
  have r29 : f_x_copyAll_271_29 F (mk (bcL A 242 0 [28, 27, 26, 25, 24, 23, 22, 21, 20, 17, 18]) Bx) = some ((), mk (bcL A 242 0 [29, 28, 27, 26, 25, 24, 23, 22, 21, 20, 17, 18]) Bx) := by
    rw [← bc_row (A := A) (s := 242) (t := 0) (c := 29) (n := 16) (a := 271) (b := 29) rfl rfl (by decide) (by decide) (by decide) (fun j => by omega)]
    exact cpa F _ Bx (a := 271) (b := 29) (n := 16) (by decide) (by decide) rfl (by decide)
  have r30 : f_x_copyAll_272_30 F (mk (bcL A 242 0 [29, 28, 27, 26, 25, 24, 23, 22, 21, 20, 17, 18]) Bx) = some ((), mk (bcL A 242 0 [30, 29, 28, 27, 26, 25, 24, 23, 22, 21, 20, 17, 18]) Bx) := by
    rw [← bc_row (A := A) (s := 242) (t := 0) (c := 30) (n := 16) (a := 272) (b := 30) rfl rfl (by decide) (by decide) (by decide) (fun j => by omega)]
    exact cpa F _ Bx (a := 272) (b := 30) (n := 16) (by decide) (by decide) rfl (by decide)
  have o19 : f_Houses_become_19_261 F (mk (bcL A 242 0 [17, 18]) Bx) = some ((), mk (bcL A 242 0 [19, 30, 29, 28, 27, 26, 25, 24, 23, 22, 21, 20, 17, 18]) Bx) := by
    rw [← bc_sc (A := A) (s := 242) (t := 0) (c := 19) (a := 261) (b := 19) (js := [12, 11]) rfl rfl (by decide) (by decide) (by decide) (fun j => by simp only [List.mem_cons, List.not_mem_nil, or_false]; omega)]
    unfold f_Houses_become_19_261
    refine obd r20 ?_
    refine obd r21 ?_
    refine obd r22 ?_
    refine obd r23 ?_
    refine obd r24 ?_
    refine obd r25 ?_
    refine obd r26 ?_
    refine obd r27 ?_
    refine obd r28 ?_
    refine obd r29 ?_
    refine obd r30 ?_
    unfold uAs uAs uAs
    simp (disch := first | omega | (simp (disch := omega) only [uA_n]; done) | fail) only [iI_lit, iI_add, iI_sub, iI_mul, iI_neg, iI_lt, iI_le, iI_eq, zlt_t, zlt_f, zle_t, zle_f, zeq_t, zeq_f, nle_t, nle_f, iI_cl, rA, rS, rB, wA, wS, wB, mkp, mk2, uA_s, uA_n, ud_s, ud_n, bI_0, bI_1, nor_s, ↓reduceIte, or_false, false_or, or_true, true_or, or_self, not_true_eq_false, not_false_eq_true, and_true, true_and, and_false, false_and, bI_T, bI_F, Int.reduceToNat, Nat.reduceAdd, Nat.reduceMul, Int.reduceNeg, Option.bind_some, Int.toNat_natCast]
  have r32 : f_x_copyAll_274_32 F (mk (bcL A 242 0 [19, 30, 29, 28, 27, 26, 25, 24, 23, 22, 21, 20, 17, 18]) Bx) = some ((), mk (bcL A 242 0 [32, 19, 30, 29, 28, 27, 26, 25, 24, 23, 22, 21, 20, 17, 18]) Bx) := by
    rw [← bc_row (A := A) (s := 242) (t := 0) (c := 32) (n := 60) (a := 274) (b := 32) rfl rfl (by decide) (by decide) (by decide) (fun j => by omega)]
    exact cpa F _ Bx (a := 274) (b := 32) (n := 60) (by decide) (by decide) rfl (by decide)
  have r33 : f_x_copyAll_275_33 F (mk (bcL A 242 0 [32, 19, 30, 29, 28, 27, 26, 25, 24, 23, 22, 21, 20, 17, 18]) Bx) = some ((), mk (bcL A 242 0 [33, 32, 19, 30, 29, 28, 27, 26, 25, 24, 23, 22, 21, 20, 17, 18]) Bx) := by
    rw [← bc_row (A := A) (s := 242) (t := 0) (c := 33) (n := 60) (a := 275) (b := 33) rfl rfl (by decide) (by decide) (by decide) (fun j => by omega)]
    exact cpa F _ Bx (a := 275) (b := 33) (n := 60) (by decide) (by decide) rfl (by decide)
  have r34 : f_x_copyAll_276_34 F (mk (bcL A 242 0 [33, 32, 19, 30, 29, 28, 27, 26, 25, 24, 23, 22, 21, 20, 17, 18]) Bx) = some ((), mk (bcL A 242 0 [34, 33, 32, 19, 30, 29, 28, 27, 26, 25, 24, 23, 22, 21, 20, 17, 18]) Bx) := by
    rw [← bc_row (A := A) (s := 242) (t := 0) (c := 34) (n := 60) (a := 276) (b := 34) rfl rfl (by decide) (by decide) (by decide) (fun j => by omega)]
    exact cpa F _ Bx (a := 276) (b := 34) (n := 60) (by decide) (by decide) rfl (by decide)
  have r35 : f_x_copyAll_277_35 F (mk (bcL A 242 0 [34, 33, 32, 19, 30, 29, 28, 27, 26, 25, 24, 23, 22, 21, 20, 17, 18]) Bx) = some ((), mk (bcL A 242 0 [35, 34, 33, 32, 19, 30, 29, 28, 27, 26, 25, 24, 23, 22, 21, 20, 17, 18]) Bx) := by
    rw [← bc_row (A := A) (s := 242) (t := 0) (c := 35) (n := 60) (a := 277) (b := 35) rfl rfl (by decide) (by decide) (by decide) (fun j => by omega)]
    exact cpa F _ Bx (a := 277) (b := 35) (n := 60) (by decide) (by decide) rfl (by decide)
  have r36 : f_x_copyAll_278_36 F (mk (bcL A 242 0 [35, 34, 33, 32, 19, 30, 29, 28, 27, 26, 25, 24, 23, 22, 21, 20, 17, 18]) Bx) = some ((), mk (bcL A 242 0 [36, 35, 34, 33, 32, 19, 30, 29, 28, 27, 26, 25, 24, 23, 22, 21, 20, 17, 18]) Bx) := by
    rw [← bc_row (A := A) (s := 242) (t := 0) (c := 36) (n := 60) (a := 278) (b := 36) rfl rfl (by decide) (by decide) (by decide) (fun j => by omega)]
    exact cpa F _ Bx (a := 278) (b := 36) (n := 60) (by decide) (by decide) rfl (by decide)
  have r37 : f_x_copyAll_279_37 F (mk (bcL A 242 0 [36, 35, 34, 33, 32, 19, 30, 29, 28, 27, 26, 25, 24, 23, 22, 21, 20, 17, 18]) Bx) = some ((), mk (bcL A 242 0 [37, 36, 35, 34, 33, 32, 19, 30, 29, 28, 27, 26, 25, 24, 23, 22, 21, 20, 17, 18]) Bx) := by
    rw [← bc_row (A := A) (s := 242) (t := 0) (c := 37) (n := 60) (a := 279) (b := 37) rfl rfl (by decide) (by decide) (by decide) (fun j => by omega)]
    exact cpa F _ Bx (a := 279) (b := 37) (n := 60) (by decide) (by decide) rfl (by decide)
  have r38 : f_x_copyAll_280_38 F (mk (bcL A 242 0 [37, 36, 35, 34, 33, 32, 19, 30, 29, 28, 27, 26, 25, 24, 23, 22, 21, 20, 17, 18]) Bx) = some ((), mk (bcL A 242 0 [38, 37, 36, 35, 34, 33, 32, 19, 30, 29, 28, 27, 26, 25, 24, 23, 22, 21, 20, 17, 18]) Bx) := by
    rw [← bc_row (A := A) (s := 242) (t := 0) (c := 38) (n := 360) (a := 280) (b := 38) rfl rfl (by decide) (by decide) (by decide) (fun j => by omega)]
    exact cpa F _ Bx (a := 280) (b := 38) (n := 360) (by decide) (by decide) rfl (by decide)
  have r39 : f_x_copyAll_281_39 F (mk (bcL A 242 0 [38, 37, 36, 35, 34, 33, 32, 19, 30, 29, 28, 27, 26, 25, 24, 23, 22, 21, 20, 17, 18]) Bx) = some ((), mk (bcL A 242 0 [39, 38, 37, 36, 35, 34, 33, 32, 19, 30, 29, 28, 27, 26, 25, 24, 23, 22, 21, 20, 17, 18]) Bx) := by
    rw [← bc_row (A := A) (s := 242) (t := 0) (c := 39) (n := 60) (a := 281) (b := 39) rfl rfl (by decide) (by decide) (by decide) (fun j => by omega)]
    exact cpa F _ Bx (a := 281) (b := 39) (n := 60) (by decide) (by decide) rfl (by decide)
  have r40 : f_x_copyAll_282_40 F (mk (bcL A 242 0 [39, 38, 37, 36, 35, 34, 33, 32, 19, 30, 29, 28, 27, 26, 25, 24, 23, 22, 21, 20, 17, 18]) Bx) = some ((), mk (bcL A 242 0 [40, 39, 38, 37, 36, 35, 34, 33, 32, 19, 30, 29, 28, 27, 26, 25, 24, 23, 22, 21, 20, 17, 18]) Bx) := by
    rw [← bc_row (A := A) (s := 242) (t := 0) (c := 40) (n := 60) (a := 282) (b := 40) rfl rfl (by decide) (by decide) (by decide) (fun j => by omega)]
    exact cpa F _ Bx (a := 282) (b := 40) (n := 60) (by decide) (by decide) rfl (by decide)
  have r41 : f_x_copyAll_283_41 F (mk (bcL A 242 0 [40, 39, 38, 37, 36, 35, 34, 33, 32, 19, 30, 29, 28, 27, 26, 25, 24, 23, 22, 21, 20, 17, 18]) Bx) = some ((), mk (bcL A 242 0 [41, 40, 39, 38, 37, 36, 35, 34, 33, 32, 19, 30, 29, 28, 27, 26, 25, 24, 23, 22, 21, 20, 17, 18]) Bx) := by
    rw [← bc_row (A := A) (s := 242) (t := 0) (c := 41) (n := 60) (a := 283) (b := 41) rfl rfl (by decide) (by decide) (by decide) (fun j => by omega)]
    exact cpa F _ Bx (a := 283) (b := 41) (n := 60) (by decide) (by decide) rfl (by decide)
  have r42 : f_x_copyAll_284_42 F (mk (bcL A 242 0 [41, 40, 39, 38, 37, 36, 35, 34, 33, 32, 19, 30, 29, 28, 27, 26, 25, 24, 23, 22, 21, 20, 17, 18]) Bx) = some ((), mk (bcL A 242 0 [42, 41, 40, 39, 38, 37, 36, 35, 34, 33, 32, 19, 30, 29, 28, 27, 26, 25, 24, 23, 22, 21, 20, 17, 18]) Bx) := by
    rw [← bc_row (A := A) (s := 242) (t := 0) (c := 42) (n := 60) (a := 284) (b := 42) rfl rfl (by decide) (by decide) (by decide) (fun j => by omega)]
    exact cpa F _ Bx (a := 284) (b := 42) (n := 60) (by decide) (by decide) rfl (by decide)
  have r43 : f_x_copyAll_285_43 F (mk (bcL A 242 0 [42, 41, 40, 39, 38, 37, 36, 35, 34, 33, 32, 19, 30, 29, 28, 27, 26, 25, 24, 23, 22, 21, 20, 17, 18]) Bx) = some ((), mk (bcL A 242 0 [43, 42, 41, 40, 39, 38, 37, 36, 35, 34, 33, 32, 19, 30, 29, 28, 27, 26, 25, 24, 23, 22, 21, 20, 17, 18]) Bx) := by
    rw [← bc_row (A := A) (s := 242) (t := 0) (c := 43) (n := 60) (a := 285) (b := 43) rfl rfl (by decide) (by decide) (by decide) (fun j => by omega)]
    exact cpa F _ Bx (a := 285) (b := 43) (n := 60) (by decide) (by decide) rfl (by decide)
  have r44 : f_x_copyAll_286_44 F (mk (bcL A 242 0 [43, 42, 41, 40, 39, 38, 37, 36, 35, 34, 33, 32, 19, 30, 29, 28, 27, 26, 25, 24, 23, 22, 21, 20, 17, 18]) Bx) = some ((), mk (bcL A 242 0 [44, 43, 42, 41, 40, 39, 38, 37, 36, 35, 34, 33, 32, 19, 30, 29, 28, 27, 26, 25, 24, 23, 22, 21, 20, 17, 18]) Bx) := by
    rw [← bc_row (A := A) (s := 242) (t := 0) (c := 44) (n := 60) (a := 286) (b := 44) rfl rfl (by decide) (by decide) (by decide) (fun j => by omega)]
    exact cpa F _ Bx (a := 286) (b := 44) (n := 60) (by decide) (by decide) rfl (by decide)
  have o31 : f_Papers_become_31_273 F (mk (bcL A 242 0 [19, 30, 29, 28, 27, 26, 25, 24, 23, 22, 21, 20, 17, 18]) Bx) = some ((), mk (bcL A 242 0 [31, 44, 43, 42, 41, 40, 39, 38, 37, 36, 35, 34, 33, 32, 19, 30, 29, 28, 27, 26, 25, 24, 23, 22, 21, 20, 17, 18]) Bx) := by
    rw [← bc_sc (A := A) (s := 242) (t := 0) (c := 31) (a := 273) (b := 31) (js := [15, 14]) rfl rfl (by decide) (by decide) (by decide) (fun j => by simp only [List.mem_cons, List.not_mem_nil, or_false]; omega)]
    unfold f_Papers_become_31_273
    refine obd r32 ?_
    refine obd r33 ?_
    refine obd r34 ?_
    refine obd r35 ?_
    refine obd r36 ?_
    refine obd r37 ?_
    refine obd r38 ?_
    refine obd r39 ?_
    refine obd r40 ?_
    refine obd r41 ?_
    refine obd r42 ?_
    refine obd r43 ?_
    refine obd r44 ?_
    unfold uAs uAs uAs
    simp (disch := first | omega | (simp (disch := omega) only [uA_n]; done) | fail) only [iI_lit, iI_add, iI_sub, iI_mul, iI_neg, iI_lt, iI_le, iI_eq, zlt_t, zlt_f, zle_t, zle_f, zeq_t, zeq_f, nle_t, nle_f, iI_cl, rA, rS, rB, wA, wS, wB, mkp, mk2, uA_s, uA_n, ud_s, ud_n, bI_0, bI_1, nor_s, ↓reduceIte, or_false, false_or, or_true, true_or, or_self, not_true_eq_false, not_false_eq_true, and_true, true_and, and_false, false_and, bI_T, bI_F, Int.reduceToNat, Nat.reduceAdd, Nat.reduceMul, Int.reduceNeg, Option.bind_some, Int.toNat_natCast]
  have r47 : f_x_copyAll_289_47 F (mk (bcL A 242 0 [31, 44, 43, 42, 41, 40, 39, 38, 37, 36, 35, 34, 33, 32, 19, 30, 29, 28, 27, 26, 25, 24, 23, 22, 21, 20, 17, 18]) Bx) = some ((), mk (bcL A 242 0 [47, 31, 44, 43, 42, 41, 40, 39, 38, 37, 36, 35, 34, 33, 32, 19, 30, 29, 28, 27, 26, 25, 24, 23, 22, 21, 20, 17, 18]) Bx) := by
    rw [← bc_row (A := A) (s := 242) (t := 0) (c := 47) (n := 8) (a := 289) (b := 47) rfl rfl (by decide) (by decide) (by decide) (fun j => by omega)]
    exact cpa F _ Bx (a := 289) (b := 47) (n := 8) (by decide) (by decide) rfl (by decide)
  have r48 : f_x_copyAll_290_48 F (mk (bcL A 242 0 [47, 31, 44, 43, 42, 41, 40, 39, 38, 37, 36, 35, 34, 33, 32, 19, 30, 29, 28, 27, 26, 25, 24, 23, 22, 21, 20, 17, 18]) Bx) = some ((), mk (bcL A 242 0 [48, 47, 31, 44, 43, 42, 41, 40, 39, 38, 37, 36, 35, 34, 33, 32, 19, 30, 29, 28, 27, 26, 25, 24, 23, 22, 21, 20, 17, 18]) Bx) := by
    rw [← bc_row (A := A) (s := 242) (t := 0) (c := 48) (n := 8) (a := 290) (b := 48) rfl rfl (by decide) (by decide) (by decide) (fun j => by omega)]
    exact cpa F _ Bx (a := 290) (b := 48) (n := 8) (by decide) (by decide) rfl (by decide)
  have r49 : f_x_copyAll_291_49 F (mk (bcL A 242 0 [48, 47, 31, 44, 43, 42, 41, 40, 39, 38, 37, 36, 35, 34, 33, 32, 19, 30, 29, 28, 27, 26, 25, 24, 23, 22, 21, 20, 17, 18]) Bx) = some ((), mk (bcL A 242 0 [49, 48, 47, 31, 44, 43, 42, 41, 40, 39, 38, 37, 36, 35, 34, 33, 32, 19, 30, 29, 28, 27, 26, 25, 24, 23, 22, 21, 20, 17, 18]) Bx) := by
    rw [← bc_row (A := A) (s := 242) (t := 0) (c := 49) (n := 8) (a := 291) (b := 49) rfl rfl (by decide) (by decide) (by decide) (fun j => by omega)]
    exact cpa F _ Bx (a := 291) (b := 49) (n := 8) (by decide) (by decide) rfl (by decide)
  have r50 : f_x_copyAll_292_50 F (mk (bcL A 242 0 [49, 48, 47, 31, 44, 43, 42, 41, 40, 39, 38, 37, 36, 35, 34, 33, 32, 19, 30, 29, 28, 27, 26, 25, 24, 23, 22, 21, 20, 17, 18]) Bx) = some ((), mk (bcL A 242 0 [50, 49, 48, 47, 31, 44, 43, 42, 41, 40, 39, 38, 37, 36, 35, 34, 33, 32, 19, 30, 29, 28, 27, 26, 25, 24, 23, 22, 21, 20, 17, 18]) Bx) := by
    rw [← bc_row (A := A) (s := 242) (t := 0) (c := 50) (n := 8) (a := 292) (b := 50) rfl rfl (by decide) (by decide) (by decide) (fun j => by omega)]
    exact cpa F _ Bx (a := 292) (b := 50) (n := 8) (by decide) (by decide) rfl (by decide)
  have r51 : f_x_copyAll_293_51 F (mk (bcL A 242 0 [50, 49, 48, 47, 31, 44, 43, 42, 41, 40, 39, 38, 37, 36, 35, 34, 33, 32, 19, 30, 29, 28, 27, 26, 25, 24, 23, 22, 21, 20, 17, 18]) Bx) = some ((), mk (bcL A 242 0 [51, 50, 49, 48, 47, 31, 44, 43, 42, 41, 40, 39, 38, 37, 36, 35, 34, 33, 32, 19, 30, 29, 28, 27, 26, 25, 24, 23, 22, 21, 20, 17, 18]) Bx) := by
    rw [← bc_row (A := A) (s := 242) (t := 0) (c := 51) (n := 8) (a := 293) (b := 51) rfl rfl (by decide) (by decide) (by decide) (fun j => by omega)]
    exact cpa F _ Bx (a := 293) (b := 51) (n := 8) (by decide) (by decide) rfl (by decide)
  have o46 : f_Trades_become_46_288 F (mk (bcL A 242 0 [31, 44, 43, 42, 41, 40, 39, 38, 37, 36, 35, 34, 33, 32, 19, 30, 29, 28, 27, 26, 25, 24, 23, 22, 21, 20, 17, 18]) Bx) = some ((), mk (bcL A 242 0 [46, 51, 50, 49, 48, 47, 31, 44, 43, 42, 41, 40, 39, 38, 37, 36, 35, 34, 33, 32, 19, 30, 29, 28, 27, 26, 25, 24, 23, 22, 21, 20, 17, 18]) Bx) := by
    rw [← bc_sc (A := A) (s := 242) (t := 0) (c := 46) (a := 288) (b := 46) (js := [5]) rfl rfl (by decide) (by decide) (by decide) (fun j => by simp only [List.mem_cons, List.not_mem_nil, or_false]; omega)]
    unfold f_Trades_become_46_288
    refine obd r47 ?_
    refine obd r48 ?_
    refine obd r49 ?_
    refine obd r50 ?_
    refine obd r51 ?_
    unfold uAs uAs
    simp (disch := first | omega | (simp (disch := omega) only [uA_n]; done) | fail) only [iI_lit, iI_add, iI_sub, iI_mul, iI_neg, iI_lt, iI_le, iI_eq, zlt_t, zlt_f, zle_t, zle_f, zeq_t, zeq_f, nle_t, nle_f, iI_cl, rA, rS, rB, wA, wS, wB, mkp, mk2, uA_s, uA_n, ud_s, ud_n, bI_0, bI_1, nor_s, ↓reduceIte, or_false, false_or, or_true, true_or, or_self, not_true_eq_false, not_false_eq_true, and_true, true_and, and_false, false_and, bI_T, bI_F, Int.reduceToNat, Nat.reduceAdd, Nat.reduceMul, Int.reduceNeg, Option.bind_some, Int.toNat_natCast]
  have r53 : f_x_copyAll_295_53 F (mk (bcL A 242 0 [46, 51, 50, 49, 48, 47, 31, 44, 43, 42, 41, 40, 39, 38, 37, 36, 35, 34, 33, 32, 19, 30, 29, 28, 27, 26, 25, 24, 23, 22, 21, 20, 17, 18]) Bx) = some ((), mk (bcL A 242 0 [53, 46, 51, 50, 49, 48, 47, 31, 44, 43, 42, 41, 40, 39, 38, 37, 36, 35, 34, 33, 32, 19, 30, 29, 28, 27, 26, 25, 24, 23, 22, 21, 20, 17, 18]) Bx) := by
    rw [← bc_row (A := A) (s := 242) (t := 0) (c := 53) (n := 104) (a := 295) (b := 53) rfl rfl (by decide) (by decide) (by decide) (fun j => by omega)]
    exact cpa F _ Bx (a := 295) (b := 53) (n := 104) (by decide) (by decide) rfl (by decide)
  have o52 : f_Seasons_become_52_294 F (mk (bcL A 242 0 [46, 51, 50, 49, 48, 47, 31, 44, 43, 42, 41, 40, 39, 38, 37, 36, 35, 34, 33, 32, 19, 30, 29, 28, 27, 26, 25, 24, 23, 22, 21, 20, 17, 18]) Bx) = some ((), mk (bcL A 242 0 [53, 46, 51, 50, 49, 48, 47, 31, 44, 43, 42, 41, 40, 39, 38, 37, 36, 35, 34, 33, 32, 19, 30, 29, 28, 27, 26, 25, 24, 23, 22, 21, 20, 17, 18]) Bx) := by
    unfold f_Seasons_become_52_294
    refine obd r53 ?_
    rfl
  have r56 : f_x_copyAll_298_56 F (mk (bcL A 242 0 [53, 46, 51, 50, 49, 48, 47, 31, 44, 43, 42, 41, 40, 39, 38, 37, 36, 35, 34, 33, 32, 19, 30, 29, 28, 27, 26, 25, 24, 23, 22, 21, 20, 17, 18]) Bx) = some ((), mk (bcL A 242 0 [56, 53, 46, 51, 50, 49, 48, 47, 31, 44, 43, 42, 41, 40, 39, 38, 37, 36, 35, 34, 33, 32, 19, 30, 29, 28, 27, 26, 25, 24, 23, 22, 21, 20, 17, 18]) Bx) := by
    rw [← bc_row (A := A) (s := 242) (t := 0) (c := 56) (n := 300) (a := 298) (b := 56) rfl rfl (by decide) (by decide) (by decide) (fun j => by omega)]
    exact cpa F _ Bx (a := 298) (b := 56) (n := 300) (by decide) (by decide) rfl (by decide)
  have r57 : f_x_copyAll_299_57 F (mk (bcL A 242 0 [56, 53, 46, 51, 50, 49, 48, 47, 31, 44, 43, 42, 41, 40, 39, 38, 37, 36, 35, 34, 33, 32, 19, 30, 29, 28, 27, 26, 25, 24, 23, 22, 21, 20, 17, 18]) Bx) = some ((), mk (bcL A 242 0 [57, 56, 53, 46, 51, 50, 49, 48, 47, 31, 44, 43, 42, 41, 40, 39, 38, 37, 36, 35, 34, 33, 32, 19, 30, 29, 28, 27, 26, 25, 24, 23, 22, 21, 20, 17, 18]) Bx) := by
    rw [← bc_row (A := A) (s := 242) (t := 0) (c := 57) (n := 300) (a := 299) (b := 57) rfl rfl (by decide) (by decide) (by decide) (fun j => by omega)]
    exact cpa F _ Bx (a := 299) (b := 57) (n := 300) (by decide) (by decide) rfl (by decide)
  have r58 : f_x_copyAll_300_58 F (mk (bcL A 242 0 [57, 56, 53, 46, 51, 50, 49, 48, 47, 31, 44, 43, 42, 41, 40, 39, 38, 37, 36, 35, 34, 33, 32, 19, 30, 29, 28, 27, 26, 25, 24, 23, 22, 21, 20, 17, 18]) Bx) = some ((), mk (bcL A 242 0 [58, 57, 56, 53, 46, 51, 50, 49, 48, 47, 31, 44, 43, 42, 41, 40, 39, 38, 37, 36, 35, 34, 33, 32, 19, 30, 29, 28, 27, 26, 25, 24, 23, 22, 21, 20, 17, 18]) Bx) := by
    rw [← bc_row (A := A) (s := 242) (t := 0) (c := 58) (n := 400) (a := 300) (b := 58) rfl rfl (by decide) (by decide) (by decide) (fun j => by omega)]
    exact cpa F _ Bx (a := 300) (b := 58) (n := 400) (by decide) (by decide) rfl (by decide)
  have r59 : f_x_copyAll_301_59 F (mk (bcL A 242 0 [58, 57, 56, 53, 46, 51, 50, 49, 48, 47, 31, 44, 43, 42, 41, 40, 39, 38, 37, 36, 35, 34, 33, 32, 19, 30, 29, 28, 27, 26, 25, 24, 23, 22, 21, 20, 17, 18]) Bx) = some ((), mk (bcL A 242 0 [59, 58, 57, 56, 53, 46, 51, 50, 49, 48, 47, 31, 44, 43, 42, 41, 40, 39, 38, 37, 36, 35, 34, 33, 32, 19, 30, 29, 28, 27, 26, 25, 24, 23, 22, 21, 20, 17, 18]) Bx) := by
    rw [← bc_row (A := A) (s := 242) (t := 0) (c := 59) (n := 400) (a := 301) (b := 59) rfl rfl (by decide) (by decide) (by decide) (fun j => by omega)]
    exact cpa F _ Bx (a := 301) (b := 59) (n := 400) (by decide) (by decide) rfl (by decide)
  have r60 : f_x_copyAll_302_60 F (mk (bcL A 242 0 [59, 58, 57, 56, 53, 46, 51, 50, 49, 48, 47, 31, 44, 43, 42, 41, 40, 39, 38, 37, 36, 35, 34, 33, 32, 19, 30, 29, 28, 27, 26, 25, 24, 23, 22, 21, 20, 17, 18]) Bx) = some ((), mk (bcL A 242 0 [60, 59, 58, 57, 56, 53, 46, 51, 50, 49, 48, 47, 31, 44, 43, 42, 41, 40, 39, 38, 37, 36, 35, 34, 33, 32, 19, 30, 29, 28, 27, 26, 25, 24, 23, 22, 21, 20, 17, 18]) Bx) := by
    rw [← bc_row (A := A) (s := 242) (t := 0) (c := 60) (n := 400) (a := 302) (b := 60) rfl rfl (by decide) (by decide) (by decide) (fun j => by omega)]
    exact cpa F _ Bx (a := 302) (b := 60) (n := 400) (by decide) (by decide) rfl (by decide)
  have r61 : f_x_copyAll_303_61 F (mk (bcL A 242 0 [60, 59, 58, 57, 56, 53, 46, 51, 50, 49, 48, 47, 31, 44, 43, 42, 41, 40, 39, 38, 37, 36, 35, 34, 33, 32, 19, 30, 29, 28, 27, 26, 25, 24, 23, 22, 21, 20, 17, 18]) Bx) = some ((), mk (bcL A 242 0 [61, 60, 59, 58, 57, 56, 53, 46, 51, 50, 49, 48, 47, 31, 44, 43, 42, 41, 40, 39, 38, 37, 36, 35, 34, 33, 32, 19, 30, 29, 28, 27, 26, 25, 24, 23, 22, 21, 20, 17, 18]) Bx) := by
    rw [← bc_row (A := A) (s := 242) (t := 0) (c := 61) (n := 16) (a := 303) (b := 61) rfl rfl (by decide) (by decide) (by decide) (fun j => by omega)]
    exact cpa F _ Bx (a := 303) (b := 61) (n := 16) (by decide) (by decide) rfl (by decide)
  have o55 : f_Notes_become_55_297 F (mk (bcL A 242 0 [53, 46, 51, 50, 49, 48, 47, 31, 44, 43, 42, 41, 40, 39, 38, 37, 36, 35, 34, 33, 32, 19, 30, 29, 28, 27, 26, 25, 24, 23, 22, 21, 20, 17, 18]) Bx) = some ((), mk (bcL A 242 0 [55, 61, 60, 59, 58, 57, 56, 53, 46, 51, 50, 49, 48, 47, 31, 44, 43, 42, 41, 40, 39, 38, 37, 36, 35, 34, 33, 32, 19, 30, 29, 28, 27, 26, 25, 24, 23, 22, 21, 20, 17, 18]) Bx) := by
    rw [← bc_sc (A := A) (s := 242) (t := 0) (c := 55) (a := 297) (b := 55) (js := [12, 11, 10, 9, 8, 7]) rfl rfl (by decide) (by decide) (by decide) (fun j => by simp only [List.mem_cons, List.not_mem_nil, or_false]; omega)]
    unfold f_Notes_become_55_297
    refine obd r56 ?_
    refine obd r57 ?_
    refine obd r58 ?_
    refine obd r59 ?_
    refine obd r60 ?_
    refine obd r61 ?_
    simp only [f_Notes_become_55_297_90]
    unfold uAs uAs uAs uAs uAs uAs uAs
    simp (disch := first | omega | (simp (disch := omega) only [uA_n]; done) | fail) only [iI_lit, iI_add, iI_sub, iI_mul, iI_neg, iI_lt, iI_le, iI_eq, zlt_t, zlt_f, zle_t, zle_f, zeq_t, zeq_f, nle_t, nle_f, iI_cl, rA, rS, rB, wA, wS, wB, mkp, mk2, uA_s, uA_n, ud_s, ud_n, bI_0, bI_1, nor_s, ↓reduceIte, or_false, false_or, or_true, true_or, or_self, not_true_eq_false, not_false_eq_true, and_true, true_and, and_false, false_and, bI_T, bI_F, Int.reduceToNat, Nat.reduceAdd, Nat.reduceMul, Int.reduceNeg, Option.bind_some, Int.toNat_natCast]
  have fin : bcL A 242 0 [16, 55, 61, 60, 59, 58, 57, 56, 53, 46, 51, 50, 49, 48, 47, 31, 44, 43, 42, 41, 40, 39, 38, 37, 36, 35, 34, 33, 32, 19, 30, 29, 28, 27, 26, 25, 24, 23, 22, 21, 20, 17, 18] = bec A 242 0 := bcL_all A 242 0 (by decide)
  rw [← fin, ← bc_sc (A := A) (s := 242) (t := 0) (c := 16) (a := 258) (b := 16) (js := [14, 13, 12, 11, 10, 9]) rfl rfl (by decide) (by decide) (by decide) (fun j => by simp only [List.mem_cons, List.not_mem_nil, or_false]; omega)]
  have e0 : mk A Bx = mk (bcL A 242 0 []) Bx := by rw [bcL_nil]
  rw [e0]
  unfold f_World_become_16_258
  refine obd o17 ?_
  refine obd o19 ?_
  refine obd o31 ?_
  refine obd o46 ?_
  refine obd o52 ?_
  refine obd o55 ?_
  simp only [f_World_become_16_258_90]
  unfold uAs uAs uAs uAs uAs uAs uAs
  simp (disch := first | omega | (simp (disch := omega) only [uA_n]; done) | fail) only [iI_lit, iI_add, iI_sub, iI_mul, iI_neg, iI_lt, iI_le, iI_eq, zlt_t, zlt_f, zle_t, zle_f, zeq_t, zeq_f, nle_t, nle_f, iI_cl, rA, rS, rB, wA, wS, wB, mkp, mk2, uA_s, uA_n, ud_s, ud_n, bI_0, bI_1, nor_s, ↓reduceIte, or_false, false_or, or_true, true_or, or_self, not_true_eq_false, not_false_eq_true, and_true, true_and, and_false, false_and, bI_T, bI_F, Int.reduceToNat, Nat.reduceAdd, Nat.reduceMul, Int.reduceNeg, Option.bind_some, Int.toNat_natCast]
end
