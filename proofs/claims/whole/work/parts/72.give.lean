/-! GOLD, AND THE LISTS' LENGTHS -/
theorem flt_len (p : Nat → Prop) [DecidablePred p] (n : Nat) : (((List.range n).filter (fun c => decide (p c))).length : Int) = sm n (fun e => bI (p e)) := by
  induction n with
  | zero => rfl
  | succ n ih =>
    rw [List.range_succ, List.filter_append, List.length_append]
    simp only [sm]
    rw [← ih]
    by_cases h : p n
    · rw [bI_t h, List.filter_cons_of_pos (by simpa using h)]; rfl
    · rw [bI_f h, List.filter_cons_of_neg (by simpa using h)]; rfl
section GIVE
variable {K D : Int} {A0 B0 A B A' B' : hI}
theorem hL_len (N : WN A A B) (h : Int) : ((hL A h).length : Int) = sm (A 55 7).toNat (fun e => bI (A 58 e = h)) := by
  rw [← flt_len (fun e => A 58 e = h)]
  have hp : (hL A h).Perm ((List.range (A 55 7).toNat).filter (fun c => decide (A 58 c = h))) := by
    refine (List.perm_ext_iff_of_nodup (pw_nd (hL_pw N h)) (List.nodup_range.filter _)).mpr fun c => ?_
    have := N.nc1
    rw [hL_mem N, List.mem_filter, List.mem_range, decide_eq_true_eq]
    constructor <;> intro z <;> exact ⟨by omega, z.2⟩
  rw [hp.length_eq]
theorem hL_held (N : WN A A B) {h : Nat} (h1 : 1 ≤ h) (h2 : h < 16) : A 61 h = (hL A h).length := by rw [hL_len N, N.nhe h h1 h2]
/-- what is still to come of a house's list, from a place of the order on -/
def hLs (A : hI) (h : Int) (i : Nat) : List Nat := ((oL A).drop i).filter (fun c => decide (A 58 c = h))
theorem hLs_0 (A : hI) (h : Int) : hLs A h 0 = hL A h := by unfold hLs hL; rw [List.drop_zero]
theorem hLs_end (A : hI) (h : Int) {i : Nat} (hi : (A 55 7).toNat ≤ i) : hLs A h i = [] := by
  unfold hLs
  rw [List.drop_of_length_le (by rw [oL_len]; exact hi)]
  rfl
theorem oL_drop {A : hI} {i : Nat} (hi : i < (A 55 7).toNat) : (oL A).drop i = (A 60 i).toNat :: (oL A).drop (i + 1) := by
  have hl : i < (oL A).length := by rw [oL_len]; exact hi
  rw [List.drop_eq_getElem_cons hl]
  have := oL_get hi
  rw [List.getElem?_eq_getElem hl] at this
  rw [Option.some.inj this]
theorem hLs_st {A : hI} {h : Int} {i : Nat} (hi : i < (A 55 7).toNat) : hLs A h i = if A 58 (A 60 i).toNat = h then (A 60 i).toNat :: hLs A h (i + 1) else hLs A h (i + 1) := by
  unfold hLs
  rw [oL_drop hi]
  by_cases e : A 58 (A 60 i).toNat = h
  · rw [if_pos e, List.filter_cons_of_pos (by simpa using e)]
  · rw [if_neg e, List.filter_cons_of_neg (by simpa using e)]
theorem hLs_sub (A : hI) (h : Int) (i : Nat) : List.Sublist (hLs A h i) (hL A h) := by
  unfold hLs hL
  exact (List.drop_sublist i (oL A)).filter _
/-- gold from one house to another -/
def gM (f : Nat → Int) (a b : Nat) (v : Int) : Nat → Int := ud (ud f a (f a - v)) b (ud f a (f a - v) b + v)
theorem gM_sum {f : Nat → Int} {a b n : Nat} {v : Int} (ha : a < n) (hb : b < n) : sm n (gM f a b v) = sm n f := by
  unfold gM
  rw [sm_ud hb, sm_ud ha]
  omega
theorem gM_at {f : Nat → Int} {a b : Nat} {v : Int} (hab : a ≠ b) (i : Nat) : gM f a b v i = if i = a then f a - v else if i = b then f b + v else f i := by
  unfold gM
  by_cases h1 : i = b
  · subst h1; rw [ud_s, ud_n (by omega), if_neg (by omega), if_pos rfl]
  · rw [ud_n h1]
    by_cases h2 : i = a
    · subst h2; rw [ud_s, if_pos rfl]
    · rw [ud_n h2, if_neg h2, if_neg h1]
theorem RR.gold (R : RR K D A0 B0 A B) {a b : Nat} {v : Int} (ha : (a : Int) < A 19 11) (hb : (b : Int) < A 19 11) (hab : a ≠ b) (hv : 0 ≤ v) (hv2 : v ≤ A 22 a) (e : A' 22 = gM (A 22) a b v) (f : B' 412 = gM (B 412) a b v) (hA : ∀ k : Nat, k ≠ 22 → A' k = A k) (hB : ∀ k : Nat, k ≠ 412 → B' k = B k) : RR K D A0 B0 A' B' := by
  have hn := R.gH.hn2
  have h4 : ∀ j : Nat, j ≠ 99 → B' 400 j = B 400 j := fun j _ => by rw [hB 400 (by omega)]
  refine ⟨⟨(by apply R.gL.c <;> first | rfl | exact hA _ (by omega) | exact congrFun (hA _ (by omega)) _ | exact hB _ (by omega) | exact h4 _ (by omega) | (intro k hk1 hk2; exact hB k (by omega)) | (simp (disch := omega) only [uA_s, uA_n, ud_n]; done)), ?_, (by apply R.gN.c <;> first | rfl | exact hA _ (by omega) | exact congrFun (hA _ (by omega)) _ | exact hB _ (by omega) | exact h4 _ (by omega) | (intro k hk1 hk2; exact hB k (by omega)) | (simp (disch := omega) only [uA_s, uA_n, ud_n]; done)), (by apply R.gP.c <;> first | rfl | exact hA _ (by omega) | exact congrFun (hA _ (by omega)) _ | exact hB _ (by omega) | exact h4 _ (by omega) | (intro k hk1 hk2; exact hB k (by omega)) | (simp (disch := omega) only [uA_s, uA_n, ud_n]; done)), (by apply R.gT.c <;> first | rfl | exact hA _ (by omega) | exact congrFun (hA _ (by omega)) _ | exact hB _ (by omega) | exact h4 _ (by omega) | (intro k hk1 hk2; exact hB k (by omega)) | (simp (disch := omega) only [uA_s, uA_n, ud_n]; done)), (by apply R.gS.c <;> first | rfl | exact hA _ (by omega) | exact congrFun (hA _ (by omega)) _ | exact hB _ (by omega) | exact h4 _ (by omega) | (intro k hk1 hk2; exact hB k (by omega)) | (simp (disch := omega) only [uA_s, uA_n, ud_n]; done)), (by apply R.gD.c <;> first | rfl | exact hA _ (by omega) | exact congrFun (hA _ (by omega)) _ | exact hB _ (by omega) | exact h4 _ (by omega) | (intro k hk1 hk2; exact hB k (by omega)) | (simp (disch := omega) only [uA_s, uA_n, ud_n]; done)), (by apply R.gW.c <;> first | rfl | exact hA _ (by omega) | exact congrFun (hA _ (by omega)) _ | exact hB _ (by omega) | exact h4 _ (by omega) | (intro k hk1 hk2; exact hB k (by omega)) | (simp (disch := omega) only [uA_s, uA_n, ud_n]; done)), (by apply R.gX.c <;> first | rfl | exact hA _ (by omega) | exact congrFun (hA _ (by omega)) _ | exact hB _ (by omega) | exact h4 _ (by omega) | (intro k hk1 hk2; exact hB k (by omega)) | (simp (disch := omega) only [uA_s, uA_n, ud_n]; done)), ?_, (by apply R.gI.c <;> first | rfl | exact hA _ (by omega) | exact congrFun (hA _ (by omega)) _ | exact hB _ (by omega) | exact h4 _ (by omega) | (intro k hk1 hk2; exact hB k (by omega)) | (simp (disch := omega) only [uA_s, uA_n, ud_n]; done))⟩, R.sx.tr ?_, R.sb.tr (SB.st (fun k hk => hB k (by omega)))⟩
  · obtain ⟨x1, x2, x3, x4, x5, x6, x7, x8, x9, x10, x11, x12, x13, x14, x15, x16, x17, x18, x19, x20, x21⟩ := R.gH
    unfold WH
    simp only [e, f, hA 19 (by omega), hA 20 (by omega), hA 21 (by omega), hA 23 (by omega), hA 24 (by omega), hA 25 (by omega), hA 26 (by omega), hA 27 (by omega), hA 28 (by omega), hA 29 (by omega), hA 30 (by omega), hA 17 (by omega), hA 16 (by omega), hB 400 (by omega), hB 410 (by omega), hB 411 (by omega), hB 413 (by omega), hB 414 (by omega), hB 415 (by omega), hB 416 (by omega), hB 417 (by omega), hB 418 (by omega), hB 419 (by omega), hB 420 (by omega), hB 421 (by omega)]
    refine ⟨x1, x2, x3, x4, x5, fun h hh => ?_, x7, x8, x9, x10, x11, x12, x13, x14, x15, x16, x17, x18, x19, x20, x21⟩
    rw [gM_at hab, gM_at hab, x6 a (by omega), x6 b (by omega), x6 h hh]
  · refine ⟨fun h hh => ?_, ?_⟩
    · rw [hA 19 (by omega)] at hh
      rw [e, gM_at hab]
      have g1 := R.gG.gn h hh
      have g2 := R.gG.gn b hb
      split
      · omega
      · split <;> omega
    · rw [e, hA 19 (by omega), gM_sum (by omega) (by omega)]
      exact R.gG.gs
  · exact SX.st (fun k hk => hA k (by omega)) (by rw [hA 16 (by omega)]) (by rw [hA 16 (by omega)]) (by rw [hA 55 (by omega)]) (by rw [hA 55 (by omega)]) (fun c _ => by rw [hA 59 (by omega)])
/-- how much gold there is -/
theorem RR.gle (R : RR K D A0 B0 A B) {h : Nat} (hh : (h : Int) < A 19 11) : 0 ≤ A 22 h ∧ A 22 h ≤ K := by
  have g := R.gG.gn h hh
  have g2 := sm_one (n := (A 19 11).toNat) (j := h) (f := A 22) (by omega) (fun i hi => R.gG.gn i (by omega))
  have g3 := R.gG.gs
  omega
theorem RR.stop (R : RR K D A0 B0 A B) : RR K D A0 B0 (uA A 16 13 (A 16 9)) (uA B 400 9 (B 400 0)) := by
  have hA : ∀ k : Nat, k ≠ 16 → uA A 16 13 (A 16 9) k = A k := fun k hk => uA_n hk
  have hB : ∀ k : Nat, k ≠ 400 → uA B 400 9 (B 400 0) k = B k := fun k hk => uA_n hk
  have h4 : ∀ j : Nat, j ≠ 9 → uA B 400 9 (B 400 0) 400 j = B 400 j := fun j hj => by rw [uA_s, ud_n hj]
  refine ⟨⟨(by apply R.gL.c <;> first | rfl | exact hA _ (by omega) | exact congrFun (hA _ (by omega)) _ | exact hB _ (by omega) | exact h4 _ (by omega) | (intro k hk1 hk2; exact hB k (by omega)) | (simp (disch := omega) only [uA_s, uA_n, ud_n]; done)), (by apply R.gH.c <;> first | rfl | exact hA _ (by omega) | exact congrFun (hA _ (by omega)) _ | exact hB _ (by omega) | exact h4 _ (by omega) | (intro k hk1 hk2; exact hB k (by omega)) | (simp (disch := omega) only [uA_s, uA_n, ud_n]; done)), (by apply R.gN.c <;> first | rfl | exact hA _ (by omega) | exact congrFun (hA _ (by omega)) _ | exact hB _ (by omega) | exact h4 _ (by omega) | (intro k hk1 hk2; exact hB k (by omega)) | (simp (disch := omega) only [uA_s, uA_n, ud_n]; done)), (by apply R.gP.c <;> first | rfl | exact hA _ (by omega) | exact congrFun (hA _ (by omega)) _ | exact hB _ (by omega) | exact h4 _ (by omega) | (intro k hk1 hk2; exact hB k (by omega)) | (simp (disch := omega) only [uA_s, uA_n, ud_n]; done)), (by apply R.gT.c <;> first | rfl | exact hA _ (by omega) | exact congrFun (hA _ (by omega)) _ | exact hB _ (by omega) | exact h4 _ (by omega) | (intro k hk1 hk2; exact hB k (by omega)) | (simp (disch := omega) only [uA_s, uA_n, ud_n]; done)), (by apply R.gS.c <;> first | rfl | exact hA _ (by omega) | exact congrFun (hA _ (by omega)) _ | exact hB _ (by omega) | exact h4 _ (by omega) | (intro k hk1 hk2; exact hB k (by omega)) | (simp (disch := omega) only [uA_s, uA_n, ud_n]; done)), ?_, (by apply R.gW.c <;> first | rfl | exact hA _ (by omega) | exact congrFun (hA _ (by omega)) _ | exact hB _ (by omega) | exact h4 _ (by omega) | (intro k hk1 hk2; exact hB k (by omega)) | (simp (disch := omega) only [uA_s, uA_n, ud_n]; done)), (by apply R.gX.c <;> first | rfl | exact hA _ (by omega) | exact congrFun (hA _ (by omega)) _ | exact hB _ (by omega) | exact h4 _ (by omega) | (intro k hk1 hk2; exact hB k (by omega)) | (simp (disch := omega) only [uA_s, uA_n, ud_n]; done)), (by apply R.gG.c <;> first | rfl | exact hA _ (by omega) | exact congrFun (hA _ (by omega)) _ | exact hB _ (by omega) | exact h4 _ (by omega) | (intro k hk1 hk2; exact hB k (by omega)) | (simp (disch := omega) only [uA_s, uA_n, ud_n]; done)), (by apply R.gI.c <;> first | rfl | exact hA _ (by omega) | exact congrFun (hA _ (by omega)) _ | exact hB _ (by omega) | exact h4 _ (by omega) | (intro k hk1 hk2; exact hB k (by omega)) | (simp (disch := omega) only [uA_s, uA_n, ud_n]; done))⟩, R.sx.tr ?_, R.sb.tr (SB.st (fun k hk => hB k (by omega)))⟩
  · obtain ⟨x1, x2, x3, x4, x5, x6, x7, x8, x9, x10, x11, x12, x13, x14, x15⟩ := R.gD
    unfold WD
    simp (disch := omega) only [uA_s, ud_n, ud_s]
    exact ⟨x1, x2, x3, x4, x5, x6, x7, x8, x9, x10, x11, x12, by omega, by omega, x3⟩
  · exact SX.st (fun k hk => hA k (by omega)) (by rw [uA_s, ud_n (by omega)]) (by rw [uA_s, ud_n (by omega)]) (by rw [hA 55 (by omega)]) (by rw [hA 55 (by omega)]) (fun c _ => by rw [hA 59 (by omega)])
end GIVE
