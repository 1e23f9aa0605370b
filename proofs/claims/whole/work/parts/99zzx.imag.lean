/-! CALLS: image, back -/
section IMAG
variable {K D : Int} {A0 B0 A B : hI} {i : Nat} (F : Nat)
/-- a row copied in the reference's memory -/
def imM (M : Nat → Nat → Int32) (d s n : Nat) : Nat → Nat → Int32 := fun k j => if k = d ∧ j < n then M s j else M k j
theorem imM_0 (M : Nat → Nat → Int32) (d s : Nat) : imM M d s 0 = M := by
  funext k j
  exact if_neg (fun h => Nat.not_lt_zero j h.2)
theorem imM_u (M : Nat → Nat → Int32) {d s : Nat} (h : s ≠ d) (n : Nat) : m_up (imM M d s n) d n (imM M d s n s n) = imM M d s (n + 1) := by
  funext k j
  show (if k = d then upd (imM M d s n d) n (imM M d s n s n) else imM M d s n k) j = _
  by_cases c : k = d
  · subst c
    rw [if_pos rfl]
    show (if j = n then imM M k s n s n else imM M k s n k j) = imM M k s (n + 1) k j
    unfold imM
    by_cases e : j = n
    · subst e
      rw [if_pos rfl, if_neg (fun z => h z.1), if_pos ⟨rfl, by omega⟩]
    · rw [if_neg e]
      by_cases g : j < n
      · rw [if_pos ⟨rfl, g⟩, if_pos ⟨rfl, by omega⟩]
      · rw [if_neg (fun z => g z.2), if_neg (fun z => by have := z.2; omega)]
  · rw [if_neg c]
    unfold imM
    rw [if_neg (fun z => c z.1), if_neg (fun z => c z.1)]
theorem em_img (m : mM) : ∀ (r n q : Nat), r + n = 9732 → r < q → f_m_image_2 F q (iI (n : Int)) (imM m.1 313 305 n, m.2) = some ((m_up (imM m.1 313 305 9732) 304 24 1) 305 0, (m_up (imM m.1 313 305 9732) 304 24 1, m.2)) := by
  intro r
  induction r with
  | zero =>
    intro n q e hq
    obtain ⟨q, rfl⟩ : ∃ k, q = k + 1 := ⟨q - 1, by omega⟩
    obtain rfl : n = 9732 := by omega
    rw [f_m_image_2]
    exact (if_pos (by simp (disch := first | omega | (simp (disch := omega) only [uA_n]; done) | fail) only [iI_lit, iI_add, iI_sub, iI_mul, iI_neg, iI_lt, iI_le, iI_eq, zlt_t, zlt_f, zle_t, zle_f, zeq_t, zeq_f, nle_t, nle_f, iI_cl, rA, rS, rB, wA, wS, wB, mkp, mk2, uA_s, uA_n, ud_s, ud_n, bI_0, bI_1, nor_s, ↓reduceIte, or_false, false_or, or_true, true_or, or_self, not_true_eq_false, not_false_eq_true, and_true, true_and, and_false, false_and, bI_T, bI_F, Int.reduceToNat, Nat.reduceAdd, Nat.reduceMul, Int.reduceNeg, Option.bind_some, Int.toNat_natCast])).trans rfl
  | succ r ih =>
    intro n q e hq
    obtain ⟨q, rfl⟩ : ∃ k, q = k + 1 := ⟨q - 1, by omega⟩
    have I := ih (n + 1) q (by omega) (by omega)
    rw [← imM_u m.1 (by omega)] at I
    rw [f_m_image_2]
    refine (if_neg (by simp (disch := first | omega | (simp (disch := omega) only [uA_n]; done) | fail) only [iI_lit, iI_add, iI_sub, iI_mul, iI_neg, iI_lt, iI_le, iI_eq, zlt_t, zlt_f, zle_t, zle_f, zeq_t, zeq_f, nle_t, nle_f, iI_cl, rA, rS, rB, wA, wS, wB, mkp, mk2, uA_s, uA_n, ud_s, ud_n, bI_0, bI_1, nor_s, ↓reduceIte, or_false, false_or, or_true, true_or, or_self, not_true_eq_false, not_false_eq_true, and_true, true_and, and_false, false_and, bI_T, bI_F, Int.reduceToNat, Nat.reduceAdd, Nat.reduceMul, Int.reduceNeg, Option.bind_some, Int.toNat_natCast])).trans ?_
    refine (if_neg (by simp (disch := first | omega | (simp (disch := omega) only [uA_n]; done) | fail) only [iI_lit, iI_add, iI_sub, iI_mul, iI_neg, iI_lt, iI_le, iI_eq, zlt_t, zlt_f, zle_t, zle_f, zeq_t, zeq_f, nle_t, nle_f, iI_cl, rA, rS, rB, wA, wS, wB, mkp, mk2, uA_s, uA_n, ud_s, ud_n, bI_0, bI_1, nor_s, ↓reduceIte, or_false, false_or, or_true, true_or, or_self, not_true_eq_false, not_false_eq_true, and_true, true_and, and_false, false_and, bI_T, bI_F, Int.reduceToNat, Nat.reduceAdd, Nat.reduceMul, Int.reduceNeg, Option.bind_some, Int.toNat_natCast])).trans ?_
    refine Eq.trans ?_ I
    rw [← iI_s, iI_cl (by omega) (by omega), Int.toNat_natCast]
    rfl
theorem em_bck (m : mM) : ∀ (r n q : Nat), r + n = 9732 → r < q → f_m_back_16 F q (iI (n : Int)) (imM m.1 305 313 n, m.2) = some ((imM m.1 305 313 9732) 305 0, (imM m.1 305 313 9732, m.2)) := by
  intro r
  induction r with
  | zero =>
    intro n q e hq
    obtain ⟨q, rfl⟩ : ∃ k, q = k + 1 := ⟨q - 1, by omega⟩
    obtain rfl : n = 9732 := by omega
    rw [f_m_back_16]
    exact (if_pos (by simp (disch := first | omega | (simp (disch := omega) only [uA_n]; done) | fail) only [iI_lit, iI_add, iI_sub, iI_mul, iI_neg, iI_lt, iI_le, iI_eq, zlt_t, zlt_f, zle_t, zle_f, zeq_t, zeq_f, nle_t, nle_f, iI_cl, rA, rS, rB, wA, wS, wB, mkp, mk2, uA_s, uA_n, ud_s, ud_n, bI_0, bI_1, nor_s, ↓reduceIte, or_false, false_or, or_true, true_or, or_self, not_true_eq_false, not_false_eq_true, and_true, true_and, and_false, false_and, bI_T, bI_F, Int.reduceToNat, Nat.reduceAdd, Nat.reduceMul, Int.reduceNeg, Option.bind_some, Int.toNat_natCast])).trans rfl
  | succ r ih =>
    intro n q e hq
    obtain ⟨q, rfl⟩ : ∃ k, q = k + 1 := ⟨q - 1, by omega⟩
    have I := ih (n + 1) q (by omega) (by omega)
    rw [← imM_u m.1 (by omega)] at I
    rw [f_m_back_16]
    refine (if_neg (by simp (disch := first | omega | (simp (disch := omega) only [uA_n]; done) | fail) only [iI_lit, iI_add, iI_sub, iI_mul, iI_neg, iI_lt, iI_le, iI_eq, zlt_t, zlt_f, zle_t, zle_f, zeq_t, zeq_f, nle_t, nle_f, iI_cl, rA, rS, rB, wA, wS, wB, mkp, mk2, uA_s, uA_n, ud_s, ud_n, bI_0, bI_1, nor_s, ↓reduceIte, or_false, false_or, or_true, true_or, or_self, not_true_eq_false, not_false_eq_true, and_true, true_and, and_false, false_and, bI_T, bI_F, Int.reduceToNat, Nat.reduceAdd, Nat.reduceMul, Int.reduceNeg, Option.bind_some, Int.toNat_natCast])).trans ?_
    refine (if_neg (by simp (disch := first | omega | (simp (disch := omega) only [uA_n]; done) | fail) only [iI_lit, iI_add, iI_sub, iI_mul, iI_neg, iI_lt, iI_le, iI_eq, zlt_t, zlt_f, zle_t, zle_f, zeq_t, zeq_f, nle_t, nle_f, iI_cl, rA, rS, rB, wA, wS, wB, mkp, mk2, uA_s, uA_n, ud_s, ud_n, bI_0, bI_1, nor_s, ↓reduceIte, or_false, false_or, or_true, true_or, or_self, not_true_eq_false, not_false_eq_true, and_true, true_and, and_false, false_and, bI_T, bI_F, Int.reduceToNat, Nat.reduceAdd, Nat.reduceMul, Int.reduceNeg, Option.bind_some, Int.toNat_natCast])).trans ?_
    refine Eq.trans ?_ I
    rw [← iI_s, iI_cl (by omega) (by omega), Int.toNat_natCast]
    rfl
theorem dec_498 {j : Nat} (h : j < 9732) : (dec j).1 ≠ 498 := by
  unfold dec
  by_cases h0 : j < 12
  · rw [if_pos h0]; show 400 ≠ 498; decide
  rw [if_neg h0]
  by_cases h1 : j < 16
  · rw [if_pos h1]; show 499 ≠ 498; decide
  rw [if_neg h1]
  by_cases h2 : j < 64
  · rw [if_pos h2]; show 401 + (j - 16) % 3 ≠ 498; omega
  rw [if_neg h2]
  by_cases h3 : j < 128
  · rw [if_pos h3]; show 404 ≠ 498; decide
  rw [if_neg h3]
  by_cases h4 : j < 320
  · rw [if_pos h4]; show 410 + (j - 128) % 12 ≠ 498; omega
  rw [if_neg h4]
  by_cases h5 : j < 1220
  · rw [if_pos h5]; show 422 + (j - 320) % 3 ≠ 498; omega
  rw [if_neg h5]
  by_cases h6 : j < 6020
  · rw [if_pos h6]; show 430 + (j - 1220) % 12 ≠ 498; omega
  rw [if_neg h6]
  by_cases h7 : j < 6200
  · rw [if_pos h7]; show 442 + (j - 6020) % 3 ≠ 498; omega
  rw [if_neg h7]
  by_cases h8 : j < 7400
  · rw [if_pos h8]; show 450 + (j - 6200) % 20 ≠ 498; omega
  rw [if_neg h8]
  by_cases h9 : j < 7440
  · rw [if_pos h9]; show 470 + (j - 7400) % 5 ≠ 498; omega
  rw [if_neg h9]
  by_cases ha : j < 7544
  · rw [if_pos ha]; show 475 ≠ 498; decide
  rw [if_neg ha]
  by_cases hb : j < 9032
  · rw [if_pos hb]; show 600 + (j - 7544) % 124 ≠ 498; omega
  rw [if_neg hb]
  rw [if_pos h]; show 480 + (j - 9032) % 7 ≠ 498; omega
theorem dec_big {j : Nat} (h : 9732 ≤ j) : dec j = (498, j) := by
  unfold dec
  rw [if_neg (by omega), if_neg (by omega), if_neg (by omega), if_neg (by omega), if_neg (by omega), if_neg (by omega), if_neg (by omega), if_neg (by omega), if_neg (by omega), if_neg (by omega), if_neg (by omega), if_neg (by omega), if_neg (by omega)]
/-- the array's fields copied: from + s to + d -/
def imB (B : hI) (d s : Nat) : hI := fun k => if 400 + d ≤ k ∧ k < 724 + d ∧ k ≠ 498 + d then B (k - d + s) else B k
theorem imB_i {B : hI} {d s k : Nat} (h : 400 ≤ k) (h2 : k < 724) (h3 : k ≠ 498) : imB B d s (k + d) = B (k + s) := by
  unfold imB
  rw [if_pos (by omega), show k + d - d + s = k + s by omega]
theorem imB_o {B : hI} {d s k : Nat} (h : ¬ (400 + d ≤ k ∧ k < 724 + d ∧ k ≠ 498 + d)) : imB B d s k = B k := if_neg h
/-- which row of the machine is meant: 305 (0), 313 (1000), 314 (2000) -/
theorem imB_mk (Ax B : hI) {a b d s : Nat} (h : (a = 313 ∧ d = 1000 ∧ b = 305 ∧ s = 0) ∨ (a = 305 ∧ d = 0 ∧ b = 313 ∧ s = 1000) ∨ (a = 314 ∧ d = 2000 ∧ b = 305 ∧ s = 0) ∨ (a = 305 ∧ d = 0 ∧ b = 314 ∧ s = 2000)) : (imM (mk Ax B).1 a b 9732, (mk Ax B).2) = mk Ax (imB B d s) := by
  refine Prod.ext (funext fun k => funext fun j => ?_) (funext fun k => ?_)
  · have hd := dec_rg j
    have e5 : ∀ X : hI, (mk Ax X).1 305 j = iI (X (dec j).1 (dec j).2) := fun X => rfl
    have e3 : ∀ X : hI, (mk Ax X).1 313 j = iI (X (1000 + (dec j).1) (dec j).2) := fun X => rfl
    have e4 : ∀ X : hI, (mk Ax X).1 314 j = iI (X (2000 + (dec j).1) (dec j).2) := fun X => rfl
    show (if k = a ∧ j < 9732 then (mk Ax B).1 b j else (mk Ax B).1 k j) = (mk Ax (imB B d s)).1 k j
    have oth : k ≠ 305 → k ≠ 313 → k ≠ 314 → (mk Ax (imB B d s)).1 k j = (mk Ax B).1 k j := fun h5 h3 h4 => by
      show (if k < 304 then _ else if k = 305 then _ else if k = 313 then _ else if k = 314 then _ else if k < 318 then _ else _) = (if k < 304 then _ else if k = 305 then _ else if k = 313 then _ else if k = 314 then _ else if k < 318 then _ else _)
      (repeat' split) <;> first | rfl | omega | (rw [imB_o (by omega)])
    by_cases k5 : k = 305
    · subst k5
      rw [e5 (imB B d s)]
      by_cases c : 305 = a ∧ j < 9732
      · have n8 := dec_498 c.2
        rw [if_pos c]
        have ed : d = 0 := by omega
        subst ed
        have z := imB_i (B := B) (d := 0) (s := s) hd.1 hd.2 n8
        rw [Nat.add_zero] at z
        rw [z]
        rcases (show (b = 313 ∧ s = 1000) ∨ (b = 314 ∧ s = 2000) by omega) with ⟨rfl, rfl⟩ | ⟨rfl, rfl⟩
        · rw [e3, Nat.add_comm]
        · rw [e4, Nat.add_comm]
      · rw [if_neg c, e5]
        rw [imB_o]
        intro z
        by_cases c2 : j < 9732
        · omega
        · rw [dec_big (by omega)] at z
          have := z.2.2
          have := z.1
          have e8 : (498, j).1 = 498 := rfl
          omega
    · by_cases k3 : k = 313
      · subst k3
        rw [e3 (imB B d s)]
        by_cases c : 313 = a ∧ j < 9732
        · have n8 := dec_498 c.2
          rw [if_pos c]
          have ed : d = 1000 ∧ b = 305 ∧ s = 0 := by omega
          obtain ⟨rfl, rfl, rfl⟩ := ed
          have z := imB_i (B := B) (d := 1000) (s := 0) hd.1 hd.2 n8
          rw [Nat.add_zero (dec j).1, Nat.add_comm] at z
          rw [z, e5]
        · rw [if_neg c, e3]
          rw [imB_o]
          intro z
          by_cases c2 : j < 9732
          · omega
          · rw [dec_big (by omega)] at z
            have := z.2.2
            have := z.1
            have e8 : 1000 + (498, j).1 = 1498 := rfl
            omega
      · by_cases k4 : k = 314
        · subst k4
          rw [e4 (imB B d s)]
          by_cases c : 314 = a ∧ j < 9732
          · have n8 := dec_498 c.2
            rw [if_pos c]
            have ed : d = 2000 ∧ b = 305 ∧ s = 0 := by omega
            obtain ⟨rfl, rfl, rfl⟩ := ed
            have z := imB_i (B := B) (d := 2000) (s := 0) hd.1 hd.2 n8
            rw [Nat.add_zero (dec j).1, Nat.add_comm] at z
            rw [z, e5]
          · rw [if_neg c, e4]
            rw [imB_o]
            intro z
            by_cases c2 : j < 9732
            · omega
            · rw [dec_big (by omega)] at z
              have := z.2.2
              have := z.1
              have e8 : 2000 + (498, j).1 = 2498 := rfl
              omega
        · rw [oth k5 k3 k4, if_neg (by omega)]
  · show (mk Ax B).2 k = Int64.ofInt (imB B d s 399 k)
    rw [imB_o (by omega)]
    rfl
theorem WR.im {w rc S S' : hI} {K D : Int} (hK : K < 2147483648) (e : ∀ c : Nat, (400 ≤ c ∧ c < 724 ∧ c ≠ 498) → S' c = S c) (eG : S' 350 = S 350) (h : WR w rc S K D) : WR w rc S' K D := h.sz hK (fun _ _ _ => rfl) (fun c hc => e c (by omega)) eG
theorem c_image (h : Inv i A B) (hi : i < 512) (hF : 10000 ≤ F) : CP i A B (f_x_image F) (f_m_image F) := by
  intro Ax Bx
  have R := h.rr
  have hK := h.kmx (by omega)
  have d3 := R.gD.dd3
  have hA : ∀ k : Nat, ¬ (62 ≤ k ∧ k < 108) → k ≠ 0 → uA (bec A 0 46) 0 11 1 k = A k := fun k h1 h2 => by rw [uA_n h2, bec_o (by omega)]
  have e0 : ∀ j : Nat, j ≠ 11 → uA (bec A 0 46) 0 11 1 0 j = A 0 j := fun j hj => by rw [uA_s, ud_n hj, bec_o (by omega)]
  have hB : ∀ k : Nat, ¬ (1400 ≤ k ∧ k < 1724) → k ≠ 304 → uA (imB B 1000 0) 304 24 1 k = B k := fun k h1 h2 => by rw [uA_n h2, imB_o (by omega)]
  have f4 : ∀ j : Nat, j ≠ 24 → uA (imB B 1000 0) 304 24 1 304 j = B 304 j := fun j hj => by rw [uA_s, ud_n hj, imB_o (by omega)]
  have x1 := ex_bc_62_16 F A Bx
  have y1 := em_img F (mk Ax B) 9732 0 F (by omega) (by omega)
  rw [imM_0] at y1
  have y2 : f_m_image F (mk Ax B) = some ((m_up (imM (mk Ax B).1 313 305 9732) 304 24 1) 305 0, (m_up (imM (mk Ax B).1 313 305 9732) 304 24 1, (mk Ax B).2)) := y1
  have em := imB_mk Ax B (a := 313) (b := 305) (d := 1000) (s := 0) (Or.inl ⟨rfl, rfl, rfl, rfl⟩)
  have em1 : imM (mk Ax B).1 313 305 9732 = (mk Ax (imB B 1000 0)).1 := congrArg Prod.fst em
  rw [em1] at y2
  refine ⟨iI (A 16 9), uA (bec A 0 46) 0 11 1, uA (imB B 1000 0) 304 24 1, ?_, ?_, ?_⟩
  · unfold f_x_image
    refine obd x1 ?_
    have e16 : bec A 0 46 16 9 = A 16 9 := by rw [bec_o (by omega)]
    simp (disch := first | omega | (simp (disch := omega) only [uA_n]; done) | fail) only [iI_lit, iI_add, iI_sub, iI_mul, iI_neg, iI_lt, iI_le, iI_eq, zlt_t, zlt_f, zle_t, zle_f, zeq_t, zeq_f, nle_t, nle_f, iI_cl, rA, rS, rB, wA, wS, wB, mkp, mk2, uA_s, uA_n, ud_s, ud_n, bI_0, bI_1, nor_s, ↓reduceIte, or_false, false_or, or_true, true_or, or_self, not_true_eq_false, not_false_eq_true, and_true, true_and, and_false, false_and, bI_T, bI_F, Int.reduceToNat, Nat.reduceAdd, Nat.reduceMul, Int.reduceNeg, Option.bind_some, Int.toNat_natCast, e16]
  · rw [y2]
    have m0 : uA (imB B 1000 0) 304 24 1 399 = B 399 := hB 399 (by omega) (by omega)
    have z0 : imB B 1000 0 400 0 = A 16 9 := by rw [imB_o (by omega), d3]
    simp (disch := first | omega | (simp (disch := omega) only [uA_n]; done) | fail) only [iI_lit, iI_add, iI_sub, iI_mul, iI_neg, iI_lt, iI_le, iI_eq, zlt_t, zlt_f, zle_t, zle_f, zeq_t, zeq_f, nle_t, nle_f, iI_cl, rA, rS, rB, wA, wS, wB, mkp, mk2, uA_s, uA_n, ud_s, ud_n, bI_0, bI_1, nor_s, ↓reduceIte, or_false, false_or, or_true, true_or, or_self, not_true_eq_false, not_false_eq_true, and_true, true_and, and_false, false_and, bI_T, bI_F, Int.reduceToNat, Nat.reduceAdd, Nat.reduceMul, Int.reduceNeg, Option.bind_some, Int.toNat_natCast, dS, z0, mk2 m0]
  · have W := h.1
    have WK : WR (shA (uA (bec A 0 46) 0 11 1)) (uA (bec A 0 46) 0 11 1) (shB (uA (imB B 1000 0) 304 24 1)) (KMX i (A 16 9)) (A 16 9) := by
      have W2 : WR A (uA (bec A 0 46) 0 11 1) B (KMX i (A 16 9)) (A 16 9) := W.cg (fun _ _ => rfl) (fun k hk => hA k (by omega) (by omega)) (fun _ _ => rfl)
      refine W2.sz (by omega) (fun k j hz => ?_) (fun c hc => ?_) (funext fun q => ?_)
      · unfold shA
        rw [if_pos (by omega), uA_n (by omega), bec_i A hz, Nat.add_zero]
      · unfold shB
        rw [uA_n (by omega), Nat.add_comm, imB_i (by omega) (by omega) (by omega), Nat.add_zero]
      · show uA (imB B 1000 0) 304 24 1 1350 q = B 350 q
        rw [hB 1350 (by omega) (by omega), (h.2.2.2.2.2 q).2, (h.2.2.2.2.2 q).1]
    have e62 : uA (bec A 0 46) 0 11 1 62 9 = A 16 9 := by
      have z := bec_i A (s := 0) (t := 46) (k := 16) (j := 9) (by omega)
      rw [uA_n (by omega)]; exact z
    have e16 : uA (bec A 0 46) 0 11 1 16 9 = A 16 9 := by rw [hA 16 (by omega) (by omega)]
    refine ⟨?_, fun j hj => ?_, ?_, ?_, Or.inr ⟨by rw [uA_s, ud_s], by rw [uA_s, ud_s], ?_, ?_⟩, fun q => ?_⟩
    · rw [e16]
      exact (W.cg (fun k hk => hA k (by omega) (by omega)) (fun k hk => hA k (by omega) (by omega)) (fun k hk => hB k (by omega) (by omega))).k (by unfold KMX; omega)
    · rw [hA 119 (by omega) (by omega), hB 306 (by omega) (by omega)]; exact h.2.1 j hj
    · unfold tpI
      rw [hA 114 (by omega) (by omega), hA 115 (by omega) (by omega), f4 9 (by omega), hB 311 (by omega) (by omega)]; exact h.2.2.1
    · unfold rwI
      rw [e0 10 (by omega), hA 117 (by omega) (by omega), f4 30 (by omega), f4 29 (by omega), hB 317 (by omega) (by omega)]; exact h.2.2.2.1
    · rw [e62]
      exact WK.k (by unfold KMX; omega)
    · have sh : ∀ k j : Nat, inSz k j → shA (uA (bec A 0 46) 0 11 1) k j = A k j := fun k j hz => by
        unfold shA
        rw [if_pos (by omega), uA_n (by omega), bec_i A hz, Nat.add_zero]
      have n2 := R.gN.nc2
      unfold MON
      rw [sh 55 7 (by omega), sh 55 12 (by omega), sh 16 9 (by omega), sh 16 14 (by omega), hA 55 (by omega) (by omega), hA 59 (by omega) (by omega), hA 16 (by omega) (by omega)]
      refine ⟨Int.le_refl _, fun c hc => ?_, Int.le_refl _, Int.le_refl _, Int.le_refl _⟩
      rw [sh 59 c (by omega)]
      exact Int.le_refl _
    · rw [hB 350 (by omega) (by omega), hB 1350 (by omega) (by omega)]; exact h.2.2.2.2.2 q
theorem c_back (h : Inv i A B) (hi : i < 512) (hF : 10000 ≤ F) : CP i A B (f_x_back F) (f_m_back F) := by
  rcases h.2.2.2.2.1 with ⟨z1, z2⟩ | ⟨z1, z2, z3, z4⟩
  · refine cp_no F h (v := -2) (by omega) (by omega) (fun Bx => ?_) (fun Ax => ?_)
    · unfold f_x_back
      exact (if_pos (by simp (disch := first | omega | (simp (disch := omega) only [uA_n]; done) | fail) only [iI_lit, iI_add, iI_sub, iI_mul, iI_neg, iI_lt, iI_le, iI_eq, zlt_t, zlt_f, zle_t, zle_f, zeq_t, zeq_f, nle_t, nle_f, iI_cl, rA, rS, rB, wA, wS, wB, mkp, mk2, uA_s, uA_n, ud_s, ud_n, bI_0, bI_1, nor_s, ↓reduceIte, or_false, false_or, or_true, true_or, or_self, not_true_eq_false, not_false_eq_true, and_true, true_and, and_false, false_and, bI_T, bI_F, Int.reduceToNat, Nat.reduceAdd, Nat.reduceMul, Int.reduceNeg, Option.bind_some, Int.toNat_natCast, z1])).trans rfl
    · unfold f_m_back
      exact (if_pos (by simp (disch := first | omega | (simp (disch := omega) only [uA_n]; done) | fail) only [iI_lit, iI_add, iI_sub, iI_mul, iI_neg, iI_lt, iI_le, iI_eq, zlt_t, zlt_f, zle_t, zle_f, zeq_t, zeq_f, nle_t, nle_f, iI_cl, rA, rS, rB, wA, wS, wB, mkp, mk2, uA_s, uA_n, ud_s, ud_n, bI_0, bI_1, nor_s, ↓reduceIte, or_false, false_or, or_true, true_or, or_self, not_true_eq_false, not_false_eq_true, and_true, true_and, and_false, false_and, bI_T, bI_F, Int.reduceToNat, Nat.reduceAdd, Nat.reduceMul, Int.reduceNeg, Option.bind_some, Int.toNat_natCast, z2])).trans rfl
  intro Ax Bx
  have d2 := z3.gD.dd2
  have d1 := z3.gD.dd1
  have d3 := z3.gD.dd3
  have s9 : shA A 16 9 = A 62 9 := rfl
  rw [s9] at d1 d2 d3
  have hK : KMX i (A 62 9) ≤ 936120000 := by unfold KMX; omega
  have hA : ∀ k : Nat, ¬ (16 ≤ k ∧ k < 62) → bec A 46 0 k = A k := fun k h1 => bec_o (by omega)
  have hB : ∀ k : Nat, ¬ (400 ≤ k ∧ k < 724 ∧ k ≠ 498) → imB B 0 1000 k = B k := fun k h1 => imB_o (by omega)
  have x1 := ex_bc_16_62 F A Bx
  have y1 := em_bck F (mk Ax B) 9732 0 F (by omega) (by omega)
  rw [imM_0] at y1
  have em := imB_mk Ax B (a := 305) (b := 313) (d := 0) (s := 1000) (Or.inr (Or.inl ⟨rfl, rfl, rfl, rfl⟩))
  have em1 : imM (mk Ax B).1 305 313 9732 = (mk Ax (imB B 0 1000)).1 := congrArg Prod.fst em
  rw [em1] at y1
  have ai : ∀ k j : Nat, inSz k j → bec A 46 0 k j = A (k + 46) j := fun k j hz => bec_i A (s := 46) (t := 0) hz
  have a9 : bec A 46 0 16 9 = A 62 9 := ai 16 9 (by omega)
  have b0 : imB B 0 1000 400 0 = A 62 9 := by
    have z := imB_i (B := B) (d := 0) (s := 1000) (k := 400) (by omega) (by omega) (by omega)
    rw [show 400 = 400 + 0 from rfl, z]; exact d3
  refine ⟨iI (A 62 9), bec A 46 0, imB B 0 1000, ?_, ?_, ?_⟩
  · unfold f_x_back
    refine (if_neg (by simp (disch := first | omega | (simp (disch := omega) only [uA_n]; done) | fail) only [iI_lit, iI_add, iI_sub, iI_mul, iI_neg, iI_lt, iI_le, iI_eq, zlt_t, zlt_f, zle_t, zle_f, zeq_t, zeq_f, nle_t, nle_f, iI_cl, rA, rS, rB, wA, wS, wB, mkp, mk2, uA_s, uA_n, ud_s, ud_n, bI_0, bI_1, nor_s, ↓reduceIte, or_false, false_or, or_true, true_or, or_self, not_true_eq_false, not_false_eq_true, and_true, true_and, and_false, false_and, bI_T, bI_F, Int.reduceToNat, Nat.reduceAdd, Nat.reduceMul, Int.reduceNeg, Option.bind_some, Int.toNat_natCast, z1])).trans ?_
    refine obd x1 ?_
    simp (disch := first | omega | (simp (disch := omega) only [uA_n]; done) | fail) only [iI_lit, iI_add, iI_sub, iI_mul, iI_neg, iI_lt, iI_le, iI_eq, zlt_t, zlt_f, zle_t, zle_f, zeq_t, zeq_f, nle_t, nle_f, iI_cl, rA, rS, rB, wA, wS, wB, mkp, mk2, uA_s, uA_n, ud_s, ud_n, bI_0, bI_1, nor_s, ↓reduceIte, or_false, false_or, or_true, true_or, or_self, not_true_eq_false, not_false_eq_true, and_true, true_and, and_false, false_and, bI_T, bI_F, Int.reduceToNat, Nat.reduceAdd, Nat.reduceMul, Int.reduceNeg, Option.bind_some, Int.toNat_natCast, a9]
  · unfold f_m_back
    refine (if_neg (by simp (disch := first | omega | (simp (disch := omega) only [uA_n]; done) | fail) only [iI_lit, iI_add, iI_sub, iI_mul, iI_neg, iI_lt, iI_le, iI_eq, zlt_t, zlt_f, zle_t, zle_f, zeq_t, zeq_f, nle_t, nle_f, iI_cl, rA, rS, rB, wA, wS, wB, mkp, mk2, uA_s, uA_n, ud_s, ud_n, bI_0, bI_1, nor_s, ↓reduceIte, or_false, false_or, or_true, true_or, or_self, not_true_eq_false, not_false_eq_true, and_true, true_and, and_false, false_and, bI_T, bI_F, Int.reduceToNat, Nat.reduceAdd, Nat.reduceMul, Int.reduceNeg, Option.bind_some, Int.toNat_natCast, z2])).trans ?_
    refine y1.trans ?_
    have m0 : imB B 0 1000 399 = B 399 := hB 399 (by omega)
    have er : (mk Ax (imB B 0 1000)).1 305 0 = iI (A 62 9) := (congrArg iI b0 : _)
    rw [er, mk2 m0]
  · have W1 : WR (bec A 46 0) (bec A 46 0) (imB B 0 1000) (KMX i (A 62 9)) (A 62 9) := by
      have W2 : WR (shA A) (bec A 46 0) (shB B) (KMX i (A 62 9)) (A 62 9) := z3.cg (fun _ _ => rfl) (fun k hk => hA k (by omega)) (fun _ _ => rfl)
      refine W2.sz (by omega) (fun k j hz => ?_) (fun c hc => ?_) (funext fun q => ?_)
      · rw [ai k j hz]
        unfold shA
        rw [if_pos (by omega)]
      · have z := imB_i (B := B) (d := 0) (s := 1000) (k := c) (by omega) (by omega) (by omega)
        rw [Nat.add_zero] at z
        rw [z]
        unfold shB
        rw [Nat.add_comm]
      · show imB B 0 1000 350 q = B 1350 q
        rw [hB 350 (by omega), (h.2.2.2.2.2 q).2, (h.2.2.2.2.2 q).1]
    have sh : shA (bec A 46 0) = shA A := by
      funext k
      unfold shA
      split
      · exact hA (k + 46) (by omega)
      · rfl
    have shb : shB (imB B 0 1000) = shB B := funext fun k => hB (1000 + k) (by omega)
    refine ⟨?_, fun j hj => ?_, ?_, ?_, Or.inr ⟨?_, ?_, ?_, ?_⟩, fun q => ?_⟩
    · rw [a9]; exact W1.k (by unfold KMX; omega)
    · rw [hA 119 (by omega), hB 306 (by omega)]; exact h.2.1 j hj
    · unfold tpI
      rw [hA 114 (by omega), hA 115 (by omega), hB 304 (by omega), hB 311 (by omega)]; exact h.2.2.1
    · unfold rwI
      rw [hA 0 (by omega), hA 117 (by omega), hB 304 (by omega), hB 317 (by omega)]; exact h.2.2.2.1
    · rw [hA 0 (by omega)]; exact z1
    · rw [hB 304 (by omega)]; exact z2
    · rw [sh, shb, hA 62 (by omega)]
      exact (z3.cg (fun _ _ => rfl) (fun k hk => hA k (by omega)) (fun _ _ => rfl)).k (by unfold KMX; omega)
    · have n2 := z3.gN.nc2
      have e5 : ∀ k j : Nat, inSz k j → bec A 46 0 k j = shA A k j := fun k j hz => by
        rw [ai k j hz]
        unfold shA
        rw [if_pos (by omega)]
      rw [sh]
      unfold MON
      rw [e5 55 7 (by omega), e5 55 12 (by omega), e5 16 9 (by omega), e5 16 14 (by omega)]
      refine ⟨Int.le_refl _, fun c hc => ?_, Int.le_refl _, Int.le_refl _, Int.le_refl _⟩
      rw [e5 59 c (by omega)]
      exact Int.le_refl _
    · rw [hB 350 (by omega), hB 1350 (by omega)]; exact h.2.2.2.2.2 q
end IMAG
