/-! PAPERS: what holds of each, and of one that is changed -/
def PU (w S : hI) (D : Int) (p : Nat) : Prop := (0 ≤ w 32 p ∧ w 32 p ≤ 3) ∧ S 450 p = 1 ∧ S 451 p = w 32 p ∧ (S 452 p = w 33 p ∧ 1 ≤ w 33 p ∧ w 33 p ≤ 11000 ∧ (w 32 p ≠ 3 → w 33 p ≤ 9999)) ∧ (S 453 p = w 34 p ∧ 1 ≤ w 34 p ∧ w 34 p < w 19 11) ∧ (S 454 p = w 35 p ∧ 0 ≤ w 35 p ∧ w 35 p < w 19 11) ∧ (S 455 p = w 36 p ∧ -1 ≤ w 36 p ∧ w 36 p ≤ 800) ∧ (S 456 p = w 37 p ∧ 0 ≤ w 37 p ∧ w 37 p ≤ 2) ∧ S 457 p = w 39 p ∧ (S 464 p = w 40 p ∧ 0 ≤ w 40 p ∧ w 40 p ≤ 1) ∧ S 465 p = w 41 p ∧ (S 467 p = w 42 p ∧ -1 ≤ w 42 p ∧ w 42 p ≤ 1000) ∧ (S 468 p = w 43 p ∧ 0 ≤ w 43 p ∧ w 43 p ≤ 1) ∧ (w 32 p ≠ 1 → w 39 p = 0 ∧ w 43 p = 0 ∧ w 37 p ≠ 1) ∧ (w 37 p = 0 → w 32 p ≠ 2 → D ≤ w 36 p ∧ w 36 p ≤ w 16 9 + 60) ∧ (w 37 p = 0 → w 32 p ≠ 1 → w 27 (w 34 p).toNat = -1) ∧ (w 32 p = 2 → w 36 p = -1 ∧ w 35 p ≠ w 34 p) ∧ (w 32 p = 0 ∨ w 32 p = 2 → 1 ≤ w 35 p) ∧ (w 32 p = 3 → S 466 p = w 44 p ∧ 0 ≤ w 44 p ∧ w 44 p ≤ w 16 9)
def PB (w S : hI) (p : Nat) : Prop := w 32 p = 1 → (1 ≤ w 39 p ∧ w 39 p ≤ 6) ∧ (∀ i : Nat, (i : Int) < w 39 p → S (458 + i) p = w 38 (6 * p + i) ∧ 1 ≤ w 38 (6 * p + i) ∧ w 38 (6 * p + i) < w 19 11) ∧ (w 37 p = 1 → S 350 p = 0 → ∃ i : Nat, 1 ≤ i ∧ (i : Int) < w 39 p ∧ w 38 (6 * p + i) ≠ w 35 p ∧ w 38 (6 * p + i) ≠ w 34 p)
def PG (w : hI) (p : Nat) : Prop := w 32 p = 3 → w 37 p = 0 → w 35 p = 0 ∧ 0 ≤ w 41 p ∧ w 41 p < 60 ∧ w 32 (w 41 p).toNat = 1 ∧ w 37 (w 41 p).toNat = 0 ∧ w 40 (w 41 p).toNat = 1 ∧ w 35 (w 41 p).toNat = 0 ∧ w 36 p < w 36 (w 41 p).toNat
def PF (w S : hI) (p : Nat) : Prop := w 32 p = -1 ∧ w 37 p = -1 ∧ S 450 p = 0
def PZ (w S : hI) (D : Int) (p : Nat) : Prop := (w 31 15 ≤ p → w 32 p = -1) ∧ (PF w S p ∨ (PU w S D p ∧ PB w S p ∧ PG w p))
theorem WP.pz {w S : hI} {D : Int} (h : WP w S D) {p : Nat} (hp : p < 60) : PZ w S D p := by
  refine ⟨h.pe3 p hp, ?_⟩
  rcases h.pus p hp with z | z
  · exact Or.inl z
  · have hk : w 32 p ≠ -1 := by omega
    refine Or.inr ⟨⟨⟨z.1, z.2.1⟩, z.2.2, h.pk p hp hk, h.ps p hp hk, h.pd p hp hk, h.ph p hp hk, h.pdu p hp hk, h.pst p hp hk, h.pnc p hp hk, h.pip p hp hk, h.ppl p hp hk, h.pas p hp hk, h.pbt p hp hk, h.pnb p hp hk, h.pli p hp hk, h.pup p hp hk, h.pde p hp, h.ph1 p hp, h.pma p hp⟩, fun h1 => ⟨h.pbn p hp h1, fun i hi => h.pbi p i hp h1 hi, h.ppr p hp h1⟩, h.ppg p hp⟩
theorem WP.of {w S : hI} {D : Int} (h1 : w 31 14 = sm 60 (fun p => bI (w 32 p ≠ -1))) (h2 : 0 ≤ w 31 15) (h3 : w 31 15 ≤ 60) (hz : ∀ p, p < 60 → PZ w S D p) (hd : ∀ p q : Nat, p < 60 → q < 60 → w 32 p = 3 → w 37 p = 0 → w 32 q = 3 → w 37 q = 0 → w 41 p = w 41 q → p = q) : WP w S D := by
  have U : ∀ p, p < 60 → w 32 p ≠ -1 → PU w S D p ∧ PB w S p ∧ PG w p := fun p hp hk => (hz p hp).2.resolve_left (fun z => hk z.1)
  refine ⟨h1, h2, h3, fun p hp => (hz p hp).1, fun p hp => ?_, fun p hp hk => (U p hp hk).1.2.2.1, fun p hp hk => (U p hp hk).1.2.2.2.1, fun p hp hk => (U p hp hk).1.2.2.2.2.1, fun p hp hk => (U p hp hk).1.2.2.2.2.2.1, fun p hp hk => (U p hp hk).1.2.2.2.2.2.2.1, fun p hp hk => (U p hp hk).1.2.2.2.2.2.2.2.1, fun p hp hk => (U p hp hk).1.2.2.2.2.2.2.2.2.1, fun p hp hk => (U p hp hk).1.2.2.2.2.2.2.2.2.2.1, fun p hp hk => (U p hp hk).1.2.2.2.2.2.2.2.2.2.2.1, fun p hp hk => (U p hp hk).1.2.2.2.2.2.2.2.2.2.2.2.1, fun p hp hk => (U p hp hk).1.2.2.2.2.2.2.2.2.2.2.2.2.1, fun p hp hk => (U p hp hk).1.2.2.2.2.2.2.2.2.2.2.2.2.2.1, fun p hp h1 => ((U p hp (by omega)).2.1 h1).1, fun p i hp h1 hi => ((U p hp (by omega)).2.1 h1).2.1 i hi, fun p hp hk => (U p hp hk).1.2.2.2.2.2.2.2.2.2.2.2.2.2.2.1, fun p hp hk => (U p hp hk).1.2.2.2.2.2.2.2.2.2.2.2.2.2.2.2.1, fun p hp h1 => (U p hp (by omega)).1.2.2.2.2.2.2.2.2.2.2.2.2.2.2.2.2.1 h1, fun p hp h1 => (U p hp (by omega)).1.2.2.2.2.2.2.2.2.2.2.2.2.2.2.2.2.2.1 h1, fun p hp h1 => ((U p hp (by omega)).2.1 h1).2.2, fun p hp h1 => (U p hp (by omega)).1.2.2.2.2.2.2.2.2.2.2.2.2.2.2.2.2.2.2 h1, fun p hp h1 => (U p hp (by omega)).2.2 h1, hd⟩
  rcases (hz p hp).2 with z | z
  · exact Or.inl z
  · exact Or.inr ⟨z.1.1.1, z.1.1.2, z.1.2.1⟩
/-- one paper is changed -/
theorem WP.loc {w w' S S' : hI} {D : Int} (h : WP w S D) {p : Nat} (hp : p < 60)
    (ek : ∀ k, 32 ≤ k → k ≤ 44 → k ≠ 38 → ∀ q, q ≠ p → w' k q = w k q) (e38 : ∀ q i, q ≠ p → i < 6 → w' 38 (6 * q + i) = w 38 (6 * q + i))
    (eS : ∀ c, 450 ≤ c → c < 469 → ∀ q, q ≠ p → S' c q = S c q) (eG : ∀ q, q ≠ p → S' 350 q = S 350 q) (e27 : w' 27 = w 27) (e19 : w' 19 11 = w 19 11) (e16 : w' 16 9 = w 16 9)
    (hu : w' 31 14 = w 31 14 - bI (w 32 p ≠ -1) + bI (w' 32 p ≠ -1)) (hm : w 31 15 ≤ w' 31 15) (hm2 : w' 31 15 ≤ 60)
    (hz : PZ w' S' D p)
    (hg : ∀ q, q < 60 → q ≠ p → w 32 q = 3 → w 37 q = 0 → w 41 q = p → w' 32 p = 1 ∧ w' 37 p = 0 ∧ w' 40 p = 1 ∧ w' 35 p = 0 ∧ w 36 q < w' 36 p)
    (hd : w' 32 p = 3 → w' 37 p = 0 → ∀ q, q < 60 → q ≠ p → w 32 q = 3 → w 37 q = 0 → w' 41 p ≠ w 41 q) : WP w' S' D := by
  have E : ∀ q, q ≠ p → (w' 32 q = w 32 q ∧ w' 33 q = w 33 q ∧ w' 34 q = w 34 q ∧ w' 35 q = w 35 q ∧ w' 36 q = w 36 q ∧ w' 37 q = w 37 q ∧ w' 39 q = w 39 q ∧ w' 40 q = w 40 q ∧ w' 41 q = w 41 q ∧ w' 42 q = w 42 q ∧ w' 43 q = w 43 q ∧ w' 44 q = w 44 q) := fun q hq => ⟨ek 32 (by omega) (by omega) (by omega) q hq, ek 33 (by omega) (by omega) (by omega) q hq, ek 34 (by omega) (by omega) (by omega) q hq, ek 35 (by omega) (by omega) (by omega) q hq, ek 36 (by omega) (by omega) (by omega) q hq, ek 37 (by omega) (by omega) (by omega) q hq, ek 39 (by omega) (by omega) (by omega) q hq, ek 40 (by omega) (by omega) (by omega) q hq, ek 41 (by omega) (by omega) (by omega) q hq, ek 42 (by omega) (by omega) (by omega) q hq, ek 43 (by omega) (by omega) (by omega) q hq, ek 44 (by omega) (by omega) (by omega) q hq⟩
  refine WP.of ?_ (by have := h.pe1; omega) hm2 (fun q hq => ?_) (fun a b ha hb a1 a2 b1 b2 hab => ?_)
  · have e : sm 60 (fun q => bI (w' 32 q ≠ -1)) = sm 60 (ud (fun q => bI (w 32 q ≠ -1)) p (bI (w' 32 p ≠ -1))) := by
      refine sm_c fun q hq => ?_
      by_cases hqp : q = p
      · subst hqp; rw [ud_s]
      · rw [ud_n hqp, (E q hqp).1]
    rw [e, sm_ud hp, hu, h.pu]
  · by_cases hqp : q = p
    · subst hqp; exact hz
    · obtain ⟨z1, z2⟩ := h.pz hq
      obtain ⟨y1, y2, y3, y4, y5, y6, y7, y8, y9, y10, y11, y12⟩ := E q hqp
      refine ⟨fun z => by rw [y1]; exact z1 (by omega), ?_⟩
      have s : ∀ c, 450 ≤ c → c < 469 → S' c q = S c q := fun c c1 c2 => eS c c1 c2 q hqp
      rcases z2 with z2 | ⟨z2, z3, z4⟩
      · refine Or.inl ?_
        unfold PF at z2 ⊢
        rw [y1, y6, s 450 (by omega) (by omega)]
        exact z2
      · refine Or.inr ⟨?_, ?_, ?_⟩
        · unfold PU at z2 ⊢
          rw [y1, y2, y3, y4, y5, y6, y7, y8, y9, y10, y11, y12, s 450 (by omega) (by omega), s 451 (by omega) (by omega), s 452 (by omega) (by omega), s 453 (by omega) (by omega), s 454 (by omega) (by omega), s 455 (by omega) (by omega), s 456 (by omega) (by omega), s 457 (by omega) (by omega), s 464 (by omega) (by omega), s 465 (by omega) (by omega), s 466 (by omega) (by omega), s 467 (by omega) (by omega), s 468 (by omega) (by omega), e27, e19, e16]
          exact z2
        · intro k1
          rw [y1] at k1
          obtain ⟨u1, u2, u3⟩ := z3 k1
          rw [y3, y4, y6, y7, e19]
          refine ⟨u1, fun i hi => ?_, fun hz hz2 => ?_⟩
          · rw [s _ (by omega) (by omega), e38 q i hqp (by omega)]
            exact u2 i hi
          · obtain ⟨i, v1, v2, v3⟩ := u3 hz (by rw [← eG q hqp]; exact hz2)
            exact ⟨i, v1, v2, by rw [e38 q i hqp (by omega)]; exact v3⟩
        · intro k1 k2
          rw [y1] at k1
          rw [y6] at k2
          obtain ⟨u1, u2, u3, u4⟩ := z4 k1 k2
          rw [y4, y9, y5]
          refine ⟨u1, u2, u3, ?_⟩
          by_cases hb : (w 41 q).toNat = p
          · have := hg q hq hqp k1 k2 (by omega)
            rw [hb]
            exact this
          · obtain ⟨x1, x2, x3, x4, x5, x6, x7, x8, x9, x10, x11, x12⟩ := E _ hb
            rw [x1, x4, x5, x6, x8]
            exact u4
  · by_cases hap : a = p
    · by_cases hbp : b = p
      · omega
      · subst hap
        obtain ⟨y1, y2, y3, y4, y5, y6, y7, y8, y9, y10, y11, y12⟩ := E b hbp
        rw [y1] at b1; rw [y6] at b2; rw [y9] at hab
        exact absurd hab (hd a1 a2 b hb hbp b1 b2)
    · obtain ⟨y1, y2, y3, y4, y5, y6, y7, y8, y9, y10, y11, y12⟩ := E a hap
      rw [y1] at a1; rw [y6] at a2
      by_cases hbp : b = p
      · subst hbp
        rw [y9] at hab
        exact absurd hab.symm (hd b1 b2 a ha hap a1 a2)
      · obtain ⟨x1, x2, x3, x4, x5, x6, x7, x8, x9, x10, x11, x12⟩ := E b hbp
        rw [x1] at b1; rw [x6] at b2; rw [y9, x9] at hab
        exact h.ppd a b ha hb a1 a2 b1 b2 hab
section PAPR
variable {K D D' : Int} {A0 B0 A B A' B' : hI}
/-- papers alone are changed -/
theorem RR.pap (R : RR K D A0 B0 A B) (hA : ∀ k : Nat, ¬ (31 ≤ k ∧ k ≤ 45) → A' k = A k) (hB : ∀ k : Nat, ¬ (450 ≤ k ∧ k < 469) → B' k = B k) (hP : WP A' B' D) : RR K D A0 B0 A' B' := by
  have h4 : ∀ j : Nat, j ≠ 99 → B' 400 j = B 400 j := fun j _ => by rw [hB 400 (by omega)]
  refine ⟨⟨(by apply R.gL.c <;> first | rfl | exact hA _ (by omega) | exact congrFun (hA _ (by omega)) _ | exact hB _ (by omega) | exact h4 _ (by omega) | (intro k hk1 hk2; exact hB k (by omega)) | (simp (disch := omega) only [uA_s, uA_n, ud_n]; done)), (by apply R.gH.c <;> first | rfl | exact hA _ (by omega) | exact congrFun (hA _ (by omega)) _ | exact hB _ (by omega) | exact h4 _ (by omega) | (intro k hk1 hk2; exact hB k (by omega)) | (simp (disch := omega) only [uA_s, uA_n, ud_n]; done)), (by apply R.gN.c <;> first | rfl | exact hA _ (by omega) | exact congrFun (hA _ (by omega)) _ | exact hB _ (by omega) | exact h4 _ (by omega) | (intro k hk1 hk2; exact hB k (by omega)) | (simp (disch := omega) only [uA_s, uA_n, ud_n]; done)), ?_, (by apply R.gT.c <;> first | rfl | exact hA _ (by omega) | exact congrFun (hA _ (by omega)) _ | exact hB _ (by omega) | exact h4 _ (by omega) | (intro k hk1 hk2; exact hB k (by omega)) | (simp (disch := omega) only [uA_s, uA_n, ud_n]; done)), (by apply R.gS.c <;> first | rfl | exact hA _ (by omega) | exact congrFun (hA _ (by omega)) _ | exact hB _ (by omega) | exact h4 _ (by omega) | (intro k hk1 hk2; exact hB k (by omega)) | (simp (disch := omega) only [uA_s, uA_n, ud_n]; done)), (by apply R.gD.c <;> first | rfl | exact hA _ (by omega) | exact congrFun (hA _ (by omega)) _ | exact hB _ (by omega) | exact h4 _ (by omega) | (intro k hk1 hk2; exact hB k (by omega)) | (simp (disch := omega) only [uA_s, uA_n, ud_n]; done)), (by apply R.gW.c <;> first | rfl | exact hA _ (by omega) | exact congrFun (hA _ (by omega)) _ | exact hB _ (by omega) | exact h4 _ (by omega) | (intro k hk1 hk2; exact hB k (by omega)) | (simp (disch := omega) only [uA_s, uA_n, ud_n]; done)), (by apply R.gX.c <;> first | rfl | exact hA _ (by omega) | exact congrFun (hA _ (by omega)) _ | exact hB _ (by omega) | exact h4 _ (by omega) | (intro k hk1 hk2; exact hB k (by omega)) | (simp (disch := omega) only [uA_s, uA_n, ud_n]; done)), (by apply R.gG.c <;> first | rfl | exact hA _ (by omega) | exact congrFun (hA _ (by omega)) _ | exact hB _ (by omega) | exact h4 _ (by omega) | (intro k hk1 hk2; exact hB k (by omega)) | (simp (disch := omega) only [uA_s, uA_n, ud_n]; done)), (by apply R.gI.c <;> first | rfl | exact hA _ (by omega) | exact congrFun (hA _ (by omega)) _ | exact hB _ (by omega) | exact h4 _ (by omega) | (intro k hk1 hk2; exact hB k (by omega)) | (simp (disch := omega) only [uA_s, uA_n, ud_n]; done))⟩, R.sx.tr ?_, R.sb.tr (SB.st (fun k hk => hB k (by omega)))⟩
  · exact hP
  · exact SX.st (fun k hk => hA k (by omega)) (by rw [hA 16 (by omega)]) (by rw [hA 16 (by omega)]) (by rw [hA 55 (by omega)]) (by rw [hA 55 (by omega)]) (fun c _ => by rw [hA 59 (by omega)])
/-- the reference's flags of the day: another base -/
theorem RR.rb (R : RR K D A0 B0 A B) {B1 : hI} (e : ∀ k : Nat, k ≠ 469 → B' k = B k) (e1 : ∀ k : Nat, k ≠ 469 → B1 k = B0 k) (e2 : B' 469 = B1 469) : RR K D A0 B1 A B' := by
  obtain ⟨⟨h1, h2, h3, h4, h5, h6, h7, h8, h9, h10, h11⟩, hx, hb⟩ := R
  refine ⟨⟨?_, ?_, ?_, ?_, ?_, ?_, ?_, ?_, ?_, h10, ?_⟩, hx, ?_⟩
  · apply h1.c <;> first | rfl | (rw [e _ (by omega)])
  · apply h2.c <;> first | rfl | (rw [e _ (by omega)])
  · apply h3.c <;> first | rfl | (rw [e _ (by omega)])
  · apply h4.c <;> first | rfl | (rw [e _ (by omega)])
  · apply h5.c <;> first | rfl | (rw [e _ (by omega)])
  · apply h6.c <;> first | rfl | (rw [e _ (by omega)])
  · apply h7.c <;> first | rfl | (rw [e _ (by omega)])
  · apply h8.c <;> first | rfl | (rw [e _ (by omega)])
  · apply h9.c <;> first | rfl | (rw [e _ (by omega)]) | (intro k _ _; exact e k (by omega))
  · apply h11.c <;> first | rfl | (rw [e _ (by omega)])
  · refine ⟨fun k hk => ?_, ?_, ?_, ?_, ?_⟩
    · by_cases h : k = 469
      · rw [h]; exact e2
      · rw [e k h, e1 k h]; exact hb.1 k hk
    · rw [e 304 (by omega), e1 304 (by omega)]; exact hb.2.1
    · rw [e 304 (by omega), e1 304 (by omega)]; exact hb.2.2.1
    · rw [e 304 (by omega), e1 304 (by omega)]; exact hb.2.2.2.1
    · rw [e 304 (by omega), e1 304 (by omega)]; exact hb.2.2.2.2
/-- the base, with other flags -/
def b9 (B0 B : hI) : hI := fun k => if k = 469 then B 469 else B0 k
theorem b9_s (B0 B : hI) : b9 B0 B 469 = B 469 := if_pos rfl
theorem b9_n {B0 B : hI} {k : Nat} (h : k ≠ 469) : b9 B0 B k = B0 k := if_neg h
theorem RR.r9 (R : RR K D A0 B0 A B) (p : Nat) (v : Int) : RR K D A0 (b9 B0 (uA B 469 p v)) A (uA B 469 p v) := R.rb (fun k hk => uA_n hk) (fun k hk => b9_n hk) (b9_s _ _).symm
theorem WP.full {w S : hI} (h : WP w S D) (hf : 60 ≤ w 31 14) : ∀ p, p < 60 → w 32 p ≠ -1 := by
  intro p hp hk
  have e := h.pu
  have l : sm 60 (fun q => bI (w 32 q ≠ -1)) ≤ sm 60 (ud (fun _ => 1) p 0) := by
    refine sm_le fun q hq => ?_
    by_cases hqp : q = p
    · subst hqp; rw [ud_s]; exact Int.le_of_eq (bI_f (fun z => z hk))
    · rw [ud_n hqp]; exact (bI_nn _).2
  rw [sm_ud hp, sm_const] at l
  omega
theorem WP.free {w S : hI} (h : WP w S D) (hf : w 31 14 < 60) : ∃ p, p < 60 ∧ w 32 p = -1 ∧ ∀ q, q < p → w 32 q ≠ -1 := by
  have ex : ∃ p, p < 60 ∧ w 32 p = -1 := by
    by_cases hx : ∃ p, p < 60 ∧ w 32 p = -1
    · exact hx
    · exfalso
      have e := h.pu
      rw [sm_c (f := fun p => bI (w 32 p ≠ -1)) (g := fun _ => 1) (fun q hq => bI_t (fun z => hx ⟨q, hq, z⟩)), sm_const] at e
      omega
  have key : ∀ n : Nat, (∃ p, p < n ∧ w 32 p = -1 ∧ ∀ q, q < p → w 32 q ≠ -1) ∨ ∀ q, q < n → w 32 q ≠ -1 := by
    intro n
    induction n with
    | zero => exact Or.inr (fun q hq => absurd hq (by omega))
    | succ n ih =>
      rcases ih with ⟨p, h1, h2⟩ | h1
      · exact Or.inl ⟨p, by omega, h2⟩
      · by_cases hn : w 32 n = -1
        · exact Or.inl ⟨n, by omega, hn, h1⟩
        · refine Or.inr fun q hq => ?_
          by_cases hqn : q = n
          · rw [hqn]; exact hn
          · exact h1 q (by omega)
  rcases key 60 with h1 | h1
  · exact h1
  · obtain ⟨p, h2, h3⟩ := ex
    exact absurd h3 (h1 p h2)
end PAPR
