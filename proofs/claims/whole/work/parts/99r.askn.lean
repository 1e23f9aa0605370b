/-! A NAME IS ASKED -/
theorem mk_g (Ax B : hI) (p : Nat) (v : Int) : mk Ax (uA B 350 p v) = mk Ax B := by
  refine Prod.ext (funext fun k => funext fun j => ?_) (funext fun k => ?_)
  · have hd := dec_rg j
    show (if k < 304 then _ else if k = 305 then _ else if k = 313 then _ else if k = 314 then _ else if k < 318 then _ else _) = (if k < 304 then _ else if k = 305 then _ else if k = 313 then _ else if k = 314 then _ else if k < 318 then _ else _)
    (repeat' split) <;> first | rfl | omega | (rw [uA_n (by omega)])
  · show Int64.ofInt (uA B 350 p v 399 k) = Int64.ofInt (B 399 k)
    rw [uA_n (by omega)]
theorem WP.gh {w S S' : hI} {D : Int} (h : WP w S D) (e : ∀ k : Nat, k ≠ 350 → S' k = S k) (g : ∀ q, q < 60 → w 32 q = 1 → w 37 q = 1 → S' 350 q = 0 → S 350 q ≠ 0 → ∃ i : Nat, 1 ≤ i ∧ (i : Int) < w 39 q ∧ w 38 (6 * q + i) ≠ w 35 q ∧ w 38 (6 * q + i) ≠ w 34 q) : WP w S' D := by
  refine WP.of h.pu h.pe1 h.pe2 (fun q hq => ?_) h.ppd
  obtain ⟨z1, z2⟩ := h.pz hq
  refine ⟨z1, ?_⟩
  unfold PF PU PB at z2 ⊢
  rw [e 450 (by omega), e 451 (by omega), e 452 (by omega), e 453 (by omega), e 454 (by omega), e 455 (by omega), e 456 (by omega), e 457 (by omega), e 464 (by omega), e 465 (by omega), e 466 (by omega), e 467 (by omega), e 468 (by omega)]
  refine z2.imp id (fun z => ⟨z.1, fun y => ?_, z.2.2⟩)
  obtain ⟨u1, u2, u3⟩ := z.2.1 y
  refine ⟨u1, fun i hi => by rw [e _ (by omega)]; exact u2 i hi, fun y1 y2 => ?_⟩
  by_cases hz : S 350 q = 0
  · exact u3 y1 hz
  · exact g q hq y y1 y2 hz
section ASKN
variable {K D : Int} {A0 B0 A B A' B' : hI} (F : Nat)
theorem RR.gh (R : RR K D A0 B0 A B) {B1 B' : hI} (e : ∀ k : Nat, k ≠ 350 → B' k = B k) (s : SB B1 B') (g : ∀ q, q < 60 → A 32 q = 1 → A 37 q = 1 → B' 350 q = 0 → B 350 q ≠ 0 → ∃ i : Nat, 1 ≤ i ∧ (i : Int) < A 39 q ∧ A 38 (6 * q + i) ≠ A 35 q ∧ A 38 (6 * q + i) ≠ A 34 q) : RR K D A0 B1 A B' := by
  obtain ⟨⟨h1, h2, h3, h4, h5, h6, h7, h8, h9, h10, h11⟩, hx, hb⟩ := R
  refine ⟨⟨?_, ?_, ?_, h4.gh e g, ?_, ?_, ?_, ?_, ?_, h10, ?_⟩, hx, s⟩
  · apply h1.c <;> first | rfl | (rw [e _ (by omega)])
  · apply h2.c <;> first | rfl | (rw [e _ (by omega)])
  · apply h3.c <;> first | rfl | (rw [e _ (by omega)])
  · apply h5.c <;> first | rfl | (rw [e _ (by omega)])
  · apply h6.c <;> first | rfl | (rw [e _ (by omega)])
  · apply h7.c <;> first | rfl | (rw [e _ (by omega)])
  · apply h8.c <;> first | rfl | (rw [e _ (by omega)])
  · apply h9.c <;> first | rfl | (rw [e _ (by omega)]) | (intro k _ _; exact e k (by omega))
  · apply h11.c <;> first | rfl | (rw [e _ (by omega)])
theorem RR.nopl (R : RR K D A0 B0 A B) {p : Nat} (hs : A 37 p ≠ 0) : ∀ q, q < 60 → A 32 q = 3 → A 37 q = 0 → A 41 q ≠ p := fun q hq z1 z2 e => by
  have g := R.gP.ppg q hq z1 z2
  rw [e, Int.toNat_natCast] at g
  exact hs g.2.2.2.2.1
/-- the next ask day, with a holder that may be new -/
theorem RR.sask (R : RR K D A0 B0 A B) (hF : 1000 ≤ F) (Ax Bx : hI) {p : Nat} (hp : p < 60) (h1 : A 32 p = 1) (hs : A 37 p = 1) {H : Int} (hH : 0 ≤ H ∧ H < A 19 11) : ∃ A' B' : hI, f_World_setAskDay F (iI p) (mk (uA A 35 p H) Bx) = some ((), mk A' Bx) ∧ f_m_asksNext F (iI p) (mk Ax (uA B 454 p H)) = some ((), mk Ax B') ∧ RR K D A0 B0 A' B' ∧ frP A A' ∧ (A' 37 p = 1 → ∃ i : Nat, 1 ≤ i ∧ (i : Int) < A' 39 p ∧ A' 38 (6 * p + i) ≠ A' 35 p ∧ A' 38 (6 * p + i) ≠ A' 34 p) := by
  have hn2 := R.gH.hn2
  have hd1 := R.gD.dd1
  have hd2 := R.gD.dd2
  have hn := R.nopl (p := p) (by omega)
  obtain ⟨N, M⟩ := R.nm hp h1
  have P := R.gP
  have hbn := P.pbn p hp h1
  have hbi := fun i hi => (P.pbi p i hp h1 hi).2
  have hst := (P.pst p hp (by omega)).1
  have hnc := P.pnc p hp (by omega)
  have hq := P.pas p hp (by omega)
  generalize hX : uA A 35 p H = X at *
  generalize hY : uA B 454 p H = Y at *
  have fA : frP A X := fun k hk => by rw [← hX, uA_n (by omega)]
  have fB : frQ B Y := fun k hk => by rw [← hY, uA_n (by omega)]
  have x39 : X 39 = A 39 := by rw [← hX, uA_n (by omega)]
  have x35 : X 35 p = H := by rw [← hX, uA_s, ud_s]
  have x37 : X 37 = A 37 := by rw [← hX, uA_n (by omega)]
  have x42 : X 42 = A 42 := by rw [← hX, uA_n (by omega)]
  have y457 : Y 457 = B 457 := by rw [← hY, uA_n (by omega)]
  have y454 : Y 454 p = H := by rw [← hY, uA_s, ud_s]
  have y456 : Y 456 = B 456 := by rw [← hY, uA_n (by omega)]
  have y467 : Y 467 = B 467 := by rw [← hY, uA_n (by omega)]
  have qA : ∀ c q, q ≠ p → X c q = A c q := fun c q hq => by rw [← hX, pap_q hq]
  have qB : ∀ c q, q ≠ p → Y c q = B c q := fun c q hq => by rw [← hY, pap_q hq]
  have N2 : NM X p := by
    obtain ⟨a1, a2, a3, a4, a5⟩ := N
    refine ⟨a1, by rw [x39]; exact a2, fun i hi => ?_, by omega, ?_⟩
    · rw [x39] at hi; rw [fA 38 (by omega)]; exact a3 i hi
    · rw [fA 34 (by omega)]; exact a5
  have M2 : NB X Y p := by
    obtain ⟨a1, a2, a3, a4⟩ := M
    refine ⟨by rw [x39, y457]; exact a1, fun i hi => ?_, by rw [x35, y454], ?_⟩
    · rw [x39] at hi; rw [fA 38 (by omega), fB _ (by omega)]; exact a2 i hi
    · rw [fA 34 (by omega), fB 453 (by omega)]; exact a4
  have hh : X 35 p < A 19 11 := by omega
  have hnm : ∀ i : Nat, (i : Int) < X 39 p → X 38 (6 * p + i) < A 19 11 := fun i hi => by rw [x39] at hi; rw [fA 38 (by omega)]; exact (hbi i hi).2
  have xa := ex_setAsk F R hF Bx fA N2 hh hnm
  have ya := em_setAsk F R hF Ax fA fB N2 M2 hh hnm
  have na := nt_rg X p (X 39 p - 1).toNat
  change nta X p ≤ _ ∧ (nta X p ≠ 0 → _) ∧ _ at na
  have e39p : X 39 p = A 39 p := by rw [x39]
  have ex : sdA X p 37 p = 1 → ∃ i : Nat, 1 ≤ i ∧ (i : Int) < A 39 p ∧ X 38 (6 * p + i) ≠ X 35 p ∧ X 38 (6 * p + i) ≠ X 34 p := fun y => by
    have h0 : nta X p ≠ 0 := fun h0 => by
      unfold sdA at y
      rw [if_pos h0] at y
      simp (disch := omega) only [uA_n, uA_s, ud_s] at y
      omega
    obtain ⟨n1, n2⟩ := na.2.1 h0
    exact ⟨nta X p, by omega, by omega, n1, n2⟩
  have s35 : sdA X p 35 = X 35 := by unfold sdA; split <;> simp (disch := omega) only [uA_n]
  have s38 : sdA X p 38 = X 38 := by unfold sdA; split <;> simp (disch := omega) only [uA_n]
  have s34 : sdA X p 34 = X 34 := by unfold sdA; split <;> simp (disch := omega) only [uA_n]
  have s39 : sdA X p 39 = X 39 := by unfold sdA; split <;> simp (disch := omega) only [uA_n]
  refine ⟨sdA X p, sdB X Y p, xa, ya, ?_, ?_, fun y => ?_⟩
  · refine R.bl hp h1 hn ?_ ?_ ?_ ?_ ?_ ?_ ?_ ?_ ?_
    · intro k hk; unfold sdA; split <;> (simp (disch := omega) only [uA_n]; exact fA k hk)
    · intro k hk; unfold sdB; split <;> (simp (disch := omega) only [uA_n]; exact fB k hk)
    · intro c q hq; unfold sdA; split
      · rw [pap_q hq, pap_q hq]; exact qA c q hq
      · rw [pap_q hq]; exact qA c q hq
    · intro c q hq; unfold sdB; split
      · rw [pap_q hq, pap_q hq]; exact qB c q hq
      · rw [pap_q hq]; exact qB c q hq
    · rw [s35]
      unfold sdB
      split <;> (simp (disch := omega) only [uA_n]; omega)
    · unfold sdA sdB
      split
      · refine ⟨?_, ?_, ?_⟩ <;> simp (disch := omega) only [uA_n, uA_s, ud_s] <;> omega
      · simp (disch := omega) only [uA_n]; rw [x37, y456]; omega
    · rw [s39, x39]
      unfold sdB
      split <;> (simp (disch := omega) only [uA_n]; rw [y457]; exact ⟨hnc, hbn.1, Int.le_refl _⟩)
    · unfold sdA sdB
      by_cases h0 : nta X p = 0
      · rw [if_pos h0, if_pos h0]; refine ⟨?_, ?_, ?_⟩ <;> simp (disch := omega) only [uA_s, ud_s] <;> omega
      · rw [if_neg h0, if_neg h0]
        have nm := hbi (nta X p) (by omega)
        have ad := adl_rg (A1 := X) (p := p) (a := nta X p) R (by omega) (by rw [fA 38 (by omega)]; omega) fA
        have e16 : X 16 9 = A 16 9 := by rw [fA 16 (by omega)]
        refine ⟨?_, ?_, ?_⟩ <;> simp (disch := omega) only [uA_s, ud_s] <;> omega
    · intro y _
      obtain ⟨i, i1, i2, i3, i4⟩ := ex y
      rw [s35, s39, x39]
      rw [fA 38 (by omega)] at i3 i4
      rw [fA 34 (by omega)] at i4
      exact ⟨i, i1, i2, i3, i4⟩
  · intro k hk; unfold sdA; split <;> (simp (disch := omega) only [uA_n]; exact fA k hk)
  · rw [s35, s34, s38, s39, x39]; exact ex y
end ASKN
