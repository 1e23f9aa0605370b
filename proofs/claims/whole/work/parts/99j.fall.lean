/-! A HOUSE FALLS: those that it owes die, bills aside -/
def kC (h : Int) (q : Nat) (A : hI) : Prop := A 37 q = 0 ∧ A 34 q = h ∧ A 32 q ≠ 1
noncomputable def kA (h : Int) (q : Nat) (A : hI) : hI := @ite hI (kC h q A) (Classical.propDecidable _) (if A 32 q = 3 then uA (uA (uA A 37 q 2) 35 (A 41 q).toNat 0) 40 (A 41 q).toNat 0 else uA A 37 q 2) A
noncomputable def kB (h : Int) (q : Nat) (A B : hI) : hI := @ite hI (kC h q A) (Classical.propDecidable _) (if A 32 q = 3 then uA (uA B 456 q 2) 464 (A 41 q).toNat 0 else uA B 456 q 2) B
theorem kA_t {h : Int} {q : Nat} {A : hI} (c : kC h q A) : kA h q A = if A 32 q = 3 then uA (uA (uA A 37 q 2) 35 (A 41 q).toNat 0) 40 (A 41 q).toNat 0 else uA A 37 q 2 := by unfold kA; rw [if_pos c]
theorem kA_f {h : Int} {q : Nat} {A : hI} (c : ¬ kC h q A) : kA h q A = A := by unfold kA; rw [if_neg c]
theorem kB_t {h : Int} {q : Nat} {A B : hI} (c : kC h q A) : kB h q A B = if A 32 q = 3 then uA (uA B 456 q 2) 464 (A 41 q).toNat 0 else uA B 456 q 2 := by unfold kB; rw [if_pos c]
theorem kB_f {h : Int} {q : Nat} {A B : hI} (c : ¬ kC h q A) : kB h q A B = B := by unfold kB; rw [if_neg c]
noncomputable def kAB (h : Int) : Nat → hI → hI → hI × hI
  | 0, A, B => (A, B)
  | n + 1, A, B => (kA h n (kAB h n A B).1, kB h n (kAB h n A B).1 (kAB h n A B).2)
theorem kA_o {h : Int} {q : Nat} {A : hI} {c : Nat} (hc : c ≠ 35 ∧ c ≠ 37 ∧ c ≠ 40) : kA h q A c = A c := by
  by_cases k : kC h q A
  · rw [kA_t k]; split <;> simp (disch := omega) only [uA_n]
  · rw [kA_f k]
theorem kB_o {h : Int} {q : Nat} {A B : hI} {c : Nat} (hc : c ≠ 456 ∧ c ≠ 464) : kB h q A B c = B c := by
  by_cases k : kC h q A
  · rw [kB_t k]; split <;> simp (disch := omega) only [uA_n]
  · rw [kB_f k]
theorem kAB_o (h : Int) (A B : hI) : ∀ n : Nat, (∀ c : Nat, c ≠ 35 ∧ c ≠ 37 ∧ c ≠ 40 → (kAB h n A B).1 c = A c) ∧ ∀ c : Nat, c ≠ 456 ∧ c ≠ 464 → (kAB h n A B).2 c = B c := by
  intro n
  induction n with
  | zero => exact ⟨fun _ _ => rfl, fun _ _ => rfl⟩
  | succ n ih => exact ⟨fun c hc => (kA_o hc).trans (ih.1 c hc), fun c hc => (kB_o hc).trans (ih.2 c hc)⟩
theorem kA_37 {h : Int} {n : Nat} {A : hI} {q : Nat} : (q ≠ n → kA h n A 37 q = A 37 q) ∧ ¬ kC h n (kA h n A) := by
  by_cases k : kC h n A
  · rw [kA_t k]
    by_cases k3 : A 32 n = 3
    · rw [if_pos k3]
      refine ⟨fun hq => by simp (disch := omega) only [uA_s, uA_n, ud_n], fun z => ?_⟩
      have z := z.1
      simp (disch := omega) only [uA_s, uA_n, ud_s] at z
      omega
    · rw [if_neg k3]
      refine ⟨fun hq => by simp (disch := omega) only [uA_s, uA_n, ud_n], fun z => ?_⟩
      have z := z.1
      simp (disch := omega) only [uA_s, uA_n, ud_s] at z
      omega
  · rw [kA_f k]; exact ⟨fun _ => rfl, k⟩
theorem kAB_no (h : Int) (A B : hI) : ∀ n q : Nat, q < n → ¬ kC h q (kAB h n A B).1 := by
  intro n
  induction n with
  | zero => intro q hq; omega
  | succ n ih =>
    intro q hq
    show ¬ kC h q (kA h n (kAB h n A B).1)
    by_cases hqn : q = n
    · subst hqn; exact (kA_37 (q := q)).2
    · intro z
      refine ih q (by omega) ?_
      obtain ⟨z1, z2, z3⟩ := z
      rw [(kA_37 (q := q)).1 hqn] at z1
      rw [kA_o (by omega)] at z2 z3
      exact ⟨z1, z2, z3⟩
section FALL
variable {K D : Int} {A0 B0 A B : hI} (F : Nat)
theorem pap_o (A : hI) (p : Nat) {k : Nat} (v : Int) (hk : k ≠ 38) : (∀ c, 32 ≤ c → c ≤ 44 → c ≠ 38 → ∀ q, q ≠ p → uA A k p v c q = A c q) ∧ ∀ q i, q ≠ p → i < 6 → uA A k p v 38 (6 * q + i) = A 38 (6 * q + i) := by
  refine ⟨fun c _ _ _ q hq => ?_, fun q i _ _ => by rw [uA_n (by omega)]⟩
  by_cases h : c = k
  · subst h; rw [uA_s, ud_n hq]
  · rw [uA_n h]
theorem pap_oS (B : hI) (p k : Nat) (v : Int) : ∀ c q, q ≠ p → uA B k p v c q = B c q := by
  intro c q hq
  by_cases h : c = k
  · subst h; rw [uA_s, ud_n hq]
  · rw [uA_n h]
/-- a live one that is no bill dies -/
theorem RR.die (R : RR K D A0 B0 A B) {p : Nat} (hp : p < 60) (h0 : A 37 p = 0) (h1 : A 32 p ≠ 1) : RR K D A0 B0 (uA A 37 p 2) (uA B 456 p 2) := by
  have kr := R.kr hp
  have hk : A 32 p ≠ -1 := by omega
  refine R.pap (fun k hk => uA_n (by omega)) (fun k hk => uA_n (by omega)) ?_
  have z := (R.gP.pz hp).2.resolve_left (fun z => hk z.1)
  refine R.gP.loc hp (pap_o A p 2 (by omega)).1 (pap_o A p 2 (by omega)).2 (fun c _ _ q hq => pap_oS B p 456 2 c q hq) (fun q _ => by rw [uA_n (by omega)]) (uA_n (by omega)) (by rw [uA_n (by omega)]) (by rw [uA_n (by omega)]) (by rw [uA_n (by omega), uA_n (by omega)]; omega) (by rw [uA_n (by omega)]; exact Int.le_refl _) (by rw [uA_n (by omega)]; exact R.gP.pe2) ⟨?_, Or.inr ⟨?_, ?_, ?_⟩⟩ ?_ ?_
  · rw [uA_n (by omega), uA_n (by omega)]; exact (R.gP.pz hp).1
  · obtain ⟨x1, x2, x3, x4, x5, x6, x7, x8, x9, x10, x11, x12, x13, x14, x15, x16, x17, x18, x19⟩ := z.1
    unfold PU
    simp (disch := omega) only [uA_s, uA_n, ud_s]
    exact ⟨x1, x2, x3, x4, x5, x6, x7, ⟨trivial, by omega, by omega⟩, x9, x10, x11, x12, x13, fun y => ⟨(x14 y).1, (x14 y).2.1, by omega⟩, fun y => by omega, fun y => by omega, x17, x18, x19⟩
  · intro y
    rw [uA_n (by omega)] at y
    exact absurd y h1
  · intro _ y
    rw [uA_s, ud_s] at y
    omega
  · intro q hq hqp h3 h4 e
    have g := R.gP.ppg q hq h3 h4
    rw [e, Int.toNat_natCast] at g
    omega
  · intro _ y
    rw [uA_s, ud_s] at y
    omega
/-- a bill that no live pledge stands on is THE BANK's, in no pledge -/
theorem RR.free (R : RR K D A0 B0 A B) {p : Nat} (hp : p < 60) (h1 : A 32 p = 1) {v : Int} (hv : 0 ≤ v ∧ v < A 19 11) (hs : A 37 p = 0) (hn : ∀ q, q < 60 → A 32 q = 3 → A 37 q = 0 → A 41 q ≠ p) : RR K D A0 B0 (uA (uA A 35 p v) 40 p 0) (uA (uA B 454 p v) 464 p 0) := by
  have hk : A 32 p ≠ -1 := by omega
  refine R.pap (fun k hk => by rw [uA_n (by omega), uA_n (by omega)]) (fun k hk => by rw [uA_n (by omega), uA_n (by omega)]) ?_
  have z := (R.gP.pz hp).2.resolve_left (fun z => hk z.1)
  refine R.gP.loc hp (fun c c1 c2 c3 q hq => ((pap_o (uA A 35 p v) p (k := 40) 0 (by omega)).1 c c1 c2 c3 q hq).trans ((pap_o A p (k := 35) v (by omega)).1 c c1 c2 c3 q hq)) (fun q i hq hi => by rw [uA_n (by omega), uA_n (by omega)]) (fun c _ _ q hq => (pap_oS _ p 464 0 c q hq).trans (pap_oS B p 454 v c q hq)) (fun q _ => by rw [uA_n (by omega), uA_n (by omega)]) (by rw [uA_n (by omega), uA_n (by omega)]) (by rw [uA_n (by omega), uA_n (by omega)]) (by rw [uA_n (by omega), uA_n (by omega)]) (by simp (disch := omega) only [uA_n]; omega) (by simp (disch := omega) only [uA_n]; exact Int.le_refl _) (by simp (disch := omega) only [uA_n]; exact R.gP.pe2) ⟨?_, Or.inr ⟨?_, ?_, ?_⟩⟩ ?_ ?_
  · simp (disch := omega) only [uA_n]; exact (R.gP.pz hp).1
  · obtain ⟨x1, x2, x3, x4, x5, x6, x7, x8, x9, x10, x11, x12, x13, x14, x15, x16, x17, x18, x19⟩ := z.1
    unfold PU
    simp (disch := omega) only [uA_s, uA_n, ud_s]
    exact ⟨x1, x2, x3, x4, x5, ⟨trivial, hv.1, hv.2⟩, x7, x8, x9, ⟨trivial, by omega, by omega⟩, x11, x12, x13, x14, x15, x16, fun y => by omega, fun y => by omega, x19⟩
  · intro y
    obtain ⟨u1, u2, u3⟩ := z.2.1 h1
    simp (disch := omega) only [uA_s, uA_n, ud_s]
    refine ⟨u1, fun i hi => ?_, fun y => by omega⟩
    rw [uA_n (by omega), uA_n (by omega)]
    exact u2 i hi
  · intro y
    simp (disch := omega) only [uA_n] at y
    omega
  · intro q hq hqp h3 h4 e
    exact absurd e (hn q hq h3 h4)
  · intro y
    simp (disch := omega) only [uA_n] at y
    omega
theorem RR.k1 (R : RR K D A0 B0 A B) {p : Nat} (hp : p < 60) (h : Int) : RR K D A0 B0 (kA h p A) (kB h p A B) := by
  by_cases k : kC h p A
  · rw [kA_t k, kB_t k]
    have R1 := R.die hp k.1 k.2.2
    by_cases k3 : A 32 p = 3
    · rw [if_pos k3, if_pos k3]
      obtain ⟨g1, g2, g3, g4, g5, g6, g7, g8⟩ := R.gP.ppg p hp k3 k.1
      have hne : (A 41 p).toNat ≠ p := fun z => by rw [z] at g4; omega
      have hb := (R.gP.ph _ (show (A 41 p).toNat < 60 by omega) (by omega)).1
      have R2 := R1.free (p := (A 41 p).toNat) (v := 0) (by omega) (by rw [uA_n (by omega)]; exact g4) (by rw [uA_n (by omega)]; have := R.gH.hn1; omega) (by rw [uA_s, ud_n hne]; exact g5) (fun q hq h3 h4 e => by
        rw [uA_n (by omega)] at h3 e
        by_cases hqp : q = p
        · subst hqp; rw [uA_s, ud_s] at h4; omega
        · rw [uA_s, ud_n hqp] at h4
          exact hqp (R.gP.ppd q p hq hp h3 h4 k3 k.1 (by omega)))
      have e : uA (uA B 456 p 2) 454 (A 41 p).toNat 0 = uA B 456 p 2 := uA_id2 (by rw [uA_n (by omega), hb]; exact g7)
      rw [e] at R2
      exact R2
    · rw [if_neg k3, if_neg k3]; exact R1
  · rw [kA_f k, kB_f k]; exact R
theorem RR.kn (R : RR K D A0 B0 A B) (h : Int) : ∀ n : Nat, n ≤ 60 → RR K D A0 B0 (kAB h n A B).1 (kAB h n A B).2 := by
  intro n
  induction n with
  | zero => intro _; exact R
  | succ n ih => intro hn; exact (ih (by omega)).k1 (by omega) h
theorem RR.kend (R : RR K D A0 B0 A B) (h : Int) : ∀ n : Nat, A 31 15 ≤ n → n ≤ 60 → kAB h n A B = kAB h (A 31 15).toNat A B := by
  have h1 := R.gP.pe1
  intro n
  induction n with
  | zero => intro hn _; rw [show (A 31 15).toNat = 0 by omega]
  | succ n ih =>
    intro hn h60
    by_cases e : A 31 15 = ((n + 1 : Nat) : Int)
    · rw [e, Int.toNat_natCast]
    · have i := ih (by omega) (by omega)
      have Rn := R.kn h n (by omega)
      have o := kAB_o h A B n
      have hk : (kAB h n A B).1 32 n = -1 := Rn.gP.pe3 n (by omega) (by rw [o.1 31 (by omega)]; omega)
      have kr := Rn.kr (p := n) (by omega)
      have no : ¬ kC h n (kAB h n A B).1 := fun z => by have := z.1; omega
      rw [← i]
      show (kA h n (kAB h n A B).1, kB h n (kAB h n A B).1 (kAB h n A B).2) = _
      rw [kA_f no, kB_f no]
/-- the house's fall itself -/
def fl (A : hI) (h : Nat) (d p t w : Int) : hI := uA (uA (uA (uA (uA A 27 h d) 28 h p) 29 h t) 30 h w) 19 12 (A 19 12 + 1)
def flS (B : hI) (h : Nat) (d p t w : Int) : hI := uA (uA (uA (uA (uA B 413 h 0) 418 h d) 419 h p) 420 h t) 421 h w
theorem uA_sw (A : hI) {k k' : Nat} (h : k ≠ k') (j j' : Nat) (v v' : Int) : uA (uA A k j v) k' j' v' = uA (uA A k' j' v') k j v := by
  funext c
  by_cases h1 : c = k
  · subst h1; rw [uA_n h, uA_s, uA_s, uA_n h]
  · by_cases h2 : c = k'
    · subst h2; rw [uA_s, uA_n h1, uA_n h1, uA_s]
    · rw [uA_n h2, uA_n h1, uA_n h1, uA_n h2]
theorem fl_u (A : hI) (h : Nat) (d p t w : Int) {k j : Nat} {v : Int} (hk : k ≠ 19 ∧ k ≠ 27 ∧ k ≠ 28 ∧ k ≠ 29 ∧ k ≠ 30) : uA (fl A h d p t w) k j v = fl (uA A k j v) h d p t w := by
  unfold fl
  rw [uA_n (k := k) (k' := 19) (by omega), uA_sw _ (show (19 : Nat) ≠ k by omega), uA_sw _ (show (30 : Nat) ≠ k by omega), uA_sw _ (show (29 : Nat) ≠ k by omega), uA_sw _ (show (28 : Nat) ≠ k by omega), uA_sw _ (show (27 : Nat) ≠ k by omega)]
theorem flS_u (B : hI) (h : Nat) (d p t w : Int) {k j : Nat} {v : Int} (hk : 450 ≤ k) : uA (flS B h d p t w) k j v = flS (uA B k j v) h d p t w := by
  unfold flS
  rw [uA_sw _ (show (421 : Nat) ≠ k by omega), uA_sw _ (show (420 : Nat) ≠ k by omega), uA_sw _ (show (419 : Nat) ≠ k by omega), uA_sw _ (show (418 : Nat) ≠ k by omega), uA_sw _ (show (413 : Nat) ≠ k by omega)]
theorem fl_o (A : hI) (h : Nat) (d p t w : Int) {k : Nat} (hk : k ≠ 19 ∧ k ≠ 27 ∧ k ≠ 28 ∧ k ≠ 29 ∧ k ≠ 30) : fl A h d p t w k = A k := by
  unfold fl
  simp (disch := omega) only [uA_n]
theorem flS_o (B : hI) (h : Nat) (d p t w : Int) {k : Nat} (hk : k ≠ 413 ∧ ¬ (418 ≤ k ∧ k ≤ 421)) : flS B h d p t w k = B k := by
  unfold flS
  simp (disch := omega) only [uA_n]
theorem RR.fall (R : RR K D A0 B0 A B) {h : Nat} (h1 : 1 ≤ h) (hh : (h : Int) < A 19 11) (hup : A 27 h = -1) (hno : ∀ q, q < 60 → ¬ kC h q A) {p t w : Int} : RR K D A0 B0 (fl A h (A 16 9) p t w) (flS B h (A 16 9) p t w) := by
  have hA : ∀ k : Nat, k ≠ 19 ∧ k ≠ 27 ∧ k ≠ 28 ∧ k ≠ 29 ∧ k ≠ 30 → fl A h (A 16 9) p t w k = A k := fun k hk => fl_o A h _ p t w hk
  have hB : ∀ k : Nat, k ≠ 413 ∧ ¬ (418 ≤ k ∧ k ≤ 421) → flS B h (A 16 9) p t w k = B k := fun k hk => flS_o B h _ p t w hk
  have h4 : ∀ j : Nat, j ≠ 99 → flS B h (A 16 9) p t w 400 j = B 400 j := fun j _ => by rw [hB 400 (by omega)]
  have a19 : ∀ j : Nat, j ≠ 12 → fl A h (A 16 9) p t w 19 j = A 19 j := fun j hj => by unfold fl; rw [uA_s, ud_n hj]; simp (disch := omega) only [uA_n]
  have a27 : fl A h (A 16 9) p t w 27 = ud (A 27) h (A 16 9) := by unfold fl; simp (disch := omega) only [uA_n, uA_s]
  have hd1 := R.gD.dd1
  refine ⟨⟨?_, ?_, ?_, ?_, ?_, (by apply R.gS.c <;> first | rfl | exact hA _ (by omega) | exact congrFun (hA _ (by omega)) _ | exact hB _ (by omega) | exact h4 _ (by omega) | (intro k hk1 hk2; exact hB k (by omega)) | (simp (disch := omega) only [uA_s, uA_n, ud_n]; done)), (by apply R.gD.c <;> first | rfl | exact hA _ (by omega) | exact congrFun (hA _ (by omega)) _ | exact hB _ (by omega) | exact h4 _ (by omega) | (intro k hk1 hk2; exact hB k (by omega)) | (simp (disch := omega) only [uA_s, uA_n, ud_n]; done)), (by apply R.gW.c <;> first | rfl | exact hA _ (by omega) | exact congrFun (hA _ (by omega)) _ | exact hB _ (by omega) | exact h4 _ (by omega) | (intro k hk1 hk2; exact hB k (by omega)) | (simp (disch := omega) only [uA_s, uA_n, ud_n]; done)), (by apply R.gX.c <;> first | rfl | exact hA _ (by omega) | exact congrFun (hA _ (by omega)) _ | exact hB _ (by omega) | exact h4 _ (by omega) | (intro k hk1 hk2; exact hB k (by omega)) | (simp (disch := omega) only [uA_s, uA_n, ud_n]; done)), ?_, (by apply R.gI.c <;> first | rfl | exact hA _ (by omega) | exact congrFun (hA _ (by omega)) _ | exact hB _ (by omega) | exact h4 _ (by omega) | (intro k hk1 hk2; exact hB k (by omega)) | (simp (disch := omega) only [uA_s, uA_n, ud_n]; done))⟩, R.sx.tr ?_, R.sb.tr (SB.st (fun k hk => hB k (by omega)))⟩
  · exact R.gL.c (hA 17 (by omega)) (hA 18 (by omega)) (hB _ (by omega)) (hB _ (by omega)) (hB _ (by omega)) (hB _ (by omega)) (h4 _ (by omega)) (h4 _ (by omega))
  · obtain ⟨x1, x2, x3, x4, x5, x6, x7, x8, x9, x10, x11, x12, x13, x14, x15, x16, x17, x18, x19, x20, x21⟩ := R.gH
    unfold WH
    have a28 : fl A h (A 16 9) p t w 28 = ud (A 28) h p := by unfold fl; simp (disch := omega) only [uA_n, uA_s]
    have a29 : fl A h (A 16 9) p t w 29 = ud (A 29) h t := by unfold fl; simp (disch := omega) only [uA_n, uA_s]
    have a30 : fl A h (A 16 9) p t w 30 = ud (A 30) h w := by unfold fl; simp (disch := omega) only [uA_n, uA_s]
    have b13 : flS B h (A 16 9) p t w 413 = ud (B 413) h 0 := by unfold flS; simp (disch := omega) only [uA_n, uA_s]
    have b18 : flS B h (A 16 9) p t w 418 = ud (B 418) h (A 16 9) := by unfold flS; simp (disch := omega) only [uA_n, uA_s]
    have b19 : flS B h (A 16 9) p t w 419 = ud (B 419) h p := by unfold flS; simp (disch := omega) only [uA_n, uA_s]
    have b20 : flS B h (A 16 9) p t w 420 = ud (B 420) h t := by unfold flS; simp (disch := omega) only [uA_n, uA_s]
    have b21 : flS B h (A 16 9) p t w 421 = ud (B 421) h w := by unfold flS; simp (disch := omega) only [uA_n, uA_s]
    have a1912 : fl A h (A 16 9) p t w 19 12 = A 19 12 + 1 := by unfold fl; rw [uA_s, ud_s]
    simp only [a27, a28, a29, a30, b13, b18, b19, b20, b21, a1912, a19 11 (by omega), hA 20 (by omega), hA 21 (by omega), hA 22 (by omega), hA 23 (by omega), hA 24 (by omega), hA 25 (by omega), hA 26 (by omega), hA 17 (by omega), hA 16 (by omega), hB 400 (by omega), hB 410 (by omega), hB 411 (by omega), hB 412 (by omega), hB 414 (by omega), hB 415 (by omega), hB 416 (by omega), hB 417 (by omega)]
    refine ⟨x1, x2, x3, x4, x5, x6, x7, x8, x9, x10, x11, x12, x13, x14, x15, x16, x17, x18, fun g hg => ?_, by rw [ud_n (by omega)]; exact x20, ?_⟩
    · by_cases e : g = h
      · subst e; simp only [ud_s]; exact Or.inr ⟨hd1, Int.le_refl _, trivial, trivial, trivial, trivial, trivial⟩
      · simp only [ud_n e]; exact x19 g hg
    · have e : sm (A 19 11).toNat (fun g => bI (ud (A 27) h (A 16 9) g ≠ -1)) = sm (A 19 11).toNat (ud (fun g => bI (A 27 g ≠ -1)) h 1) := by
        refine sm_c fun g hg => ?_
        by_cases e : g = h
        · subst e; rw [ud_s, ud_s]; exact bI_t (by omega)
        · rw [ud_n e, ud_n e]
      rw [e, sm_ud (by omega), ← x21, bI_f (fun z => z hup)]
      omega
  · exact R.gN.c (hA 55 (by omega)) (hA 56 (by omega)) (hA 57 (by omega)) (hA 58 (by omega)) (hA 59 (by omega)) (hA 60 (by omega)) (hA 61 (by omega)) (hA 2 (by omega)) (hA 3 (by omega)) (hA 4 (by omega)) (hA 5 (by omega)) (hA 6 (by omega)) (hB _ (by omega)) (hB _ (by omega)) (hB _ (by omega)) (hB _ (by omega)) (hB _ (by omega)) (hB _ (by omega)) (hB _ (by omega)) (hB _ (by omega)) (hB _ (by omega)) (hB _ (by omega)) (hB _ (by omega)) (hB _ (by omega)) (hB _ (by omega)) (hB _ (by omega)) (hB _ (by omega)) (hB _ (by omega)) (hB _ (by omega)) (a19 11 (by omega)) (h4 _ (by omega)) (h4 _ (by omega))
  · have P := R.gP
    refine WP.of ?_ ?_ ?_ (fun q hq => ?_) ?_
    · simp (disch := omega) only [hA]; exact P.pu
    · simp (disch := omega) only [hA]; exact P.pe1
    · simp (disch := omega) only [hA]; exact P.pe2
    · obtain ⟨z1, z2⟩ := P.pz hq
      unfold PZ PF PU PB PG
      simp only [a27, a19 11 (by omega), hA 16 (by omega), hA 31 (by omega), hA 32 (by omega), hA 33 (by omega), hA 34 (by omega), hA 35 (by omega), hA 36 (by omega), hA 37 (by omega), hA 38 (by omega), hA 39 (by omega), hA 40 (by omega), hA 41 (by omega), hA 42 (by omega), hA 43 (by omega), hA 44 (by omega), hB 450 (by omega), hB 451 (by omega), hB 452 (by omega), hB 453 (by omega), hB 454 (by omega), hB 455 (by omega), hB 456 (by omega), hB 457 (by omega), hB 464 (by omega), hB 465 (by omega), hB 466 (by omega), hB 467 (by omega), hB 468 (by omega), hB 350 (by omega)]
      refine ⟨z1, z2.imp id (fun z => ⟨?_, fun y => ?_, z.2.2⟩)⟩
      · obtain ⟨x1, x2, x3, x4, x5, x6, x7, x8, x9, x10, x11, x12, x13, x14, x15, x16, x17, x18, x19⟩ := z.1
        refine ⟨x1, x2, x3, x4, x5, x6, x7, x8, x9, x10, x11, x12, x13, x14, x15, fun y1 y2 => ?_, x17, x18, x19⟩
        rw [ud_n (fun e => hno q hq ⟨y1, by omega, y2⟩)]
        exact x16 y1 y2
      · obtain ⟨u1, u2, u3⟩ := z.2.1 y
        exact ⟨u1, fun i hi => by rw [hB _ (by omega)]; exact u2 i hi, u3⟩
    · simp only [hA 32 (by omega), hA 37 (by omega), hA 41 (by omega)]; exact P.ppd
  · exact R.gT.c (hA _ (by omega)) (hA _ (by omega)) (hA _ (by omega)) (hA _ (by omega)) (hA _ (by omega)) (hA _ (by omega)) (hB _ (by omega)) (hB _ (by omega)) (hB _ (by omega)) (hB _ (by omega)) (hB _ (by omega)) (a19 11 (by omega)) (h4 _ (by omega))
  · exact R.gG.c (hA _ (by omega)) (a19 11 (by omega))
  · exact SX.st (fun k hk => hA k (by omega)) (by rw [hA 16 (by omega)]) (by rw [hA 16 (by omega)]) (by rw [hA 55 (by omega)]) (by rw [hA 55 (by omega)]) (fun c _ => by rw [hA 59 (by omega)])
end FALL
