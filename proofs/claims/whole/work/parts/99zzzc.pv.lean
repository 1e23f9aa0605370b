/-! A PLAN: beginnings of rows that both sides have gone -/
section PVS
variable {K D : Int} {A B A' A1 w rc : hI}
def Nm (A : hI) : Prop := ∀ k j : Nat, 2 ≤ k → k < 62 → (k ≠ 16 ∨ j ≠ 12) → -2147483648 ≤ A k j ∧ A k j < 2147483648
def nr2 (A : hI) : hI := fun k j => if 2 ≤ k ∧ k < 62 ∧ (k ≠ 16 ∨ j ≠ 12) then nv (A k j) else A k j
theorem nr2_i (A : hI) {k j : Nat} (h1 : 2 ≤ k) (h2 : k < 62) (h3 : k ≠ 16 ∨ j ≠ 12) : nr2 A k j = nv (A k j) := if_pos ⟨h1, h2, h3⟩
theorem nr2_12 (A : hI) : nr2 A 16 12 = A 16 12 := if_neg (by omega)
theorem nr2_o (A : hI) {k : Nat} (h : k < 2 ∨ 62 ≤ k) : nr2 A k = A k := funext fun j => if_neg (by omega)
theorem nr2_nm (A : hI) : Nm (nr2 A) := fun k j h1 h2 h3 => by rw [nr2_i A h1 h2 h3]; exact nv_rg _
theorem Nm.nv (h : Nm A) {k j : Nat} (h1 : 2 ≤ k) (h2 : k < 62) (h3 : k ≠ 16 ∨ j ≠ 12) : nv (A k j) = A k j := nv_id (h k j h1 h2 h3).1 (h k j h1 h2 h3).2
theorem mk_nr2 (A Bx : hI) : mk (nr2 A) Bx = mk A Bx := by
  refine Prod.ext (funext fun k => funext fun j => ?_) rfl
  by_cases h : k < 304
  · rw [rA h, rA h]
    unfold nr2
    split
    · exact iI_nv _
    · rfl
  · show (if k < 304 then _ else _) = (if k < 304 then _ else _)
    rw [if_neg h, if_neg h]
theorem AGR.nr {w : hI} (h : AGR w A A1) (n : Nm A) : AGR w A (nr2 A1) := by
  obtain ⟨h1, h2, h3, h4⟩ := h
  have e : ∀ k j : Nat, 2 ≤ k → k < 15 → A1 k j = A k j → nr2 A1 k j = A k j := fun k j a b z => by rw [nr2_i A1 a (by omega) (by omega), z, n.nv a (by omega) (by omega)]
  refine ⟨fun c hc => ⟨e _ _ (by omega) (by omega) (h1 c hc).1, fun i hi => e _ _ (by omega) (by omega) ((h1 c hc).2 i hi)⟩, fun i a b => ?_, fun k i a b => e _ _ (by omega) (by omega) (h3 k i a b), fun x hx => ?_⟩
  · obtain ⟨z1, z2, z3⟩ := h2 i a b
    exact ⟨e _ _ (by omega) (by omega) z1, e _ _ (by omega) (by omega) z2, e _ _ (by omega) (by omega) z3⟩
  · obtain ⟨z1, z2, z3, z4, z5, z6⟩ := h4 x hx
    exact ⟨e _ _ (by omega) (by omega) z1, e _ _ (by omega) (by omega) z2, e _ _ (by omega) (by omega) z3, e _ _ (by omega) (by omega) z4, e _ _ (by omega) (by omega) z5, fun i hi => e _ _ (by omega) (by omega) (z6 i hi)⟩
/-- the counts are small -/
theorem WR.cnt (h : WR w rc B K D) : (0 ≤ w 55 7 ∧ w 55 7 ≤ 400) ∧ (∀ c : Nat, (c : Int) < w 55 7 → 0 ≤ w 59 c ∧ w 59 c ≤ 8) ∧ (0 ≤ w 55 12 ∧ w 55 12 ≤ 400) ∧ (0 ≤ w 16 9 ∧ w 16 9 ≤ 700) ∧ 0 ≤ w 16 14 ∧ w 16 14 ≤ 12 := by
  have R : RR K D w B w B → True := fun _ => trivial
  obtain ⟨hL, hH, hN, hP, hT, hS, hD, hW, hX, hG, hI⟩ := h
  have cn := sm_cnt (w 55 7).toNat (fun e => w 58 e = -1)
  have fc := hN.nfc
  have c1 := hN.nc1
  have c2 := hN.nc2
  rw [← fc] at cn
  exact ⟨⟨c1, c2⟩, fun c hc => (hN.ntl c hc).2, by omega, ⟨hD.dd1, hD.dd2⟩, hX.xn1, hX.xn2⟩
/-- what is read of a land's counts, its cells read anew -/
theorem MON.nr (h : MON A A1) (h2 : WR A1 rc B K D) : MON A (nr2 A1) := by
  obtain ⟨a, b, c, d, e⟩ := h
  obtain ⟨y1, y2, y3, y4, y5⟩ := h2.cnt
  unfold MON
  rw [nr2_i A1 (by omega) (by omega) (by omega), nr2_i A1 (by omega) (by omega) (by omega), nr2_i A1 (by omega) (by omega) (by omega), nr2_i A1 (by omega) (by omega) (by omega), nv_id (by omega) (by omega), nv_id (by omega) (by omega), nv_id (by omega) (by omega), nv_id (by omega) (by omega)]
  refine ⟨a, fun c hc => ?_, c, d, e⟩
  have z := y2 c (by omega)
  rw [nr2_i A1 (by omega) (by omega) (by omega), nv_id (by omega) (by omega)]
  exact b c hc
theorem RR.rfu {A0 : hI} {B1 : hI} (R : RR K D A0 B1 A B) (v : Int) : RR K D A0 B1 (uA A 16 12 v) (uA B 400 8 v) := by
  have hA : ∀ k : Nat, k ≠ 16 → uA A 16 12 v k = A k := fun k hk => uA_n hk
  have hB : ∀ k : Nat, k ≠ 400 → uA B 400 8 v k = B k := fun k hk => uA_n hk
  have h4 : ∀ j : Nat, j ≠ 8 → uA B 400 8 v 400 j = B 400 j := fun j hj => by rw [uA_s, ud_n hj]
  refine ⟨⟨(by apply R.gL.c <;> first | rfl | exact hA _ (by omega) | exact congrFun (hA _ (by omega)) _ | exact hB _ (by omega) | exact h4 _ (by omega) | (intro k hk1 hk2; exact hB k (by omega)) | (simp (disch := omega) only [uA_s, uA_n, ud_n]; done)), (by apply R.gH.c <;> first | rfl | exact hA _ (by omega) | exact congrFun (hA _ (by omega)) _ | exact hB _ (by omega) | exact h4 _ (by omega) | (intro k hk1 hk2; exact hB k (by omega)) | (simp (disch := omega) only [uA_s, uA_n, ud_n]; done)), (by apply R.gN.c <;> first | rfl | exact hA _ (by omega) | exact congrFun (hA _ (by omega)) _ | exact hB _ (by omega) | exact h4 _ (by omega) | (intro k hk1 hk2; exact hB k (by omega)) | (simp (disch := omega) only [uA_s, uA_n, ud_n]; done)), (by apply R.gP.c <;> first | rfl | exact hA _ (by omega) | exact congrFun (hA _ (by omega)) _ | exact hB _ (by omega) | exact h4 _ (by omega) | (intro k hk1 hk2; exact hB k (by omega)) | (simp (disch := omega) only [uA_s, uA_n, ud_n]; done)), (by apply R.gT.c <;> first | rfl | exact hA _ (by omega) | exact congrFun (hA _ (by omega)) _ | exact hB _ (by omega) | exact h4 _ (by omega) | (intro k hk1 hk2; exact hB k (by omega)) | (simp (disch := omega) only [uA_s, uA_n, ud_n]; done)), (by apply R.gS.c <;> first | rfl | exact hA _ (by omega) | exact congrFun (hA _ (by omega)) _ | exact hB _ (by omega) | exact h4 _ (by omega) | (intro k hk1 hk2; exact hB k (by omega)) | (simp (disch := omega) only [uA_s, uA_n, ud_n]; done)), ?_, (by apply R.gW.c <;> first | rfl | exact hA _ (by omega) | exact congrFun (hA _ (by omega)) _ | exact hB _ (by omega) | exact h4 _ (by omega) | (intro k hk1 hk2; exact hB k (by omega)) | (simp (disch := omega) only [uA_s, uA_n, ud_n]; done)), (by apply R.gX.c <;> first | rfl | exact hA _ (by omega) | exact congrFun (hA _ (by omega)) _ | exact hB _ (by omega) | exact h4 _ (by omega) | (intro k hk1 hk2; exact hB k (by omega)) | (simp (disch := omega) only [uA_s, uA_n, ud_n]; done)), (by apply R.gG.c <;> first | rfl | exact hA _ (by omega) | exact congrFun (hA _ (by omega)) _ | exact hB _ (by omega) | exact h4 _ (by omega) | (intro k hk1 hk2; exact hB k (by omega)) | (simp (disch := omega) only [uA_s, uA_n, ud_n]; done)), (by apply R.gI.c <;> first | rfl | exact hA _ (by omega) | exact congrFun (hA _ (by omega)) _ | exact hB _ (by omega) | exact h4 _ (by omega) | (intro k hk1 hk2; exact hB k (by omega)) | (simp (disch := omega) only [uA_s, uA_n, ud_n]; done))⟩, R.sx.tr ?_, R.sb.tr (SB.st (fun k hk => hB k (by omega)))⟩
  · obtain ⟨x1, x2, x3, x4, x5, x6, x7, x8, x9, x10, x11, x12, x13, x14, x15⟩ := R.gD
    unfold WD
    simp (disch := omega) only [uA_s, ud_n, ud_s]
    exact ⟨x1, x2, x3, x4, x5, x6, x7, x8, x9, x10, x11, trivial, x13, x14, x15⟩
  · exact SX.st (fun k hk => hA k (by omega)) (by rw [uA_s, ud_n (by omega)]) (by rw [uA_s, ud_n (by omega)]) (by rw [hA 55 (by omega)]) (by rw [hA 55 (by omega)]) (fun c _ => by rw [hA 59 (by omega)])
theorem mk_iI (Ax : hI) {B B' : hI} (h : ∀ k j, iI (B' k j) = iI (B k j)) (h2 : B' 399 = B 399) : mk Ax B' = mk Ax B := by
  refine Prod.ext (funext fun k => funext fun j => ?_) (funext fun k => ?_)
  · show (if k < 304 then _ else if k = 305 then _ else if k = 313 then _ else if k = 314 then _ else if k < 318 then _ else _) = (if k < 304 then _ else if k = 305 then _ else if k = 313 then _ else if k = 314 then _ else if k < 318 then _ else _)
    (repeat' split) <;> first | rfl | exact h _ _
  · show Int64.ofInt (B' 399 k) = Int64.ofInt (B 399 k)
    rw [h2]
theorem SX.nr (h : SX A A1) (n : Nm A) (h2 : WR A1 rc B K D) : SX A (nr2 A1) := by
  obtain ⟨a, b, c, d⟩ := h
  refine ⟨fun k hk => ?_, ?_, c.nr h2, d.nr n⟩
  · by_cases g : k < 2 ∨ 62 ≤ k
    · rw [nr2_o A1 g]; exact a k hk
    · funext j
      rw [nr2_i A1 (by omega) (by omega) (by omega), a k hk, n.nv (by omega) (by omega) (by omega)]
  · rw [nr2_i A1 (by omega) (by omega) (by omega), b, n.nv (by omega) (by omega) (by omega)]
/-- the reference's memory with other numbers of the row under way -/
def m316 (M : mM) (g : Nat → Int32) : mM := (fun k => if k = 316 then g else M.1 k, M.2)
theorem m316_self (M : mM) : m316 M (M.1 316) = M := Prod.ext (funext fun k => by show (if k = 316 then _ else _) = _; split <;> simp_all) rfl
theorem m316_2 (M : mM) (g g2 : Nat → Int32) : m316 (m316 M g) g2 = m316 M g2 := Prod.ext (funext fun k => by show (if k = 316 then _ else (if k = 316 then _ else _)) = (if k = 316 then _ else _); split <;> rfl) rfl
def b316 (B : hI) (g : Nat → Int32) : hI := fun k j => if k = 316 then (g j).toInt else B k j
theorem b316_o (B : hI) (g : Nat → Int32) {k : Nat} (h : k ≠ 316) : b316 B g k = B k := funext fun _ => if_neg h
theorem m316_mk (Ax B : hI) (g : Nat → Int32) : m316 (mk Ax B) g = mk Ax (b316 B g) := by
  refine Prod.ext (funext fun k => funext fun j => ?_) (funext fun k => ?_)
  · have hd := dec_rg j
    show (if k = 316 then g else (mk Ax B).1 k) j = _
    by_cases c : k = 316
    · subst c
      rw [if_pos rfl, rB (k := 316) (B := b316 B g) (by omega) (by omega) (by omega) (by omega) (by omega)]
      show _ = iI (if 316 = 316 then (g j).toInt else _)
      rw [if_pos rfl]
      exact iI_of _
    · rw [if_neg c]
      show (if k < 304 then _ else if k = 305 then _ else if k = 313 then _ else if k = 314 then _ else if k < 318 then _ else _) = (if k < 304 then _ else if k = 305 then _ else if k = 313 then _ else if k = 314 then _ else if k < 318 then _ else _)
      rw [b316_o B g c, b316_o B g (show (dec j).1 ≠ 316 by omega), b316_o B g (show 1000 + (dec j).1 ≠ 316 by omega), b316_o B g (show 2000 + (dec j).1 ≠ 316 by omega), b316_o B g (show 10000 + k ≠ 316 by omega)]
  · show Int64.ofInt (B 399 k) = Int64.ofInt (b316 B g 399 k)
    rw [b316_o B g (by omega)]
variable (F : Nat) (Ax B0 : hI) (Bs : mM → Prop)
/-- memories of the reference after the weeks of a row's beginning (the last week first) -/
def Rch : List Int → mM → Prop
  | [], M => Bs M
  | r :: p, M => ∃ (M1 M2 : mM) (g : Nat → Int32), Rch p M1 ∧ f_m_goesWeek F (iI r) M1 = some ((), M2) ∧ M = m316 M2 g
theorem Rch.up (hb : ∀ M g, Bs M → Bs (m316 M g)) {p : List Int} {M : mM} (h : Rch F Bs p M) (g : Nat → Int32) : Rch F Bs p (m316 M g) := by
  cases p with
  | nil => exact hb M g h
  | cons r p =>
    obtain ⟨M1, M2, g1, h1, h2, rfl⟩ := h
    exact ⟨M1, M2, g, h1, h2, m316_2 _ _ _⟩
def fB (B : hI) : Prop := (∀ k : Nat, k = 306 ∨ k = 311 ∨ k = 317 ∨ k = 350 ∨ 1000 ≤ k → B k = B0 k) ∧ B 304 9 = B0 304 9 ∧ B 304 24 = B0 304 24 ∧ B 304 29 = B0 304 29 ∧ B 304 30 = B0 304 30
/-- the class's land is what the reference has after those weeks -/
def PV (K : Int) (p : List Int) (w rc : hI) : Prop := (∃ M, Rch F Bs p M) ∧ ∀ M, Rch F Bs p M → ∃ B, M = mk Ax B ∧ WR w rc B K (w 16 9) ∧ fB B0 B
def RUN (r : Int) (p : List Int) : Prop := ∀ M, Rch F Bs p M → ∃ M2, f_m_goesWeek F (iI r) M = some ((), M2) ∧ M2.1 315 = M.1 315 ∧ M2.1 316 = M.1 316
theorem PV.mv {w' rc' : hI} {p : List Int} (h : PV F Ax B0 Bs K p w rc) (hK : K < 2147483648) (e : ∀ k j, inSz k j → w' k j = w k j) (g : AGR w rc rc') : PV F Ax B0 Bs K p w' rc' := by
  refine ⟨h.1, fun M hM => ?_⟩
  obtain ⟨B, x, y, z⟩ := h.2 M hM
  refine ⟨B, x, ?_, z⟩
  rw [e 16 9 (by unfold inSz; omega)]
  exact (y.rc g).sz hK e (fun _ _ => rfl) rfl
theorem PV.one {p : List Int} (h : PV F Ax B0 Bs K p w rc) : ∃ B, WR w rc B K (w 16 9) := by
  obtain ⟨⟨M, hM⟩, h2⟩ := h
  obtain ⟨B, -, y, -⟩ := h2 M hM
  exact ⟨B, y⟩
theorem PV.step (hb : ∀ M g, Bs M → Bs (m316 M g)) {p : List Int} (h : PV F Ax B0 Bs K p A A) (hN : Nm A) (hF : 1000 ≤ F) (hd : A 16 9 + 7 ≤ 700) (hK : K + 9310000 ≤ 998000000) (hG : ∀ q, B0 350 q = 0) {r : Int} (hr : 0 ≤ r ∧ r ≤ 20) (Bx : hI) : ∃ A', f_World_passDays F 7 0 (mk (uA A 16 10 r) Bx) = some ((), mk A' Bx) ∧ PV F Ax B0 Bs (K + 9310000) (r :: p) A' A' ∧ RUN F Bs r p ∧ Nm A' ∧ A' 16 9 = A 16 9 + 7 ∧ A' 16 10 = r ∧ (A 16 12 ≤ A' 16 12 ∧ A' 16 12 ≤ A 16 12 + 6300) ∧ SX A A' := by
  obtain ⟨⟨M0, hM0⟩, hP⟩ := h
  have core : ∀ M, Rch F Bs p M → ∃ A1 B1 : hI, f_World_passDays F 7 0 (mk (uA A 16 10 r) Bx) = some ((), mk A1 Bx) ∧ f_m_goesWeek F (iI r) M = some ((), mk Ax B1) ∧ WR A1 A1 B1 (K + 9310000) (A1 16 9) ∧ A1 16 9 = A 16 9 + 7 ∧ A1 16 10 = r ∧ (A 16 12 ≤ A1 16 12 ∧ A1 16 12 ≤ A 16 12 + 6300) ∧ SX A A1 ∧ fB B0 B1 ∧ (mk Ax B1).1 315 = M.1 315 ∧ (mk Ax B1).1 316 = M.1 316 := by
    intro M hM
    obtain ⟨B, rfl, W, f1, f2, f3, f4, f5⟩ := hP M hM
    obtain ⟨A1, B1, x, y, R, e9, e10, e12, s, t1, t2, t3, t4, t5⟩ := wkT F W (fun q => by rw [f1 350 (by omega)]; exact hG q) hF hd hK hr Ax Bx
    refine ⟨A1, B1, x, y, R, e9, e10, e12, s, ⟨fun k hk => (t1 k (by omega)).trans (f1 k hk), t2.trans f2, t3.trans f3, t4.trans f4, t5.trans f5⟩, funext fun j => ?_, funext fun j => ?_⟩
    · rw [rB (k := 315) (B := B1) (by omega) (by omega) (by omega) (by omega) (by omega), rB (k := 315) (B := B) (by omega) (by omega) (by omega) (by omega) (by omega), t1 315 (by omega)]
    · rw [rB (k := 316) (B := B1) (by omega) (by omega) (by omega) (by omega) (by omega), rB (k := 316) (B := B) (by omega) (by omega) (by omega) (by omega) (by omega), t1 316 (by omega)]
  obtain ⟨A1, B1, x, y, R, e9, e10, e12, s, f, -, -⟩ := core M0 hM0
  have cn := R.cnt
  have d0 := cn.2.2.2.1
  have e9' : nr2 A1 16 9 = A1 16 9 := by rw [nr2_i A1 (by omega) (by omega) (by omega), nv_id (by omega) (by omega)]
  refine ⟨nr2 A1, x.trans (by rw [mk_nr2]), ⟨⟨mk Ax B1, M0, mk Ax B1, _, hM0, y, (m316_self _).symm⟩, fun M hM => ?_⟩, fun M hM => ?_, nr2_nm A1, e9'.trans e9, ?_, ?_, s.nr hN R⟩
  · obtain ⟨M1, M2, g, h1, h2, rfl⟩ := hM
    obtain ⟨A2, B2, x2, y2, R2, u9, -, u12, -, f2, -, -⟩ := core M1 h1
    have eM : M2 = mk Ax B2 := by
      have z := h2.symm.trans y2
      exact congrArg Prod.snd (Option.some.inj z)
    have eA : mk A2 Bx = mk A1 Bx := by
      have z := x2.symm.trans x
      exact congrArg Prod.snd (Option.some.inj z)
    have eAc : ∀ k j : Nat, k < 304 → iI (A2 k j) = iI (A1 k j) := fun k j hk => by
      have z := congrFun (congrFun (congrArg Prod.fst eA) k) j
      rw [rA hk, rA hk] at z
      exact z
    have e12' : A2 16 12 = A1 16 12 := by
      have z := eAc 16 12 (by omega)
      have z1 : iI (A2 16 12 - A 16 12) = iI (A1 16 12 - A 16 12) := by rw [← iI_sub, ← iI_sub, z]
      have z2 := congrArg Int32.toInt z1
      rw [iI_toInt (by omega) (by omega), iI_toInt (by omega) (by omega)] at z2
      omega
    have g8 := R2.gD.de3
    subst eM
    obtain ⟨g1, g2, g3, g4, g5⟩ := f2
    have no : ∀ k : Nat, ¬ (400 ≤ k ∧ k < 724) → uA (nrB B2) 400 8 (A1 16 12) k = B2 k := fun k hk => by
      rw [uA_n (by omega)]
      exact funext fun j => if_neg hk
    have mB : mk Ax (uA (nrB B2) 400 8 (A1 16 12)) = mk Ax B2 := by
      refine mk_iI Ax (fun k j => ?_) (no 399 (by omega))
      by_cases c : k = 400
      · subst c
        rw [uA_s]
        by_cases c2 : j = 8
        · subst c2
          rw [ud_s, ← e12', ← g8]
        · rw [ud_n c2]
          show iI (if _ then _ else _) = _
          rw [if_pos (by omega)]
          exact iI_nv _
      · rw [uA_n c]
        show iI (if _ then _ else _) = _
        split
        · exact iI_nv _
        · rfl
    refine ⟨b316 (uA (nrB B2) 400 8 (A1 16 12)) g, by rw [← mB, m316_mk], ?_, ⟨fun k hk => by rw [b316_o _ _ (by omega), no k (by omega)]; exact g1 k hk, ?_, ?_, ?_, ?_⟩⟩
    · have N := R2.nrm (by omega)
      rw [u9, ← e9, ← e9'] at N
      have N2 : RR (K + 9310000) (nr2 A1 16 9) (nrA A2) (nrB B2) (nrA A2) (nrB B2) := ⟨N, SX.rf _, SB.rf _⟩
      have N3 := (N2.rfu (A1 16 12)).wr
      refine N3.cg (fun k hk => funext fun j => ?_) (fun k hk => funext fun j => ?_) (fun k hk => b316_o _ _ (by omega))
      · by_cases c : k = 16 ∧ j = 12
        · obtain ⟨rfl, rfl⟩ := c
          rw [uA_s, ud_s, nr2_12]
        · rw [nr2_i A1 (by omega) (by omega) (by omega)]
          have z : uA (nrA A2) 16 12 (A1 16 12) k j = nrA A2 k j := by
            by_cases c2 : k = 16
            · subst c2
              rw [uA_s, ud_n (by omega)]
            · rw [uA_n c2]
          rw [z]
          exact congrArg Int32.toInt (eAc k j (by omega)).symm
      · rw [nr2_i A1 (by omega) (by omega) (by omega), uA_n (by omega)]
        exact congrArg Int32.toInt (eAc k j (by omega)).symm
    all_goals
      rw [b316_o _ _ (by omega), no 304 (by omega)]
      assumption
  · obtain ⟨A2, B2, -, y2, -, -, -, -, -, -, z1, z2⟩ := core M hM
    exact ⟨_, y2, z1, z2⟩
  · rw [nr2_i A1 (by omega) (by omega) (by omega), nv_id (by omega) (by omega)]; exact e10
  · rw [nr2_12]; exact e12
end PVS
