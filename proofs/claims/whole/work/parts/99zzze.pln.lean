/-! A PLAN'S LOOPS -/
section PLN
variable {K D : Int} {A B A' A1 : hI} (F : Nat) {Ax B0 : hI} {Bs : mM → Prop} {v1 : Int32} {W : Nat} {Kb d0 r0 : Int}
theorem bc_to (A Bx : hI) {l : Nat} (hl : l ≤ 3) (G : mM → Option (Int32 × mM)) : (if iI (l : Int) = (0 : Int32) then ((f_World_become_16_120 F (mk A Bx)).bind fun q => G q.2) else (if iI (l : Int) = (1 : Int32) then ((f_World_become_16_166 F (mk A Bx)).bind fun q => G q.2) else (if iI (l : Int) = (2 : Int32) then ((f_World_become_16_212 F (mk A Bx)).bind fun q => G q.2) else (if iI (l : Int) = (3 : Int32) then ((f_World_become_16_258 F (mk A Bx)).bind fun q => G q.2) else none)))) = G (mk (bec A (104 + 46 * l) 0) Bx) := by
  rcases (show l = 0 ∨ l = 1 ∨ l = 2 ∨ l = 3 by omega) with rfl | rfl | rfl | rfl
  · exact (if_pos (by decide)).trans (obd (ex_bc_16_120 F A Bx) rfl)
  · exact (if_neg (by decide)).trans ((if_pos (by decide)).trans (obd (ex_bc_16_166 F A Bx) rfl))
  · exact (if_neg (by decide)).trans ((if_neg (by decide)).trans ((if_pos (by decide)).trans (obd (ex_bc_16_212 F A Bx) rfl)))
  · exact (if_neg (by decide)).trans ((if_neg (by decide)).trans ((if_neg (by decide)).trans ((if_pos (by decide)).trans (obd (ex_bc_16_258 F A Bx) rfl))))
theorem bc_from (A Bx : hI) {l : Nat} (hl : l ≤ 3) (G : mM → Option (Int32 × mM)) : (if iI (l : Int) = (0 : Int32) then ((f_World_become_120_16 F (mk A Bx)).bind fun q => G q.2) else (if iI (l : Int) = (1 : Int32) then ((f_World_become_166_16 F (mk A Bx)).bind fun q => G q.2) else (if iI (l : Int) = (2 : Int32) then ((f_World_become_212_16 F (mk A Bx)).bind fun q => G q.2) else (if iI (l : Int) = (3 : Int32) then ((f_World_become_258_16 F (mk A Bx)).bind fun q => G q.2) else none)))) = G (mk (bec A 0 (104 + 46 * l)) Bx) := by
  rcases (show l = 0 ∨ l = 1 ∨ l = 2 ∨ l = 3 by omega) with rfl | rfl | rfl | rfl
  · exact (if_pos (by decide)).trans (obd (ex_bc_120_16 F A Bx) rfl)
  · exact (if_neg (by decide)).trans ((if_pos (by decide)).trans (obd (ex_bc_166_16 F A Bx) rfl))
  · exact (if_neg (by decide)).trans ((if_neg (by decide)).trans ((if_pos (by decide)).trans (obd (ex_bc_212_16 F A Bx) rfl)))
  · exact (if_neg (by decide)).trans ((if_neg (by decide)).trans ((if_neg (by decide)).trans ((if_pos (by decide)).trans (obd (ex_bc_258_16 F A Bx) rfl))))
/-- what stands about a plan -/
def PLC (F : Nat) (Ax B0 : hI) (Bs : mM → Prop) (v1 : Int32) (W : Nat) (Kb d0 r0 : Int) (A1 : hI) : Prop := (∀ M g, Bs M → Bs (m316 M g)) ∧ (1000 ≤ F) ∧ (∀ q, B0 350 q = 0) ∧ (1 ≤ W) ∧ (W ≤ 4) ∧ (d0 + 7 * W ≤ 700) ∧ (Kb + 37240000 ≤ 998000000) ∧ (∀ k, k < 4 → dig v1 k ≤ 20) ∧ (A1 120 12 = r0) ∧ (B0 2400 8 = r0) ∧ (∀ B, fB B0 B → Bs (mk Ax (imB B 0 2000)))
theorem PLC.hb {F : Nat} (P : PLC F Ax B0 Bs v1 W Kb d0 r0 A1) : ∀ M g, Bs M → Bs (m316 M g) := P.1
theorem PLC.hF {F : Nat} (P : PLC F Ax B0 Bs v1 W Kb d0 r0 A1) : 1000 ≤ F := P.2.1
theorem PLC.hG {F : Nat} (P : PLC F Ax B0 Bs v1 W Kb d0 r0 A1) : ∀ q, B0 350 q = 0 := P.2.2.1
theorem PLC.hW1 {F : Nat} (P : PLC F Ax B0 Bs v1 W Kb d0 r0 A1) : 1 ≤ W := P.2.2.2.1
theorem PLC.hW {F : Nat} (P : PLC F Ax B0 Bs v1 W Kb d0 r0 A1) : W ≤ 4 := P.2.2.2.2.1
theorem PLC.hd {F : Nat} (P : PLC F Ax B0 Bs v1 W Kb d0 r0 A1) : d0 + 7 * W ≤ 700 := P.2.2.2.2.2.1
theorem PLC.hK {F : Nat} (P : PLC F Ax B0 Bs v1 W Kb d0 r0 A1) : Kb + 37240000 ≤ 998000000 := P.2.2.2.2.2.2.1
theorem PLC.hr {F : Nat} (P : PLC F Ax B0 Bs v1 W Kb d0 r0 A1) : ∀ k, k < 4 → dig v1 k ≤ 20 := P.2.2.2.2.2.2.2.1
theorem PLC.hr0 {F : Nat} (P : PLC F Ax B0 Bs v1 W Kb d0 r0 A1) : A1 120 12 = r0 := P.2.2.2.2.2.2.2.2.1
theorem PLC.hB {F : Nat} (P : PLC F Ax B0 Bs v1 W Kb d0 r0 A1) : B0 2400 8 = r0 := P.2.2.2.2.2.2.2.2.2.1
theorem PLC.hE {F : Nat} (P : PLC F Ax B0 Bs v1 W Kb d0 r0 A1) : ∀ B, fB B0 B → Bs (mk Ax (imB B 0 2000)) := P.2.2.2.2.2.2.2.2.2.2
theorem PLC.rt (P : PLC F Ax B0 Bs v1 W Kb d0 r0 A1) (n k : Nat) : 0 ≤ rt v1 W n k ∧ rt v1 W n k ≤ 20 := ⟨(dig_rg v1 _).1, P.hr _ (dgt_lt W n k)⟩
theorem px_week (P : PLC F Ax B0 Bs v1 W Kb d0 r0 A1) {n l : Nat} (hn : n < 256) (hl : l < W) (h : RW F Ax B0 Bs v1 W Kb d0 r0 A1 n l (l + 1) A) (Bx : hI) (k65 : Int32 → Int32 → Int32 → Int32 → Int32 → Int32 → mM → Option (Int32 × mM)) (k97 : Int32 → Int32 → Int32 → Int32 → Int32 → Int32 → Int32 → Int32 → mM → Option (Int32 × mM)) (v3 v4 v5 v7 : Int32) : ∃ A', f_x_plan_141 F k65 k97 v1 (iI (W : Int)) v3 v4 v5 (iI (n : Int)) v7 (iI (l : Int)) (mk A Bx) = k97 v1 (iI (W : Int)) v3 v4 v5 (iI (n : Int)) v7 (iI ((l + 1 : Nat) : Int)) (mk A' Bx) ∧ RW F Ax B0 Bs v1 W Kb d0 r0 A1 n (l + 1) (l + 1) A' := by
  have hW := P.hW
  obtain ⟨A2, x, y⟩ := h.week P.hb P.hF P.hG P.hW hl P.hd P.hK (P.rt F n l) Bx
  refine ⟨_, ?_, y⟩
  unfold f_x_plan_141
  refine obd (Eq.trans (congrArg (fun z => f_x_rateAt F v1 z (mk A Bx)) (dgt_ok W (by omega) n hn l hl)) (ex_rateAt F v1 (dgt W n l) (mk A Bx))) ?_
  refine obd (v := ((), mk A2 Bx)) (Eq.trans ?_ x) ?_
  · show f_World_passDays F 7 0 (m_up (mk A Bx).1 16 10 (iI (rt v1 W n l)), (mk A Bx).2) = _
    simp (disch := first | omega | (simp (disch := omega) only [uA_n]; done) | fail) only [iI_lit, iI_add, iI_sub, iI_mul, iI_neg, iI_lt, iI_le, iI_eq, zlt_t, zlt_f, zle_t, zle_f, zeq_t, zeq_f, nle_t, nle_f, iI_cl, rA, rS, rB, wA, wS, wB, mkp, mk2, uA_s, uA_n, ud_s, ud_n, bI_0, bI_1, nor_s, ↓reduceIte, or_false, false_or, or_true, true_or, or_self, not_true_eq_false, not_false_eq_true, and_true, true_and, and_false, false_and, bI_T, bI_F, Int.reduceToNat, Nat.reduceAdd, Nat.reduceMul, Int.reduceNeg, Option.bind_some, Int.toNat_natCast]
  refine obd (ex_noteWeek F A2 Bx (by omega)) ?_
  have n1 : iI (l : Int) + 1 = iI ((l + 1 : Nat) : Int) := by rw [← iI_s]; rfl
  rw [n1]
theorem px_row (P : PLC F Ax B0 Bs v1 W Kb d0 r0 A1) {n f : Nat} (hn : n < 256) (Bx : hI) (k65 : Int32 → Int32 → Int32 → Int32 → Int32 → Int32 → mM → Option (Int32 × mM)) (v3 v4 v5 : Int32) : ∀ (r l q : Nat) (A : hI), r + l = W → r < q → f < l → RW F Ax B0 Bs v1 W Kb d0 r0 A1 n l l A → ∃ q' A', f_x_plan_97 F k65 q v1 (iI (W : Int)) v3 v4 v5 (iI (n : Int)) (iI (f : Int)) (iI (l : Int)) (mk A Bx) = f_x_plan_97 F k65 (q' + 1) v1 (iI (W : Int)) v3 v4 v5 (iI (n : Int)) (iI (f : Int)) (iI (W : Int)) (mk A' Bx) ∧ RW F Ax B0 Bs v1 W Kb d0 r0 A1 n W W A' := by
  have hW := P.hW
  intro r
  induction r with
  | zero =>
    intro l q A e hq hf h
    obtain rfl : l = W := by omega
    exact ⟨q - 1, A, by rw [show q - 1 + 1 = q by omega], h⟩
  | succ r ih =>
    intro l q A e hq hf h
    obtain ⟨q, rfl⟩ : ∃ k, q = k + 1 := ⟨q - 1, by omega⟩
    have h2 := h.save (by omega) (by omega) P.hK
    obtain ⟨A2, x, h3⟩ := px_week F P hn (by omega) h2 Bx k65 (f_x_plan_97 F k65 q) v3 v4 v5 (iI (f : Int))
    obtain ⟨q', A', y, h4⟩ := ih (l + 1) q A2 (by omega) (by omega) (by omega) h3
    refine ⟨q', A', Eq.trans ?_ (x.trans y), h4⟩
    rw [f_x_plan_97]
    refine (if_neg (by simp (disch := first | omega | (simp (disch := omega) only [uA_n]; done) | fail) only [iI_lit, iI_add, iI_sub, iI_mul, iI_neg, iI_lt, iI_le, iI_eq, zlt_t, zlt_f, zle_t, zle_f, zeq_t, zeq_f, nle_t, nle_f, iI_cl, rA, rS, rB, wA, wS, wB, mkp, mk2, uA_s, uA_n, ud_s, ud_n, bI_0, bI_1, nor_s, ↓reduceIte, or_false, false_or, or_true, true_or, or_self, not_true_eq_false, not_false_eq_true, and_true, true_and, and_false, false_and, bI_T, bI_F, Int.reduceToNat, Nat.reduceAdd, Nat.reduceMul, Int.reduceNeg, Option.bind_some, Int.toNat_natCast])).trans ?_
    refine (if_neg (by simp (disch := first | omega | (simp (disch := omega) only [uA_n]; done) | fail) only [iI_lit, iI_add, iI_sub, iI_mul, iI_neg, iI_lt, iI_le, iI_eq, zlt_t, zlt_f, zle_t, zle_f, zeq_t, zeq_f, nle_t, nle_f, iI_cl, rA, rS, rB, wA, wS, wB, mkp, mk2, uA_s, uA_n, ud_s, ud_n, bI_0, bI_1, nor_s, ↓reduceIte, or_false, false_or, or_true, true_or, or_self, not_true_eq_false, not_false_eq_true, and_true, true_and, and_false, false_and, bI_T, bI_F, Int.reduceToNat, Nat.reduceAdd, Nat.reduceMul, Int.reduceNeg, Option.bind_some, Int.toNat_natCast])).trans ?_
    exact bc_from F A Bx (l := l) (by omega) (fun m => f_x_plan_141 F k65 (f_x_plan_97 F k65 q) v1 (iI (W : Int)) v3 v4 v5 (iI (n : Int)) (iI (f : Int)) (iI (l : Int)) m)
theorem px_row0 (P : PLC F Ax B0 Bs v1 W Kb d0 r0 A1) {n f : Nat} (hn : n < 256) (hf : f < W) (h : RW0 F Ax B0 Bs v1 W Kb d0 r0 A1 n f A) (Bx : hI) (k65 : Int32 → Int32 → Int32 → Int32 → Int32 → Int32 → mM → Option (Int32 × mM)) (v3 v4 v5 : Int32) : ∃ q' A', f_x_plan_91 F k65 v1 (iI (W : Int)) v3 v4 v5 (iI (n : Int)) (iI (f : Int)) (mk A Bx) = f_x_plan_97 F k65 (q' + 1) v1 (iI (W : Int)) v3 v4 v5 (iI (n : Int)) (iI (f : Int)) (iI (W : Int)) (mk A' Bx) ∧ RW F Ax B0 Bs v1 W Kb d0 r0 A1 n W W A' := by
  have hW := P.hW
  have hF := P.hF
  obtain ⟨q, hq⟩ : ∃ k, F = k + 1 := ⟨F - 1, by omega⟩
  have h2 := h.take (by omega) P.hK
  obtain ⟨A2, x, h3⟩ := px_week F P hn hf h2 Bx k65 (f_x_plan_97 F k65 q) v3 v4 v5 (iI (f : Int))
  obtain ⟨q', A', y, h4⟩ := px_row F P (f := f) hn Bx k65 v3 v4 v5 (W - (f + 1)) (f + 1) q A2 (by omega) (by omega) (by omega) h3
  refine ⟨q', A', Eq.trans ?_ (x.trans y), h4⟩
  unfold f_x_plan_91
  rw [show f_x_plan_97 F k65 F = f_x_plan_97 F k65 (q + 1) from congrArg (f_x_plan_97 F k65) hq, f_x_plan_97]
  refine (if_neg (by simp (disch := first | omega | (simp (disch := omega) only [uA_n]; done) | fail) only [iI_lit, iI_add, iI_sub, iI_mul, iI_neg, iI_lt, iI_le, iI_eq, zlt_t, zlt_f, zle_t, zle_f, zeq_t, zeq_f, nle_t, nle_f, iI_cl, rA, rS, rB, wA, wS, wB, mkp, mk2, uA_s, uA_n, ud_s, ud_n, bI_0, bI_1, nor_s, ↓reduceIte, or_false, false_or, or_true, true_or, or_self, not_true_eq_false, not_false_eq_true, and_true, true_and, and_false, false_and, bI_T, bI_F, Int.reduceToNat, Nat.reduceAdd, Nat.reduceMul, Int.reduceNeg, Option.bind_some, Int.toNat_natCast])).trans ?_
  refine (if_pos rfl).trans ?_
  refine (bc_to F A Bx (l := f) (by omega) (fun m => f_x_plan_141 F k65 (f_x_plan_97 F k65 q) v1 (iI (W : Int)) v3 v4 v5 (iI (n : Int)) (iI (f : Int)) (iI (f : Int)) m)).trans ?_
  rw [mk_nr2]
/-- how bad a row is -/
def bad (A : hI) (r0 : Int) : Int := ((if A 16 13 = -1 then 0 else 1) * 16 + A 19 12) * 100000 + (A 16 12 - r0)
theorem ex_bad (Bx : hI) (h : A 120 12 = r0) (h1 : -1 ≤ A 16 13) (h2 : A 16 13 ≤ 700) : f_x_badness F (mk A Bx) = some (iI (bad A r0), mk A Bx) := by
  unfold f_x_badness f_x_badness_16 f_x_refusedInTry bad
  by_cases c : A 16 13 = -1
  · refine (if_pos (by simp (disch := first | omega | (simp (disch := omega) only [uA_n]; done) | fail) only [iI_lit, iI_add, iI_sub, iI_mul, iI_neg, iI_lt, iI_le, iI_eq, zlt_t, zlt_f, zle_t, zle_f, zeq_t, zeq_f, nle_t, nle_f, iI_cl, rA, rS, rB, wA, wS, wB, mkp, mk2, uA_s, uA_n, ud_s, ud_n, bI_0, bI_1, nor_s, ↓reduceIte, or_false, false_or, or_true, true_or, or_self, not_true_eq_false, not_false_eq_true, and_true, true_and, and_false, false_and, bI_T, bI_F, Int.reduceToNat, Nat.reduceAdd, Nat.reduceMul, Int.reduceNeg, Option.bind_some, Int.toNat_natCast, c])).trans ?_
    rw [if_pos c]
    refine obd ((if_pos rfl).trans rfl) ?_
    simp (disch := first | omega | (simp (disch := omega) only [uA_n]; done) | fail) only [iI_lit, iI_add, iI_sub, iI_mul, iI_neg, iI_lt, iI_le, iI_eq, zlt_t, zlt_f, zle_t, zle_f, zeq_t, zeq_f, nle_t, nle_f, iI_cl, rA, rS, rB, wA, wS, wB, mkp, mk2, uA_s, uA_n, ud_s, ud_n, bI_0, bI_1, nor_s, ↓reduceIte, or_false, false_or, or_true, true_or, or_self, not_true_eq_false, not_false_eq_true, and_true, true_and, and_false, false_and, bI_T, bI_F, Int.reduceToNat, Nat.reduceAdd, Nat.reduceMul, Int.reduceNeg, Option.bind_some, Int.toNat_natCast, h]
  · refine (if_neg (by simp (disch := first | omega | (simp (disch := omega) only [uA_n]; done) | fail) only [iI_lit, iI_add, iI_sub, iI_mul, iI_neg, iI_lt, iI_le, iI_eq, zlt_t, zlt_f, zle_t, zle_f, zeq_t, zeq_f, nle_t, nle_f, iI_cl, rA, rS, rB, wA, wS, wB, mkp, mk2, uA_s, uA_n, ud_s, ud_n, bI_0, bI_1, nor_s, ↓reduceIte, or_false, false_or, or_true, true_or, or_self, not_true_eq_false, not_false_eq_true, and_true, true_and, and_false, false_and, bI_T, bI_F, Int.reduceToNat, Nat.reduceAdd, Nat.reduceMul, Int.reduceNeg, Option.bind_some, Int.toNat_natCast])).trans ?_
    rw [if_neg c]
    refine obd ((if_pos rfl).trans rfl) ?_
    simp (disch := first | omega | (simp (disch := omega) only [uA_n]; done) | fail) only [iI_lit, iI_add, iI_sub, iI_mul, iI_neg, iI_lt, iI_le, iI_eq, zlt_t, zlt_f, zle_t, zle_f, zeq_t, zeq_f, nle_t, nle_f, iI_cl, rA, rS, rB, wA, wS, wB, mkp, mk2, uA_s, uA_n, ud_s, ud_n, bI_0, bI_1, nor_s, ↓reduceIte, or_false, false_or, or_true, true_or, or_self, not_true_eq_false, not_false_eq_true, and_true, true_and, and_false, false_and, bI_T, bI_F, Int.reduceToNat, Nat.reduceAdd, Nat.reduceMul, Int.reduceNeg, Option.bind_some, Int.toNat_natCast, h]
/-- what the reference asks after a week -/
theorem numb (hF : 1000 ≤ F) (hK : K ≤ 998000000) {p : List Int} {w : hI} (h : PV F Ax B0 Bs K p w w) {M : mM} (hM : Rch F Bs p M) : f_m_hs F 0 2 M = some (iI (w 22 0), M) ∧ f_m_out F M = some (iI (10 * w 55 9), M) ∧ f_m_downMany F M = some (iI (w 19 12), M) := by
  obtain ⟨B, rfl, y, -⟩ := h.2 M hM
  have R : RR K (w 16 9) w B w B := ⟨y, SX.rf _, SB.rf _⟩
  have yh := em_hs F 0 2 Ax B (by omega) (by omega) (by omega) (by omega)
  rw [show B (410 + (2 : Int).toNat) (0 : Int).toNat = w 22 0 from R.gH.hg 0 (by omega)] at yh
  exact ⟨yh, em_out F R hF Ax, em_downMany F R hF Ax⟩
theorem up316 (M : mM) (j : Nat) (v : Int32) : (m_up M.1 316 j v, M.2) = m316 M (upd (M.1 316) j v) := rfl
theorem upd_s (f : Nat → Int32) (j : Nat) (v : Int32) : upd f j v j = v := if_pos rfl
theorem upd_n {f : Nat → Int32} {j i : Nat} {v : Int32} (h : i ≠ j) : upd f j v i = f i := if_neg h
theorem pm_row (P : PLC F Ax B0 Bs v1 W Kb d0 r0 A1) {n : Nat} (hn : n < 256) (hO : ∀ k, k < W → NOTE F Ax B0 Bs v1 W Kb n k A) (k70 : Int32 → Int32 → Int32 → Int32 → Int32 → Int32 → Int32 → mM → Option (Int32 × mM)) (v3 v4 v5 v6 : Int32) : ∀ (r l q : Nat) (M : mM), r + l = W → r < q → Rch F Bs (prw v1 W n l) M → (∀ t, t < 4 * l → M.1 316 t = iI (A 118 t)) → ∃ q' M', f_m_plan_79 F k70 q v1 (iI (W : Int)) v3 v4 v5 v6 (iI (n : Int)) (iI (l : Int)) M = f_m_plan_79 F k70 (q' + 1) v1 (iI (W : Int)) v3 v4 v5 v6 (iI (n : Int)) (iI (W : Int)) M' ∧ Rch F Bs (prw v1 W n W) M' ∧ (∀ t, t < 4 * W → M'.1 316 t = iI (A 118 t)) ∧ M'.1 315 = M.1 315 := by
  have hW := P.hW
  intro r
  induction r with
  | zero =>
    intro l q M e hq hM ht
    obtain rfl : l = W := by omega
    exact ⟨q - 1, M, by rw [show q - 1 + 1 = q by omega], hM, ht, rfl⟩
  | succ r ih =>
    intro l q M e hq hM ht
    obtain ⟨q, rfl⟩ : ∃ k, q = k + 1 := ⟨q - 1, by omega⟩
    have hl : l ≤ 3 := by omega
    obtain ⟨hU, w, hP, o0, o1, o2, o3⟩ := hO l (by omega)
    have j4 : ∀ j : Nat, j ≤ 3 → (4 * iI (l : Int) + iI (j : Int)).toNatClampNeg = 4 * l + j := fun j hj => by
      simp (disch := first | omega | (simp (disch := omega) only [uA_n]; done) | fail) only [iI_lit, iI_add, iI_sub, iI_mul, iI_neg, iI_lt, iI_le, iI_eq, zlt_t, zlt_f, zle_t, zle_f, zeq_t, zeq_f, nle_t, nle_f, iI_cl, rA, rS, rB, wA, wS, wB, mkp, mk2, uA_s, uA_n, ud_s, ud_n, bI_0, bI_1, nor_s, ↓reduceIte, or_false, false_or, or_true, true_or, or_self, not_true_eq_false, not_false_eq_true, and_true, true_and, and_false, false_and, bI_T, bI_F, Int.reduceToNat, Nat.reduceAdd, Nat.reduceMul, Int.reduceNeg, Option.bind_some, Int.toNat_natCast]
      omega
    have k0 : (4 * iI (l : Int)).toNatClampNeg = 4 * l := by
      simp (disch := first | omega | (simp (disch := omega) only [uA_n]; done) | fail) only [iI_lit, iI_add, iI_sub, iI_mul, iI_neg, iI_lt, iI_le, iI_eq, zlt_t, zlt_f, zle_t, zle_f, zeq_t, zeq_f, nle_t, nle_f, iI_cl, rA, rS, rB, wA, wS, wB, mkp, mk2, uA_s, uA_n, ud_s, ud_n, bI_0, bI_1, nor_s, ↓reduceIte, or_false, false_or, or_true, true_or, or_self, not_true_eq_false, not_false_eq_true, and_true, true_and, and_false, false_and, bI_T, bI_F, Int.reduceToNat, Nat.reduceAdd, Nat.reduceMul, Int.reduceNeg, Option.bind_some, Int.toNat_natCast]
      omega
    have k1 : (4 * iI (l : Int) + 1).toNatClampNeg = 4 * l + 1 := j4 1 (by omega)
    have k2 : (4 * iI (l : Int) + 2).toNatClampNeg = 4 * l + 2 := j4 2 (by omega)
    have k3 : (4 * iI (l : Int) + 3).toNatClampNeg = 4 * l + 3 := j4 3 (by omega)
    have n1 : iI (l : Int) + 1 = iI ((l + 1 : Nat) : Int) := by rw [← iI_s]; rfl
    obtain ⟨M2, y, z15, z16⟩ := hU _ (Rch.up F Bs P.hb hM (upd (M.1 316) (4 * l) (iI (rt v1 W n l))))
    have R2 : Rch F Bs (prw v1 W n (l + 1)) M2 := ⟨_, M2, M2.1 316, Rch.up F Bs P.hb hM _, y, (m316_self M2).symm⟩
    have R3 := Rch.up F Bs P.hb R2 (upd (M2.1 316) (4 * l + 1) (iI (w 22 0)))
    have R4 := Rch.up F Bs P.hb R3 (upd ((m316 M2 (upd (M2.1 316) (4 * l + 1) (iI (w 22 0)))).1 316) (4 * l + 2) (iI (10 * w 55 9)))
    obtain ⟨M3, eM3⟩ : ∃ M3, M3 = m316 M2 (upd (M2.1 316) (4 * l + 1) (iI (w 22 0))) := ⟨_, rfl⟩
    rw [← eM3] at R3 R4
    obtain ⟨M4, eM4⟩ : ∃ M4, M4 = m316 M3 (upd (M3.1 316) (4 * l + 2) (iI (10 * w 55 9))) := ⟨_, rfl⟩
    rw [← eM4] at R4
    have R5 := Rch.up F Bs P.hb R4 (upd (M4.1 316) (4 * l + 3) (iI (w 19 12)))
    obtain ⟨M5, eM5⟩ : ∃ M5, M5 = m316 M4 (upd (M4.1 316) (4 * l + 3) (iI (w 19 12))) := ⟨_, rfl⟩
    rw [← eM5] at R5
    have hK := P.hK
    have y2 := (numb F P.hF (by omega) hP R2).1
    have y3 := (numb F P.hF (by omega) hP R3).2.1
    have y4 := (numb F P.hF (by omega) hP R4).2.2
    have a3 : M3.1 316 = upd (M2.1 316) (4 * l + 1) (iI (w 22 0)) := by rw [eM3]; rfl
    have a4 : M4.1 316 = upd (M3.1 316) (4 * l + 2) (iI (10 * w 55 9)) := by rw [eM4]; rfl
    have a5 : M5.1 316 = upd (M4.1 316) (4 * l + 3) (iI (w 19 12)) := by rw [eM5]; rfl
    have b5 : M5.1 315 = M.1 315 := by
      have c5 : M5.1 315 = M4.1 315 := by rw [eM5]; rfl
      have c4 : M4.1 315 = M3.1 315 := by rw [eM4]; rfl
      have c3 : M3.1 315 = M2.1 315 := by rw [eM3]; rfl
      rw [c5, c4, c3, z15]; rfl
    have z16' : M2.1 316 = upd (M.1 316) (4 * l) (iI (rt v1 W n l)) := z16
    obtain ⟨q', M', x, R6, t6, b6⟩ := ih (l + 1) q M5 (by omega) (by omega) R5 (fun t h4 => by
      rw [a5, a4, a3, z16']
      by_cases c3 : t = 4 * l + 3
      · rw [c3, upd_s, o3]
      by_cases c2 : t = 4 * l + 2
      · rw [c2, upd_n (by omega), upd_s, o2]
      by_cases c1 : t = 4 * l + 1
      · rw [c1, upd_n (by omega), upd_n (by omega), upd_s, o1]
      by_cases c0 : t = 4 * l
      · rw [c0, upd_n (by omega), upd_n (by omega), upd_n (by omega), upd_s, o0]
      · rw [upd_n (by omega), upd_n (by omega), upd_n (by omega), upd_n (by omega), ht t (by omega)])
    refine ⟨q', M', Eq.trans ?_ x, R6, t6, b6.trans b5⟩
    rw [f_m_plan_79]
    refine (if_neg (by simp (disch := first | omega | (simp (disch := omega) only [uA_n]; done) | fail) only [iI_lit, iI_add, iI_sub, iI_mul, iI_neg, iI_lt, iI_le, iI_eq, zlt_t, zlt_f, zle_t, zle_f, zeq_t, zeq_f, nle_t, nle_f, iI_cl, rA, rS, rB, wA, wS, wB, mkp, mk2, uA_s, uA_n, ud_s, ud_n, bI_0, bI_1, nor_s, ↓reduceIte, or_false, false_or, or_true, true_or, or_self, not_true_eq_false, not_false_eq_true, and_true, true_and, and_false, false_and, bI_T, bI_F, Int.reduceToNat, Nat.reduceAdd, Nat.reduceMul, Int.reduceNeg, Option.bind_some, Int.toNat_natCast])).trans ?_
    refine obd (Eq.trans (congrArg (fun z => f_m_digit F v1 z M) (dgt_ok W (by omega) n hn l (by omega))) (em_digit F v1 (dgt W n l) M)) ?_
    refine (if_neg (by simp (disch := first | omega | (simp (disch := omega) only [uA_n]; done) | fail) only [iI_lit, iI_add, iI_sub, iI_mul, iI_neg, iI_lt, iI_le, iI_eq, zlt_t, zlt_f, zle_t, zle_f, zeq_t, zeq_f, nle_t, nle_f, iI_cl, rA, rS, rB, wA, wS, wB, mkp, mk2, uA_s, uA_n, ud_s, ud_n, bI_0, bI_1, nor_s, ↓reduceIte, or_false, false_or, or_true, true_or, or_self, not_true_eq_false, not_false_eq_true, and_true, true_and, and_false, false_and, bI_T, bI_F, Int.reduceToNat, Nat.reduceAdd, Nat.reduceMul, Int.reduceNeg, Option.bind_some, Int.toNat_natCast])).trans ?_
    have G1 : f_m_goesWeek F ((m_up M.1 316 (4 * iI (l : Int)).toNatClampNeg (iI (dig v1 (dgt W n l)))) 316 (4 * iI (l : Int)).toNatClampNeg) (m_up M.1 316 (4 * iI (l : Int)).toNatClampNeg (iI (dig v1 (dgt W n l))), M.2) = some ((), M2) := by
      rw [k0, show (m_up M.1 316 (4 * l) (iI (dig v1 (dgt W n l)))) 316 (4 * l) = iI (rt v1 W n l) from (congrFun (if_pos rfl) _).trans (if_pos rfl)]
      exact y
    refine obd (v := ((), M2)) G1 ?_
    refine obd y2 ?_
    refine (if_neg (by simp (disch := first | omega | (simp (disch := omega) only [uA_n]; done) | fail) only [iI_lit, iI_add, iI_sub, iI_mul, iI_neg, iI_lt, iI_le, iI_eq, zlt_t, zlt_f, zle_t, zle_f, zeq_t, zeq_f, nle_t, nle_f, iI_cl, rA, rS, rB, wA, wS, wB, mkp, mk2, uA_s, uA_n, ud_s, ud_n, bI_0, bI_1, nor_s, ↓reduceIte, or_false, false_or, or_true, true_or, or_self, not_true_eq_false, not_false_eq_true, and_true, true_and, and_false, false_and, bI_T, bI_F, Int.reduceToNat, Nat.reduceAdd, Nat.reduceMul, Int.reduceNeg, Option.bind_some, Int.toNat_natCast])).trans ?_
    have G2 : f_m_out F (m_up M2.1 316 (4 * iI (l : Int) + 1).toNatClampNeg (iI (w 22 0)), M2.2) = some (iI (10 * w 55 9), M3) := by
      rw [k1, up316, ← eM3]; exact y3
    refine obd G2 ?_
    refine (if_neg (by simp (disch := first | omega | (simp (disch := omega) only [uA_n]; done) | fail) only [iI_lit, iI_add, iI_sub, iI_mul, iI_neg, iI_lt, iI_le, iI_eq, zlt_t, zlt_f, zle_t, zle_f, zeq_t, zeq_f, nle_t, nle_f, iI_cl, rA, rS, rB, wA, wS, wB, mkp, mk2, uA_s, uA_n, ud_s, ud_n, bI_0, bI_1, nor_s, ↓reduceIte, or_false, false_or, or_true, true_or, or_self, not_true_eq_false, not_false_eq_true, and_true, true_and, and_false, false_and, bI_T, bI_F, Int.reduceToNat, Nat.reduceAdd, Nat.reduceMul, Int.reduceNeg, Option.bind_some, Int.toNat_natCast])).trans ?_
    have G3 : f_m_downMany F (m_up M3.1 316 (4 * iI (l : Int) + 2).toNatClampNeg (iI (10 * w 55 9)), M3.2) = some (iI (w 19 12), M4) := by
      rw [k2, up316, ← eM4]; exact y4
    refine obd G3 ?_
    refine (if_neg (by simp (disch := first | omega | (simp (disch := omega) only [uA_n]; done) | fail) only [iI_lit, iI_add, iI_sub, iI_mul, iI_neg, iI_lt, iI_le, iI_eq, zlt_t, zlt_f, zle_t, zle_f, zeq_t, zeq_f, nle_t, nle_f, iI_cl, rA, rS, rB, wA, wS, wB, mkp, mk2, uA_s, uA_n, ud_s, ud_n, bI_0, bI_1, nor_s, ↓reduceIte, or_false, false_or, or_true, true_or, or_self, not_true_eq_false, not_false_eq_true, and_true, true_and, and_false, false_and, bI_T, bI_F, Int.reduceToNat, Nat.reduceAdd, Nat.reduceMul, Int.reduceNeg, Option.bind_some, Int.toNat_natCast])).trans ?_
    show f_m_plan_79 F k70 q v1 (iI (W : Int)) v3 v4 v5 v6 (iI (n : Int)) (iI (l : Int) + 1) (m_up M4.1 316 (4 * iI (l : Int) + 3).toNatClampNeg (iI (w 19 12)), M4.2) = _
    rw [k3, up316, ← eM5, n1]
end PLN
