/-! THE SMALL MACHINE's RUNS ARE THE MACHINE's -/
def m_hw : List Cond := [.instanceMethod objectInit, .code objectInit ⟨#[0xb1]⟩ 1 none, .native arraycopyName, .static arraycopyName, .initialized "java/lang/System"]
def m_HO : Prop := ∀ (mi : Nat) (me : mMe) (pc : Nat) (op : mOp), mMT[mi]? = some me → m_op mi pc = some op → m_chk me (pc, op) = true
def m_HM : Prop := ∀ (a : Nat) (me : mMe), mMT[a]? = some me → a ≠ 0 → m_chm me = true
def m_HW : Prop := ∀ w ∈ m_hw, w ∈ lw_tbl ∧ goodWord w = true
def m_HD (l : Launch) : Prop := ∀ (D : va_G) (cT : Nat → ClassId) (aS : (Nat → Nat) × (Nat → Nat)) (b0 b L : Nat) (xs : Nat → Int32) (d : Nat) (lo : List (Option Value)) (h : mH) (v : Value), m_wordAt lo h = some v → 4 ≤ d → m_SimAt l D cT aS b0 b L xs 126 d 0 lo [] h (some v) h
section MSIMI
variable {p : Program} {l : Launch} {e : Env} {R : Room} {s : State} {m : MethodId} {args : Array Value} {below : List Frame} {meth : Method} {c : Code} {H : Heap} {locs : List Loc} {cells slots : Nat} {Q : State → Prop}
variable {D : va_G} {cT : Nat → ClassId} {aS : (Nat → Nat) × (Nat → Nat)} {b0 b L : Nat} {xs : Nat → Int32} {mi : Nat} {me : mMe}
theorem m_chk_of {y : mMe} {pc len tag a bb cc q : Nat} {ins : Instr} (h : m_chk y (pc, ins, len, tag, a, bb, cc, q) = true) : decode y.2.1 pc = .ok (ins, len) ∧
    (tag = 0 → mc_tag0 y.1.cls y.1.name pc ins a bb cc q = true ∧ len = m_len ins len) ∧
    (tag = 1 → ins = .ireturn ∧ len = 1 ∧ ((y.2.2.2.1 = some .int ∧ a = 0) ∨ (y.2.2.2.1 = some .boolean ∧ a = 1))) ∧
    (tag = 2 → ins = .lreturn ∧ len = 1 ∧ y.2.2.2.1 = some .long) ∧ (tag = 3 → ins = .return_ ∧ len = 1 ∧ y.2.2.2.1 = none) ∧
    (tag = 4 → len = 3 ∧ ∃ i, ins = .invokestatic i ∧ mc_call y.1.cls i a bb cc q 0 false = true) ∧
    (tag = 5 → len = 3 ∧ cc = 0 ∧ ∃ i, ins = .invokevirtual i ∧ mc_call y.1.cls i a bb cc q 1 false = true) ∧
    (tag = 6 → len = 3 ∧ ∃ i, ins = .invokespecial i ∧ mc_call y.1.cls i a bb cc q 1 true = true) ∧
    (tag = 7 → len = 3 ∧ ∃ i, ins = .invokespecial i ∧ mc_w q (.methodLink y.1.cls i objectInit) = true) ∧
    (tag = 8 → len = 3 ∧ ∃ i, ins = .invokestatic i ∧ mc_w q (.methodLink y.1.cls i arraycopyName) = true) := by
  obtain ⟨y, bytes, ml, ret, np, pc', pk, ps, pi, kd, ci⟩ := y
  simp only [m_chk, Bool.and_eq_true, decide_eq_true_eq] at h
  obtain ⟨h1, h2⟩ := h
  refine ⟨h1, ?_, ?_, ?_, ?_, ?_, ?_, ?_, ?_, ?_⟩ <;> intro ht <;> subst ht
  · simpa using h2
  · simp only [Bool.and_eq_true, Bool.or_eq_true, decide_eq_true_eq] at h2
    exact ⟨h2.1.1, h2.1.2, h2.2⟩
  · simp only [Bool.and_eq_true, decide_eq_true_eq] at h2
    exact ⟨h2.1.1, h2.1.2, h2.2⟩
  · simp only [Bool.and_eq_true, decide_eq_true_eq] at h2
    exact ⟨h2.1.1, h2.1.2, h2.2⟩
  · simp only [Bool.and_eq_true, decide_eq_true_eq] at h2
    obtain ⟨h3, h4⟩ := h2
    split at h3
    · exact ⟨h4, _, rfl, h3⟩
    · cases h3
  · simp only [Bool.and_eq_true, decide_eq_true_eq] at h2
    obtain ⟨h3, h4⟩ := h2
    split at h3
    · simp only [Bool.and_eq_true, decide_eq_true_eq] at h3
      exact ⟨h4, h3.2, _, rfl, h3.1⟩
    · cases h3
  · simp only [Bool.and_eq_true, decide_eq_true_eq] at h2
    obtain ⟨h3, h4⟩ := h2
    split at h3
    · exact ⟨h4, _, rfl, h3⟩
    · cases h3
  · simp only [Bool.and_eq_true, decide_eq_true_eq] at h2
    obtain ⟨h3, h4⟩ := h2
    split at h3
    · exact ⟨h4, _, rfl, h3⟩
    · cases h3
  · simp only [Bool.and_eq_true, decide_eq_true_eq] at h2
    obtain ⟨h3, h4⟩ := h2
    split at h3
    · exact ⟨h4, _, rfl, h3⟩
    · cases h3
theorem m_stk {ad : Nat → Nat} (st : List Value) (n : Nat) : st.map (m_em ad) = (((st.take n).reverse).map (m_em ad)).reverse ++ (st.drop n).map (m_em ad) := by
  rw [← List.map_reverse, List.reverse_reverse, ← List.map_append, List.take_append_drop]
set_option maxHeartbeats 4000000 in
theorem m_callS (C : m_C p s m args meth c D cT aS b0 b L xs mi me) {a d i bb cc q pc mc ms : Nat} {me' : mMe} {st : List Value} {ls : Array Slot} {lo : List (Option Value)} {h h1 : mH} {rv : Option Value} (hme : mMT[a]? = some me') (hch : m_chm me' = true)
    (hd : decode me.2.1 pc = .ok (.invokestatic i, 3)) (hcl : mc_call me.1.cls i a bb cc q 0 false = true) (hb : bb ≤ st.length) (hcat : m_cat (st.drop bb) ≤ 8) (hf : d + 1 ≤ R.frames) (hlo : 64 * (d + 1) + 20 ≤ R.locals) (hlen : lo.length = me.2.2.1) (hl : m_lh (m_ad b0 b) ls lo)
    (hM : Met l me'.1 (m_wds me') (m_rm d mc ms) (m_Pc D cT aS b0 b L xs h (st.take bb).reverse) (m_Qc D cT b0 b rv h1) mc ms (m_A b0)) (hW : m_Wd D (m_ad b0 b) cT h H) (hS : va_S (m_A b0) s.heap H locs) (hz : H.size ≤ b0 + m_cs h) (hroom : cells + mc ≤ R.cells ∧ slots + ms ≤ R.slots)
    (kk : ∀ (H1 : Heap) (locs1 : List Loc), m_Wd D (m_ad b0 b) cT h1 H1 → va_S (m_A b0) s.heap H1 locs1 → W p l e R s m args below meth c H1 locs1 (cells + mc) (slots + ms) Q (F0 m (pc + 3) ls ((rv.map (m_em (m_ad b0 b))).toList ++ (st.drop bb).map (m_em (m_ad b0 b))))) : W p l e R s m args below meth c H locs cells slots Q (F0 m pc ls (st.map (m_em (m_ad b0 b)))) := by
  obtain ⟨hlink, hnp, hkd, -, -, -⟩ := mc_call_of hme hcl
  have hch' := m_chm_of hch
  have hst := hch'.2.2.2.2.2.2.1 hkd
  have hstb : (Cond.static me'.1).before args s = true := C.2.2.2.2.2.2.2.2.1 _ hst.1 hst.2
  have hfix : CallFix p m c me.2.1 me.2.2.1 s args [] me.1.cls := ⟨C.1, C.2.2.1, C.2.2.2.1, C.2.2.2.2.1, fun _ z => by cases z⟩
  have hP : PreS s H (m_Pc D cT aS b0 b L xs h (st.take bb).reverse) (((st.take bb).reverse).map (m_em (m_ad b0 b))) := ⟨m_Pc_blind, fun U hU hw => m_Pc_of C hW hS hz _ hU hw⟩
  have hn : (((st.take bb).reverse).map (m_em (m_ad b0 b))).length = me'.2.2.2.2.1 := by rw [hnp]; simp [Nat.min_eq_left hb]
  rcases hlink with ⟨-, hq⟩ | ⟨-, hq⟩
  · exact m_after (va_runS hfix hM ⟨m_cb C hch hq hf hlo, hstb⟩ hP rfl hn (hl.1.trans hlen) (m_stk st bb) (lv_room (rest := st.map (m_em (m_ad b0 b))) (by rw [m_cat_em]; exact hcat)) hd hroom) hS kk
  · exact m_after (va_runSN hfix hM ⟨m_cn C hch hq hf hlo, hstb, trivial⟩ hP rfl hn (hl.1.trans hlen) (m_stk st bb) (lv_room (rest := st.map (m_em (m_ad b0 b))) (by rw [m_cat_em]; exact hcat)) hd hroom) hS kk
theorem m_stk2 {ad : Nat → Nat} {st r : List Value} {n k : Nat} (hr : st.drop n = .ref k :: r) : st.map (m_em ad) = (((st.take n).reverse).map (m_em ad)).reverse ++ .ref (ad k) :: r.map (m_em ad) := by
  rw [m_stk st n, hr]
  rfl
set_option maxHeartbeats 4000000 in
theorem m_callV (C : m_C p s m args meth c D cT aS b0 b L xs mi me) {a d i bb q pc mc ms k : Nat} {me' : mMe} {st r : List Value} {ls : Array Slot} {lo : List (Option Value)} {h h1 : mH} {rv : Option Value} (hme : mMT[a]? = some me') (hch : m_chm me' = true)
    (hd : decode me.2.1 pc = .ok (.invokevirtual i, 3)) (hcl : mc_call me.1.cls i a bb 0 q 1 false = true) (hr : st.drop bb = .ref k :: r) (hO : m_isO a k h = true) (hcat : m_cat r ≤ 8) (hf : d + 1 ≤ R.frames) (hlo : 64 * (d + 1) + 20 ≤ R.locals) (hlen : lo.length = me.2.2.1) (hl : m_lh (m_ad b0 b) ls lo)
    (hM : Met l me'.1 (m_wds me') (m_rm d mc ms) (m_Pc D cT aS b0 b L xs h (.ref k :: (st.take bb).reverse)) (m_Qc D cT b0 b rv h1) mc ms (m_A b0)) (hW : m_Wd D (m_ad b0 b) cT h H) (hS : va_S (m_A b0) s.heap H locs) (hz : H.size ≤ b0 + m_cs h) (hroom : cells + mc ≤ R.cells ∧ slots + ms ≤ R.slots)
    (kk : ∀ (H1 : Heap) (locs1 : List Loc), m_Wd D (m_ad b0 b) cT h1 H1 → va_S (m_A b0) s.heap H1 locs1 → W p l e R s m args below meth c H1 locs1 (cells + mc) (slots + ms) Q (F0 m (pc + 3) ls ((rv.map (m_em (m_ad b0 b))).toList ++ r.map (m_em (m_ad b0 b))))) : W p l e R s m args below meth c H locs cells slots Q (F0 m pc ls (st.map (m_em (m_ad b0 b)))) := by
  obtain ⟨hlink, hnp, hkd, -, hini, -⟩ := mc_call_of hme hcl
  obtain ⟨hin, hsel, fl, hfl⟩ := (m_chm_of hch).2.2.2.2.2.2.2 hkd
  have hsel := hsel (hini rfl)
  have hfix : CallFix p m c me.2.1 me.2.2.1 s args [] me.1.cls := ⟨C.1, C.2.2.1, C.2.2.2.1, C.2.2.2.2.1, fun _ z => by cases z⟩
  have hrec : ∃ cellB : Cell, H[m_ad b0 b k]? = some cellB ∧ cellB.vm.isStatics = false ∧ s.vm.findClass me'.1.cls = some cellB.cls := by
    unfold m_isO at hO
    rw [hme] at hO
    cases hk : h.1[k]? with
    | none => rw [hk] at hO; cases hO
    | some x =>
      rw [hk] at hO
      cases x with
      | inl x => cases hO
      | inr x =>
        obtain ⟨ci, rs⟩ := x
        have hci : ci = me'.2.2.2.2.2.2.2.2.2.2 := by simpa using hO
        subst hci
        have hws := m_ws_get (ad := m_ad b0 b) (cT := cT) hk
        rw [m_e_obj (by have := m_CF_lt hfl; omega)] at hws
        exact va_recv C.2.2.2.2.2.2.2.2.2.2.1 hW.1 (m_CL_of hfl) hws
  have hP : PreV s H me'.1.cls (m_ad b0 b k) (m_Pc D cT aS b0 b L xs h (.ref k :: (st.take bb).reverse)) (((st.take bb).reverse).map (m_em (m_ad b0 b))) := ⟨m_Pc_blind, hrec, fun U hU hw => m_Pc_of C hW hS hz (.ref k :: (st.take bb).reverse) hU hw⟩
  have hbb : bb ≤ st.length := by
    rcases Nat.lt_or_ge st.length bb with z | z
    · rw [List.drop_eq_nil_of_le (by omega)] at hr; cases hr
    · exact z
  have hn : (((st.take bb).reverse).map (m_em (m_ad b0 b))).length = me'.2.2.2.2.1 := by rw [hnp]; simp [Nat.min_eq_left hbb]
  rcases hlink with ⟨-, hq⟩ | ⟨z, -⟩
  · exact m_after (va_runV hfix hM ⟨m_cb C hch hq hf hlo, C.2.2.2.2.2.2.2.2.1 _ hin.1 hin.2, C.2.2.2.2.2.2.2.2.1 _ hsel.1 hsel.2⟩ hP rfl hn (hl.1.trans hlen) (m_stk2 hr) (lv_room (rest := st.map (m_em (m_ad b0 b))) (by rw [m_cat_em]; exact hcat)) hd hroom) hS kk
  · exact absurd rfl z
set_option maxHeartbeats 4000000 in
theorem m_callI (C : m_C p s m args meth c D cT aS b0 b L xs mi me) {a d i bb cc q pc mc ms k : Nat} {me' : mMe} {st r : List Value} {ls : Array Slot} {lo : List (Option Value)} {h h1 : mH} {rv : Option Value} (hme : mMT[a]? = some me') (hch : m_chm me' = true) (hret : me'.2.2.2.1 = none)
    (hd : decode me.2.1 pc = .ok (.invokespecial i, 3)) (hcl : mc_call me.1.cls i a bb cc q 1 true = true) (hr : st.drop bb = .ref k :: r) (hcat : m_cat r ≤ 8) (hf : d + 1 ≤ R.frames) (hlo : 64 * (d + 1) + 20 ≤ R.locals) (hlen : lo.length = me.2.2.1) (hl : m_lh (m_ad b0 b) ls lo)
    (hM : Met l me'.1 (m_wds me') (m_rm d mc ms) (m_Pc D cT aS b0 b L xs h (.ref k :: (st.take bb).reverse)) (m_Qc D cT b0 b rv h1) mc ms (m_A b0)) (hW : m_Wd D (m_ad b0 b) cT h H) (hS : va_S (m_A b0) s.heap H locs) (hz : H.size ≤ b0 + m_cs h) (hroom : cells + mc ≤ R.cells ∧ slots + ms ≤ R.slots)
    (kk : ∀ (H1 : Heap) (locs1 : List Loc), m_Wd D (m_ad b0 b) cT h1 H1 → va_S (m_A b0) s.heap H1 locs1 → W p l e R s m args below meth c H1 locs1 (cells + mc) (slots + ms) Q (F0 m (pc + 3) ls ((rv.map (m_em (m_ad b0 b))).toList ++ r.map (m_em (m_ad b0 b))))) : W p l e R s m args below meth c H locs cells slots Q (F0 m pc ls (st.map (m_em (m_ad b0 b)))) := by
  obtain ⟨hlink, hnp, hkd, hini, -, -⟩ := mc_call_of hme hcl
  obtain ⟨hin, -, fl, hfl⟩ := (m_chm_of hch).2.2.2.2.2.2.2 hkd
  have hfix : CallFix p m c me.2.1 me.2.2.1 s args [] me.1.cls := ⟨C.1, C.2.2.1, C.2.2.2.1, C.2.2.2.2.1, fun _ z => by cases z⟩
  have hP : PreS s H (m_Pc D cT aS b0 b L xs h (.ref k :: (st.take bb).reverse)) (.ref (m_ad b0 b k) :: ((st.take bb).reverse).map (m_em (m_ad b0 b))) := ⟨m_Pc_blind, fun U hU hw => m_Pc_of C hW hS hz (.ref k :: (st.take bb).reverse) hU hw⟩
  have hbb : bb ≤ st.length := by
    rcases Nat.lt_or_ge st.length bb with z | z
    · rw [List.drop_eq_nil_of_le (by omega)] at hr; cases hr
    · exact z
  have hn : (((st.take bb).reverse).map (m_em (m_ad b0 b))).length = me'.2.2.2.2.1 := by rw [hnp]; simp [Nat.min_eq_left hbb]
  have hinb := C.2.2.2.2.2.2.2.2.1 _ hin.1 hin.2
  rcases hlink with ⟨-, hq⟩ | ⟨-, hq⟩
  · have hcb := m_cb (R := R) (mc := mc) (ms := ms) C hch hq hf hlo
    rw [hret] at hcb
    exact m_after (va_runI hfix hM ⟨hcb, hini rfl, hinb⟩ hP rfl hn (hl.1.trans hlen) (m_stk2 hr) (lv_room (rest := st.map (m_em (m_ad b0 b))) (by rw [m_cat_em]; exact hcat)) hd hroom) hS kk
  · have hcb := m_cn (R := R) (mc := mc) (ms := ms) C hch hq hf hlo
    rw [hret] at hcb
    exact m_after (va_runIN hfix hM ⟨hcb, hini rfl, hinb⟩ hP rfl hn (hl.1.trans hlen) (m_stk2 hr) (lv_room (rest := st.map (m_em (m_ad b0 b))) (by rw [m_cat_em]; exact hcat)) hd hroom) hS kk
end MSIMI
