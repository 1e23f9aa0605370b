/-! CALLEES: their start, their end, their words -/
noncomputable def m_wsG : List Cond := lw_tbl.filter goodWord
noncomputable def m_wds (me : mMe) : List Cond := Cond.code me.1 me.2.1 me.2.2.1 me.2.2.2.1 :: m_wsG
def m_Pc (D : va_G) (cT : Nat → ClassId) (aS : (Nat → Nat) × (Nat → Nat)) (b0 b L : Nat) (xs : Nat → Int32) (h : mH) (av : List Value) : Array Value → State → Prop := va_Pc (av.map (m_em (m_ad b0 b))) (fun U => m_Wd D (m_ad b0 b) cT h U.heap ∧ va_K D mCL (m_tys cT) U ∧ (∀ w ∈ lw_tbl, m_nest w = true → va_Nw w U) ∧ va_X b L xs U U.heap ∧ b < b0 ∧ b0 ≤ U.heap.size ∧ U.heap.size ≤ b0 + m_cs h ∧ m_Str aS b0 U)
def m_Qc (D : va_G) (cT : Nat → ClassId) (b0 b : Nat) (r : Option Value) (h' : mH) : Array Value → State → Outcome → State → Prop := fun _ st o t => o = .returned (r.map (m_em (m_ad b0 b))) ∧ m_Wd D (m_ad b0 b) cT h' t.heap ∧ va_F (m_A b0) st t
def m_rm (d mc ms : Nat) : Room := { frames := d, cells := mc, slots := ms, locals := 64 * d + 20 }
theorem m_Nw_moved {w : Cond} (hw : m_nest w = true) {s U : State} (hW : s.WarmedH U.vm) (h : va_Nw w s) : va_Nw w U := by
  cases w with
  | methodLinkNest a i x y => exact va_Nw.warmM hW h
  | arrayOver ty =>
    cases ty with
    | object C => exact va_AO.moved hW.alike h
    | _ => cases hw
  | _ => cases hw
theorem m_Str_moved {aS : (Nat → Nat) × (Nat → Nat)} {b0 : Nat} {s U : State} (hW : s.WarmedH U.vm) (hq : ∀ a : Nat, a < s.heap.size → ¬ m_A b0 a → U.heap[a]? = s.heap[a]?) (h : m_Str aS b0 s) : m_Str aS b0 U :=
  ⟨h.1.warm hW, (h.2.1.kept hq).moved hW.alike, (h.2.2.1.kept hq).moved hW.alike, (h.2.2.2.kept hq).moved hW.alike⟩
theorem m_Pc_blind {D : va_G} {cT : Nat → ClassId} {aS : (Nat → Nat) × (Nat → Nat)} {b0 b L : Nat} {xs : Nat → Int32} {h : mH} {av : List Value} : FrameBlind (m_Pc D cT aS b0 b L xs h av) := by
  intro a U g mk q
  obtain ⟨q0, q1, q2, q3, q4, q5, q6, q7, q8⟩ := q
  have hv : U.vm.Alike (U.calling g mk a).vm := Vm.Alike.refl U.vm
  refine ⟨q0, q1, va_K.moved hv q2, fun w hw hn => ?_, va_X.moved hv q4, q5, q6, q7, ⟨q8.1.same rfl, q8.2.1.moved hv, q8.2.2.1.moved hv, q8.2.2.2.moved hv⟩⟩
  have h3 := q3 w hw hn
  cases w with
  | methodLinkNest x1 x2 x3 x4 => exact va_Nw.same rfl (show U.vm = (U.calling g mk a).vm from rfl) h3
  | arrayOver ty =>
    cases ty with
    | object C => exact va_AO.moved hv h3
    | _ => cases hn
  | _ => cases hn
section MCALL
variable {p : Program} {l : Launch} {e : Env} {R : Room} {s : State} {m : MethodId} {args : Array Value} {below : List Frame} {meth : Method} {c : Code} {H : Heap} {locs : List Loc} {cells slots : Nat} {Q : State → Prop}
variable {D : va_G} {cT : Nat → ClassId} {aS : (Nat → Nat) × (Nat → Nat)} {b0 b L : Nat} {xs : Nat → Int32} {mi : Nat} {me : mMe}
theorem m_Pc_of (C : m_C p s m args meth c D cT aS b0 b L xs mi me) {h : mH} (hW : m_Wd D (m_ad b0 b) cT h H) (hS : va_S (m_A b0) s.heap H locs) (hz : H.size ≤ b0 + m_cs h) (av : List Value) {U : State} (hU : U.heap = H) (hw : s.WarmedH U.vm) : m_Pc D cT aS b0 b L xs h av (av.map (m_em (m_ad b0 b))).toArray U := by
  obtain ⟨-, -, -, -, -, -, -, -, -, hN, hK, hX, hb, hb0, hT⟩ := C
  subst hU
  refine ⟨rfl, hW, va_K.moved hw.alike hK, fun w h1 h2 => m_Nw_moved h2 hw (hN w h1 h2), (hX.kept ?_).moved hw.alike, hb, Nat.le_trans hb0 hS.1, hz, m_Str_moved hw hS.2.1 hT⟩
  exact hS.2.1 b (Nat.lt_of_lt_of_le hb hb0) (fun z => Nat.not_lt.mpr z hb)
theorem m_after {h1 : mH} {rv : Option Value} {pc mc ms : Nat} {ls : Array Slot} {rest st0 : List Value} {a : Array Value} (hr : va_Run p l e R s m args below meth c H locs cells slots mc ms (F0 m pc ls st0) rest (m_Qc D cT b0 b rv h1 a) (m_A b0)) (hS : va_S (m_A b0) s.heap H locs)
    (kk : ∀ (H1 : Heap) (locs1 : List Loc), m_Wd D (m_ad b0 b) cT h1 H1 → va_S (m_A b0) s.heap H1 locs1 → W p l e R s m args below meth c H1 locs1 (cells + mc) (slots + ms) Q (F0 m (pc + 3) ls ((rv.map (m_em (m_ad b0 b))).toList ++ rest))) : W p l e R s m args below meth c H locs cells slots Q (F0 m pc ls st0) := by
  intro T hT X
  obtain ⟨v, st₀, t, T', L1, g0, X', hL, e1, e2, ⟨hv, hw, hz, hk⟩, st⟩ := hr T hT X
  have hv : v = rv.map (m_em (m_ad b0 b)) := by cases hv; rfl
  subst hv
  rw [g0] at hz hk
  obtain ⟨t2, a1, b1⟩ := kk T'.heap (locs ++ L1) (by rw [e1]; exact hw) ⟨Nat.le_trans hS.1 (by rw [e1]; exact hz), fun q h1 h2 => by rw [e1, hk q (Nat.lt_of_lt_of_le h1 hS.1) h2]; exact hS.2.1 q h1 h2, fun q hq => by
    rcases List.mem_append.mp hq with z | z
    · exact hS.2.2 q z
    · exact hL q z⟩ T' rfl X'
  exact ⟨t2, st t2 a1, b1⟩
/-- Met.ofW, for a method that no native stands for -/
theorem m_ofW {y : MethodName} {ws ws' : List Cond} {rm : Room} {Pc : Array Value → State → Prop} {Qc : Array Value → State → Outcome → State → Prop} {mc ms : Nat} {free : Addr → Prop} {cc : ByteArray} {maxL : Nat} {ret : Option FieldType}
    (hy : plainFor y = true) (hw : ws = Cond.code y cc maxL ret :: ws')
    (body : ∀ p e s m args below meth c s₁, BodyLoose p l y (headSpec ws rm) cc maxL ret e s m args below meth c s₁ → c.maxLocals = maxL → Pc args s →
      W p l e (headSpec ws rm).room s m args below meth c s.heap [] 0 0 (MQ below Qc args s mc ms free) (entryFrame m args maxL)) : Met l y ws rm Pc Qc mc ms free := by
  refine MetFree.of_bodySF (code := cc) (maxLocals := maxL) (ret := ret) hy ?_ ?_
  · intro args s m h hn
    obtain ⟨meth, c, h1, h2, h3, h4, h5, h6, -, -⟩ := Cond.code_spec hn (atoms_spec (ws := ws) h _ (by rw [hw]; exact List.mem_cons_self))
    exact ⟨meth, c, h1, h2, h3, h4, h5, h6⟩
  · intro p e s m args below meth c s₁ B hml hP _
    have hh0 : s₁.heap = s.heap := by rw [B.state]; rfl
    obtain ⟨t, a1, o, b1, b2, b3⟩ := body p e s m args below meth c s₁ B hml hP s₁ hh0 (Stand.of_body B)
    exact ⟨t, o, a1, b1, b2, ⟨b3.1, b3.2⟩⟩
theorem m_slo_sl (ad : Nat → Nat) : ∀ (vs : List Value), (m_slo vs).length = (lg_sl (vs.map (m_em ad))).length
  | [] => rfl
  | v :: vs => by
    have ih := m_slo_sl ad vs
    have e : lg_sl ((v :: vs).map (m_em ad)) = (if (m_em ad v).category = 2 then [Slot.val (m_em ad v), .second] else [.val (m_em ad v)]) ++ lg_sl (vs.map (m_em ad)) := by simp [lg_sl]
    rw [e, List.length_append, ← ih, m_em_cat]
    cases v <;> simp [m_slo, Value.category] <;> omega
theorem m_slo_at (ad : Nat → Nat) : ∀ (vs : List Value) (k i : Nat) (v : Value), (m_slo vs)[i]? = some (some v) → (k + i, m_em ad v) ∈ lv_args k (vs.map (m_em ad))
  | [], k, i, v, h => by simp [m_slo] at h
  | w :: vs, k, i, v, h => by
    show _ ∈ (k, m_em ad w) :: lv_args (if (m_em ad w).category = 2 then k + 2 else k + 1) (vs.map (m_em ad))
    have two : m_slo (w :: vs) = some w :: none :: m_slo vs → w.category = 2 → (k + i, m_em ad v) ∈ (k, m_em ad w) :: lv_args (if (m_em ad w).category = 2 then k + 2 else k + 1) (vs.map (m_em ad)) := by
      intro e hc
      rw [m_em_cat, if_pos hc]
      rw [e] at h
      match i, h with
      | 0, h =>
        have h : some (some w) = some (some v) := h
        cases h
        exact List.mem_cons_self
      | 1, h => cases (show some none = some (some v) from h)
      | i + 2, h =>
        refine List.mem_cons_of_mem _ ?_
        have := m_slo_at ad vs (k + 2) i v h
        rw [show k + 2 + i = k + (i + 2) by omega] at this
        exact this
    have one : m_slo (w :: vs) = some w :: m_slo vs → w.category ≠ 2 → (k + i, m_em ad v) ∈ (k, m_em ad w) :: lv_args (if (m_em ad w).category = 2 then k + 2 else k + 1) (vs.map (m_em ad)) := by
      intro e hc
      rw [m_em_cat, if_neg hc]
      rw [e] at h
      match i, h with
      | 0, h =>
        have h : some (some w) = some (some v) := h
        cases h
        exact List.mem_cons_self
      | i + 1, h =>
        refine List.mem_cons_of_mem _ ?_
        have := m_slo_at ad vs (k + 1) i v h
        rw [show k + 1 + i = k + (i + 1) by omega] at this
        exact this
    cases w with
    | long x => exact two rfl rfl
    | double x => exact two rfl rfl
    | _ => exact one rfl (by simp [Value.category])
/-- a callee's locals, as it begins -/
theorem m_lh_ent {ad : Nat → Nat} {a : Nat} {me' : mMe} (hme : mMT[a]? = some me') {vs : List Value} (hl : (m_ent a vs).length = m_ml a) : m_lh ad ((lg_sl (vs.map (m_em ad)) ++ List.replicate (me'.2.2.1 - (lg_sl (vs.map (m_em ad))).length) Slot.unset).toArray) (m_ent a vs) ∧ (m_ent a vs).length = me'.2.2.1 := by
  have e1 : m_ent a vs = m_slo vs ++ List.replicate (me'.2.2.1 - (m_slo vs).length) none := by simp [m_ent, hme]
  have e2 : m_ml a = me'.2.2.1 := by simp [m_ml, hme]
  rw [e2] at hl
  have hle : (m_slo vs).length ≤ me'.2.2.1 := by rw [← hl, e1, List.length_append]; omega
  have hle2 : (lg_sl (vs.map (m_em ad))).length ≤ me'.2.2.1 := by rw [← m_slo_sl ad vs]; exact hle
  obtain ⟨h1, h2, h3⟩ := lv_entry (vs.map (m_em ad)) hle2
  refine ⟨⟨by rw [h1, hl], h2, fun i v hi => ?_⟩, hl⟩
  rw [e1] at hi
  by_cases hlt : i < (m_slo vs).length
  · rw [List.getElem?_append_left hlt] at hi
    have h4 := m_slo_at ad vs 0 i v hi
    rw [Nat.zero_add] at h4
    exact h3 _ h4
  · rw [List.getElem?_append_right (by omega), List.getElem?_replicate] at hi
    split at hi <;> cases hi
end MCALL
