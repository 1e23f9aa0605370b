/-! A CALL, BY THE CALLEE'S RUN -/
def m_Ret (me : mMe) (pc : Nat) (r : Option Value) : Prop := (∃ v : Int32, r = some (.int v) ∧ decode me.2.1 pc = .ok (.ireturn, 1) ∧ (me.2.2.2.1 = some .int ∨ (me.2.2.2.1 = some .boolean ∧ (v = 0 ∨ v = 1)))) ∨ (∃ v : Int64, r = some (.long v) ∧ decode me.2.1 pc = .ok (.lreturn, 1) ∧ me.2.2.2.1 = some .long) ∨ (r = none ∧ decode me.2.1 pc = .ok (.return_, 1) ∧ me.2.2.2.1 = none)
/-- a run of the small machine is the machine's own, in every frame -/
def m_SimAt (l : Launch) (D : va_G) (cT : Nat → ClassId) (aS : (Nat → Nat) × (Nat → Nat)) (b0 b L : Nat) (xs : Nat → Int32) (mi d pc : Nat) (lo : List (Option Value)) (st : List Value) (h : mH) (r : Option Value) (h' : mH) : Prop :=
  ∀ (p : Program) (e : Env) (R : Room) (s : State) (m : MethodId) (args : Array Value) (below : List Frame) (meth : Method) (c : Code) (me : mMe) (H : Heap) (locs : List Loc) (cells slots : Nat) (Q : State → Prop) (h0 : mH) (ls : Array Slot),
    m_C p s m args meth c D cT aS b0 b L xs mi me → d ≤ R.frames → 64 * d + 20 ≤ R.locals → lo.length = me.2.2.1 → m_St D cT b0 b s h0 h H locs ls lo cells slots → (m_cs h' ≤ R.cells + m_cs h0 ∧ m_ss h' ≤ R.slots + m_ss h0) →
    (∀ (pc' : Nat) (H1 : Heap) (locs1 : List Loc) (ls1 : Array Slot) (cells1 slots1 : Nat), m_Ret me pc' r → m_Wd D (m_ad b0 b) cT h' H1 → va_S (m_A b0) s.heap H1 locs1 → cells1 + m_cs h0 = m_cs h' → slots1 + m_ss h0 = m_ss h' → W p l e R s m args below meth c H1 locs1 cells1 slots1 Q (F0 m pc' ls1 ((r.map (m_em (m_ad b0 b))).toList))) →
    W p l e R s m args below meth c H locs cells slots Q (F0 m pc ls (st.map (m_em (m_ad b0 b))))
theorem m_chm_of {me : mMe} (h : m_chm me = true) : (Cond.code me.1 me.2.1 me.2.2.1 me.2.2.2.1 ∈ lw_tbl ∧ goodWord (Cond.code me.1 me.2.1 me.2.2.1 me.2.2.2.1) = true) ∧ (Cond.initialized me.1.cls ∈ lw_tbl ∧ goodWord (Cond.initialized me.1.cls) = true) ∧ plainFor me.1 = true ∧ (me.1.cls ≠ "java/lang/invoke/MethodHandle" ∧ me.1.cls ≠ "java/lang/invoke/VarHandle") ∧ (parseMethodDescriptor me.1.desc).map (fun d => d.parameters.length) = some me.2.2.2.2.1 ∧ me.2.2.1 ≤ 20 ∧
    (me.2.2.2.2.2.2.2.2.2.1 = 0 → Cond.static me.1 ∈ lw_tbl ∧ goodWord (Cond.static me.1) = true) ∧ (me.2.2.2.2.2.2.2.2.2.1 = 1 → (Cond.instanceMethod me.1 ∈ lw_tbl ∧ goodWord (Cond.instanceMethod me.1) = true) ∧ (me.1.name ≠ "<init>" → Cond.selects me.1.cls me.1 me.1 ∈ lw_tbl ∧ goodWord (Cond.selects me.1.cls me.1 me.1) = true) ∧ ∃ fl, mCF[me.2.2.2.2.2.2.2.2.2.2]? = some (me.1.cls, fl)) := by
  obtain ⟨y, bytes, ml, ret, np, pc, pk, ps, pi, kd, ci⟩ := me
  simp only [m_chm, Bool.and_eq_true, decide_eq_true_eq] at h
  obtain ⟨⟨⟨⟨⟨⟨⟨⟨h1, h2⟩, h3⟩, h4⟩, h5⟩, h6⟩, h7⟩, h8⟩, -⟩ := h
  refine ⟨mc_w_of h1, mc_w_of h3, h4, ⟨h5, h6⟩, h7, h8, fun z => ?_, fun z => ?_⟩
  · have z : kd = 0 := z
    subst z
    exact mc_w_of h2
  · have z : kd = 1 := z
    subst z
    simp only [Bool.and_eq_true, Bool.or_eq_true, decide_eq_true_eq] at h2
    obtain ⟨⟨h9, h10⟩, h11⟩ := h2
    refine ⟨mc_w_of h9, fun hn => mc_w_of (h10.resolve_left hn), ?_⟩
    split at h11
    · rename_i C fl e1
      refine ⟨fl, ?_⟩
      show mCF[ci]? = some (y.cls, fl)
      rw [e1, of_decide_eq_true h11]
    · cases h11
theorem m_chm_ret {me : mMe} (h : m_chm me = true) (hn : me.1.name = "<init>") : me.2.2.2.1 = none := by
  obtain ⟨y, bytes, ml, ret, np, pc, pk, ps, pi, kd, ci⟩ := me
  simp only [m_chm, Bool.and_eq_true, Bool.or_eq_true, decide_eq_true_eq] at h
  exact h.2.resolve_left (fun z => z hn)
theorem m_cat_em {ad : Nat → Nat} (st : List Value) : ((st.map (m_em ad)).map fun v => v.category).sum = m_cat st := by
  unfold m_cat
  rw [List.map_map]
  congr 1
  exact List.map_congr_left fun v _ => m_em_cat ad v
section MC
variable {p : Program} {l : Launch} {e : Env} {R : Room} {s : State} {m : MethodId} {args : Array Value} {below : List Frame} {meth : Method} {c : Code} {H : Heap} {locs : List Loc} {cells slots : Nat} {Q : State → Prop}
variable {D : va_G} {cT : Nat → ClassId} {aS : (Nat → Nat) × (Nat → Nat)} {b0 b L : Nat} {xs : Nat → Int32} {mi : Nat} {me : mMe}
set_option maxHeartbeats 4000000 in
theorem m_met {a d : Nat} {me' : mMe} {av : List Value} {h h1 : mH} {rv : Option Value} (hme : mMT[a]? = some me') (hch : m_chm me' = true) (hl : (m_ent a av).length = m_ml a) (hmono : m_cs h ≤ m_cs h1 ∧ m_ss h ≤ m_ss h1)
    (S : m_SimAt l D cT aS b0 b L xs a d 0 (m_ent a av) [] h rv h1) : Met l me'.1 (m_wds me') (m_rm d (m_cs h1 - m_cs h) (m_ss h1 - m_ss h)) (m_Pc D cT aS b0 b L xs h av) (m_Qc D cT b0 b rv h1) (m_cs h1 - m_cs h) (m_ss h1 - m_ss h) (m_A b0) := by
  refine m_ofW (cc := me'.2.1) (maxL := me'.2.2.1) (ret := me'.2.2.2.1) (m_chm_of hch).2.2.1 rfl ?_
  intro p e s m args below meth c s₁ B hml hv
  obtain ⟨rfl, hW, hK, hN, hX, hb, hb0, hz, hT⟩ := hv
  have hts := atoms_spec (ws := m_wds me') B.pre
  have C : m_C p s m (av.map (m_em (m_ad b0 b))).toArray meth c D cT aS b0 b L xs a me' := ⟨B.exec, hme, B.bytes, hml, findClass_of_methodNamed B.named, B.returns, (name_of_methodNamed B.named B.method).1, B.notSynchronized, fun w hw hg => hts w (List.mem_cons_of_mem _ (List.mem_filter.mpr ⟨hw, hg⟩)), hN, hK, hX, hb, hb0, hT⟩
  rw [lg_entry_eq]
  obtain ⟨hlh, hll⟩ := m_lh_ent (ad := m_ad b0 b) hme hl
  refine S p e _ s m _ below meth c me' s.heap [] 0 0 _ h _ C (Nat.le_refl _) (Nat.le_refl _) hll ⟨hW, va_S.rf, hlh, Nat.zero_add _, Nat.zero_add _, hz⟩ ⟨by show _ ≤ (m_cs h1 - m_cs h) + _; omega, by show _ ≤ (m_ss h1 - m_ss h) + _; omega⟩ ?_
  intro pc' H1 locs1 ls1 cells1 slots1 hret hW1 hS1 hc1 hs1
  obtain rfl : cells1 = m_cs h1 - m_cs h := by omega
  obtain rfl : slots1 = m_ss h1 - m_ss h := by omega
  rcases hret with ⟨v, rfl, hd, hr | ⟨hr, hv⟩⟩ | ⟨v, rfl, hd, hr⟩ | ⟨rfl, hd, hr⟩
  · exact W.iret C.1 C.2.2.1 (C.2.2.2.2.2.1.trans hr) (fun t ht hw => ⟨rfl, by rw [ht]; exact hW1, hS1.F ht⟩) hS1.2.2 hd B.notSynchronized
  · exact W.zret C.1 C.2.2.1 (C.2.2.2.2.2.1.trans hr) (m_nar01 hv) (fun t ht hw => ⟨rfl, by rw [ht]; exact hW1, hS1.F ht⟩) hS1.2.2 hd B.notSynchronized
  · exact W.lret C.1 C.2.2.1 (C.2.2.2.2.2.1.trans hr) (fun t ht hw => ⟨rfl, by rw [ht]; exact hW1, hS1.F ht⟩) hS1.2.2 hd B.notSynchronized
  · exact W.vret C.1 C.2.2.1 (C.2.2.2.2.2.1.trans hr) (fun t ht hw => ⟨rfl, by rw [ht]; exact hW1, hS1.F ht⟩) hS1.2.2 hd B.notSynchronized
theorem m_cwords (C : m_C p s m args meth c D cT aS b0 b L xs mi me) {me' : mMe} (hch : m_chm me' = true) : ∀ w ∈ m_wds me', ∀ (a' : Array Value) (U : State), s.WarmedH U.vm → w.before a' U = true := by
  intro w hw a' U hU
  rcases List.mem_cons.mp hw with rfl | hw
  · exact word_at hU (good_of_word (m_chm_of hch).1.2) (C.2.2.2.2.2.2.2.2.1 _ (m_chm_of hch).1.1 (m_chm_of hch).1.2)
  · obtain ⟨h1, h2⟩ := List.mem_filter.mp hw
    exact word_at hU (good_of_word h2) (C.2.2.2.2.2.2.2.2.1 _ h1 h2)
theorem m_np {me' : mMe} {n : Nat} (h : (parseMethodDescriptor me'.1.desc).map (fun d => d.parameters.length) = some n) : ∀ sig, parseMethodDescriptor me'.1.desc = some sig → n = sig.parameters.length := by
  intro sig hs
  rw [hs] at h
  exact (Option.some.inj h).symm
theorem m_cb (C : m_C p s m args meth c D cT aS b0 b L xs mi me) {me' : mMe} {d i q mc ms : Nat} (hch : m_chm me' = true) (hq : mc_w q (.methodLink me.1.cls i me'.1) = true) (hf : d + 1 ≤ R.frames) (hlo : 64 * (d + 1) + 20 ≤ R.locals) :
    CallB R s args me.1.cls i me'.1 me'.2.1 me'.2.2.1 me'.2.2.2.1 (m_wds me') (m_rm d mc ms) mc ms me'.2.2.2.2.1 := by
  obtain ⟨h1, h2, h3, h4, h5, h6, -⟩ := m_chm_of hch
  exact ⟨rfl, rfl, hf, by show 8 + (_ + 11) + (64 * d + 20) ≤ _; omega, m_cwords C hch, List.mem_cons_self, C.2.2.2.2.2.2.2.2.1 _ h1.1 h1.2, C.2.2.2.2.2.2.2.2.1 _ h2.1 h2.2, h4, m_np h5, C.word hq⟩
theorem m_cn (C : m_C p s m args meth c D cT aS b0 b L xs mi me) {me' : mMe} {d i q mc ms : Nat} (hch : m_chm me' = true) (hq : mc_n q (.methodLinkNest me.1.cls i me'.1 "NoteHouse") = true) (hf : d + 1 ≤ R.frames) (hlo : 64 * (d + 1) + 20 ≤ R.locals) :
    va_CN R s args me.1.cls i me'.1 "NoteHouse" me'.2.1 me'.2.2.1 me'.2.2.2.1 (m_wds me') (m_rm d mc ms) mc ms me'.2.2.2.2.1 := by
  obtain ⟨h1, h2, h3, h4, h5, h6, -⟩ := m_chm_of hch
  have hw := List.mem_of_getElem? (of_decide_eq_true hq)
  exact ⟨⟨rfl, rfl, hf, by show 8 + (_ + 11) + (64 * d + 20) ≤ _; omega, m_cwords C hch, List.mem_cons_self⟩, C.2.2.2.2.2.2.2.2.1 _ h1.1 h1.2, C.2.2.2.2.2.2.2.2.1 _ h2.1 h2.2, h4, m_np h5, va_Nw.use rfl (C.2.2.2.2.2.2.2.2.2.1 _ hw rfl)⟩
theorem mc_call_of {own : String} {i a bb cc q kind : Nat} {ini : Bool} {me' : mMe} (hme : mMT[a]? = some me') (h : mc_call own i a bb cc q kind ini = true) : ((cc = 0 ∧ mc_w q (.methodLink own i me'.1) = true) ∨ (cc ≠ 0 ∧ mc_n q (.methodLinkNest own i me'.1 "NoteHouse") = true)) ∧ me'.2.2.2.2.1 = bb ∧ me'.2.2.2.2.2.2.2.2.2.1 = kind ∧ (ini = true → me'.1.name = "<init>") ∧ (ini = false → me'.1.name ≠ "<init>") ∧ a ≠ 0 := by
  obtain ⟨y, bytes, ml, ret, np, pc, pk, ps, pi, kd, ci⟩ := me'
  unfold mc_call at h
  rw [hme] at h
  simp only [Bool.and_eq_true, Bool.or_eq_true, Bool.not_eq_true', decide_eq_true_eq] at h
  obtain ⟨⟨⟨⟨⟨h1, h2⟩, h3⟩, h4⟩, h5⟩, h6⟩ := h
  refine ⟨?_, h2, h3, fun z => ?_, fun z => ?_, h6⟩
  · split at h1
    · exact Or.inl ⟨rfl, h1⟩
    · rename_i hne
      exact Or.inr ⟨fun z => hne z, h1⟩
  · rcases h4 with h4 | h4
    · rw [z] at h4; cases h4
    · exact h4
  · rcases h5 with h5 | h5
    · rw [z] at h5; cases h5
    · exact h5
end MC
