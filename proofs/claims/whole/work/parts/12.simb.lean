/-! ONE STEP OF THE SMALL MACHINE IS A STEP OF THE MACHINE (locals, stack, branches); written by program: wip/whole/gen/simb.py -/
/-- what is known of the one text, of the switch for texts, of the maker of messages -/
def m_text : String := "out rate buy lend hide show lift gold notes reserve week day price sum days names town if or and not "
def m_Str (aS : (Nat → Nat) × (Nat → Nat)) (b0 : Nat) (s : State) : Prop := vk_R "NoteHouse$Reader" 100 m_text (aS.1 0) s ∧ vk_S 1 [101] [m_txt.map Int32.ofNat] aS.1 aS.2 (m_A b0) s s.heap ∧ va_Z "java/lang/String" "COMPACT_STRINGS" "Z" (.int 1) (m_A b0) s s.heap ∧ va_Zq "jdk/internal/util/Preconditions" "SIOOBE_FORMATTER" "Ljava/util/function/BiFunction;" (m_A b0) s s.heap
/-- what is known of a frame of method mi: the machine, the code, the words, the classes, the script -/
def m_C (p : Program) (s : State) (m : MethodId) (args : Array Value) (meth : Method) (c : Code) (D : va_G) (cT : Nat → ClassId) (aS : (Nat → Nat) × (Nat → Nat)) (b0 b L : Nat) (xs : Nat → Int32) (mi : Nat) (me : mMe) : Prop :=
  p.tables.exec = Jvm.exec ∧ mMT[mi]? = some me ∧ c.code = me.2.1 ∧ c.maxLocals = me.2.2.1 ∧ s.vm.findClass me.1.cls = some m.cls ∧ meth.sig.returnType = me.2.2.2.1 ∧ meth.name = me.1.name ∧ meth.locks = false ∧ (∀ w ∈ lw_tbl, goodWord w = true → w.before args s = true) ∧ (∀ w ∈ lw_tbl, m_nest w = true → va_Nw w s) ∧ va_K D mCL (m_tys cT) s ∧ va_X b L xs s s.heap ∧ b < b0 ∧ b0 ≤ s.heap.size ∧ m_Str aS b0 s
theorem mc_w_of {q : Nat} {w : Cond} (h : mc_w q w = true) : w ∈ lw_tbl ∧ goodWord w = true := by
  simp only [mc_w, Bool.and_eq_true, decide_eq_true_eq] at h
  exact ⟨List.mem_of_getElem? h.1, h.2⟩
theorem m_C.word {p : Program} {s : State} {m : MethodId} {args : Array Value} {meth : Method} {c : Code} {D : va_G} {cT : Nat → ClassId} {aS : (Nat → Nat) × (Nat → Nat)} {b0 b L : Nat} {xs : Nat → Int32} {mi : Nat} {me : mMe} (C : m_C p s m args meth c D cT aS b0 b L xs mi me) {q : Nat} {w : Cond} (h : mc_w q w = true) : w.before args s = true :=
  C.2.2.2.2.2.2.2.2.1 w (mc_w_of h).1 (mc_w_of h).2
section MSIM
variable {p : Program} {l : Launch} {e : Env} {R : Room} {s : State} {m : MethodId} {args : Array Value} {below : List Frame} {meth : Method} {c : Code} {H : Heap} {locs : List Loc} {cells slots : Nat} {Q : State → Prop}
variable {D : va_G} {cT : Nat → ClassId} {aS : (Nat → Nat) × (Nat → Nat)} {b0 b L : Nat} {xs : Nat → Int32} {mi : Nat} {me : mMe}
/-- what stands at a place of a frame -/
def m_St (D : va_G) (cT : Nat → ClassId) (b0 b : Nat) (s : State) (h0 h : mH) (H : Heap) (locs : List Loc) (ls : Array Slot) (lo : List (Option Value)) (cells slots : Nat) : Prop :=
  m_Wd D (m_ad b0 b) cT h H ∧ va_S (m_A b0) s.heap H locs ∧ m_lh (m_ad b0 b) ls lo ∧ cells + m_cs h0 = m_cs h ∧ slots + m_ss h0 = m_ss h ∧ s.heap.size ≤ b0 + m_cs h0
theorem m_lh.inc {ad : Nat → Nat} {ls ls' : Array Slot} {lo : List (Option Value)} {i : Nat} {x v : Int32} (h : m_lh ad ls lo) (hlo : lo[i]? = some (some (.int x)))
    (h' : lv_has ls' lo.length ((i, Value.int v) :: (m_lv ad lo).filter (fun q => !(q.1 == i) && !(q.1 + 1 == i && q.2.category == 2)))) : m_lh ad ls' (lo.set i (some (.int v))) := by
  have hi := (List.getElem?_eq_some_iff.mp hlo).1
  refine h.set hi ?_ h'
  cases i with
  | zero => rfl
  | succ k =>
    cases hk : lo[k]? with
    | none => simp [m_lng, hk]
    | some o =>
      cases o with
      | none => simp [m_lng, hk]
      | some w =>
        simp only [m_lng, hk]
        refine decide_eq_false fun hc => ?_
        have h1 := h.2.2 (k + 1) _ hlo
        have h2 := h.2.1.1 k _ (h.2.2 k w hk) (by rw [m_em_cat]; exact hc)
        rw [h1] at h2
        cases h2
set_option maxHeartbeats 4000000 in
theorem m_s1 (C : m_C p s m args meth c D cT aS b0 b L xs mi me) {ins : Instr} {len a bb cc q pc pc' : Nat} {lo lo' : List (Option Value)} {st st' : List Value} {h0 h h1 : mH} {ls : Array Slot}
    (hd : decode me.2.1 pc = .ok (ins, len)) (ht : mc_tag0 me.1.cls me.1.name pc ins a bb cc q = true) (hlen : len = m_len ins len)
    (hst : m_st1 (L, xs) ins len a bb cc pc lo st h = some (pc', lo', st', h1)) (Z : m_St D cT b0 b s h0 h H locs ls lo cells slots)
    (hroom : m_cs h1 ≤ R.cells + m_cs h0 ∧ m_ss h1 ≤ R.slots + m_ss h0) (hhp : m_hp ins = true →
      (∀ (H1 : Heap) (locs1 : List Loc) (ls1 : Array Slot) (cells1 slots1 : Nat), m_St D cT b0 b s h0 h1 H1 locs1 ls1 lo' cells1 slots1 → W p l e R s m args below meth c H1 locs1 cells1 slots1 Q (F0 m pc' ls1 (st'.map (m_em (m_ad b0 b))))) → W p l e R s m args below meth c H locs cells slots Q (F0 m pc ls (st.map (m_em (m_ad b0 b)))))
    (kk : ∀ (H1 : Heap) (locs1 : List Loc) (ls1 : Array Slot) (cells1 slots1 : Nat), m_St D cT b0 b s h0 h1 H1 locs1 ls1 lo' cells1 slots1 → W p l e R s m args below meth c H1 locs1 cells1 slots1 Q (F0 m pc' ls1 (st'.map (m_em (m_ad b0 b))))) :
    W p l e R s m args below meth c H locs cells slots Q (F0 m pc ls (st.map (m_em (m_ad b0 b)))) := by
  have hx := C.1
  have hb := C.2.2.1
  cases ins with
  | iconst i =>
    simp only [m_st1] at hst
    cases hst
    obtain rfl : len = 1 := hlen
    exact lv_iconst hx hb hd (of_decide_eq_true ht) (kk _ _ _ _ _ Z)
  | bipush i =>
    simp only [m_st1] at hst
    cases hst
    obtain rfl : len = 2 := hlen
    exact lv_bipush hx hb hd (of_decide_eq_true ht) (kk _ _ _ _ _ Z)
  | sipush i =>
    simp only [m_st1] at hst
    cases hst
    obtain rfl : len = 3 := hlen
    exact lv_sipush hx hb hd (of_decide_eq_true ht) (kk _ _ _ _ _ Z)
  | lconst i =>
    simp only [m_st1] at hst
    cases hst
    obtain rfl : len = 1 := hlen
    exact lv_lconst hx hb hd rfl (kk _ _ _ _ _ Z)
  | ldc i =>
    simp only [m_st1] at hst
    cases hst
    obtain rfl : len = 2 := hlen
    exact lv_ldc hx hb C.2.2.2.2.1 (C.word ht) hd (kk _ _ _ _ _ Z)
  | ldc_w i =>
    simp only [m_st1] at hst
    cases hst
    obtain rfl : len = 3 := hlen
    exact lv_ldcw hx hb C.2.2.2.2.1 (C.word ht) hd (kk _ _ _ _ _ Z)
  | ldc2_w i =>
    simp only [m_st1] at hst
    cases hst
    obtain rfl : len = 3 := hlen
    exact lv_ldc2 hx hb C.2.2.2.2.1 (C.word ht) hd (kk _ _ _ _ _ Z)
  | iload i =>
    simp only [m_st1] at hst
    split at hst
    · rename_i hlo
      cases hst
      obtain rfl : len = 2 := hlen
      obtain rfl := of_decide_eq_true ht
      exact lv_iload hx hb hd (Z.2.2.1.2.2 _ _ hlo) (kk _ _ _ _ _ Z)
    · cases hst
  | iload_n i =>
    simp only [m_st1] at hst
    split at hst
    · rename_i hlo
      cases hst
      obtain rfl : len = 1 := hlen
      exact lv_iload_n hx hb hd (of_decide_eq_true ht) (Z.2.2.1.2.2 _ _ hlo) (kk _ _ _ _ _ Z)
    · cases hst
  | lload i =>
    simp only [m_st1] at hst
    split at hst
    · rename_i hlo
      cases hst
      obtain rfl : len = 2 := hlen
      obtain rfl := of_decide_eq_true ht
      exact lv_lload hx hb hd (Z.2.2.1.2.2 _ _ hlo) (kk _ _ _ _ _ Z)
    · cases hst
  | lload_n i =>
    simp only [m_st1] at hst
    split at hst
    · rename_i hlo
      cases hst
      obtain rfl : len = 1 := hlen
      exact lv_lload_n hx hb hd (of_decide_eq_true ht) (Z.2.2.1.2.2 _ _ hlo) (kk _ _ _ _ _ Z)
    · cases hst
  | aload i =>
    simp only [m_st1] at hst
    split at hst
    · rename_i hlo
      cases hst
      obtain rfl : len = 2 := hlen
      obtain rfl := of_decide_eq_true ht
      exact lv_aload hx hb hd (Z.2.2.1.2.2 _ _ hlo) (kk _ _ _ _ _ Z)
    · cases hst
  | aload_n i =>
    simp only [m_st1] at hst
    split at hst
    · rename_i hlo
      cases hst
      obtain rfl : len = 1 := hlen
      exact lv_aload_n hx hb hd (of_decide_eq_true ht) (Z.2.2.1.2.2 _ _ hlo) (kk _ _ _ _ _ Z)
    · cases hst
  | istore i =>
    simp only [m_st1] at hst
    split at hst
    · split at hst
      · rename_i hc
        cases hst
        obtain rfl : len = 2 := hlen
        obtain rfl := of_decide_eq_true ht
        exact lv_istore hx hb hd Z.2.2.1.has hc rfl (fun ls' h' => kk _ _ _ _ _ ⟨Z.1, Z.2.1, Z.2.2.1.put hc h', Z.2.2.2⟩)
      · cases hst
    · cases hst
  | istore_n i =>
    simp only [m_st1] at hst
    split at hst
    · split at hst
      · rename_i hc
        cases hst
        obtain rfl : len = 1 := hlen
        exact lv_istore_n hx hb hd (of_decide_eq_true ht) Z.2.2.1.has hc rfl (fun ls' h' => kk _ _ _ _ _ ⟨Z.1, Z.2.1, Z.2.2.1.put hc h', Z.2.2.2⟩)
      · cases hst
    · cases hst
  | astore i =>
    simp only [m_st1] at hst
    split at hst
    · split at hst
      · rename_i hc
        cases hst
        obtain rfl : len = 2 := hlen
        obtain rfl := of_decide_eq_true ht
        exact lv_astore hx hb hd Z.2.2.1.has hc rfl (fun ls' h' => kk _ _ _ _ _ ⟨Z.1, Z.2.1, Z.2.2.1.put hc h', Z.2.2.2⟩)
      · cases hst
    · cases hst
  | astore_n i =>
    simp only [m_st1] at hst
    split at hst
    · split at hst
      · rename_i hc
        cases hst
        obtain rfl : len = 1 := hlen
        exact lv_astore_n hx hb hd (of_decide_eq_true ht) Z.2.2.1.has hc rfl (fun ls' h' => kk _ _ _ _ _ ⟨Z.1, Z.2.1, Z.2.2.1.put hc h', Z.2.2.2⟩)
      · cases hst
    · cases hst
  | lstore i =>
    simp only [m_st1] at hst
    split at hst
    · split at hst
      · rename_i hc
        cases hst
        obtain rfl : len = 2 := hlen
        obtain rfl := of_decide_eq_true ht
        exact lv_lstore hx hb hd Z.2.2.1.has hc rfl (fun ls' h' => kk _ _ _ _ _ ⟨Z.1, Z.2.1, Z.2.2.1.put2 hc h', Z.2.2.2⟩)
      · cases hst
    · cases hst
  | lstore_n i =>
    simp only [m_st1] at hst
    split at hst
    · split at hst
      · rename_i hc
        cases hst
        obtain rfl : len = 1 := hlen
        exact lv_lstore_n hx hb hd (of_decide_eq_true ht) Z.2.2.1.has hc rfl (fun ls' h' => kk _ _ _ _ _ ⟨Z.1, Z.2.1, Z.2.2.1.put2 hc h', Z.2.2.2⟩)
      · cases hst
    · cases hst
  | iinc i n =>
    simp only [m_st1] at hst
    split at hst
    · rename_i x hlo
      cases hst
      obtain rfl : len = 3 := hlen
      simp only [mc_tag0, Bool.and_eq_true, decide_eq_true_eq] at ht
      obtain ⟨rfl, h2⟩ := ht
      obtain ⟨k, hk⟩ := List.getElem?_of_mem (m_lv_mem (ad := m_ad b0 b) hlo)
      have hi := (List.getElem?_eq_some_iff.mp hlo).1
      exact lv_iinc hx hb hd Z.2.2.1.has hk (by rw [h2]) hi rfl (fun ls' h' => kk _ _ _ _ _ ⟨Z.1, Z.2.1, m_lh.inc Z.2.2.1 hlo h', Z.2.2.2⟩)
    · cases hst
  | iadd =>
    simp only [m_st1] at hst
    split at hst
    · cases hst
      obtain rfl : len = 1 := hlen
      exact lv_iadd hx hb hd (kk _ _ _ _ _ Z)
    · cases hst
  | isub =>
    simp only [m_st1] at hst
    split at hst
    · cases hst
      obtain rfl : len = 1 := hlen
      exact lv_isub hx hb hd (kk _ _ _ _ _ Z)
    · cases hst
  | imul =>
    simp only [m_st1] at hst
    split at hst
    · cases hst
      obtain rfl : len = 1 := hlen
      exact lv_imul hx hb hd (kk _ _ _ _ _ Z)
    · cases hst
  | iand =>
    simp only [m_st1] at hst
    split at hst
    · cases hst
      obtain rfl : len = 1 := hlen
      exact lv_iand hx hb hd (kk _ _ _ _ _ Z)
    · cases hst
  | ixor =>
    simp only [m_st1] at hst
    split at hst
    · cases hst
      obtain rfl : len = 1 := hlen
      exact lv_ixor hx hb hd (kk _ _ _ _ _ Z)
    · cases hst
  | ishl =>
    simp only [m_st1] at hst
    split at hst
    · cases hst
      obtain rfl : len = 1 := hlen
      exact lv_ishl hx hb hd (kk _ _ _ _ _ Z)
    · cases hst
  | ishr =>
    simp only [m_st1] at hst
    split at hst
    · cases hst
      obtain rfl : len = 1 := hlen
      exact lv_ishr hx hb hd (kk _ _ _ _ _ Z)
    · cases hst
  | ladd =>
    simp only [m_st1] at hst
    split at hst
    · cases hst
      obtain rfl : len = 1 := hlen
      exact lv_ladd hx hb hd (kk _ _ _ _ _ Z)
    · cases hst
  | lsub =>
    simp only [m_st1] at hst
    split at hst
    · cases hst
      obtain rfl : len = 1 := hlen
      exact lv_lsub hx hb hd (kk _ _ _ _ _ Z)
    · cases hst
  | lmul =>
    simp only [m_st1] at hst
    split at hst
    · cases hst
      obtain rfl : len = 1 := hlen
      exact lv_lmul hx hb hd (kk _ _ _ _ _ Z)
    · cases hst
  | iushr =>
    simp only [m_st1] at hst
    split at hst
    · cases hst
      obtain rfl : len = 1 := hlen
      exact lv_iushr hx hb hd rfl (kk _ _ _ _ _ Z)
    · cases hst
  | ineg =>
    simp only [m_st1] at hst
    split at hst
    · cases hst
      obtain rfl : len = 1 := hlen
      exact lv_ineg hx hb hd (kk _ _ _ _ _ Z)
    · cases hst
  | lcmp =>
    simp only [m_st1] at hst
    split at hst
    · cases hst
      obtain rfl : len = 1 := hlen
      exact W.lcmp hx hb hd (kk _ _ _ _ _ Z)
    · cases hst
  | i2l =>
    simp only [m_st1] at hst
    split at hst
    · cases hst
      obtain rfl : len = 1 := hlen
      exact lv_i2l hx hb hd rfl (kk _ _ _ _ _ Z)
    · cases hst
  | l2i =>
    simp only [m_st1] at hst
    split at hst
    · cases hst
      obtain rfl : len = 1 := hlen
      exact lv_l2i hx hb hd rfl (kk _ _ _ _ _ Z)
    · cases hst
  | pop =>
    simp only [m_st1] at hst
    split at hst
    · cases hst
      obtain rfl : len = 1 := hlen
      exact lv_pop hx hb hd rfl (kk _ _ _ _ _ Z)
    · cases hst
  | dup2 =>
    simp only [m_st1] at hst
    split at hst
    · cases hst
      obtain rfl : len = 1 := hlen
      exact lv_dup2_11 hx hb hd rfl rfl (kk _ _ _ _ _ Z)
    · cases hst
  | idiv =>
    simp only [m_st1] at hst
    split at hst
    · split at hst
      · cases hst
      · rename_i hc
        cases hst
        obtain rfl : len = 1 := hlen
        exact lv_idiv hx hb hd hc (kk _ _ _ _ _ Z)
    · cases hst
  | irem =>
    simp only [m_st1] at hst
    split at hst
    · split at hst
      · cases hst
      · rename_i hc
        cases hst
        obtain rfl : len = 1 := hlen
        exact lv_irem hx hb hd hc (kk _ _ _ _ _ Z)
    · cases hst
  | ldiv =>
    simp only [m_st1] at hst
    split at hst
    · split at hst
      · cases hst
      · rename_i hc
        cases hst
        obtain rfl : len = 1 := hlen
        exact lv_ldiv hx hb hd hc (kk _ _ _ _ _ Z)
    · cases hst
  | dup =>
    simp only [m_st1] at hst
    split at hst
    · cases hst
      obtain rfl : len = 1 := hlen
      exact lv_dup hx hb hd rfl (kk _ _ _ _ _ Z)
    · cases hst
      obtain rfl : len = 1 := hlen
      exact lv_dup hx hb hd rfl (kk _ _ _ _ _ Z)
    · cases hst
  | ifCond cd off =>
    simp only [m_st1] at hst
    split at hst
    · obtain rfl : len = 3 := hlen
      rename Jvm.ClassFile.Cond => cd
      cases cd
      · simp only [m_ifc, m_br] at hst
        exact lv_if_eq hx hb hd (of_decide_eq_true ht) (fun hc => by rw [if_pos hc] at hst; cases hst; exact kk _ _ _ _ _ Z) (fun hc => by rw [if_neg hc] at hst; cases hst; exact kk _ _ _ _ _ Z)
      · simp only [m_ifc, m_br] at hst
        exact lv_if_ne hx hb hd (of_decide_eq_true ht) (fun hc => by rw [if_neg hc] at hst; cases hst; exact kk _ _ _ _ _ Z) (fun hc => by rw [if_pos hc] at hst; cases hst; exact kk _ _ _ _ _ Z)
      · simp only [m_ifc, m_br] at hst
        exact lv_if_lt hx hb hd (of_decide_eq_true ht) (fun hc => by rw [if_pos hc] at hst; cases hst; exact kk _ _ _ _ _ Z) (fun hc => by rw [if_neg hc] at hst; cases hst; exact kk _ _ _ _ _ Z)
      · simp only [m_ifc, m_br] at hst
        exact lv_if_ge hx hb hd (of_decide_eq_true ht) (fun hc => by rw [if_pos hc] at hst; cases hst; exact kk _ _ _ _ _ Z) (fun hc => by rw [if_neg hc] at hst; cases hst; exact kk _ _ _ _ _ Z)
      · simp only [m_ifc, m_br] at hst
        exact lv_if_gt hx hb hd (of_decide_eq_true ht) (fun hc => by rw [if_pos hc] at hst; cases hst; exact kk _ _ _ _ _ Z) (fun hc => by rw [if_neg hc] at hst; cases hst; exact kk _ _ _ _ _ Z)
      · simp only [m_ifc, m_br] at hst
        exact lv_if_le hx hb hd (of_decide_eq_true ht) (fun hc => by rw [if_pos hc] at hst; cases hst; exact kk _ _ _ _ _ Z) (fun hc => by rw [if_neg hc] at hst; cases hst; exact kk _ _ _ _ _ Z)
    · cases hst
  | if_icmp cd off =>
    simp only [m_st1] at hst
    split at hst
    · obtain rfl : len = 3 := hlen
      rename Jvm.ClassFile.Cond => cd
      cases cd
      · simp only [m_icmp, m_br] at hst
        exact lv_icmp_eq hx hb hd (of_decide_eq_true ht) (fun hc => by rw [if_pos hc] at hst; cases hst; exact kk _ _ _ _ _ Z) (fun hc => by rw [if_neg hc] at hst; cases hst; exact kk _ _ _ _ _ Z)
      · simp only [m_icmp, m_br] at hst
        exact lv_icmp_ne hx hb hd (of_decide_eq_true ht) (fun hc => by rw [if_neg hc] at hst; cases hst; exact kk _ _ _ _ _ Z) (fun hc => by rw [if_pos hc] at hst; cases hst; exact kk _ _ _ _ _ Z)
      · simp only [m_icmp, m_br] at hst
        exact lv_icmp_lt hx hb hd (of_decide_eq_true ht) (fun hc => by rw [if_pos hc] at hst; cases hst; exact kk _ _ _ _ _ Z) (fun hc => by rw [if_neg hc] at hst; cases hst; exact kk _ _ _ _ _ Z)
      · simp only [m_icmp, m_br] at hst
        exact lv_icmp_ge hx hb hd (of_decide_eq_true ht) (fun hc => by rw [if_pos hc] at hst; cases hst; exact kk _ _ _ _ _ Z) (fun hc => by rw [if_neg hc] at hst; cases hst; exact kk _ _ _ _ _ Z)
      · simp only [m_icmp, m_br] at hst
        exact lv_icmp_gt hx hb hd (of_decide_eq_true ht) (fun hc => by rw [if_pos hc] at hst; cases hst; exact kk _ _ _ _ _ Z) (fun hc => by rw [if_neg hc] at hst; cases hst; exact kk _ _ _ _ _ Z)
      · simp only [m_icmp, m_br] at hst
        exact lv_icmp_le hx hb hd (of_decide_eq_true ht) (fun hc => by rw [if_pos hc] at hst; cases hst; exact kk _ _ _ _ _ Z) (fun hc => by rw [if_neg hc] at hst; cases hst; exact kk _ _ _ _ _ Z)
    · cases hst
  | goto i =>
    simp only [m_st1] at hst
    cases hst
    obtain rfl : len = 3 := hlen
    exact lv_goto hx hb hd (of_decide_eq_true ht) (kk _ _ _ _ _ Z)
  | tableswitch dflt lw hi offs =>
    simp only [m_st1] at hst
    split at hst
    · split at hst
      · rename_i hc
        split at hst
        · rename_i hn
          cases hst
          exact lv_tableOut hx hb hd hc (Int.toNat_of_nonneg hn).symm (kk _ _ _ _ _ Z)
        · cases hst
      · rename_i hc
        split at hst
        · rename_i off ho
          split at hst
          · rename_i hn
            cases hst
            exact lv_tableIn hx hb hd (fun z => hc (Or.inl z)) (fun z => hc (Or.inr z)) ho (Int.toNat_of_nonneg hn).symm (kk _ _ _ _ _ Z)
          · cases hst
        · cases hst
    · cases hst
  | getfield => exact hhp rfl kk
  | putfield => exact hhp rfl kk
  | iaload => exact hhp rfl kk
  | baload => exact hhp rfl kk
  | iastore => exact hhp rfl kk
  | bastore => exact hhp rfl kk
  | arraylength => exact hhp rfl kk
  | aaload => exact hhp rfl kk
  | aastore => exact hhp rfl kk
  | newarray => exact hhp rfl kk
  | anewarray => exact hhp rfl kk
  | new => exact hhp rfl kk
  | _ => exact absurd hst (by simp [m_st1])
end MSIM
