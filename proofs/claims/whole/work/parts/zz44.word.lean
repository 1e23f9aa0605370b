/-! THE ONE TEXT: length and charAt of it, and wordAt (its numbers by program: wip/whole/gen/word.py) -/
def yJ_len : MethodName := ⟨"java/lang/String", "length", "()I"⟩
def yJ_cod : MethodName := ⟨"java/lang/String", "coder", "()B"⟩
def yJ_cha : MethodName := ⟨"java/lang/String", "charAt", "(I)C"⟩
def yJ_lat : MethodName := ⟨"java/lang/String", "isLatin1", "()Z"⟩
def yJ_lca : MethodName := ⟨"java/lang/StringLatin1", "charAt", "([BI)C"⟩
def yJ_chk : MethodName := ⟨"java/lang/String", "checkIndex", "(II)V"⟩
def yJ_pre : MethodName := ⟨"jdk/internal/util/Preconditions", "checkIndex", "(IILjava/util/function/BiFunction;)I"⟩
abbrev bJ_len : ByteArray := prog_17_method_54_code
theorem cJ_len : mc_w 1135 (.code yJ_len bJ_len 1 (some .int)) = true := by decide +kernel
theorem kJ_len : mc_w 1133 (.instanceMethod yJ_len) = true := by decide +kernel
theorem sJ_len : mc_w 1134 (.selects "java/lang/String" yJ_len yJ_len) = true := by decide +kernel
theorem nJ_len : mc_w 140 (.initialized "java/lang/String") = true := by decide +kernel
theorem dJ_len_0 : decode bJ_len 0 = .ok (.aload_n 0, 1) := by decide +kernel
theorem dJ_len_1 : decode bJ_len 1 = .ok (.getfield 9, 3) := by decide +kernel
theorem fJ_len_1 : mc_w 2183 (.fieldLink "java/lang/String" 9 "java/lang/String" "value" "[B") = true := by decide +kernel
theorem dJ_len_4 : decode bJ_len 4 = .ok (.arraylength, 1) := by decide +kernel
theorem dJ_len_5 : decode bJ_len 5 = .ok (.aload_n 0, 1) := by decide +kernel
theorem dJ_len_6 : decode bJ_len 6 = .ok (.invokevirtual 335, 3) := by decide +kernel
theorem lJ_len_6 : mc_w 1136 (.methodLink "java/lang/String" 335 yJ_cod) = true := by decide +kernel
theorem dJ_len_9 : decode bJ_len 9 = .ok (.ishr, 1) := by decide +kernel
theorem dJ_len_10 : decode bJ_len 10 = .ok (.ireturn, 1) := by decide +kernel
abbrev bJ_cod : ByteArray := prog_17_method_152_code
theorem cJ_cod : mc_w 1139 (.code yJ_cod bJ_cod 1 (some .byte)) = true := by decide +kernel
theorem kJ_cod : mc_w 1137 (.instanceMethod yJ_cod) = true := by decide +kernel
theorem sJ_cod : mc_w 1138 (.selects "java/lang/String" yJ_cod yJ_cod) = true := by decide +kernel
theorem nJ_cod : mc_w 140 (.initialized "java/lang/String") = true := by decide +kernel
theorem dJ_cod_0 : decode bJ_cod 0 = .ok (.getstatic 38, 3) := by decide +kernel
theorem fJ_cod_0 : mc_w 1140 (.fieldLink "java/lang/String" 38 "java/lang/String" "COMPACT_STRINGS" "Z") = true := by decide +kernel
theorem dJ_cod_3 : decode bJ_cod 3 = .ok (.ifCond .eq 10, 3) := by decide +kernel
theorem dJ_cod_6 : decode bJ_cod 6 = .ok (.aload_n 0, 1) := by decide +kernel
theorem dJ_cod_7 : decode bJ_cod 7 = .ok (.getfield 15, 3) := by decide +kernel
theorem fJ_cod_7 : mc_w 2184 (.fieldLink "java/lang/String" 15 "java/lang/String" "coder" "B") = true := by decide +kernel
theorem dJ_cod_10 : decode bJ_cod 10 = .ok (.goto 4, 3) := by decide +kernel
theorem dJ_cod_13 : decode bJ_cod 13 = .ok (.iconst 1, 1) := by decide +kernel
theorem dJ_cod_14 : decode bJ_cod 14 = .ok (.ireturn, 1) := by decide +kernel
abbrev bJ_cha : ByteArray := prog_17_method_56_code
theorem cJ_cha : mc_w 1145 (.code yJ_cha bJ_cha 2 (some .char)) = true := by decide +kernel
theorem kJ_cha : mc_w 1143 (.instanceMethod yJ_cha) = true := by decide +kernel
theorem sJ_cha : mc_w 1144 (.selects "java/lang/String" yJ_cha yJ_cha) = true := by decide +kernel
theorem nJ_cha : mc_w 140 (.initialized "java/lang/String") = true := by decide +kernel
theorem dJ_cha_0 : decode bJ_cha 0 = .ok (.aload_n 0, 1) := by decide +kernel
theorem dJ_cha_1 : decode bJ_cha 1 = .ok (.invokevirtual 492, 3) := by decide +kernel
theorem lJ_cha_1 : mc_w 1146 (.methodLink "java/lang/String" 492 yJ_lat) = true := by decide +kernel
theorem dJ_cha_4 : decode bJ_cha 4 = .ok (.ifCond .eq 12, 3) := by decide +kernel
theorem dJ_cha_7 : decode bJ_cha 7 = .ok (.aload_n 0, 1) := by decide +kernel
theorem dJ_cha_8 : decode bJ_cha 8 = .ok (.getfield 9, 3) := by decide +kernel
theorem fJ_cha_8 : mc_w 2183 (.fieldLink "java/lang/String" 9 "java/lang/String" "value" "[B") = true := by decide +kernel
theorem dJ_cha_11 : decode bJ_cha 11 = .ok (.iload_n 1, 1) := by decide +kernel
theorem dJ_cha_12 : decode bJ_cha 12 = .ok (.invokestatic 495, 3) := by decide +kernel
theorem lJ_cha_12 : mc_w 1150 (.methodLink "java/lang/String" 495 yJ_lca) = true := by decide +kernel
theorem dJ_cha_15 : decode bJ_cha 15 = .ok (.ireturn, 1) := by decide +kernel
theorem dJ_cha_16 : decode bJ_cha 16 = .ok (.aload_n 0, 1) := by decide +kernel
theorem dJ_cha_17 : decode bJ_cha 17 = .ok (.getfield 9, 3) := by decide +kernel
theorem fJ_cha_17 : mc_w 2183 (.fieldLink "java/lang/String" 9 "java/lang/String" "value" "[B") = true := by decide +kernel
theorem dJ_cha_20 : decode bJ_cha 20 = .ok (.iload_n 1, 1) := by decide +kernel
theorem dJ_cha_21 : decode bJ_cha 21 = .ok (.invokestatic 498, 3) := by decide +kernel
theorem dJ_cha_24 : decode bJ_cha 24 = .ok (.ireturn, 1) := by decide +kernel
abbrev bJ_lat : ByteArray := prog_17_method_154_code
theorem cJ_lat : mc_w 1149 (.code yJ_lat bJ_lat 1 (some .boolean)) = true := by decide +kernel
theorem kJ_lat : mc_w 1147 (.instanceMethod yJ_lat) = true := by decide +kernel
theorem sJ_lat : mc_w 1148 (.selects "java/lang/String" yJ_lat yJ_lat) = true := by decide +kernel
theorem nJ_lat : mc_w 140 (.initialized "java/lang/String") = true := by decide +kernel
theorem dJ_lat_0 : decode bJ_lat 0 = .ok (.getstatic 38, 3) := by decide +kernel
theorem fJ_lat_0 : mc_w 1140 (.fieldLink "java/lang/String" 38 "java/lang/String" "COMPACT_STRINGS" "Z") = true := by decide +kernel
theorem dJ_lat_3 : decode bJ_lat 3 = .ok (.ifCond .eq 14, 3) := by decide +kernel
theorem dJ_lat_6 : decode bJ_lat 6 = .ok (.aload_n 0, 1) := by decide +kernel
theorem dJ_lat_7 : decode bJ_lat 7 = .ok (.getfield 15, 3) := by decide +kernel
theorem fJ_lat_7 : mc_w 2184 (.fieldLink "java/lang/String" 15 "java/lang/String" "coder" "B") = true := by decide +kernel
theorem dJ_lat_10 : decode bJ_lat 10 = .ok (.ifCond .ne 7, 3) := by decide +kernel
theorem dJ_lat_13 : decode bJ_lat 13 = .ok (.iconst 1, 1) := by decide +kernel
theorem dJ_lat_14 : decode bJ_lat 14 = .ok (.goto 4, 3) := by decide +kernel
theorem dJ_lat_17 : decode bJ_lat 17 = .ok (.iconst 0, 1) := by decide +kernel
theorem dJ_lat_18 : decode bJ_lat 18 = .ok (.ireturn, 1) := by decide +kernel
abbrev bJ_lca : ByteArray := prog_18_method_2_code
theorem cJ_lca : mc_w 1152 (.code yJ_lca bJ_lca 2 (some .char)) = true := by decide +kernel
theorem kJ_lca : mc_w 1151 (.static yJ_lca) = true := by decide +kernel
theorem nJ_lca : mc_w 141 (.initialized "java/lang/StringLatin1") = true := by decide +kernel
theorem dJ_lca_0 : decode bJ_lca 0 = .ok (.iload_n 1, 1) := by decide +kernel
theorem dJ_lca_1 : decode bJ_lca 1 = .ok (.aload_n 0, 1) := by decide +kernel
theorem dJ_lca_2 : decode bJ_lca 2 = .ok (.arraylength, 1) := by decide +kernel
theorem dJ_lca_3 : decode bJ_lca 3 = .ok (.invokestatic 9, 3) := by decide +kernel
theorem lJ_lca_3 : mc_w 1153 (.methodLink "java/lang/StringLatin1" 9 yJ_chk) = true := by decide +kernel
theorem dJ_lca_6 : decode bJ_lca 6 = .ok (.aload_n 0, 1) := by decide +kernel
theorem dJ_lca_7 : decode bJ_lca 7 = .ok (.iload_n 1, 1) := by decide +kernel
theorem dJ_lca_8 : decode bJ_lca 8 = .ok (.baload, 1) := by decide +kernel
theorem dJ_lca_9 : decode bJ_lca 9 = .ok (.sipush 255, 3) := by decide +kernel
theorem dJ_lca_12 : decode bJ_lca 12 = .ok (.iand, 1) := by decide +kernel
theorem dJ_lca_13 : decode bJ_lca 13 = .ok (.i2c, 1) := by decide +kernel
theorem dJ_lca_14 : decode bJ_lca 14 = .ok (.ireturn, 1) := by decide +kernel
abbrev bJ_chk : ByteArray := prog_17_method_155_code
theorem cJ_chk : mc_w 1155 (.code yJ_chk bJ_chk 2 none) = true := by decide +kernel
theorem kJ_chk : mc_w 1154 (.static yJ_chk) = true := by decide +kernel
theorem nJ_chk : mc_w 140 (.initialized "java/lang/String") = true := by decide +kernel
theorem dJ_chk_0 : decode bJ_chk 0 = .ok (.iload_n 0, 1) := by decide +kernel
theorem dJ_chk_1 : decode bJ_chk 1 = .ok (.iload_n 1, 1) := by decide +kernel
theorem dJ_chk_2 : decode bJ_chk 2 = .ok (.getstatic 1053, 3) := by decide +kernel
theorem fJ_chk_2 : mc_w 1156 (.fieldLink "java/lang/String" 1053 "jdk/internal/util/Preconditions" "SIOOBE_FORMATTER" "Ljava/util/function/BiFunction;") = true := by decide +kernel
theorem dJ_chk_5 : decode bJ_chk 5 = .ok (.invokestatic 1059, 3) := by decide +kernel
theorem lJ_chk_5 : mc_w 1158 (.methodLink "java/lang/String" 1059 yJ_pre) = true := by decide +kernel
theorem dJ_chk_8 : decode bJ_chk 8 = .ok (.pop, 1) := by decide +kernel
theorem dJ_chk_9 : decode bJ_chk 9 = .ok (.return_, 1) := by decide +kernel
abbrev bJ_pre : ByteArray := prog_21_method_11_code
theorem cJ_pre : mc_w 1160 (.code yJ_pre bJ_pre 3 (some .int)) = true := by decide +kernel
theorem kJ_pre : mc_w 1159 (.static yJ_pre) = true := by decide +kernel
theorem nJ_pre : mc_w 142 (.initialized "jdk/internal/util/Preconditions") = true := by decide +kernel
theorem dJ_pre_0 : decode bJ_pre 0 = .ok (.iload_n 0, 1) := by decide +kernel
theorem dJ_pre_1 : decode bJ_pre 1 = .ok (.ifCond .lt 8, 3) := by decide +kernel
theorem dJ_pre_4 : decode bJ_pre 4 = .ok (.iload_n 0, 1) := by decide +kernel
theorem dJ_pre_5 : decode bJ_pre 5 = .ok (.iload_n 1, 1) := by decide +kernel
theorem dJ_pre_6 : decode bJ_pre 6 = .ok (.if_icmp .lt 10, 3) := by decide +kernel
theorem dJ_pre_9 : decode bJ_pre 9 = .ok (.aload_n 2, 1) := by decide +kernel
theorem dJ_pre_10 : decode bJ_pre 10 = .ok (.iload_n 0, 1) := by decide +kernel
theorem dJ_pre_11 : decode bJ_pre 11 = .ok (.iload_n 1, 1) := by decide +kernel
theorem dJ_pre_16 : decode bJ_pre 16 = .ok (.iload_n 0, 1) := by decide +kernel
theorem dJ_pre_17 : decode bJ_pre 17 = .ok (.ireturn, 1) := by decide +kernel
abbrev bJ_wa : ByteArray := prog_7_method_15_code
theorem dJ_wa_0 : decode bJ_wa 0 = .ok (.iconst 0, 1) := by decide +kernel
theorem dJ_wa_1 : decode bJ_wa 1 = .ok (.istore_n 3, 1) := by decide +kernel
theorem dJ_wa_2 : decode bJ_wa 2 = .ok (.iload_n 1, 1) := by decide +kernel
theorem dJ_wa_3 : decode bJ_wa 3 = .ok (.istore 4, 2) := by decide +kernel
theorem dJ_wa_5 : decode bJ_wa 5 = .ok (.iconst 1, 1) := by decide +kernel
theorem dJ_wa_6 : decode bJ_wa 6 = .ok (.istore 5, 2) := by decide +kernel
theorem dJ_wa_8 : decode bJ_wa 8 = .ok (.iconst 0, 1) := by decide +kernel
theorem dJ_wa_9 : decode bJ_wa 9 = .ok (.istore 6, 2) := by decide +kernel
theorem dJ_wa_11 : decode bJ_wa 11 = .ok (.iload 6, 2) := by decide +kernel
theorem dJ_wa_13 : decode bJ_wa 13 = .ok (.ldc 100, 2) := by decide +kernel
theorem dJ_wa_15 : decode bJ_wa 15 = .ok (.invokevirtual 102, 3) := by decide +kernel
theorem dJ_wa_18 : decode bJ_wa 18 = .ok (.if_icmp .ge 83, 3) := by decide +kernel
theorem dJ_wa_21 : decode bJ_wa 21 = .ok (.ldc 100, 2) := by decide +kernel
theorem dJ_wa_23 : decode bJ_wa 23 = .ok (.iload 6, 2) := by decide +kernel
theorem dJ_wa_25 : decode bJ_wa 25 = .ok (.invokevirtual 107, 3) := by decide +kernel
theorem dJ_wa_28 : decode bJ_wa 28 = .ok (.istore 7, 2) := by decide +kernel
theorem dJ_wa_30 : decode bJ_wa 30 = .ok (.iload 7, 2) := by decide +kernel
theorem dJ_wa_32 : decode bJ_wa 32 = .ok (.bipush 32, 2) := by decide +kernel
theorem dJ_wa_34 : decode bJ_wa 34 = .ok (.if_icmp .ne 28, 3) := by decide +kernel
theorem dJ_wa_37 : decode bJ_wa 37 = .ok (.iload 5, 2) := by decide +kernel
theorem dJ_wa_39 : decode bJ_wa 39 = .ok (.ifCond .eq 11, 3) := by decide +kernel
theorem dJ_wa_42 : decode bJ_wa 42 = .ok (.iload 4, 2) := by decide +kernel
theorem dJ_wa_44 : decode bJ_wa 44 = .ok (.iload_n 2, 1) := by decide +kernel
theorem dJ_wa_45 : decode bJ_wa 45 = .ok (.if_icmp .ne 5, 3) := by decide +kernel
theorem dJ_wa_48 : decode bJ_wa 48 = .ok (.iload_n 3, 1) := by decide +kernel
theorem dJ_wa_49 : decode bJ_wa 49 = .ok (.ireturn, 1) := by decide +kernel
theorem dJ_wa_50 : decode bJ_wa 50 = .ok (.iinc 3 1, 3) := by decide +kernel
theorem dJ_wa_53 : decode bJ_wa 53 = .ok (.iload_n 1, 1) := by decide +kernel
theorem dJ_wa_54 : decode bJ_wa 54 = .ok (.istore 4, 2) := by decide +kernel
theorem dJ_wa_56 : decode bJ_wa 56 = .ok (.iconst 1, 1) := by decide +kernel
theorem dJ_wa_57 : decode bJ_wa 57 = .ok (.istore 5, 2) := by decide +kernel
theorem dJ_wa_59 : decode bJ_wa 59 = .ok (.goto 36, 3) := by decide +kernel
theorem dJ_wa_62 : decode bJ_wa 62 = .ok (.iload 5, 2) := by decide +kernel
theorem dJ_wa_64 : decode bJ_wa 64 = .ok (.ifCond .eq 25, 3) := by decide +kernel
theorem dJ_wa_67 : decode bJ_wa 67 = .ok (.iload 4, 2) := by decide +kernel
theorem dJ_wa_69 : decode bJ_wa 69 = .ok (.iload_n 2, 1) := by decide +kernel
theorem dJ_wa_70 : decode bJ_wa 70 = .ok (.if_icmp .ge 19, 3) := by decide +kernel
theorem dJ_wa_73 : decode bJ_wa 73 = .ok (.aload_n 0, 1) := by decide +kernel
theorem dJ_wa_74 : decode bJ_wa 74 = .ok (.getfield 9, 3) := by decide +kernel
theorem dJ_wa_77 : decode bJ_wa 77 = .ok (.iload 4, 2) := by decide +kernel
theorem dJ_wa_79 : decode bJ_wa 79 = .ok (.iaload, 1) := by decide +kernel
theorem dJ_wa_80 : decode bJ_wa 80 = .ok (.iload 7, 2) := by decide +kernel
theorem dJ_wa_82 : decode bJ_wa 82 = .ok (.if_icmp .ne 7, 3) := by decide +kernel
theorem dJ_wa_85 : decode bJ_wa 85 = .ok (.iconst 1, 1) := by decide +kernel
theorem dJ_wa_86 : decode bJ_wa 86 = .ok (.goto 4, 3) := by decide +kernel
theorem dJ_wa_89 : decode bJ_wa 89 = .ok (.iconst 0, 1) := by decide +kernel
theorem dJ_wa_90 : decode bJ_wa 90 = .ok (.istore 5, 2) := by decide +kernel
theorem dJ_wa_92 : decode bJ_wa 92 = .ok (.iinc 4 1, 3) := by decide +kernel
theorem dJ_wa_95 : decode bJ_wa 95 = .ok (.iinc 6 1, 3) := by decide +kernel
theorem dJ_wa_98 : decode bJ_wa 98 = .ok (.goto (-87), 3) := by decide +kernel
theorem dJ_wa_101 : decode bJ_wa 101 = .ok (.iconst (-1), 1) := by decide +kernel
theorem dJ_wa_102 : decode bJ_wa 102 = .ok (.ireturn, 1) := by decide +kernel
theorem lJ_wa_15 : mc_w 1132 (.methodLink "NoteHouse$Reader" 102 yJ_len) = true := by decide +kernel
theorem lJ_wa_25 : mc_w 1142 (.methodLink "NoteHouse$Reader" 107 yJ_cha) = true := by decide +kernel
theorem fJ_wa_74 : mc_fld "NoteHouse$Reader" 9 5 0 3 591 = true := by decide +kernel
/-- what a frame over the text knows -/
def mJ_X (p : Program) (s : State) (m : MethodId) (args : Array Value) (c : Code) (aS : (Nat → Nat) × (Nat → Nat)) (b0 : Nat) (own : String) (cc : ByteArray) (nL : Nat) : Prop :=
  p.tables.exec = Jvm.exec ∧ c.code = cc ∧ c.maxLocals = nL ∧ s.vm.findClass own = some m.cls ∧ (∀ w ∈ lw_tbl, goodWord w = true → w.before args s = true) ∧ m_Str aS b0 s
def mJ_Q (v : Option Value) : Array Value → State → Outcome → State → Prop := fun _ st o t => o = .returned v ∧ t.heap = st.heap
def mJ_P (aS : (Nat → Nat) × (Nat → Nat)) (b0 : Nat) (av : List Value) : Array Value → State → Prop := va_Pc av (fun U => m_Str aS b0 U)
noncomputable def mJ_ws (y : MethodName) (bytes : ByteArray) (ml : Nat) (ret : Option FieldType) : List Cond := Cond.code y bytes ml ret :: m_wsG
theorem mJ_blind {aS : (Nat → Nat) × (Nat → Nat)} {b0 : Nat} {av : List Value} : FrameBlind (mJ_P aS b0 av) := by
  intro a U g mk q
  obtain ⟨q0, q8⟩ := q
  have hv : U.vm.Alike (U.calling g mk a).vm := Vm.Alike.refl U.vm
  exact ⟨q0, q8.1.same rfl, q8.2.1.moved hv, q8.2.2.1.moved hv, q8.2.2.2.moved hv⟩
section MJ
variable {p : Program} {l : Launch} {e : Env} {R : Room} {s : State} {m : MethodId} {args : Array Value} {below : List Frame} {meth : Method} {c : Code} {H : Heap} {locs : List Loc} {cells slots : Nat} {Q : State → Prop}
variable {aS : (Nat → Nat) × (Nat → Nat)} {b0 : Nat} {own : String} {cc : ByteArray} {nL : Nat}
theorem mJ_X.word (B : mJ_X p s m args c aS b0 own cc nL) {q : Nat} {w : Cond} (h : mc_w q w = true) : w.before args s = true := B.2.2.2.2.1 w (mc_w_of h).1 (mc_w_of h).2
theorem mJ_met {y : MethodName} {bytes : ByteArray} {ml : Nat} {ret : Option FieldType} {d : Nat} {av : List Value} {v : Option Value} (hp : plainFor y = true)
    (body : ∀ p e s m below meth c, mJ_X p s m av.toArray c aS b0 y.cls bytes ml → meth.sig.returnType = ret → meth.locks = false → W p l e (m_rm d 0 0) s m av.toArray below meth c s.heap [] 0 0 (MQ below (mJ_Q v) av.toArray s 0 0 (fun _ => False)) (entryFrame m av.toArray ml)) :
    Met l y (mJ_ws y bytes ml ret) (m_rm d 0 0) (mJ_P aS b0 av) (mJ_Q v) 0 0 (fun _ => False) := by
  refine m_ofW (cc := bytes) (maxL := ml) (ret := ret) hp rfl ?_
  intro p e s m args below meth c s₁ B hml hv
  obtain ⟨rfl, hT⟩ := hv
  have hts := atoms_spec (ws := mJ_ws y bytes ml ret) B.pre
  exact body p e s m below meth c ⟨B.exec, B.bytes, hml, findClass_of_methodNamed B.named, fun w hw hg => hts w (List.mem_cons_of_mem _ (List.mem_filter.mpr ⟨hw, hg⟩)), hT⟩ B.returns B.notSynchronized
theorem mJ_words (B : mJ_X p s m args c aS b0 own cc nL) {y : MethodName} {bytes : ByteArray} {ml q : Nat} {ret : Option FieldType} (hc : mc_w q (.code y bytes ml ret) = true) : ∀ w ∈ mJ_ws y bytes ml ret, ∀ (a' : Array Value) (U : State), s.WarmedH U.vm → w.before a' U = true := by
  intro w hw a' U hU
  rcases List.mem_cons.mp hw with rfl | hw
  · exact word_at hU (good_of_word (mc_w_of hc).2) (B.word hc)
  · obtain ⟨h1, h2⟩ := List.mem_filter.mp hw
    exact word_at hU (good_of_word h2) (B.2.2.2.2.1 _ h1 h2)
theorem mJ_cb (B : mJ_X p s m args c aS b0 own cc nL) {y : MethodName} {bytes : ByteArray} {ml d i q q1 q2 np : Nat} {ret : Option FieldType} (hc : mc_w q1 (.code y bytes ml ret) = true) (hi : mc_w q2 (.initialized y.cls) = true) (hq : mc_w q (.methodLink own i y) = true)
    (hd : y.cls ≠ "java/lang/invoke/MethodHandle" ∧ y.cls ≠ "java/lang/invoke/VarHandle" ∧ (parseMethodDescriptor y.desc).map (fun d => d.parameters.length) = some np) (hml : ml ≤ 20) (hf : d + 1 ≤ R.frames) (hlo : 64 * (d + 1) + 20 ≤ R.locals) :
    CallB R s args own i y bytes ml ret (mJ_ws y bytes ml ret) (m_rm d 0 0) 0 0 np := by
  refine ⟨rfl, rfl, hf, by show 8 + (_ + 11) + (64 * d + 20) ≤ _; omega, mJ_words B hc, List.mem_cons_self, B.word hc, B.word hi, ⟨hd.1, hd.2.1⟩, fun sig hs => ?_, B.word hq⟩
  have h2 := hd.2.2
  rw [hs] at h2
  exact (Option.some.inj h2).symm
theorem mJ_after {v : Option Value} {pc : Nat} {ls : Array Slot} {rest st0 : List Value} {a : Array Value} (hr : va_Run p l e R s m args below meth c H locs cells slots 0 0 (F0 m pc ls st0) rest (mJ_Q v a) (fun _ => False))
    (kk : W p l e R s m args below meth c H locs cells slots Q (F0 m (pc + 3) ls (v.toList ++ rest))) : W p l e R s m args below meth c H locs cells slots Q (F0 m pc ls st0) := by
  intro T hT X
  obtain ⟨v', st₀, t, T', L1, g0, X', hL, e1, e2, ⟨hv, hw⟩, st⟩ := hr T hT X
  have hv : v' = v := by cases hv; rfl
  subst hv
  have hL0 : L1 = [] := by
    cases L1 with
    | nil => rfl
    | cons q L => exact (hL q List.mem_cons_self).elim
  subst hL0
  rw [List.append_nil] at X'
  obtain ⟨t2, a1, b1⟩ := kk T' (by rw [e1, hw, g0]) X'
  exact ⟨t2, st t2 a1, b1⟩
theorem mJ_pre (B : mJ_X p s m args c aS b0 own cc nL) (hS : va_S (m_A b0) s.heap H locs) (av : List Value) {U : State} (hU : U.heap = H) (hw : s.WarmedH U.vm) : mJ_P aS b0 av av.toArray U := by
  subst hU
  exact ⟨rfl, m_Str_moved hw hS.2.1 B.2.2.2.2.2⟩
theorem mJ_callV (B : mJ_X p s m args c aS b0 own cc nL) {y : MethodName} {bytes : ByteArray} {ml i np pc : Nat} {ret : Option FieldType} {rm : Room} {v : Option Value} {As rest : List Value} {b1 : Nat} {ls : Array Slot} (hM : Met l y (mJ_ws y bytes ml ret) rm (mJ_P aS b0 (.ref b1 :: As)) (mJ_Q v) 0 0 (fun _ => False))
    (cb : CallB R s args own i y bytes ml ret (mJ_ws y bytes ml ret) rm 0 0 np) (hin : (Cond.instanceMethod y).before args s = true) (hsel : (Cond.selects y.cls y y).before args s = true) (hrec : ∃ cellB : Cell, H[b1]? = some cellB ∧ cellB.vm.isStatics = false ∧ s.vm.findClass y.cls = some cellB.cls) (hS : va_S (m_A b0) s.heap H locs)
    (hn : As.length = np) (hsz : ls.size = nL) (hW : (rest.map fun v => v.category).sum ≤ 8) (hd : decode cc pc = .ok (.invokevirtual i, 3)) (hroom : cells ≤ R.cells ∧ slots ≤ R.slots)
    (kk : W p l e R s m args below meth c H locs cells slots Q (F0 m (pc + 3) ls (v.toList ++ rest))) : W p l e R s m args below meth c H locs cells slots Q (F0 m pc ls (As.reverse ++ .ref b1 :: rest)) :=
  mJ_after (va_runV (Ts := []) ⟨B.1, B.2.1, B.2.2.1, B.2.2.2.1, fun _ z => by cases z⟩ hM ⟨cb, hin, hsel⟩ ⟨mJ_blind, hrec, fun U hU hw => mJ_pre B hS (.ref b1 :: As) hU hw⟩ rfl hn hsz rfl (lv_room (m := m) (pc := pc) (ls := ls) (rest := rest) hW) hd hroom) kk
theorem mJ_callS (B : mJ_X p s m args c aS b0 own cc nL) {y : MethodName} {bytes : ByteArray} {ml i np pc : Nat} {ret : Option FieldType} {rm : Room} {v : Option Value} {As rest : List Value} {ls : Array Slot} (hM : Met l y (mJ_ws y bytes ml ret) rm (mJ_P aS b0 As) (mJ_Q v) 0 0 (fun _ => False))
    (cb : CallB R s args own i y bytes ml ret (mJ_ws y bytes ml ret) rm 0 0 np) (hst : (Cond.static y).before args s = true) (hS : va_S (m_A b0) s.heap H locs)
    (hn : As.length = np) (hsz : ls.size = nL) (hW : (rest.map fun v => v.category).sum ≤ 8) (hd : decode cc pc = .ok (.invokestatic i, 3)) (hroom : cells ≤ R.cells ∧ slots ≤ R.slots)
    (kk : W p l e R s m args below meth c H locs cells slots Q (F0 m (pc + 3) ls (v.toList ++ rest))) : W p l e R s m args below meth c H locs cells slots Q (F0 m pc ls (As.reverse ++ rest)) :=
  mJ_after (va_runS (Ts := []) ⟨B.1, B.2.1, B.2.2.1, B.2.2.2.1, fun _ z => by cases z⟩ hM ⟨cb, hst⟩ ⟨mJ_blind, fun U hU hw => mJ_pre B hS As hU hw⟩ rfl hn hsz rfl (lv_room (m := m) (pc := pc) (ls := ls) (rest := rest) hW) hd hroom) kk
theorem mJ_rec (B : mJ_X p s m args c aS b0 own cc nL) (hS : va_S (m_A b0) s.heap H locs) : ∃ cellB : Cell, H[aS.1 0]? = some cellB ∧ cellB.vm.isStatics = false ∧ s.vm.findClass "java/lang/String" = some cellB.cls := vk_recv B.2.2.2.2.2.2.1 (Nat.zero_lt_one) hS
end MJ
section MJM
variable (l : Launch) (aS : (Nat → Nat) × (Nat → Nat)) (b0 : Nat)
set_option maxHeartbeats 2000000 in
theorem mJ_cod (d : Nat) : Met l yJ_cod (mJ_ws yJ_cod bJ_cod 1 (some .byte)) (m_rm d 0 0) (mJ_P aS b0 [.ref (aS.1 0)]) (mJ_Q (some (.int 0))) 0 0 (fun _ => False) := by
  refine mJ_met (by decide +kernel) fun p e s m below meth c B hret hlk => ?_
  have hS : va_S (m_A b0) s.heap s.heap [] := va_S.rf
  obtain ⟨-, hE, hZ, -⟩ := B.2.2.2.2.2
  have hl := lv_entry ([.ref (aS.1 0)]) (n := 1) (Nat.le_of_ble_eq_true rfl)
  rw [lg_entry_eq]
  generalize (lg_sl ([.ref (aS.1 0)]) ++ List.replicate (1 - (lg_sl ([.ref (aS.1 0)])).length) Slot.unset).toArray = ls at hl ⊢
  have hl : lv_has ls 1 [(0, .ref (aS.1 0))] := hl
  refine va_gets B.1 B.2.1 hZ hS B.2.2.2.1 (B.word fJ_cod_0) (fun _ z => z) dJ_cod_0 ?_
  refine lv_if_eq B.1 B.2.1 dJ_cod_3 (tgt := 13) (by decide) (fun z => absurd z (by decide)) (fun _ => ?_)
  refine lv_aload_n B.1 B.2.1 dJ_cod_6 rfl (lv_at hl 0 rfl) ?_
  refine vk_getf B.1 B.2.1 (hE.1 0 Nat.zero_lt_one).2.1 hS B.2.2.2.1 (B.word fJ_cod_7) (fun _ z => z) dJ_cod_7 ?_
  refine lv_goto B.1 B.2.1 dJ_cod_10 (tgt := 14) (by decide) ?_
  exact W.zret B.1 B.2.1 hret rfl (fun t ht hw => ⟨rfl, ht⟩) (fun q hq => by cases hq) dJ_cod_14 hlk
set_option maxHeartbeats 2000000 in
theorem mJ_lat (d : Nat) : Met l yJ_lat (mJ_ws yJ_lat bJ_lat 1 (some .boolean)) (m_rm d 0 0) (mJ_P aS b0 [.ref (aS.1 0)]) (mJ_Q (some (.int 1))) 0 0 (fun _ => False) := by
  refine mJ_met (by decide +kernel) fun p e s m below meth c B hret hlk => ?_
  have hS : va_S (m_A b0) s.heap s.heap [] := va_S.rf
  obtain ⟨-, hE, hZ, -⟩ := B.2.2.2.2.2
  have hl := lv_entry ([.ref (aS.1 0)]) (n := 1) (Nat.le_of_ble_eq_true rfl)
  rw [lg_entry_eq]
  generalize (lg_sl ([.ref (aS.1 0)]) ++ List.replicate (1 - (lg_sl ([.ref (aS.1 0)])).length) Slot.unset).toArray = ls at hl ⊢
  have hl : lv_has ls 1 [(0, .ref (aS.1 0))] := hl
  refine va_gets B.1 B.2.1 hZ hS B.2.2.2.1 (B.word fJ_lat_0) (fun _ z => z) dJ_lat_0 ?_
  refine lv_if_eq B.1 B.2.1 dJ_lat_3 (tgt := 17) (by decide) (fun z => absurd z (by decide)) (fun _ => ?_)
  refine lv_aload_n B.1 B.2.1 dJ_lat_6 rfl (lv_at hl 0 rfl) ?_
  refine vk_getf B.1 B.2.1 (hE.1 0 Nat.zero_lt_one).2.1 hS B.2.2.2.1 (B.word fJ_lat_7) (fun _ z => z) dJ_lat_7 ?_
  refine lv_if_ne B.1 B.2.1 dJ_lat_10 (tgt := 17) (by decide) (fun z => absurd rfl z) (fun _ => ?_)
  refine lv_iconst (v := 1) B.1 B.2.1 dJ_lat_13 (by decide) ?_
  refine lv_goto B.1 B.2.1 dJ_lat_14 (tgt := 18) (by decide) ?_
  exact W.zret B.1 B.2.1 hret rfl (fun t ht hw => ⟨rfl, ht⟩) (fun q hq => by cases hq) dJ_lat_18 hlk
set_option maxHeartbeats 2000000 in
theorem mJ_len (d : Nat) : Met l yJ_len (mJ_ws yJ_len bJ_len 1 (some .int)) (m_rm (d + 1) 0 0) (mJ_P aS b0 [.ref (aS.1 0)]) (mJ_Q (some (.int 101))) 0 0 (fun _ => False) := by
  refine mJ_met (by decide +kernel) fun p e s m below meth c B hret hlk => ?_
  have hS : va_S (m_A b0) s.heap s.heap [] := va_S.rf
  obtain ⟨-, hE, hZ, -⟩ := B.2.2.2.2.2
  have hl := lv_entry ([.ref (aS.1 0)]) (n := 1) (Nat.le_of_ble_eq_true rfl)
  rw [lg_entry_eq]
  generalize (lg_sl ([.ref (aS.1 0)]) ++ List.replicate (1 - (lg_sl ([.ref (aS.1 0)])).length) Slot.unset).toArray = ls at hl ⊢
  have hl : lv_has ls 1 [(0, .ref (aS.1 0))] := hl
  refine lv_aload_n B.1 B.2.1 dJ_len_0 rfl (lv_at hl 0 rfl) ?_
  refine vk_getf B.1 B.2.1 (hE.1 0 Nat.zero_lt_one).2.2.1 hS B.2.2.2.1 (B.word fJ_len_1) (fun _ z => z) dJ_len_1 ?_
  refine va_tlen B.1 B.2.1 (hE.1 0 Nat.zero_lt_one).2.2.2 hS (v := 101) rfl dJ_len_4 ?_
  refine lv_aload_n B.1 B.2.1 dJ_len_5 rfl (lv_at hl 0 rfl) ?_
  refine mJ_callV (As := []) (rest := [.int 101]) B (mJ_cod l aS b0 d) (mJ_cb B cJ_cod nJ_cod lJ_len_6 (by decide +kernel) (by decide) (Nat.le_refl _) (Nat.le_refl _)) (B.word kJ_cod) (B.word sJ_cod) (mJ_rec B hS) hS rfl hl.1 (Nat.le_of_ble_eq_true rfl) dJ_len_6 ⟨Nat.zero_le _, Nat.zero_le _⟩ ?_
  refine lv_ishr B.1 B.2.1 dJ_len_9 ?_
  exact W.iret (v := 101) B.1 B.2.1 hret (fun t ht hw => ⟨rfl, ht⟩) (fun q hq => by cases hq) dJ_len_10 hlk
set_option maxHeartbeats 2000000 in
theorem mJ_pre2 (d : Nat) (x n : Int32) (f : Value) (hf : f = .null ∨ ∃ t, f = .ref t) (h0 : ¬ x < 0) (h1 : x < n) : Met l yJ_pre (mJ_ws yJ_pre bJ_pre 3 (some .int)) (m_rm d 0 0) (mJ_P aS b0 [.int x, .int n, f]) (mJ_Q (some (.int x))) 0 0 (fun _ => False) := by
  refine mJ_met (by decide +kernel) fun p e s m below meth c B hret hlk => ?_
  have hcat : f.category = 1 := by rcases hf with rfl | ⟨t, rfl⟩ <;> rfl
  have hsl : (lg_sl [.int x, .int n, f]).length ≤ 3 := by rcases hf with rfl | ⟨t, rfl⟩ <;> exact Nat.le_refl 3
  have hl := lv_entry ([.int x, .int n, f]) (n := 3) hsl
  rw [lg_entry_eq]
  generalize (lg_sl ([.int x, .int n, f]) ++ List.replicate (3 - (lg_sl ([.int x, .int n, f])).length) Slot.unset).toArray = ls at hl ⊢
  have hl : lv_has ls 3 [(0, .int x), (1, .int n), (2, f)] := hl
  refine lv_iload_n B.1 B.2.1 dJ_pre_0 rfl (lv_at hl 0 rfl) ?_
  refine lv_if_lt B.1 B.2.1 dJ_pre_1 (tgt := 9) (by decide) (fun z => absurd z h0) (fun _ => ?_)
  refine lv_iload_n B.1 B.2.1 dJ_pre_4 rfl (lv_at hl 0 rfl) ?_
  refine lv_iload_n B.1 B.2.1 dJ_pre_5 rfl (lv_at hl 1 rfl) ?_
  refine lv_icmp_lt B.1 B.2.1 dJ_pre_6 (tgt := 16) (by decide) (fun _ => ?_) (fun z => absurd h1 z)
  refine lv_iload_n B.1 B.2.1 dJ_pre_16 rfl (lv_at hl 0 rfl) ?_
  exact W.iret B.1 B.2.1 hret (fun t ht hw => ⟨rfl, ht⟩) (fun q hq => by cases hq) dJ_pre_17 hlk
set_option maxHeartbeats 2000000 in
theorem mJ_chk (d : Nat) (x n : Int32) (h0 : ¬ x < 0) (h1 : x < n) : Met l yJ_chk (mJ_ws yJ_chk bJ_chk 2 none) (m_rm (d + 1) 0 0) (mJ_P aS b0 [.int x, .int n]) (mJ_Q none) 0 0 (fun _ => False) := by
  refine mJ_met (by decide +kernel) fun p e s m below meth c B hret hlk => ?_
  have hS : va_S (m_A b0) s.heap s.heap [] := va_S.rf
  obtain ⟨-, hE, hZ, hF⟩ := B.2.2.2.2.2
  have hl := lv_entry ([.int x, .int n]) (n := 2) (Nat.le_of_ble_eq_true rfl)
  rw [lg_entry_eq]
  generalize (lg_sl ([.int x, .int n]) ++ List.replicate (2 - (lg_sl ([.int x, .int n])).length) Slot.unset).toArray = ls at hl ⊢
  have hl : lv_has ls 2 [(0, .int x), (1, .int n)] := hl
  refine lv_iload_n B.1 B.2.1 dJ_chk_0 rfl (lv_at hl 0 rfl) ?_
  refine lv_iload_n B.1 B.2.1 dJ_chk_1 rfl (lv_at hl 1 rfl) ?_
  have key : ∀ f : Value, (f = .null ∨ ∃ t, f = .ref t) → va_Z "jdk/internal/util/Preconditions" "SIOOBE_FORMATTER" "Ljava/util/function/BiFunction;" f (m_A b0) s s.heap → W p l e (m_rm (d + 1) 0 0) s m #[.int x, .int n] below meth c s.heap [] 0 0 (MQ below (mJ_Q none) #[.int x, .int n] s 0 0 (fun _ => False)) (F0 m 2 ls [.int n, .int x]) := by
    intro f hf hz
    refine va_gets B.1 B.2.1 hz hS B.2.2.2.1 (B.word fJ_chk_2) (fun _ z => z) dJ_chk_2 ?_
    refine mJ_callS (As := [.int x, .int n, f]) (rest := []) B (mJ_pre2 l aS b0 d x n f hf h0 h1) (mJ_cb (np := 3) B cJ_pre nJ_pre lJ_chk_5 (by decide +kernel) (by decide) (Nat.le_refl _) (Nat.le_refl _)) (B.word kJ_pre) hS rfl hl.1 (Nat.le_of_ble_eq_true rfl) dJ_chk_5 ⟨Nat.zero_le _, Nat.zero_le _⟩ ?_
    refine lv_pop B.1 B.2.1 dJ_chk_8 rfl ?_
    exact W.vret B.1 B.2.1 hret (fun t ht hw => ⟨rfl, ht⟩) (fun q hq => by cases hq) dJ_chk_9 hlk
  rcases hF with hF | ⟨t, hF⟩
  · exact key .null (Or.inl rfl) hF
  · exact key (.ref t) (Or.inr ⟨t, rfl⟩) hF
def m_ch (k : Nat) : Int32 := Int32.ofNat (m_txt.getD k 0)
theorem m_ch_all : (List.range 101).all (fun k => decide ((((m_txt.map Int32.ofNat).getD k 0 &&& 255).toUInt32 % 65536).toInt32 = m_ch k) && decide (narrow .char (.int (m_ch k)) = .int (m_ch k))) = true := by decide +kernel
theorem m_ch_of {k : Nat} (h : k < 101) : (((m_txt.map Int32.ofNat).getD k 0 &&& 255).toUInt32 % 65536).toInt32 = m_ch k ∧ narrow .char (.int (m_ch k)) = .int (m_ch k) := by
  have h1 := List.all_eq_true.mp m_ch_all k (List.mem_range.mpr h)
  simp only [Bool.and_eq_true, decide_eq_true_eq] at h1
  exact h1
set_option maxHeartbeats 2000000 in
theorem mJ_lca (d k : Nat) (hk : k < 101) : Met l yJ_lca (mJ_ws yJ_lca bJ_lca 2 (some .char)) (m_rm (d + 2) 0 0) (mJ_P aS b0 [.ref (aS.2 0), .int (nI k)]) (mJ_Q (some (.int (m_ch k)))) 0 0 (fun _ => False) := by
  refine mJ_met (by decide +kernel) fun p e s m below meth c B hret hlk => ?_
  have hS : va_S (m_A b0) s.heap s.heap [] := va_S.rf
  obtain ⟨-, hE, hZ, hF⟩ := B.2.2.2.2.2
  have hl := lv_entry ([.ref (aS.2 0), .int (nI k)]) (n := 2) (Nat.le_of_ble_eq_true rfl)
  rw [lg_entry_eq]
  generalize (lg_sl ([.ref (aS.2 0), .int (nI k)]) ++ List.replicate (2 - (lg_sl ([.ref (aS.2 0), .int (nI k)])).length) Slot.unset).toArray = ls at hl ⊢
  have hl : lv_has ls 2 [(0, .ref (aS.2 0)), (1, .int (nI k))] := hl
  refine lv_iload_n B.1 B.2.1 dJ_lca_0 rfl (lv_at hl 1 rfl) ?_
  refine lv_aload_n B.1 B.2.1 dJ_lca_1 rfl (lv_at hl 0 rfl) ?_
  refine va_tlen B.1 B.2.1 (hE.1 0 Nat.zero_lt_one).2.2.2 hS (v := nI 101) rfl dJ_lca_2 ?_
  refine mJ_callS (As := [.int (nI k), .int (nI 101)]) (rest := []) B (mJ_chk l aS b0 d (nI k) (nI 101) (nI_pos (by omega)) (nI_lt hk (by omega))) (mJ_cb (np := 2) B cJ_chk nJ_chk lJ_lca_3 (by decide +kernel) (by decide) (Nat.le_refl _) (Nat.le_refl _)) (B.word kJ_chk) hS rfl hl.1 (Nat.le_of_ble_eq_true rfl) dJ_lca_3 ⟨Nat.zero_le _, Nat.zero_le _⟩ ?_
  refine lv_aload_n B.1 B.2.1 dJ_lca_6 rfl (lv_at hl 0 rfl) ?_
  refine lv_iload_n B.1 B.2.1 dJ_lca_7 rfl (lv_at hl 1 rfl) ?_
  refine va_tb B.1 B.2.1 (hE.1 0 Nat.zero_lt_one).2.2.2 hS (i := nI k) (vp_in_nI hk (by decide)) (v := .int ((m_txt.map Int32.ofNat).getD k 0)) (by show Value.int ((m_txt.map Int32.ofNat).getD (nI k).toNatClampNeg 0) = _; rw [nI_clamp (by omega)]) dJ_lca_8 ?_
  refine lv_sipush (v := 255) B.1 B.2.1 dJ_lca_9 (by decide) ?_
  refine lv_iand B.1 B.2.1 dJ_lca_12 ?_
  refine lv_i2c (v := m_ch k) B.1 B.2.1 dJ_lca_13 (m_ch_of hk).1 ?_
  exact W.zret B.1 B.2.1 hret (m_ch_of hk).2 (fun t ht hw => ⟨rfl, ht⟩) (fun q hq => by cases hq) dJ_lca_14 hlk
set_option maxHeartbeats 2000000 in
theorem mJ_cha (d k : Nat) (hk : k < 101) : Met l yJ_cha (mJ_ws yJ_cha bJ_cha 2 (some .char)) (m_rm (d + 3) 0 0) (mJ_P aS b0 [.ref (aS.1 0), .int (nI k)]) (mJ_Q (some (.int (m_ch k)))) 0 0 (fun _ => False) := by
  refine mJ_met (by decide +kernel) fun p e s m below meth c B hret hlk => ?_
  have hS : va_S (m_A b0) s.heap s.heap [] := va_S.rf
  obtain ⟨-, hE, hZ, hF⟩ := B.2.2.2.2.2
  have hl := lv_entry ([.ref (aS.1 0), .int (nI k)]) (n := 2) (Nat.le_of_ble_eq_true rfl)
  rw [lg_entry_eq]
  generalize (lg_sl ([.ref (aS.1 0), .int (nI k)]) ++ List.replicate (2 - (lg_sl ([.ref (aS.1 0), .int (nI k)])).length) Slot.unset).toArray = ls at hl ⊢
  have hl : lv_has ls 2 [(0, .ref (aS.1 0)), (1, .int (nI k))] := hl
  refine lv_aload_n B.1 B.2.1 dJ_cha_0 rfl (lv_at hl 0 rfl) ?_
  refine mJ_callV (As := []) (rest := []) B (mJ_lat l aS b0 (d + 2)) (mJ_cb B cJ_lat nJ_lat lJ_cha_1 (by decide +kernel) (by decide) (Nat.le_refl _) (Nat.le_refl _)) (B.word kJ_lat) (B.word sJ_lat) (mJ_rec B hS) hS rfl hl.1 (Nat.le_of_ble_eq_true rfl) dJ_cha_1 ⟨Nat.zero_le _, Nat.zero_le _⟩ ?_
  refine lv_if_eq B.1 B.2.1 dJ_cha_4 (tgt := 16) (by decide) (fun z => absurd z (by decide)) (fun _ => ?_)
  refine lv_aload_n B.1 B.2.1 dJ_cha_7 rfl (lv_at hl 0 rfl) ?_
  refine vk_getf B.1 B.2.1 (hE.1 0 Nat.zero_lt_one).2.2.1 hS B.2.2.2.1 (B.word fJ_cha_8) (fun _ z => z) dJ_cha_8 ?_
  refine lv_iload_n B.1 B.2.1 dJ_cha_11 rfl (lv_at hl 1 rfl) ?_
  refine mJ_callS (As := [.ref (aS.2 0), .int (nI k)]) (rest := []) B (mJ_lca l aS b0 d k hk) (mJ_cb (np := 2) B cJ_lca nJ_lca lJ_cha_12 (by decide +kernel) (by decide) (Nat.le_refl _) (Nat.le_refl _)) (B.word kJ_lca) hS rfl hl.1 (Nat.le_of_ble_eq_true rfl) dJ_cha_12 ⟨Nat.zero_le _, Nat.zero_le _⟩ ?_
  exact W.zret B.1 B.2.1 hret (m_ch_of hk).2 (fun t ht hw => ⟨rfl, ht⟩) (fun q hq => by cases hq) dJ_cha_15 hlk
end MJM
theorem m_c32 : ∀ c ∈ m_txt, (Int32.ofNat c = 32 ↔ c = 32) := by decide +kernel
theorem m_chj {j c : Nat} {t : List Nat} (h : m_txt.drop j = c :: t) : m_ch j = Int32.ofNat c ∧ c ∈ m_txt ∧ m_txt.drop (j + 1) = t := by
  have h1 : m_txt[j]? = some c := by
    rw [← List.head?_drop, h]
    rfl
  refine ⟨by unfold m_ch; rw [List.getD_eq_getElem?_getD, h1]; rfl, List.mem_of_getElem? h1, ?_⟩
  rw [← List.drop_drop, h]
  rfl
set_option maxHeartbeats 8000000 in
/-- wordAt is what m_wordAt says -/
theorem mh_HD (l : Launch) (HC : m_HC) : m_HD l := by
  intro D cT aS b0 b L xs d lo h v hw h4 p e R s m args below meth c me H locs cells slots Q h0 ls0 C hfr hlo hlen Z hroom hend
  have hme : me = me126 := Option.some.inj (C.2.1.symm.trans (by rfl))
  subst hme
  have hlen : lo.length = 8 := hlen
  unfold m_wordAt at hw
  split at hw
  · rename_i k a bb rest e0
    try subst e0
    split at hw
    · rename_i kb rs hk
      split at hw
      · rename_i n hkb
        obtain ⟨r, hr, rfl⟩ := Option.map_eq_some_iff.mp hw
        have hx := C.1
        have hb : c.code = bJ_wa := C.2.2.1
        have hown : s.vm.findClass "NoteHouse$Reader" = some m.cls := C.2.2.2.2.1
        have hK := C.2.2.2.2.2.2.2.2.2.2.1
        have hT := C.2.2.2.2.2.2.2.2.2.2.2.2.2.2
        have hS := Z.2.1
        have B : mJ_X p s m args c aS b0 "NoteHouse$Reader" bJ_wa 8 := ⟨C.1, C.2.2.1, C.2.2.2.1, C.2.2.2.2.1, C.2.2.2.2.2.2.2.2.1, hT⟩
        have hR : cells ≤ R.cells ∧ slots ≤ R.slots := by
          have z4 := Z.2.2.2.1
          have z5 := Z.2.2.2.2.1
          omega
        have hl0 : lv_has ls0 8 [(0, .ref (m_ad b0 b k)), (1, .int a), (2, .int bb)] := by
          refine ⟨Z.2.2.1.1.trans hlen, Z.2.2.1.2.1, fun q hq => ?_⟩
          rcases List.mem_cons.mp hq with rfl | hq
          · exact Z.2.2.1.2.2 0 _ rfl
          rcases List.mem_cons.mp hq with rfl | hq
          · exact Z.2.2.1.2.2 1 _ rfl
          rcases List.mem_cons.mp hq with rfl | hq
          · exact Z.2.2.1.2.2 2 _ rfl
          · cases hq
        have fin : ∀ (pc' : Nat) (r' : Int32) (ls : Array Slot), decode bJ_wa pc' = .ok (.ireturn, 1) → r' = r → W p l e R s m args below meth c H locs cells slots Q (F0 m pc' ls [.int r']) := by
          intro pc' r' ls hd e1
          subst e1
          exact hend pc' H locs ls cells slots (Or.inl ⟨r', rfl, hd, Or.inl rfl⟩) Z.1 hS Z.2.2.2.1 Z.2.2.2.2.1
        have loop : ∀ (t : List Nat) (j : Nat) (w q g : Int32) (ls : Array Slot), m_txt.drop j = t → j + t.length = 101 → m_wd (h.2.1 kb) n a bb t w q g = some r → lv_has ls 8 [(0, .ref (m_ad b0 b k)), (1, .int a), (2, .int bb), (3, .int w), (4, .int q), (5, .int g), (6, .int (nI j))] → W p l e R s m args below meth c H locs cells slots Q (F0 m 11 ls []) := by
          intro t
          induction t with
          | nil =>
            intro j w q g ls ht hj hwd hl
            have hj : j = 101 := by simpa using hj
            subst hj
            refine lv_iload hx hb dJ_wa_11 (lv_at hl 6 rfl) ?_
            refine va_ldcS hx hb hown hT.1 dJ_wa_13 ?_
            refine mJ_callV (As := []) (rest := [.int (nI 101)]) B (mJ_len l aS b0 0) (mJ_cb B cJ_len nJ_len lJ_wa_15 (by decide +kernel) (by decide) (by omega) (by omega)) (B.word kJ_len) (B.word sJ_len) (mJ_rec B hS) hS rfl hl.1 (Nat.le_of_ble_eq_true rfl) dJ_wa_15 hR ?_
            refine lv_icmp_ge hx hb dJ_wa_18 (tgt := 101) (by decide) (fun _ => ?_) (fun z => absurd (by decide) z)
            refine lv_iconst (v := -1) hx hb dJ_wa_101 (by decide) ?_
            exact fin 102 (-1) ls dJ_wa_102 (by simpa [m_wd] using hwd)
          | cons ch t ih =>
            intro j w q g ls ht hj hwd hl
            obtain ⟨e1, e2, e3⟩ := m_chj ht
            have hj2 : j < 101 := by simp at hj; omega
            have hj3 : j + 1 + t.length = 101 := by simp at hj; omega
            refine lv_iload hx hb dJ_wa_11 (lv_at hl 6 rfl) ?_
            refine va_ldcS hx hb hown hT.1 dJ_wa_13 ?_
            refine mJ_callV (As := []) (rest := [.int (nI j)]) B (mJ_len l aS b0 0) (mJ_cb B cJ_len nJ_len lJ_wa_15 (by decide +kernel) (by decide) (by omega) (by omega)) (B.word kJ_len) (B.word sJ_len) (mJ_rec B hS) hS rfl hl.1 (Nat.le_of_ble_eq_true rfl) dJ_wa_15 hR ?_
            refine lv_icmp_ge hx hb dJ_wa_18 (tgt := 101) (by decide) (fun z => absurd z (nI_ge (b := 101) hj2 (by decide))) (fun _ => ?_)
            refine va_ldcS hx hb hown hT.1 dJ_wa_21 ?_
            refine lv_iload hx hb dJ_wa_23 (lv_at hl 6 rfl) ?_
            refine mJ_callV (As := [.int (nI j)]) (rest := []) B (mJ_cha l aS b0 0 j hj2) (mJ_cb (np := 1) B cJ_cha nJ_cha lJ_wa_25 (by decide +kernel) (by decide) (by omega) (by omega)) (B.word kJ_cha) (B.word sJ_cha) (mJ_rec B hS) hS rfl hl.1 (Nat.le_of_ble_eq_true rfl) dJ_wa_25 hR ?_
            rw [e1]
            generalize hcv : Int32.ofNat ch = cv
            refine lv_istore hx hb dJ_wa_28 hl (by decide) rfl (fun ls hl => ?_)
            have hl : lv_has ls 8 [(7, .int cv), (0, .ref (m_ad b0 b k)), (1, .int a), (2, .int bb), (3, .int w), (4, .int q), (5, .int g), (6, .int (nI j))] := hl
            refine lv_iload hx hb dJ_wa_30 (lv_at hl 0 rfl) ?_
            refine lv_bipush (v := 32) hx hb dJ_wa_32 (by decide) ?_
            have h32 : cv = 32 ↔ ch = 32 := by rw [← hcv]; exact m_c32 ch e2
            -- behind the letter: the next one
            have next : ∀ (w2 q2 g2 : Int32) (ls2 : Array Slot) (x : Value), m_wd (h.2.1 kb) n a bb t w2 q2 g2 = some r → lv_has ls2 8 [(0, .ref (m_ad b0 b k)), (1, .int a), (2, .int bb), (3, .int w2), (4, .int q2), (5, .int g2), (6, .int (nI j))] → W p l e R s m args below meth c H locs cells slots Q (F0 m 95 ls2 []) := by
              intro w2 q2 g2 ls2 x hwd2 hl2
              refine lv_iinc (v := nI (j + 1)) hx hb dJ_wa_95 hl2 (k := 6) rfl (by rw [← nI_1]; rfl) (by decide) rfl (fun ls3 hl3 => ?_)
              refine lv_goto hx hb dJ_wa_98 (tgt := 11) (by decide) ?_
              exact ih (j + 1) w2 q2 g2 ls3 e3 hj3 hwd2 (lv_sub hl3 [1, 2, 3, 4, 5, 6, 0] rfl)
            have next2 : ∀ (g2 : Int32) (ls2 : Array Slot), m_wd (h.2.1 kb) n a bb t w (q + 1) g2 = some r → lv_has ls2 8 [(7, .int cv), (0, .ref (m_ad b0 b k)), (1, .int a), (2, .int bb), (3, .int w), (4, .int q), (5, .int g), (6, .int (nI j))] → W p l e R s m args below meth c H locs cells slots Q (F0 m 90 ls2 [.int g2]) := by
              intro g2 ls2 hwd2 hl2
              refine lv_istore hx hb dJ_wa_90 hl2 (by decide) rfl (fun ls3 hl3 => ?_)
              have hl3 : lv_has ls3 8 [(5, .int g2), (7, .int cv), (0, .ref (m_ad b0 b k)), (1, .int a), (2, .int bb), (3, .int w), (4, .int q), (6, .int (nI j))] := hl3
              refine lv_iinc (v := q + 1) hx hb dJ_wa_92 hl3 (k := 6) rfl rfl (by decide) rfl (fun ls4 hl4 => ?_)
              exact next w (q + 1) g2 ls4 .null hwd2 (lv_sub hl4 [3, 4, 5, 6, 0, 1, 7] rfl)
            refine lv_icmp_ne hx hb dJ_wa_34 (tgt := 62) (by decide) (fun hne => ?_) (fun heq => ?_)
            · have hc32 : ¬ ch = 32 := fun z => hne (h32.mpr z)
              simp only [m_wd, if_neg hc32] at hwd
              refine lv_iload hx hb dJ_wa_62 (lv_at hl 6 rfl) ?_
              refine lv_if_eq hx hb dJ_wa_64 (tgt := 89) (by decide) (fun hg => ?_) (fun hg => ?_)
              · rw [if_pos hg] at hwd
                refine lv_iconst (v := 0) hx hb dJ_wa_89 (by decide) ?_
                exact next2 0 ls hwd hl
              · rw [if_neg hg] at hwd
                refine lv_iload hx hb dJ_wa_67 (lv_at hl 5 rfl) ?_
                refine lv_iload_n hx hb dJ_wa_69 rfl (lv_at hl 3 rfl) ?_
                refine lv_icmp_ge hx hb dJ_wa_70 (tgt := 89) (by decide) (fun hq => ?_) (fun hq => ?_)
                · rw [if_pos hq] at hwd
                  refine lv_iconst (v := 0) hx hb dJ_wa_89 (by decide) ?_
                  exact next2 0 ls hwd hl
                · rw [if_neg hq] at hwd
                  split at hwd
                  · cases hwd
                  · rename_i hin
                    refine lv_aload_n hx hb dJ_wa_73 rfl (lv_at hl 1 rfl) ?_
                    refine m_getf HC C (i := 9) (a := 5) (bb := 0) (cc := 3) dJ_wa_74 fJ_wa_74 hk (Nat.succ_pos _) (v := .ref kb) rfl Z.1 ?_
                    refine lv_iload hx hb dJ_wa_77 (lv_at hl 5 rfl) ?_
                    refine va_iald hx hb hK Z.1.1 kb 0 (m_arr hkb) rfl hin dJ_wa_79 ?_
                    refine lv_iload hx hb dJ_wa_80 (lv_at hl 0 rfl) ?_
                    refine lv_icmp_ne hx hb dJ_wa_82 (tgt := 89) (by decide) (fun hf => ?_) (fun hf => ?_)
                    · rw [if_neg (by rw [hcv]; exact hf)] at hwd
                      refine lv_iconst (v := 0) hx hb dJ_wa_89 (by decide) ?_
                      exact next2 0 ls hwd hl
                    · rw [if_pos (by rw [hcv]; exact hf)] at hwd
                      refine lv_iconst (v := 1) hx hb dJ_wa_85 (by decide) ?_
                      refine lv_goto hx hb dJ_wa_86 (tgt := 90) (by decide) ?_
                      exact next2 1 ls hwd hl
            · have hc32 : ch = 32 := h32.mp heq
              simp only [m_wd, if_pos hc32] at hwd
              have skip : m_wd (h.2.1 kb) n a bb t (w + 1) a 1 = some r → W p l e R s m args below meth c H locs cells slots Q (F0 m 50 ls []) := by
                intro hwd
                refine lv_iinc (v := w + 1) hx hb dJ_wa_50 hl (k := 4) rfl rfl (by decide) rfl (fun ls hl => ?_)
                have hl : lv_has ls 8 [(3, .int (w + 1)), (7, .int cv), (0, .ref (m_ad b0 b k)), (1, .int a), (2, .int bb), (4, .int q), (5, .int g), (6, .int (nI j))] := hl
                refine lv_iload_n hx hb dJ_wa_53 rfl (lv_at hl 3 rfl) ?_
                refine lv_istore hx hb dJ_wa_54 hl (by decide) rfl (fun ls hl => ?_)
                have hl : lv_has ls 8 [(4, .int a), (3, .int (w + 1)), (7, .int cv), (0, .ref (m_ad b0 b k)), (1, .int a), (2, .int bb), (5, .int g), (6, .int (nI j))] := hl
                refine lv_iconst (v := 1) hx hb dJ_wa_56 (by decide) ?_
                refine lv_istore hx hb dJ_wa_57 hl (by decide) rfl (fun ls hl => ?_)
                have hl : lv_has ls 8 [(5, .int 1), (4, .int a), (3, .int (w + 1)), (7, .int cv), (0, .ref (m_ad b0 b k)), (1, .int a), (2, .int bb), (6, .int (nI j))] := hl
                refine lv_goto hx hb dJ_wa_59 (tgt := 95) (by decide) ?_
                exact next (w + 1) a 1 ls .null hwd (lv_sub hl [4, 5, 6, 2, 1, 0, 7] rfl)
              refine lv_iload hx hb dJ_wa_37 (lv_at hl 6 rfl) ?_
              refine lv_if_eq hx hb dJ_wa_39 (tgt := 50) (by decide) (fun hg => ?_) (fun hg => ?_)
              · rw [if_neg (fun z => z.1 hg)] at hwd
                exact skip hwd
              · refine lv_iload hx hb dJ_wa_42 (lv_at hl 5 rfl) ?_
                refine lv_iload_n hx hb dJ_wa_44 rfl (lv_at hl 3 rfl) ?_
                refine lv_icmp_ne hx hb dJ_wa_45 (tgt := 50) (by decide) (fun hq => ?_) (fun hq => ?_)
                · rw [if_neg (fun z => hq z.2)] at hwd
                  exact skip hwd
                · rw [if_pos ⟨hg, hq⟩] at hwd
                  refine lv_iload_n hx hb dJ_wa_48 rfl (lv_at hl 4 rfl) ?_
                  exact fin 49 w ls dJ_wa_49 (Option.some.inj hwd)
        refine lv_iconst (v := 0) hx hb dJ_wa_0 (by decide) ?_
        refine lv_istore_n hx hb dJ_wa_1 rfl hl0 (by decide) rfl (fun ls hl => ?_)
        have hl : lv_has ls 8 [(3, .int 0), (0, .ref (m_ad b0 b k)), (1, .int a), (2, .int bb)] := hl
        refine lv_iload_n hx hb dJ_wa_2 rfl (lv_at hl 2 rfl) ?_
        refine lv_istore hx hb dJ_wa_3 hl (by decide) rfl (fun ls hl => ?_)
        have hl : lv_has ls 8 [(4, .int a), (3, .int 0), (0, .ref (m_ad b0 b k)), (1, .int a), (2, .int bb)] := hl
        refine lv_iconst (v := 1) hx hb dJ_wa_5 (by decide) ?_
        refine lv_istore hx hb dJ_wa_6 hl (by decide) rfl (fun ls hl => ?_)
        have hl : lv_has ls 8 [(5, .int 1), (4, .int a), (3, .int 0), (0, .ref (m_ad b0 b k)), (1, .int a), (2, .int bb)] := hl
        refine lv_iconst (v := 0) hx hb dJ_wa_8 (by decide) ?_
        refine lv_istore hx hb dJ_wa_9 hl (by decide) rfl (fun ls hl => ?_)
        have hl : lv_has ls 8 [(6, .int 0), (5, .int 1), (4, .int a), (3, .int 0), (0, .ref (m_ad b0 b k)), (1, .int a), (2, .int bb)] := hl
        exact loop m_txt 0 0 a 1 ls rfl rfl hr (lv_sub hl [4, 5, 6, 3, 2, 1, 0] rfl)
      · cases hw
    · cases hw
  · cases hw

