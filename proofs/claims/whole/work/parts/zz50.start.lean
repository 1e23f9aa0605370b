/-! FROM THE LAW'S ENTRY TO THE SMALL MACHINE -/
theorem ms_K {s : State} {args : Array Value} (hts : ∀ w ∈ lw_tbl, w.before args s = true) (HC : m_HC) (HA : Cond.arrayOver (.object "NoteHouse$World") ∈ lw_tbl) : ∃ (D : va_G) (cT : Nat → ClassId), va_K D mCL (m_tys cT) s := by
  have hk : ∀ ci : Nat, ∃ q : ClassId × (Nat → Nat), ∀ (Cn : String) (fl : mFl), mCF[ci]? = some (Cn, fl) → u_Kn s Cn (m_T fl) fl.length q.1 q.2 := by
    intro ci
    cases h : mCF[ci]? with
    | none => exact ⟨(0, fun _ => 0), fun Cn fl hh => by cases hh⟩
    | some x =>
      obtain ⟨Cn, fl⟩ := x
      obtain ⟨h1, -, h3, -⟩ := HC ci Cn fl h
      obtain ⟨cC, iS, hK⟩ := u_known hts (fun w hw => (h1 w hw).1) (hts _ h3.1)
      exact ⟨(cC, iS), fun Cn' fl' hh => by cases hh; exact hK⟩
  obtain ⟨Df, hD⟩ := Classical.axiomOfChoice hk
  have hi : (Cond.arrayClass .int).before args s = true := hts _ (by decide +kernel)
  have hb : (Cond.arrayClass .boolean).before args s = true := hts _ (by decide +kernel)
  have hw := hts _ HA
  obtain ⟨c1, k1, p1, i1, i2, i3⟩ := Cond.arrayClass_spec hi
  obtain ⟨c2, k2, p2, j1, j2, j3⟩ := Cond.arrayClass_spec hb
  obtain ⟨p3, c3, k3, w1, w2, w3, w4, w5⟩ := Cond.arrayOver_spec hw
  refine ⟨(fun c => (Df c).1, fun c => (Df c).2), fun k => if k = 0 then c1 else if k = 1 then c2 else c3, fun c q hq => ?_, fun k q hk => ?_⟩
  · unfold mCL at hq
    rw [List.getElem?_map] at hq
    cases h : mCF[c]? with
    | none => rw [h] at hq; cases hq
    | some x =>
      obtain ⟨Cn, fl⟩ := x
      rw [h] at hq
      cases hq
      exact hD c Cn fl h
  · match k with
    | 0 =>
      cases hk
      exact ⟨fun n z => ⟨fun k h => (by cases h), k1, i2, p1, i3⟩, i1⟩
    | 1 =>
      cases hk
      exact ⟨fun n z => ⟨fun k h => (by cases h), k2, j2, p2, j3⟩, j1⟩
    | 2 =>
      cases hk
      exact ⟨fun n z => ⟨fun k h => (by cases h), k3, w3, p3, w4⟩, k3, p3, w3, w4, w1, w5⟩
    | k + 3 => cases hk
/-- what the start says of the one text -/
theorem ms_Str {s : State} {b : Nat} (hts : ∀ w ∈ lw_tbl, w.before #[Value.ref b] s = true) (hg : (Jvm.Cond.and given_1 narrow_1).before #[Value.ref b] s = true) : ∃ aS : (Nat → Nat) × (Nat → Nat), m_Str aS s.heap.size s := by
  have hf := flat_of_before _ hg
  have hat : ∀ (i : Nat) (w : Cond), (flatC (Jvm.Cond.and given_1 narrow_1))[i]? = some w → w.before #[Value.ref b] s = true := fun i w h => hf w (List.mem_of_getElem? h)
  have hA : ∀ a : Nat, a < s.heap.size → ¬ m_A s.heap.size a := fun a h h2 => Nat.not_le.mpr h h2
  have hel : (List.range 101).all (fun j => decide ((flatC (Jvm.Cond.and given_1 narrow_1))[13 + j]? = some (Cond.eq (.elem (.field (.string "NoteHouse$Reader" 100) "java/lang/String" "value" "[B") (.int (Int32.ofNat j))) (.int ((m_txt.map Int32.ofNat).getD j 0))))) = true := by decide +kernel
  obtain ⟨adK, adV, h1, h2⟩ := vk_Sof (args := #[Value.ref b]) (s := s) (N := 1) (tm := fun _ => .string "NoteHouse$Reader" 100) (len := [101]) (byt := [m_txt.map Int32.ofNat]) (A := m_A s.heap.size)
    (fun i hi => by obtain rfl : i = 0 := by omega
                    decide)
    (fun i _ => show (Cond.exactly (.string "NoteHouse$Reader" 100) "java/lang/String").before #[Value.ref b] s = true from hat 9 _ (by decide +kernel))
    (fun i _ => show (Cond.eq (.field (.string "NoteHouse$Reader" 100) "java/lang/String" "coder" "B") (.int 0)).before #[Value.ref b] s = true from hat 10 _ (by decide +kernel))
    (fun i _ => show (Cond.arrayOf (.field (.string "NoteHouse$Reader" 100) "java/lang/String" "value" "[B") .byte).before #[Value.ref b] s = true from hat 11 _ (by decide +kernel))
    (fun i hi => by
      obtain rfl : i = 0 := by omega
      exact show (Cond.eq (.length (.field (.string "NoteHouse$Reader" 100) "java/lang/String" "value" "[B")) (.int (Int32.ofNat 101))).before #[Value.ref b] s = true from hat 12 _ (by decide +kernel))
    (fun i hi j hj => by
      obtain rfl : i = 0 := by omega
      exact hat (13 + j) _ (of_decide_eq_true (List.all_eq_true.mp hel j (List.mem_range.mpr hj))))
    (fun i j hi hj hne => absurd (show i = j by omega) hne) hA
  exact ⟨(adK, adV), vk_R.of (A := #[Value.ref b]) (hts _ (by decide +kernel)) (h2 0 (by omega)), h1, va_Zof (hts _ (by decide +kernel)) (hts _ (by decide +kernel)) (va_eqi (hat 4 _ (by decide +kernel))) hA, va_Zqof (hts _ (by decide +kernel)) (hts _ (by decide +kernel)) (hat 5 _ (by decide +kernel)) hA⟩
def m_h0 : mH := ([], fun _ _ => 0, fun _ => 0)
/-- the law's end: 1 on the stack -/
def ms_Q (b : Nat) (s : State) (below : List Frame) : State → Prop := fun t => ∃ o, t.status = .running ∧ Ended t below o ∧ o = .returned (some (.int 1)) ∧ Framed s o t [] 600000 7302250
theorem ms_start {p : Program} {e : Env} {s : State} {m : MethodId} {below : List Frame} {meth : Method} {c : Code} {l : Launch} (HO : m_HO) (HC : m_HC) (HA : Cond.arrayOver (.object "NoteHouse$World") ∈ lw_tbl) (HM : m_HM) (HW : m_HW) (HD : m_HD l) {b L : Nat} {xs : Nat → Int32} {Q : State → Prop}
    (hx : p.tables.exec = Jvm.exec) (hb : c.code = code) (hret : meth.sig.returnType = ret) (hml : c.maxLocals = 4) (hown : s.vm.findClass "NoteHouseLaw" = some m.cls) (hnm : meth.name = "law") (hts : ∀ w ∈ lw_tbl, w.before #[Value.ref b] s = true) (hX : va_X b L xs s s.heap) (hbl : b < s.heap.size) (hlocks : meth.locks = false) (hg : (Jvm.Cond.and given_1 narrow_1).before #[Value.ref b] s = true)
    {n d : Nat} {h' : mH} (hd : d ≤ 1300) (hev : m_ev (L, xs) n d 0 0 [some (.ref m_scr), none, none, none] [] m_h0 = some (some (.int 1), h')) (hr : m_cs h' ≤ 600000 ∧ m_ss h' ≤ 7302250)
    (kk : ∀ (pc : Nat) (H : Heap) (ls : Array Slot), decode code pc = .ok (.ireturn, 1) → W p l e room_1 s m #[Value.ref b] below meth c H [] 600000 7302250 Q (F0 m pc ls [.int 1])) :
    W p l e room_1 s m #[Value.ref b] below meth c s.heap [] 0 0 Q (entryFrame m ([Value.ref b] : List Value).toArray 4) := by
  obtain ⟨D, cT, hK⟩ := ms_K hts HC HA
  obtain ⟨aS, hS⟩ := ms_Str hts hg
  have hsim := m_sim l HC HA HO HM HW HD D cT aS s.heap.size b L xs n d 0 0 _ _ _ _ _ hev
  have hme : mMT[0]? = some me0 := rfl
  obtain ⟨hlh, -⟩ := m_lh_ent (ad := m_ad s.heap.size b) hme (vs := [.ref m_scr]) (by decide +kernel)
  rw [lg_entry_eq]
  refine hsim p e room_1 s m #[Value.ref b] below meth c me0 s.heap [] 0 0 _ m_h0 _ ⟨hx, hme, hb, hml, hown, hret, hnm, hlocks, fun w hw _ => hts w hw, fun w hw hn => ?_, hK, hX, hbl, Nat.le_refl _, hS⟩ (by show d ≤ 2048; omega) (by show 64 * d + 20 ≤ 84000; omega) rfl
    ⟨⟨fun k q hq => (by simp [m_ws, m_h0] at hq), Nat.zero_le _⟩, va_S.rf, hlh, rfl, rfl, Nat.le_refl _⟩ (by show m_cs h' ≤ 600000 + 0 ∧ m_ss h' ≤ 7302250 + 0; omega) ?_
  · have h1 := hts w hw
    cases w <;> first | (cases hn; done) | exact va_Nw.of rfl h1 | (rename_i t; cases t <;> first | (cases hn; done) | exact h1)
  · intro pc' H1 locs1 ls1 cells1 slots1 hR _ hS1 hc hs
    have hc : cells1 + 0 = m_cs h' := hc
    have hs : slots1 + 0 = m_ss h' := hs
    refine va_forget (fun q hq => hS1.2.2 q hq) (W.widen (k := 600000) (n := 7302250) (by omega) (by omega) ?_)
    rcases hR with ⟨v, hv, h2, -⟩ | ⟨v, hv, -⟩ | ⟨hv, -⟩
    · cases hv
      exact kk pc' H1 ls1 h2
    · cases hv
    · cases hv
