/-! THE CONSTRUCTORS: a machine over lists, that the kernel can run; what it does, the small machine does -/
def c_sp {α : Type} (z : α) : List α → Nat → α → List α
  | [], 0, v => [v]
  | [], n + 1, v => z :: c_sp z [] n v
  | _ :: l, 0, v => v :: l
  | x :: l, n + 1, v => x :: c_sp z l n v
theorem c_sp_at {α : Type} (z : α) (n : Nat) : ∀ (l : List α) (v : α) (i : Nat), (c_sp z l n v).getD i z = if i = n then v else l.getD i z := by
  induction n with
  | zero =>
    intro l v i
    cases l <;> cases i <;> simp [c_sp]
  | succ n ih =>
    intro l v i
    cases l with
    | nil =>
      cases i with
      | zero => simp [c_sp]
      | succ i =>
        have := ih [] v i
        simp only [c_sp, List.getD_cons_succ, this]
        simp
    | cons x l =>
      cases i with
      | zero => simp [c_sp]
      | succ i =>
        have := ih l v i
        simp only [c_sp, List.getD_cons_succ, this]
        simp
abbrev cMem : Type := List (List Nat)
abbrev cH : Type := List mS × cMem
def c_rd (m : cMem) (k j : Nat) : Int32 := (UInt32.ofNat ((m.getD k []).getD j 0)).toInt32
def c_wr (m : cMem) (k j : Nat) (v : Int32) : cMem := c_sp [] m k (c_sp 0 (m.getD k []) j v.toUInt32.toNat)
def c_M (m : cMem) : Nat → Nat → Int32 := fun k j => c_rd m k j
def c_h (c : cH) : mH := (c.1, c_M c.2, fun _ => 0)
theorem c_M_wr (m : cMem) (k j : Nat) (v : Int32) : c_M (c_wr m k j v) = m_up (c_M m) k j v := by
  funext k' j'
  unfold c_M c_rd c_wr m_up
  rw [c_sp_at]
  by_cases e : k' = k
  · subst e
    rw [if_pos rfl, if_pos rfl, c_sp_at]
    unfold upd
    by_cases e2 : j' = j
    · rw [if_pos e2, if_pos e2]
      simp
    · rw [if_neg e2, if_neg e2]
  · rw [if_neg e, if_neg e]
theorem c_M_row (m : cMem) (k : Nat) : c_M (c_sp [] m k []) = m_row (c_M m) k (fun _ => 0) := by
  funext k' j'
  unfold c_M c_rd m_row
  rw [c_sp_at]
  by_cases e : k' = k
  · rw [if_pos e, if_pos e]
    simp
  · rw [if_neg e, if_neg e]
theorem c_L0 (k : Nat) : m_upl (fun _ => 0) k 0 = fun _ => 0 := by
  funext k'
  unfold m_upl
  split <;> rfl
/-- steps that write nothing -/
def c_pure : Instr → Bool
  | .iconst _ | .bipush _ | .sipush _ | .ldc _ | .iload _ | .iload_n _ | .aload_n _ | .istore _ | .istore_n _ | .astore_n _ | .iinc _ _ | .iadd | .imul | .idiv | .irem | .dup | .if_icmp _ _ | .goto _ | .getfield _ | .iaload => true
  | _ => false
theorem c_pure_h {X : mX} {ins : Instr} {len a b c pc pc' : Nat} {lo lo' : List (Option Value)} {st st' : List Value} {h h' : mH} (hp : c_pure ins = true) (hs : m_st1 (0, fun _ => 0) ins len a b c pc lo st h = some (pc', lo', st', h')) : m_st1 X ins len a b c pc lo st h = some (pc', lo', st', h) := by
  have e1 : h' = h := by
    cases ins <;> first
      | (cases hp; done)
      | (simp only [m_st1, m_icmp, m_br] at hs
         repeat' split at hs
         all_goals first | (cases hs; done) | (cases hs; rfl))
  subst e1
  cases ins <;> first
    | (cases hp; done)
    | exact hs
    | (simp only [m_st1] at hs ⊢
       repeat' split at hs
       all_goals first | (cases hs; done) | (cases hs; simp_all [m_ld]; done) | (simp_all [m_ld]; done))
def c_ok (m : cMem) (k : Nat) : Bool := (m.getD k []).all (fun x => Nat.ble x 4294967296) && Nat.ble m.length 100000
noncomputable def c_st1 (ins : Instr) (len a b cc pc : Nat) (lo : List (Option Value)) (st : List Value) (c : cH) : Option (Nat × List (Option Value) × List Value × cH) :=
  match c_pure ins with
  | true => (match m_st1 (0, fun _ => 0) ins len a b cc pc lo st (c_h c) with
    | some (pc', lo', st', _) => some (pc', lo', st', c)
    | none => none)
  | false => match ins with
    | .arraylength => match st with
      | .ref k :: r => if k = m_scr then none else match c.1[k]? with
        | some (.inl (t, n)) => if t < 2 then some (pc + len, lo, .int (Int32.ofNat n) :: r, c) else none
        | some (.inr (ci, rs)) => if ci = 100 then some (pc + len, lo, .int (Int32.ofNat rs.length) :: r, c) else none
        | none => none
      | _ => none
    | .iastore => match st with
      | .int v :: .int i :: .ref k :: r => match c.1[k]? with
        | some (.inl (0, n)) => if i < 0 ∨ n ≤ i.toNatClampNeg then none else if c_ok (c_wr c.2 k i.toNatClampNeg v) k then some (pc + len, lo, r, (c.1, c_wr c.2 k i.toNatClampNeg v)) else none
        | _ => none
      | _ => none
    | .putfield _ => match st with
      | .int v :: .ref k :: r => match c.1[k]? with
        | some (.inr (ci, rs)) => if ci = a ∧ b < rs.length ∧ (cc = 0 ∨ (cc = 1 ∧ (v = 0 ∨ v = 1))) then (if c_ok (c_wr c.2 k b v) k then some (pc + len, lo, r, (c.1, c_wr c.2 k b v)) else none) else none
        | _ => none
      | .ref v :: .ref k :: r => match c.1[k]? with
        | some (.inr (ci, rs)) => if ci = a ∧ b < rs.length ∧ cc = 3 then some (pc + len, lo, r, (c.1.set k (.inr (ci, rs.set b (some v))), c.2)) else none
        | _ => none
      | _ => none
    | .aastore => match st with
      | .ref v :: .int i :: .ref k :: r => match c.1[k]?, c.1[v]? with
        | some (.inr (ci, rs)), some (.inr (cv, _)) => if ci = 100 ∧ cv = 10 ∧ ¬ (i < 0 ∨ rs.length ≤ i.toNatClampNeg) then some (pc + len, lo, r, (c.1.set k (.inr (ci, rs.set i.toNatClampNeg (some v))), c.2)) else none
        | _, _ => none
      | _ => none
    | .newarray _ => match st with
      | .int n :: r => if n < 0 ∨ 100000 < n.toNatClampNeg ∨ 1000 ≤ c.1.length then none else some (pc + len, lo, .ref c.1.length :: r, (c.1 ++ [.inl (a, n.toNatClampNeg)], c_sp [] c.2 c.1.length []))
      | _ => none
    | .anewarray _ => match st with
      | .int n :: r => if n < 0 ∨ 100000 < n.toNatClampNeg ∨ 1000 ≤ c.1.length then none else some (pc + len, lo, .ref c.1.length :: r, (c.1 ++ [.inr (100, List.replicate n.toNatClampNeg none)], c.2))
      | _ => none
    | .new _ => if 1000 ≤ c.1.length then none else some (pc + len, lo, .ref c.1.length :: st, (c.1 ++ [.inr (a, List.replicate b none)], c_sp [] c.2 c.1.length []))
    | _ => none
theorem c_st1_of {X : mX} {ins : Instr} {len a b cc pc pc' : Nat} {lo lo' : List (Option Value)} {st st' : List Value} {c c' : cH} (h : c_st1 ins len a b cc pc lo st c = some (pc', lo', st', c')) : m_st1 X ins len a b cc pc lo st (c_h c) = some (pc', lo', st', c_h c') := by
  unfold c_st1 at h
  split at h
  · rename_i hp
    split at h
    · rename_i h1
      cases h
      exact c_pure_h hp h1
    · cases h
  · split at h
    all_goals first | (cases h; done) | skip
    · repeat' split at h
      all_goals first | (cases h; done) | (cases h; simp_all [m_st1, c_h]; done)
    · repeat' split at h
      all_goals first | (cases h; done) | (cases h; simp_all [m_st1, c_h, c_M_wr]; done)
    · repeat' split at h
      all_goals first | (cases h; done) | (cases h; simp_all [m_st1, c_h, c_M_wr]; done)
    · repeat' split at h
      all_goals first | (cases h; done) | (cases h; simp_all [m_st1, c_h]; done)
    · repeat' split at h
      all_goals first | (cases h; done) | (cases h; rename_i hc; simp only [m_st1, c_h, c_M_row]; exact if_neg hc)
    · repeat' split at h
      all_goals first | (cases h; done) | (cases h; rename_i hc; simp only [m_st1, c_h]; exact if_neg hc)
    · repeat' split at h
      all_goals first | (cases h; done) | (cases h; simp_all [m_st1, c_h, c_M_row, c_L0]; done)
/-- frames: a method, a place, locals, a stack -/
abbrev cF : Type := Nat × Nat × List (Option Value) × List Value
abbrev cSt : Type := Nat × List cF × cH
noncomputable def c_step (s : cSt) : Option cSt := match s with
  | (d, (mi, pc, lo, st) :: fr, c) => if mi = 126 then none else match m_op mi pc with
    | some (ins, len, tag, a, b, cc, _) => (match tag with
      | 0 => (match c_st1 ins len a b cc pc lo st c with
        | some (pc', lo', st', c') => some (d, (mi, pc', lo', st') :: fr, c')
        | none => none)
      | 3 => (match st, fr with
        | [], (mi2, pc2, lo2, st2) :: fr' => some (d + 1, (mi2, pc2 + 3, lo2, st2) :: fr', c)
        | _, _ => none)
      | 5 => (match d, st.drop b with
        | d' + 1, .ref k :: r => if m_isO a k (c_h c) = true ∧ m_cat r ≤ 8 ∧ (m_ent a (.ref k :: (st.take b).reverse)).length = m_ml a then some (d', (a, 0, m_ent a (.ref k :: (st.take b).reverse), []) :: (mi, pc, lo, r) :: fr, c) else none
        | _, _ => none)
      | 6 => (match d, st.drop b with
        | d' + 1, .ref k :: r => if m_isO a k (c_h c) = true ∧ m_cat r ≤ 8 ∧ (m_ent a (.ref k :: (st.take b).reverse)).length = m_ml a then some (d', (a, 0, m_ent a (.ref k :: (st.take b).reverse), []) :: (mi, pc, lo, r) :: fr, c) else none
        | _, _ => none)
      | 7 => (match d, st with
        | d' + 1, .ref _ :: r => if m_cat r ≤ 8 then some (d' + 1, (mi, pc + 3, lo, r) :: fr, c) else none
        | _, _ => none)
      | _ => none)
    | none => none
  | _ => none
noncomputable def c_rn : Nat → cSt → Option cSt
  | 0, s => c_step s
  | k + 1, s => match c_rn k s with
    | some s' => c_rn k s'
    | none => none
/-- the runs that are still to come end with res -/
def c_K (X : mX) (res : Option Value × mH) : Nat → List cF → mH → Prop
  | _, [], _ => False
  | d, (mi, pc, lo, st) :: fr, h => match fr with
    | [] => m_R X d mi pc lo st h res
    | (mi2, pc2, lo2, st2) :: fr' => ∃ h', m_R X d mi pc lo st h (none, h') ∧ c_K X res (d + 1) ((mi2, pc2 + 3, lo2, st2) :: fr') h'
  termination_by _ fr _ => fr.length
theorem c_K_one {X : mX} {res : Option Value × mH} {d mi pc : Nat} {lo : List (Option Value)} {st : List Value} {h : mH} : c_K X res d [(mi, pc, lo, st)] h = m_R X d mi pc lo st h res := by rw [c_K]
theorem c_K_two {X : mX} {res : Option Value × mH} {d mi pc mi2 pc2 : Nat} {lo lo2 : List (Option Value)} {st st2 : List Value} {fr : List cF} {h : mH} : c_K X res d ((mi, pc, lo, st) :: (mi2, pc2, lo2, st2) :: fr) h = ∃ h', m_R X d mi pc lo st h (none, h') ∧ c_K X res (d + 1) ((mi2, pc2 + 3, lo2, st2) :: fr) h' := by rw [c_K]
theorem c_K_up {X : mX} {res : Option Value × mH} {d mi pc pc' : Nat} {lo lo' : List (Option Value)} {st st' : List Value} {fr : List cF} {h h' : mH} (hh : ∀ r, m_R X d mi pc' lo' st' h' r → m_R X d mi pc lo st h r) (k : c_K X res d ((mi, pc', lo', st') :: fr) h') : c_K X res d ((mi, pc, lo, st) :: fr) h := by
  cases fr with
  | nil => rw [c_K_one] at k ⊢; exact hh _ k
  | cons f fr =>
    obtain ⟨mi2, pc2, lo2, st2⟩ := f
    rw [c_K_two] at k ⊢
    obtain ⟨h2, k1, k2⟩ := k
    exact ⟨h2, hh _ k1, k2⟩
theorem c_call {X : mX} {d mi pc k0 a nb c q len tag : Nat} {ins : Instr} {lo : List (Option Value)} {st rest : List Value} {h h1 : mH} {res : Option Value × mH} (h126 : mi ≠ 126) (ht : tag = 5 ∨ tag = 6) (hop : m_op mi pc = some (ins, len, tag, a, nb, c, q)) (hr : st.drop nb = .ref k0 :: rest) (hc : m_isO a k0 h = true ∧ m_cat rest ≤ 8 ∧ (m_ent a (.ref k0 :: (st.take nb).reverse)).length = m_ml a)
    (hb : m_R X d a 0 (m_ent a (.ref k0 :: (st.take nb).reverse)) [] h (none, h1)) (k : m_R X (d + 1) mi (pc + 3) lo rest h1 res) : m_R X (d + 1) mi pc lo st h res := by
  obtain ⟨n1, hn1⟩ := hb
  obtain ⟨n2, hn2⟩ := k
  refine ⟨n1 + n2 + 1, ?_⟩
  have e1 := m_ev_up _ _ _ _ _ _ _ _ (n1 + n2) d hn1 (by omega) (Nat.le_refl _)
  have e2 := m_ev_up _ _ _ _ _ _ _ _ (n1 + n2) (d + 1) hn2 (by omega) (Nat.le_refl _)
  rcases ht with rfl | rfl
  · simp only [m_ev, if_neg h126, hop, hr]
    rw [if_pos hc, e1]
    exact e2
  · simp only [m_ev, if_neg h126, hop, hr]
    rw [if_pos hc, e1]
    exact e2
theorem c_new7 {X : mX} {d mi pc k0 a nb c q len : Nat} {ins : Instr} {lo : List (Option Value)} {rest : List Value} {h : mH} {res : Option Value × mH} (h126 : mi ≠ 126) (hop : m_op mi pc = some (ins, len, 7, a, nb, c, q)) (hc : m_cat rest ≤ 8) (k : m_R X (d + 1) mi (pc + 3) lo rest h res) : m_R X (d + 1) mi pc lo (.ref k0 :: rest) h res := by
  obtain ⟨n, hn⟩ := k
  refine ⟨n + 1, ?_⟩
  simp only [m_ev, if_neg h126, hop]
  rw [if_pos ⟨Nat.succ_pos _, hc⟩]
  exact hn
theorem c_step_of {X : mX} {res : Option Value × mH} {d d' : Nat} {fr fr' : List cF} {c c' : cH} (hs : c_step (d, fr, c) = some (d', fr', c')) (k : c_K X res d' fr' (c_h c')) : c_K X res d fr (c_h c) := by
  unfold c_step at hs
  split at hs
  · rename_i d0 mi pc lo st fr0 c0 heq
    cases heq
    split at hs
    · cases hs
    · rename_i h126
      split at hs
      · rename_i ins len tag a b cc q hop
        split at hs
        · split at hs
          · rename_i h1
            cases hs
            exact c_K_up (fun r hr => m_R_1 h126 hop (c_st1_of h1) hr) k
          · cases hs
        · split at hs
          · cases hs
            rw [c_K_two]
            exact ⟨_, m_R_vret h126 hop, k⟩
          · cases hs
        · split at hs
          · rename_i d1 k0 r hd
            split at hs
            · rename_i hc
              cases hs
              rw [c_K_two] at k
              obtain ⟨h1, k1, k2⟩ := k
              exact c_K_up (fun r2 hr2 => c_call h126 (Or.inl rfl) hop hd hc k1 hr2) k2
            · cases hs
          · cases hs
        · split at hs
          · rename_i d1 k0 r hd
            split at hs
            · rename_i hc
              cases hs
              rw [c_K_two] at k
              obtain ⟨h1, k1, k2⟩ := k
              exact c_K_up (fun r2 hr2 => c_call h126 (Or.inr rfl) hop hd hc k1 hr2) k2
            · cases hs
          · cases hs
        · split at hs
          · rename_i d1 k0 r
            split at hs
            · rename_i hc
              cases hs
              exact c_K_up (fun r2 hr2 => c_new7 h126 hop hc hr2) k
            · cases hs
          · cases hs
        · cases hs
      · cases hs
  · cases hs
theorem c_run_of {X : mX} {res : Option Value × mH} : ∀ (n : Nat) (s s' : cSt), c_rn n s = some s' → c_K X res s'.1 s'.2.1 (c_h s'.2.2) → c_K X res s.1 s.2.1 (c_h s.2.2)
  | 0, (_, _, _), (_, _, _), h, k => c_step_of h k
  | n + 1, s, s', h, k => by
    rw [c_rn] at h
    split at h
    · rename_i s1 h1
      exact c_run_of n s s1 h1 (c_run_of n s1 s' h k)
    · cases h
