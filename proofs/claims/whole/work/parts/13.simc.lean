/-! THE SAME OF WHAT READS AND WRITES THE HEAP -/
def m_okf (ds : String) : Bool := match parseFieldDescriptor ds with
  | some .int => m_fki ds == 0
  | some .boolean => m_fki ds == 1
  | some .long => m_fki ds == 2
  | some (.object _) => m_fki ds == 3
  | some (.array _) => m_fki ds == 3
  | _ => false
def m_ty (fl : mFl) : Nat → FieldType := fun k => (parseFieldDescriptor (m_T fl k).2.2.1).getD .int
/-- what the words say of a class -/
def m_HC : Prop := ∀ (ci : Nat) (Cn : String) (fl : mFl), mCF[ci]? = some (Cn, fl) → (∀ w ∈ u_ws Cn (m_T fl) fl.length, w ∈ lw_tbl ∧ goodWord w = true) ∧ (∀ a, a < fl.length → ∀ b, b < fl.length → a ≠ b → (m_T fl a).2.1 ≠ (m_T fl b).2.1) ∧
  (Cond.instantiable Cn fl.length ∈ lw_tbl ∧ goodWord (Cond.instantiable Cn fl.length) = true) ∧ (Cond.initialized Cn ∈ lw_tbl ∧ goodWord (Cond.initialized Cn) = true) ∧ (∀ k, k < fl.length → m_okf (m_T fl k).2.2.1 = true) ∧ (∀ i j, i < fl.length → j < fl.length → m_fki (m_T fl i).2.2.1 = 2 → m_fki (m_T fl j).2.2.1 = 2 → i = j)
theorem m_okf_of {ds : String} (h : m_okf ds = true) : ∃ ty, parseFieldDescriptor ds = some ty ∧ ((m_fki ds = 0 ∧ ty = .int) ∨ (m_fki ds = 1 ∧ ty = .boolean) ∨ (m_fki ds = 2 ∧ ty = .long) ∨ (m_fki ds = 3 ∧ refKind ty = true)) := by
  unfold m_okf at h
  split at h
  · rename_i e; exact ⟨_, e, Or.inl ⟨by simpa using h, rfl⟩⟩
  · rename_i e; exact ⟨_, e, Or.inr (Or.inl ⟨by simpa using h, rfl⟩)⟩
  · rename_i e; exact ⟨_, e, Or.inr (Or.inr (Or.inl ⟨by simpa using h, rfl⟩))⟩
  · rename_i e; exact ⟨_, e, Or.inr (Or.inr (Or.inr ⟨by simpa using h, rfl⟩))⟩
  · rename_i e; exact ⟨_, e, Or.inr (Or.inr (Or.inr ⟨by simpa using h, rfl⟩))⟩
  · cases h
theorem m_CF_lt {ci : Nat} {x : String × mFl} (h : mCF[ci]? = some x) : ci < 13 := (List.getElem?_eq_some_iff.mp h).1
theorem m_CL_of {ci : Nat} {Cn : String} {fl : mFl} (h : mCF[ci]? = some (Cn, fl)) : mCL[ci]? = some (Cn, m_T fl, fl.length) := by
  unfold mCL
  rw [List.getElem?_map, h]
  rfl
theorem m_T_of {fl : mFl} {k : Nat} {x : String × String × String × Bool} (h : fl[k]? = some x) : m_T fl k = x ∧ k < fl.length := ⟨by simp [m_T, List.getD_eq_getElem?_getD, h], (List.getElem?_eq_some_iff.mp h).1⟩
theorem m_fk_of {ci : Nat} {Cn : String} {fl : mFl} {j : Nat} {x : String × String × String × Bool} (h : mCF[ci]? = some (Cn, fl)) (hj : fl[j]? = some x) : m_fk ci j = m_fki x.2.2.1 := by
  unfold m_fk
  simp [h, hj]
theorem m_val_of {ad : Nat → Nat} {ci j cc k : Nat} {rs : List (Option Nat)} {M : Nat → Nat → Int32} {L : Nat → Int64} {v : Value} (hf : m_fk ci j = cc) (h : m_fv cc j k rs M L = some v) : m_val ad ci j (rs.getD j none) (M k) (L k) = m_em ad v := by
  unfold m_val
  rw [hf]
  unfold m_fv at h
  split at h
  · cases h; rfl
  · cases h; rfl
  · cases h; rfl
  · rename_i n0 n1 n2
    split at h
    · rename_i r hr
      cases h
      have e : rs.getD j none = some r := by rw [List.getD_eq_getElem?_getD, hr]; rfl
      rw [e]
      match cc, n0, n1, n2 with
      | n + 3, _, _, _ => rfl
    · cases h
section MHEAP
variable {p : Program} {l : Launch} {e : Env} {R : Room} {s : State} {m : MethodId} {args : Array Value} {below : List Frame} {meth : Method} {c : Code} {H : Heap} {locs : List Loc} {cells slots : Nat} {Q : State → Prop}
variable {D : va_G} {cT : Nat → ClassId} {aS : (Nat → Nat) × (Nat → Nat)} {b0 b L : Nat} {xs : Nat → Int32} {mi : Nat} {me : mMe}
theorem mc_fld_of {own : String} {i a bb cc q : Nat} (h : mc_fld own i a bb cc q = true) : ∃ Cn fl dc nm ds fin, mCF[a]? = some (Cn, fl) ∧ fl[bb]? = some (dc, nm, ds, fin) ∧ mc_w q (.fieldLink own i dc nm ds) = true ∧ cc = m_fki ds := by
  unfold mc_fld at h
  split at h
  · rename_i Cn fl e1
    split at h
    · rename_i dc nm ds fin e2
      simp only [Bool.and_eq_true, decide_eq_true_eq] at h
      exact ⟨Cn, fl, dc, nm, ds, fin, e1, e2, h.1, h.2⟩
    · cases h
  · cases h
theorem m_C.cls (C : m_C p s m args meth c D cT aS b0 b L xs mi me) (HC : m_HC) {ci : Nat} {Cn : String} {fl : mFl} (h : mCF[ci]? = some (Cn, fl)) : ∀ w ∈ u_ws Cn (m_T fl) fl.length, w.before args s = true :=
  fun w hw => C.2.2.2.2.2.2.2.2.1 w ((HC ci Cn fl h).1 w hw).1 ((HC ci Cn fl h).1 w hw).2
theorem m_getf (HC : m_HC) (C : m_C p s m args meth c D cT aS b0 b L xs mi me) {ad : Nat → Nat} {h : mH} {i a bb cc q pc k : Nat} {rs : List (Option Nat)} {v : Value} {ls : Array Slot} {rest : List Value} (hd : decode me.2.1 pc = .ok (.getfield i, 3)) (hf : mc_fld me.1.cls i a bb cc q = true)
    (hk : h.1[k]? = some (.inr (a, rs))) (hbb : bb < rs.length) (hv : m_fv cc bb k rs h.2.1 h.2.2 = some v) (hW : m_Wd D ad cT h H)
    (kk : W p l e R s m args below meth c H locs cells slots Q (F0 m (pc + 3) ls (m_em ad v :: rest))) : W p l e R s m args below meth c H locs cells slots Q (F0 m pc ls (.ref (ad k) :: rest)) := by
  obtain ⟨Cn, fl, dc, nm, ds, fin, e1, e2, e3, e4⟩ := mc_fld_of hf
  have ha : a ≠ 100 := by have := m_CF_lt e1; omega
  obtain ⟨t1, t2⟩ := m_T_of e2
  have hws := m_ws_get (ad := ad) (cT := cT) hk
  rw [show m_e ad cT (.inr (a, rs)) (h.2.1 k) (h.2.2 k) = .inr (a, (List.range rs.length).map (fun j => m_val ad a j (rs.getD j none) (h.2.1 k) (h.2.2 k))) from if_neg ha] at hws
  refine va_get C.1 C.2.2.1 (C := Cn) (T := m_T fl) (N := fl.length) (ci := a) (ref := dc) (C.cls HC e1) (fun _ z => z) C.2.2.2.2.1 C.2.2.2.2.2.2.2.2.2.2.1 hW.1 k hws (m_CL_of e1) bb t2 (by rw [t1]; exact C.word e3) (fun x hx => by rw [t1] at hx ⊢; exact hx) (v := m_em ad v) ?_ hd kk
  rw [List.getElem?_map, List.getElem?_range hbb]
  show some _ = some _
  congr 1
  exact m_val_of ((m_fk_of e1 e2).trans e4.symm) hv
theorem mc_fin_of {own nme : String} {a bb : Nat} (h : mc_fin own nme a bb = true) {Cn : String} {fl : mFl} {x : String × String × String × Bool} (e1 : mCF[a]? = some (Cn, fl)) (e2 : fl[bb]? = some x) : x.2.2.2 = true → nme = "<init>" ∧ x.1 = own := by
  unfold mc_fin at h
  rw [e1] at h
  simp only at h
  rw [e2] at h
  intro hx
  obtain ⟨x1, x2, x3, x4⟩ := x
  simp only at hx h
  subst hx
  simpa using h
theorem m_putf (HC : m_HC) (C : m_C p s m args meth c D cT aS b0 b L xs mi me) {h h1 : mH} {i a bb cc q pc k : Nat} {rs rs1 : List (Option Nat)} {v : Value} {ls : Array Slot} {rest : List Value} (hd : decode me.2.1 pc = .ok (.putfield i, 3)) (hf : mc_fld me.1.cls i a bb cc q = true) (hfi : mc_fin me.1.cls me.1.name a bb = true)
    (hk : h.1[k]? = some (.inr (a, rs))) (hbb : bb < rs.length) (hl : h1.1.length = h.1.length) (hk1 : h1.1[k]? = some (.inr (a, rs1))) (ho : ∀ j, j ≠ k → h1.1[j]? = h.1[j]? ∧ h1.2.1 j = h.2.1 j ∧ h1.2.2 j = h.2.2 j)
    (hset : ((List.range rs.length).map (fun j => m_val (m_ad b0 b) a j (rs.getD j none) (h.2.1 k) (h.2.2 k))).set bb (m_em (m_ad b0 b) v) = (List.range rs1.length).map (fun j => m_val (m_ad b0 b) a j (rs1.getD j none) (h1.2.1 k) (h1.2.2 k)))
    (hfit : ∀ ty, ((cc = 0 ∧ ty = .int) ∨ (cc = 1 ∧ ty = .boolean) ∨ (cc = 2 ∧ ty = .long) ∨ (cc = 3 ∧ refKind ty = true)) → narrow ty (m_em (m_ad b0 b) v) = m_em (m_ad b0 b) v ∧ fits ty (m_em (m_ad b0 b) v) = true) (hW : m_Wd D (m_ad b0 b) cT h H) (hS : va_S (m_A b0) s.heap H locs)
    (kk : ∀ (H1 : Heap) (locs1 : List Loc), m_Wd D (m_ad b0 b) cT h1 H1 → va_S (m_A b0) s.heap H1 locs1 → W p l e R s m args below meth c H1 locs1 cells slots Q (F0 m (pc + 3) ls rest)) : W p l e R s m args below meth c H locs cells slots Q (F0 m pc ls (m_em (m_ad b0 b) v :: .ref ((m_ad b0 b) k) :: rest)) := by
  obtain ⟨Cn, fl, dc, nm, ds, fin, e1, e2, e3, e4⟩ := mc_fld_of hf
  have ha : a ≠ 100 := by have := m_CF_lt e1; omega
  obtain ⟨t1, t2⟩ := m_T_of e2
  have hws := m_ws_get (ad := m_ad b0 b) (cT := cT) hk
  rw [show m_e (m_ad b0 b) cT (.inr (a, rs)) (h.2.1 k) (h.2.2 k) = .inr (a, (List.range rs.length).map (fun j => m_val (m_ad b0 b) a j (rs.getD j none) (h.2.1 k) (h.2.2 k))) from if_neg ha] at hws
  have hnew := m_ws_set (ad := m_ad b0 b) (cT := cT) hl hk1 ho
  rw [show m_e (m_ad b0 b) cT (.inr (a, rs1)) (h1.2.1 k) (h1.2.2 k) = .inr (a, (List.range rs1.length).map (fun j => m_val (m_ad b0 b) a j (rs1.getD j none) (h1.2.1 k) (h1.2.2 k))) from if_neg ha, ← hset] at hnew
  obtain ⟨-, hnm, -, -, hok, -⟩ := HC a Cn fl e1
  have hok' : ∀ k, k < fl.length → parseFieldDescriptor (m_T fl k).2.2.1 = some (m_ty fl k) := fun k hk => by
    obtain ⟨ty, q1, -⟩ := m_okf_of (hok k hk)
    unfold m_ty
    rw [q1]
    rfl
  obtain ⟨ty, q1, q2⟩ := m_okf_of (hok bb t2)
  rw [t1] at q1 q2
  have q2 : (m_fki ds = 0 ∧ ty = .int) ∨ (m_fki ds = 1 ∧ ty = .boolean) ∨ (m_fki ds = 2 ∧ ty = .long) ∨ (m_fki ds = 3 ∧ refKind ty = true) := q2
  rw [← e4] at q2
  obtain ⟨n1, n2⟩ := hfit ty q2
  have kk' : ∀ (H1 : Heap) (locs1 : List Loc), va_P D mCL ((m_ws (m_ad b0 b) cT h).set k ((m_ad b0 b) k, .inr (a, ((List.range rs.length).map (fun j => m_val (m_ad b0 b) a j (rs.getD j none) (h.2.1 k) (h.2.2 k))).set bb (m_em (m_ad b0 b) v)))) H1 → va_D (m_A b0) ((m_ws (m_ad b0 b) cT h).set k ((m_ad b0 b) k, .inr (a, ((List.range rs.length).map (fun j => m_val (m_ad b0 b) a j (rs.getD j none) (h.2.1 k) (h.2.2 k))).set bb (m_em (m_ad b0 b) v)))) → va_S (m_A b0) s.heap H1 locs1 → W p l e R s m args below meth c H1 locs1 cells slots Q (F0 m (pc + 3) ls rest) := by
    intro H1 locs1 g1 _ g2
    rw [hnew] at g1
    exact kk H1 locs1 ⟨g1, by rw [hl]; exact hW.2⟩ g2
  cases hfin : fin with
  | false =>
    exact va_put C.1 C.2.2.1 (C := Cn) (T := m_T fl) (N := fl.length) (ci := a) (ref := dc) (C.cls HC e1) (fun _ z => z) (m_ty fl) hok' hnm C.2.2.2.2.1 C.2.2.2.2.2.2.2.2.2.2.1 hW.1 (m_DD hW.2) hS k hws (m_CL_of e1) bb t2 (by rw [t1]; exact C.word e3) (fun x hx => by rw [t1] at hx ⊢; exact hx) (by rw [t1]; exact hfin) (ty := ty) (by rw [t1]; exact q1) n1 n2 (by simpa using hbb) hd kk'
  | true =>
    obtain ⟨f1, f2⟩ := mc_fin_of hfi e1 e2 hfin
    exact va_putF C.1 C.2.2.1 (C := Cn) (T := m_T fl) (N := fl.length) (ci := a) (ref := dc) (C.cls HC e1) (fun _ z => z) (m_ty fl) hok' hnm C.2.2.2.2.1 C.2.2.2.2.2.2.2.2.2.2.1 hW.1 (m_DD hW.2) hS k hws (m_CL_of e1) bb t2 (by rw [t1]; exact C.word e3) (fun x hx => by rw [t1] at hx ⊢; exact hx) (by rw [t1]; exact hfin) (C.2.2.2.2.2.2.1.trans f1) (by rw [t1]; exact f2) (ty := ty) (by rw [t1]; exact q1) n1 n2 (by simpa using hbb) hd kk'
end MHEAP
