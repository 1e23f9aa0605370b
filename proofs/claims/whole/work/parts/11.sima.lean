/-! WHAT THE SMALL MACHINE'S STATE IS IN THE HEAP -/
def m_ad (b0 b : Nat) : Nat → Nat := fun k => if k = m_scr then b else b0 + k
def m_em (ad : Nat → Nat) : Value → Value
  | .ref k => .ref (ad k)
  | v => v
theorem m_em_cat (ad : Nat → Nat) (v : Value) : (m_em ad v).category = v.category := by cases v <;> rfl
def m_fk (ci j : Nat) : Nat := match mCF[ci]? with
  | some (_, fl) => (match fl[j]? with
    | some (_, _, ds, _) => m_fki ds
    | none => 3)
  | none => 3
def m_val (ad : Nat → Nat) (ci j : Nat) (r : Option Nat) (f : Nat → Int32) (g : Int64) : Value := match m_fk ci j with
  | 0 => .int (f j)
  | 1 => .int (f j)
  | 2 => .long g
  | _ => va_rf (r.map ad)
def m_e (ad : Nat → Nat) (cT : Nat → ClassId) (s : mS) (f : Nat → Int32) (g : Int64) : va_E := match s with
  | .inl (t, n) => .inl (cT t, n, .inl f)
  | .inr (ci, rs) => if ci = 100 then .inl (cT 2, rs.length, .inr (.inr (.inr (.inr (fun j => (rs.getD j none).map ad))))) else .inr (ci, (List.range rs.length).map (fun j => m_val ad ci j (rs.getD j none) f g))
def m_ws (ad : Nat → Nat) (cT : Nat → ClassId) (h : mH) : va_W := (List.range h.1.length).map (fun k => (ad k, m_e ad cT (h.1.getD k (.inl (0, 0))) (h.2.1 k) (h.2.2 k)))
def m_T (fl : mFl) : u_T := fun k => fl.getD k ("", "", "", false)
def mCL : List vw_C := mCF.map (fun q => (q.1, m_T q.2, q.2.length))
def m_tys (cT : Nat → ClassId) : List (ClassId × FieldType) := [(cT 0, .int), (cT 1, .boolean), (cT 2, .object "NoteHouse$World")]
def m_Wd (D : va_G) (ad : Nat → Nat) (cT : Nat → ClassId) (h : mH) (H : Heap) : Prop := va_P D mCL (m_ws ad cT h) H ∧ h.1.length ≤ 1000
def m_A (b0 : Nat) : Nat → Prop := fun q => b0 ≤ q
def m_cs (h : mH) : Nat := h.1.length
def m_sz : mS → Nat
  | .inl (_, n) => n
  | .inr (_, rs) => rs.length
def m_ss (h : mH) : Nat := (h.1.map m_sz).sum
/-- locals -/
def m_lh (ad : Nat → Nat) (ls : Array Slot) (lo : List (Option Value)) : Prop := ls.size = lo.length ∧ lv_wf ls ∧ ∀ (i : Nat) (v : Value), lo[i]? = some (some v) → ls[i]? = some (.val (m_em ad v))
def m_lv (ad : Nat → Nat) (lo : List (Option Value)) : List (Nat × Value) := (List.range lo.length).filterMap (fun i => (lo.getD i none).map (fun v => (i, m_em ad v)))
theorem m_lv_mem {ad : Nat → Nat} {lo : List (Option Value)} {i : Nat} {v : Value} (h : lo[i]? = some (some v)) : (i, m_em ad v) ∈ m_lv ad lo := by
  have hi := (List.getElem?_eq_some_iff.mp h).1
  refine List.mem_filterMap.mpr ⟨i, List.mem_range.mpr hi, ?_⟩
  rw [List.getD_eq_getElem?_getD, h]
  rfl
theorem m_lv_of {ad : Nat → Nat} {lo : List (Option Value)} {q : Nat × Value} (h : q ∈ m_lv ad lo) : ∃ v, lo[q.1]? = some (some v) ∧ q.2 = m_em ad v := by
  obtain ⟨i, hi, h⟩ := List.mem_filterMap.mp h
  rw [List.getD_eq_getElem?_getD] at h
  cases hlo : lo[i]? with
  | none => rw [hlo] at h; cases h
  | some o =>
    rw [hlo] at h
    cases o with
    | none => cases h
    | some v => cases h; exact ⟨v, hlo, rfl⟩
theorem m_lh.has {ad : Nat → Nat} {ls : Array Slot} {lo : List (Option Value)} (h : m_lh ad ls lo) : lv_has ls lo.length (m_lv ad lo) := by
  refine ⟨h.1, h.2.1, fun q hq => ?_⟩
  obtain ⟨v, h1, h2⟩ := m_lv_of hq
  rw [h2]
  exact h.2.2 q.1 v h1
theorem m_lng_ne {lo : List (Option Value)} {i j : Nat} {v : Value} (h : m_lng lo i = false) (hj : lo[j]? = some (some v)) (e : j + 1 = i) : v.category ≠ 2 := by
  subst e
  simpa [m_lng, hj] using h
theorem m_lh.set {ad : Nat → Nat} {ls ls' : Array Slot} {lo : List (Option Value)} {i : Nat} {v : Value} (h : m_lh ad ls lo) (hi : i < lo.length) (hn : m_lng lo i = false)
    (h' : lv_has ls' lo.length ((i, m_em ad v) :: (m_lv ad lo).filter (fun q => !(q.1 == i) && !(q.1 + 1 == i && q.2.category == 2)))) : m_lh ad ls' (lo.set i (some v)) := by
  obtain ⟨h1, h2, h3⟩ := h'
  refine ⟨by rw [List.length_set]; exact h1, h2, fun j w hj => ?_⟩
  by_cases e : j = i
  · subst e
    rw [List.getElem?_set_self hi] at hj
    obtain rfl := Option.some.inj (Option.some.inj hj)
    exact h3 (j, m_em ad v) List.mem_cons_self
  · rw [List.getElem?_set_ne (Ne.symm e)] at hj
    refine h3 (j, m_em ad w) (List.mem_cons_of_mem _ (List.mem_filter.mpr ⟨m_lv_mem hj, ?_⟩))
    have hne := m_lng_ne hn hj
    simp only [Bool.and_eq_true, Bool.not_eq_true', beq_eq_false_iff_ne, ne_eq, Bool.and_eq_false_iff]
    refine ⟨e, ?_⟩
    by_cases e2 : j + 1 = i
    · refine Or.inr ?_
      rw [m_em_cat]
      exact hne e2
    · exact Or.inl e2
theorem m_put_len : ∀ (lo : List (Option Value)) (i : Nat) (v : Option Value), (m_put lo i v).length = lo.length
  | [], _, _ => rfl
  | _ :: _, 0, _ => rfl
  | [_], _ + 1, _ => rfl
  | _ :: _ :: _, 1, _ => rfl
  | x :: y :: l, n + 2, v => by
    show (x :: m_put (y :: l) (n + 1) v).length = _
    rw [List.length_cons, m_put_len (y :: l) (n + 1) v]
    rfl
theorem m_put_at : ∀ (lo : List (Option Value)) (i : Nat) (v : Option Value) (j : Nat), i < lo.length → (m_put lo i v)[j]? = if j = i then some v else if j + 1 = i then (lo[j]?).map m_cl else lo[j]?
  | [], _, _, _, h => absurd h (Nat.not_lt_zero _)
  | x :: l, 0, v, j, _ => by
    cases j with
    | zero => rfl
    | succ j => rw [if_neg (by omega), if_neg (by omega)]; rfl
  | [x], i + 1, v, j, h => absurd h (by simp)
  | x :: y :: l, 1, v, j, _ => by
    match j with
    | 0 => rfl
    | 1 => rfl
    | j + 2 => rw [if_neg (by omega), if_neg (by omega)]; rfl
  | x :: y :: l, n + 2, v, j, h => by
    have hs : n + 1 < (y :: l).length := by simpa using h
    have ih := m_put_at (y :: l) (n + 1) v
    match j with
    | 0 => rw [if_neg (by omega), if_neg (by omega)]; rfl
    | j + 1 =>
      show (x :: m_put (y :: l) (n + 1) v)[j + 1]? = _
      rw [List.getElem?_cons_succ, ih j hs, List.getElem?_cons_succ]
      by_cases e1 : j = n + 1
      · rw [if_pos e1, if_pos (show j + 1 = n + 2 by omega)]
      · rw [if_neg e1, if_neg (show ¬ j + 1 = n + 2 by omega)]
        by_cases e2 : j + 1 = n + 1
        · rw [if_pos e2, if_pos (show j + 1 + 1 = n + 2 by omega)]
        · rw [if_neg e2, if_neg (show ¬ j + 1 + 1 = n + 2 by omega)]
theorem m_cl_of {o : Option (Option Value)} {w : Value} (h : o.map m_cl = some (some w)) : o = some (some w) ∧ w.category ≠ 2 := by
  cases o with
  | none => cases h
  | some o =>
    cases o with
    | none => cases h
    | some u =>
      cases u <;> first | (cases h; done) | (cases h; exact ⟨rfl, by simp [Value.category]⟩)
theorem m_lh.put {ad : Nat → Nat} {ls ls' : Array Slot} {lo : List (Option Value)} {i : Nat} {v : Value} (h : m_lh ad ls lo) (hi : i < lo.length)
    (h' : lv_has ls' lo.length ((i, m_em ad v) :: (m_lv ad lo).filter (fun q => !(q.1 == i) && !(q.1 + 1 == i && q.2.category == 2)))) : m_lh ad ls' (m_put lo i (some v)) := by
  obtain ⟨h1, h2, h3⟩ := h'
  refine ⟨by rw [m_put_len]; exact h1, h2, fun j w hj => ?_⟩
  rw [m_put_at lo i _ j hi] at hj
  by_cases e : j = i
  · subst e
    rw [if_pos rfl] at hj
    obtain rfl := Option.some.inj (Option.some.inj hj)
    exact h3 (j, m_em ad v) List.mem_cons_self
  · rw [if_neg e] at hj
    have key : lo[j]? = some (some w) ∧ (j + 1 = i → w.category ≠ 2) := by
      by_cases e2 : j + 1 = i
      · rw [if_pos e2] at hj
        exact ⟨(m_cl_of hj).1, fun _ => (m_cl_of hj).2⟩
      · rw [if_neg e2] at hj
        exact ⟨hj, fun z => absurd z e2⟩
    refine h3 (j, m_em ad w) (List.mem_cons_of_mem _ (List.mem_filter.mpr ⟨m_lv_mem key.1, ?_⟩))
    simp only [Bool.and_eq_true, Bool.not_eq_true', beq_eq_false_iff_ne, ne_eq, Bool.and_eq_false_iff]
    refine ⟨e, ?_⟩
    by_cases e2 : j + 1 = i
    · refine Or.inr ?_
      rw [m_em_cat]
      exact key.2 e2
    · exact Or.inl e2
theorem m_lh.put2 {ad : Nat → Nat} {ls ls' : Array Slot} {lo : List (Option Value)} {i : Nat} {v : Value} (h : m_lh ad ls lo) (hi : i + 1 < lo.length)
    (h' : lv_has ls' lo.length ((i, m_em ad v) :: (m_lv ad lo).filter (fun q => !(q.1 == i) && (!(q.1 == i + 1) && !(q.1 + 1 == i && q.2.category == 2))))) : m_lh ad ls' ((m_put lo i (some v)).set (i + 1) none) := by
  obtain ⟨h1, h2, h3⟩ := h'
  refine ⟨by rw [List.length_set, m_put_len]; exact h1, h2, fun j w hj => ?_⟩
  by_cases e0 : j = i + 1
  · subst e0
    rw [List.getElem?_set_self (by rw [m_put_len]; exact hi)] at hj
    cases hj
  rw [List.getElem?_set_ne (Ne.symm e0), m_put_at lo i _ j (by omega)] at hj
  by_cases e : j = i
  · subst e
    rw [if_pos rfl] at hj
    obtain rfl := Option.some.inj (Option.some.inj hj)
    exact h3 (j, m_em ad v) List.mem_cons_self
  · rw [if_neg e] at hj
    have key : lo[j]? = some (some w) ∧ (j + 1 = i → w.category ≠ 2) := by
      by_cases e2 : j + 1 = i
      · rw [if_pos e2] at hj
        exact ⟨(m_cl_of hj).1, fun _ => (m_cl_of hj).2⟩
      · rw [if_neg e2] at hj
        exact ⟨hj, fun z => absurd z e2⟩
    refine h3 (j, m_em ad w) (List.mem_cons_of_mem _ (List.mem_filter.mpr ⟨m_lv_mem key.1, ?_⟩))
    simp only [Bool.and_eq_true, Bool.not_eq_true', beq_eq_false_iff_ne, ne_eq, Bool.and_eq_false_iff]
    refine ⟨e, e0, ?_⟩
    by_cases e2 : j + 1 = i
    · refine Or.inr ?_
      rw [m_em_cat]
      exact key.2 e2
    · exact Or.inl e2
theorem m_ws_get {ad : Nat → Nat} {cT : Nat → ClassId} {h : mH} {k : Nat} {s : mS} (hk : h.1[k]? = some s) : (m_ws ad cT h)[k]? = some (ad k, m_e ad cT s (h.2.1 k) (h.2.2 k)) := by
  have hi := (List.getElem?_eq_some_iff.mp hk).1
  unfold m_ws
  rw [List.getElem?_map, List.getElem?_range hi]
  simp [List.getD_eq_getElem?_getD, hk]
theorem m_ws_len {ad : Nat → Nat} {cT : Nat → ClassId} {h : mH} : (m_ws ad cT h).length = h.1.length := by simp [m_ws]
theorem m_ws_of {ad : Nat → Nat} {cT : Nat → ClassId} {h : mH} {k : Nat} {q : Nat × va_E} (hq : (m_ws ad cT h)[k]? = some q) : ∃ s, h.1[k]? = some s ∧ q = (ad k, m_e ad cT s (h.2.1 k) (h.2.2 k)) := by
  have hi := (List.getElem?_eq_some_iff.mp hq).1
  rw [m_ws_len] at hi
  have hs : h.1[k]? = some h.1[k] := List.getElem?_eq_getElem hi
  rw [m_ws_get hs] at hq
  exact ⟨_, hs, (Option.some.inj hq).symm⟩
theorem m_ad_of {b0 b k : Nat} (h : k < 1000000) : m_ad b0 b k = b0 + k := if_neg (Nat.ne_of_lt h)
theorem m_DD {b0 b : Nat} {cT : Nat → ClassId} {h : mH} (hl : h.1.length ≤ 1000) : va_D (m_A b0) (m_ws (m_ad b0 b) cT h) := by
  refine ⟨fun i j p q hp hq e => ?_, fun k q hq => ?_⟩
  · obtain ⟨s, h1, rfl⟩ := m_ws_of hp
    obtain ⟨t, h2, rfl⟩ := m_ws_of hq
    have l1 := (List.getElem?_eq_some_iff.mp h1).1
    have l2 := (List.getElem?_eq_some_iff.mp h2).1
    have e : m_ad b0 b i = m_ad b0 b j := e
    rw [m_ad_of (by omega), m_ad_of (by omega)] at e
    omega
  · obtain ⟨s, h1, rfl⟩ := m_ws_of hq
    have l1 := (List.getElem?_eq_some_iff.mp h1).1
    show b0 ≤ m_ad b0 b k
    rw [m_ad_of (by omega)]
    omega
/-- one cell changed -/
theorem m_ws_set {ad : Nat → Nat} {cT : Nat → ClassId} {h h1 : mH} {k : Nat} {s : mS} (hl : h1.1.length = h.1.length) (hk : h1.1[k]? = some s) (ho : ∀ j, j ≠ k → h1.1[j]? = h.1[j]? ∧ h1.2.1 j = h.2.1 j ∧ h1.2.2 j = h.2.2 j) : (m_ws ad cT h).set k (ad k, m_e ad cT s (h1.2.1 k) (h1.2.2 k)) = m_ws ad cT h1 := by
  have hi := (List.getElem?_eq_some_iff.mp hk).1
  refine List.ext_getElem? fun j => ?_
  by_cases e : j = k
  · subst e
    rw [List.getElem?_set_self (by rw [m_ws_len]; omega), m_ws_get hk]
  · rw [List.getElem?_set_ne (Ne.symm e)]
    obtain ⟨o1, o2, o3⟩ := ho j e
    cases hj : h.1[j]? with
    | some t => rw [m_ws_get hj, m_ws_get (o1.trans hj), o2, o3]
    | none =>
      have a1 : h.1.length ≤ j := List.getElem?_eq_none_iff.mp hj
      rw [List.getElem?_eq_none_iff.mpr (by rw [m_ws_len]; exact a1), List.getElem?_eq_none_iff.mpr (by rw [m_ws_len]; omega)]
/-- one cell more -/
theorem m_ws_app {ad : Nat → Nat} {cT : Nat → ClassId} {h h1 : mH} {s : mS} (hl : h1.1 = h.1 ++ [s]) (ho : ∀ j, j ≠ h.1.length → h1.2.1 j = h.2.1 j ∧ h1.2.2 j = h.2.2 j) : m_ws ad cT h ++ [(ad h.1.length, m_e ad cT s (h1.2.1 h.1.length) (h1.2.2 h.1.length))] = m_ws ad cT h1 := by
  refine List.ext_getElem? fun j => ?_
  by_cases e : j < h.1.length
  · rw [List.getElem?_append_left (by rw [m_ws_len]; exact e)]
    have hj : h.1[j]? = some h.1[j] := List.getElem?_eq_getElem e
    obtain ⟨o2, o3⟩ := ho j (by omega)
    rw [m_ws_get hj, m_ws_get (s := h.1[j]) (by rw [hl, List.getElem?_append_left e]; exact hj), o2, o3]
  · by_cases e2 : j = h.1.length
    · subst e2
      rw [List.getElem?_append_right (by rw [m_ws_len]; omega), m_ws_len, Nat.sub_self, m_ws_get (s := s) (by rw [hl]; simp)]
      rfl
    · rw [List.getElem?_eq_none_iff.mpr (by rw [List.length_append, m_ws_len]; simp; omega), List.getElem?_eq_none_iff.mpr (by rw [m_ws_len, hl, List.length_append]; simp; omega)]
