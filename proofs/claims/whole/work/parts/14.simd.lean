/-! ARRAYS, AND WHAT IS MADE -/
theorem m_up_ne {M : Nat → Nat → Int32} {k j i : Nat} {v : Int32} (h : i ≠ k) : m_up M k j v i = M i := if_neg h
theorem m_up_eq {M : Nat → Nat → Int32} {k j : Nat} {v : Int32} : m_up M k j v k = upd (M k) j v := if_pos rfl
theorem m_row_ne {M : Nat → Nat → Int32} {k i : Nat} {f : Nat → Int32} (h : i ≠ k) : m_row M k f i = M i := if_neg h
theorem m_row_eq {M : Nat → Nat → Int32} {k : Nat} {f : Nat → Int32} : m_row M k f k = f := if_pos rfl
theorem m_upl_ne {L : Nat → Int64} {k i : Nat} {v : Int64} (h : i ≠ k) : m_upl L k v i = L i := if_neg h
theorem m_upl_eq {L : Nat → Int64} {k : Nat} {v : Int64} : m_upl L k v k = v := if_pos rfl
theorem m_sum_set : ∀ (l : List Nat) (k x : Nat), l[k]? = some x → (l.set k x).sum = l.sum
  | [], _, _, _ => rfl
  | y :: l, 0, x, h => by cases h; rfl
  | y :: l, k + 1, x, h => by
    show (y :: l.set k x).sum = _
    rw [List.sum_cons, List.sum_cons, m_sum_set l k x h]
theorem m_ss_set {sh : List mS} {k : Nat} {x y : mS} {M1 M2 : Nat → Nat → Int32} {L1 L2 : Nat → Int64} (h : sh[k]? = some x) (e : m_sz y = m_sz x) : m_ss (sh.set k y, M1, L1) = m_ss (sh, M2, L2) := by
  show ((sh.set k y).map m_sz).sum = (sh.map m_sz).sum
  rw [List.map_set]
  exact m_sum_set _ _ _ (by rw [List.getElem?_map, h, e]; rfl)
theorem m_e_obj {ad : Nat → Nat} {cT : Nat → ClassId} {ci : Nat} {rs : List (Option Nat)} {f : Nat → Int32} {g : Int64} (h : ci ≠ 100) : m_e ad cT (.inr (ci, rs)) f g = .inr (ci, (List.range rs.length).map (fun j => m_val ad ci j (rs.getD j none) f g)) := if_neg h
theorem m_e_q {ad : Nat → Nat} {cT : Nat → ClassId} {rs : List (Option Nat)} {f : Nat → Int32} {g : Int64} : m_e ad cT (.inr (100, rs)) f g = .inl (cT 2, rs.length, .inr (.inr (.inr (.inr (fun j => (rs.getD j none).map ad))))) := by simp [m_e]
section MARR
variable {p : Program} {l : Launch} {e : Env} {R : Room} {s : State} {m : MethodId} {args : Array Value} {below : List Frame} {meth : Method} {c : Code} {H : Heap} {locs : List Loc} {cells slots : Nat} {Q : State → Prop}
variable {D : va_G} {cT : Nat → ClassId} {aS : (Nat → Nat) × (Nat → Nat)} {b0 b L : Nat} {xs : Nat → Int32} {mi : Nat} {me : mMe}
theorem m_bound {g : JFrame} (hz : H.size ≤ s.heap.size + cells → W p l e R s m args below meth c H locs cells slots Q g) : W p l e R s m args below meth c H locs cells slots Q g := fun T hT X => hz (by rw [← hT]; exact X.heapSize) T hT X
theorem m_tys0 (C : m_C p s m args meth c D cT aS b0 b L xs mi me) : (m_tys cT)[0]? = some (cT 0, .int) := rfl
/-- the place of what is new -/
theorem m_newq {h : mH} {q : Nat} {x : va_E} {H1 : Heap} (hl : h.1.length < 1000) (hP : va_P D mCL (m_ws (m_ad b0 b) cT h ++ [(q, x)]) H1) (hD : va_D (m_A b0) (m_ws (m_ad b0 b) cT h ++ [(q, x)])) (hz : H1.size ≤ b0 + h.1.length + 1) : q = m_ad b0 b h.1.length := by
  have hat : (m_ws (m_ad b0 b) cT h ++ [(q, x)])[h.1.length]? = some (q, x) := by
    rw [List.getElem?_append_right (by rw [m_ws_len]; omega), m_ws_len, Nat.sub_self]
    rfl
  have hlt : q < H1.size := (hP _ _ hat).lt
  have hge : b0 ≤ q := hD.2 _ _ hat
  rw [m_ad_of (by omega)]
  rcases Nat.lt_or_ge q (b0 + h.1.length) with z | z
  · have hk : h.1[q - b0]? = some h.1[q - b0] := List.getElem?_eq_getElem (by omega)
    have h2 : (m_ws (m_ad b0 b) cT h ++ [(q, x)])[q - b0]? = some (m_ad b0 b (q - b0), m_e (m_ad b0 b) cT h.1[q - b0] (h.2.1 (q - b0)) (h.2.2 (q - b0))) := by
      rw [List.getElem?_append_left (by rw [m_ws_len]; omega)]
      exact m_ws_get hk
    have := hD.1 _ _ _ _ hat h2 (by show q = m_ad b0 b (q - b0); rw [m_ad_of (by omega)]; omega)
    omega
  · omega
theorem m_arr {ad : Nat → Nat} {h : mH} {k t n : Nat} (hk : h.1[k]? = some (.inl (t, n))) : (m_ws ad cT h)[k]? = some (ad k, .inl (cT t, n, .inl (h.2.1 k))) := m_ws_get hk
theorem m_arq {ad : Nat → Nat} {h : mH} {k : Nat} {rs : List (Option Nat)} (hk : h.1[k]? = some (.inr (100, rs))) : (m_ws ad cT h)[k]? = some (ad k, .inl (cT 2, rs.length, .inr (.inr (.inr (.inr (fun j => (rs.getD j none).map ad)))))) := m_ws_get hk
theorem m_ld_of {k n : Nat} {i : Int32} {f : Nat → Int32} {v : Value} (h : m_ld k i n f = some v) : vp_in i n ∧ v = .int (f i.toNatClampNeg) := by
  unfold m_ld at h
  split at h
  · cases h
  · rename_i hc
    cases h
    exact ⟨hc, rfl⟩
/-- a store into an int row -/
theorem m_ast {h : mH} {k t n : Nat} {i v : Int32} {H1 : Heap} (hk : h.1[k]? = some (.inl (t, n))) (hW : m_Wd D (m_ad b0 b) cT h H) (hP : va_P D mCL ((m_ws (m_ad b0 b) cT h).set k ((m_ad b0 b) k, .inl (cT t, n, .inl (upd (h.2.1 k) i.toNatClampNeg v)))) H1) : m_Wd D (m_ad b0 b) cT (h.1, m_up h.2.1 k i.toNatClampNeg v, h.2.2) H1 := by
  have e := m_ws_set (ad := m_ad b0 b) (cT := cT) (h := h) (h1 := (h.1, m_up h.2.1 k i.toNatClampNeg v, h.2.2)) (k := k) (s := .inl (t, n)) rfl hk (fun j hj => ⟨rfl, m_up_ne hj, rfl⟩)
  rw [show m_e (m_ad b0 b) cT (.inl (t, n)) (m_up h.2.1 k i.toNatClampNeg v k) (h.2.2 k) = .inl (cT t, n, .inl (upd (h.2.1 k) i.toNatClampNeg v)) by rw [m_up_eq]; rfl] at e
  rw [e] at hP
  exact ⟨hP, hW.2⟩
theorem m_fset {ad : Nat → Nat} {h h1 : mH} {a bb k : Nat} {rs : List (Option Nat)} {v : Value} (hbb : bb < rs.length) (h1v : m_val ad a bb (rs.getD bb none) (h1.2.1 k) (h1.2.2 k) = v) (ho : ∀ j, j ≠ bb → m_val ad a j (rs.getD j none) (h1.2.1 k) (h1.2.2 k) = m_val ad a j (rs.getD j none) (h.2.1 k) (h.2.2 k)) :
    ((List.range rs.length).map (fun j => m_val ad a j (rs.getD j none) (h.2.1 k) (h.2.2 k))).set bb v = (List.range rs.length).map (fun j => m_val ad a j (rs.getD j none) (h1.2.1 k) (h1.2.2 k)) := by
  refine List.ext_getElem? fun j => ?_
  by_cases e : j = bb
  · subst e
    rw [List.getElem?_set_self (by simpa using hbb), List.getElem?_map, List.getElem?_range hbb]
    exact congrArg some h1v.symm
  · rw [List.getElem?_set_ne (Ne.symm e), List.getElem?_map, List.getElem?_map]
    cases hj : (List.range rs.length)[j]? with
    | none => rfl
    | some j' =>
      have : j' = j := by
        have h2 := (List.getElem?_eq_some_iff.mp hj).2
        simpa using h2.symm
      subst this
      exact congrArg some (ho _ e).symm
end MARR
