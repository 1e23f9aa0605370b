/-! the loop of the class's work -/
section WKLP
variable (F : Nat) (Bx : hI)
theorem dp1_le {c : Int} {n m : Nat} (h : dp1 c n = some m) : m ≤ n + 1 := by
  unfold dp1 at h
  (repeat' split at h) <;> (cases h <;> omega)
theorem wk_loop : ∀ (cs : List Int) (A : hI) (n k q E n' : Nat), dp cs n = some n' → (∀ c ∈ cs, -22 ≤ c ∧ c < 100000) → (∀ i (h : i < cs.length), A 14 (k + i) = cs[i]) → E = k + cs.length → E ≤ 1440 → n + cs.length ≤ 121 → cs.length < q → ∃ A' : hI, f_Texts_work_8_54_54 F q (iI E) (iI n) (iI k) (mk A Bx) = some (iI (A' 15 0), mk A' Bx) ∧ skl A' n' = evs (fun j => A 54 j) cs (skl A n) ∧ ∀ j : Nat, j ≠ 15 → A' j = A j := by
  intro cs
  induction cs with
  | nil =>
    intro A n k q E n' hd _ _ hE hE2 _ hq
    obtain ⟨q, rfl⟩ : ∃ p, q = p + 1 := ⟨q - 1, by omega⟩
    obtain rfl : n = n' := Option.some.inj hd
    obtain rfl : E = k := by simpa using hE
    refine ⟨A, ?_, rfl, fun _ _ => rfl⟩
    rw [f_Texts_work_8_54_54]
    simp (disch := first | omega | (simp (disch := omega) only [uA_n]; done) | fail) only [iI_lit, iI_add, iI_sub, iI_mul, iI_neg, iI_lt, iI_le, iI_eq, zlt_t, zlt_f, zle_t, zle_f, zeq_t, zeq_f, nle_t, nle_f, iI_cl, rA, rS, rB, wA, wS, wB, mkp, mk2, uA_s, uA_n, ud_s, ud_n, bI_0, bI_1, nor_s, ↓reduceIte, or_false, false_or, or_true, true_or, or_self, not_true_eq_false, not_false_eq_true, and_true, true_and, and_false, false_and, bI_T, bI_F, Int.reduceToNat, Nat.reduceAdd, Nat.reduceMul, Int.reduceNeg, Option.bind_some, Int.toNat_natCast]
  | cons c cs ih =>
    intro A n k q E n' hd hr hA hE hE2 hn hq
    simp only [List.length_cons] at hE hn hq hA
    obtain ⟨q, rfl⟩ : ∃ p, q = p + 1 := ⟨q - 1, by omega⟩
    have hc := hr c (List.mem_cons_self ..)
    have h0 : A 14 k = c := hA 0 (by omega)
    have hd' : (dp1 c n).bind (dp cs) = some n' := hd
    cases hm : dp1 c n with
    | none => rw [hm] at hd'; cases hd'
    | some m =>
      rw [hm] at hd'
      have hle := dp1_le hm
      obtain ⟨A1, x1, x2, x3⟩ := wk_step F Bx (q := q) (E := E) (by omega) (by omega) hE2 h0 hc.1 hc.2 hm
      obtain ⟨A2, y1, y2, y3⟩ := ih A1 m (k + 1) q E n' hd' (fun d hd => hr d (List.mem_cons_of_mem _ hd)) (fun i hi => by
        rw [x3 14 (by omega), show k + 1 + i = k + (i + 1) by omega]; exact hA (i + 1) (by omega)) (by omega) hE2 (by omega) (by omega)
      refine ⟨A2, ?_, ?_, fun j hj => (y3 j hj).trans (x3 j hj)⟩
      · rw [x1, show (k : Int) + 1 = ((k + 1 : Nat) : Int) by omega]; exact y1
      · rw [y2, x2, x3 54 (by omega)]; rfl
end WKLP
