/-! the reference's levels, with enough of depth -/
section MLVS
variable {K D : Int} {A0 B0 A B B' Bq : hI} {b : Nat → Int} {L : Nat} (F : Nat) (Ax : hI)
theorem ml_lv6 (R : RR K D A0 B0 A Bq) (hK : K ≤ 1000000000) {bill : Int} (hq : Bq 304 19 = bill) (hbill : bill = -1 ∨ (0 ≤ bill ∧ bill < 60 ∧ A 32 bill.toNat ≠ -1)) (hF : 1000 ≤ F) (hL : L ≤ 120) (hb : ∀ i, i < L → 0 ≤ b i ∧ b i ≤ 255) : ∀ (l : Nat), l ≤ 6 → (∀ n, 6 * l + 1 ≤ n → Pm Ax Bq b L (fct A bill) (6 - (l : Int)) (fun m => f_grp_M F n 241 m) (pLv (pnx b L) l).1) ∧ (∀ n, 6 * l + 4 ≤ n → Pm Ax Bq b L (fct A bill) (6 - (l : Int)) (fun m => f_grp_M F n 237 m) (pLv (pnx b L) l).2.1) ∧ (∀ n, 6 * l + 6 ≤ n → Pm Ax Bq b L (fct A bill) (6 - (l : Int)) (fun m => f_grp_M F n 235 m) (pLv (pnx b L) l).2.2) := by
  have up : ∀ {t : Nat} {o : Int} {p : PS → PS} {n : Nat} (f : mM → Option (Int32 × mM)), (∀ m, f_grp_M F (n + 1) t m = f m) → Pm Ax Bq b L (fct A bill) o f p → Pm Ax Bq b L (fct A bill) o (fun m => f_grp_M F (n + 1) t m) p := by
    intro t o p n f e h s B hr hm hp
    obtain ⟨v, B', x⟩ := h s B hr hm hp
    exact ⟨v, B', by simp only [e]; exact x.1, x.2⟩
  intro l
  induction l with
  | zero =>
    intro _
    have o : RD L (pOneF (pnx b L) true id id) := one_RD (fun z => by cases z) (fun z => by cases z)
    have tR := loop_RD (b := b) o o cTerm_ok 120
    have sR : RD L (pSumF (pnx b L) (pTermF (pnx b L) (pOneF (pnx b L) true id id))) := loop_RD tR tR cSum_ok 120
    have nR : RD L (pNotF (pnx b L) true id (pSumF (pnx b L) (pTermF (pnx b L) (pOneF (pnx b L) true id id)))) := not_RD (fun z => by cases z) sR
    have aR := loop_RD (b := b) nR nR cAnd_ok 120
    have h1 : ∀ n, 1 ≤ n → Pm Ax Bq b L (fct A bill) (6 - ((0 : Nat) : Int)) (fun m => f_grp_M F n 241 m) (pOneF (pnx b L) true id id) := fun n hn => by
      obtain ⟨n, rfl⟩ : ∃ k, n = k + 1 := ⟨n - 1, by omega⟩
      exact up _ (fun m => rfl) (ml_One F Ax R hK hq hbill hF hL hb (g := f_grp_M F n) (o := 6 - ((0 : Nat) : Int)) (by omega) (by omega) (by simp) (fun z => by cases z) (fun z => by cases z) (fun z => by cases z) (fun z => by cases z))
    have h2 : ∀ n, 2 ≤ n → Pm Ax Bq b L (fct A bill) (6 - ((0 : Nat) : Int)) (fun m => f_grp_M F n 240 m) (pTermF (pnx b L) (pOneF (pnx b L) true id id)) := fun n hn => by
      obtain ⟨n, rfl⟩ : ∃ k, n = k + 1 := ⟨n - 1, by omega⟩
      exact up _ (fun m => rfl) (ml_Term F Ax hF hL hb (g := f_grp_M F n) o (h1 n (by omega)))
    have h3 : ∀ n, 3 ≤ n → Pm Ax Bq b L (fct A bill) (6 - ((0 : Nat) : Int)) (fun m => f_grp_M F n 239 m) (pSumF (pnx b L) (pTermF (pnx b L) (pOneF (pnx b L) true id id))) := fun n hn => by
      obtain ⟨n, rfl⟩ : ∃ k, n = k + 1 := ⟨n - 1, by omega⟩
      exact up _ (fun m => rfl) (ml_Sum F Ax hF hL hb (g := f_grp_M F n) tR (h2 n (by omega)))
    have h4 : ∀ n, 4 ≤ n → Pm Ax Bq b L (fct A bill) (6 - ((0 : Nat) : Int)) (fun m => f_grp_M F n 237 m) (pNotF (pnx b L) true id (pSumF (pnx b L) (pTermF (pnx b L) (pOneF (pnx b L) true id id)))) := fun n hn => by
      obtain ⟨n, rfl⟩ : ∃ k, n = k + 1 := ⟨n - 1, by omega⟩
      exact up _ (fun m => rfl) (ml_Not F Ax hF hL hb (g := f_grp_M F n) (o := 6 - ((0 : Nat) : Int)) (by omega) (by omega) (by simp) (fun z => by cases z) sR (h3 n (by omega)) (fun z => by cases z))
    have h5 : ∀ n, 5 ≤ n → Pm Ax Bq b L (fct A bill) (6 - ((0 : Nat) : Int)) (fun m => f_grp_M F n 236 m) (pAndF (pnx b L) (pNotF (pnx b L) true id (pSumF (pnx b L) (pTermF (pnx b L) (pOneF (pnx b L) true id id))))) := fun n hn => by
      obtain ⟨n, rfl⟩ : ∃ k, n = k + 1 := ⟨n - 1, by omega⟩
      exact up _ (fun m => rfl) (ml_And F Ax hF hL hb (g := f_grp_M F n) nR (h4 n (by omega)))
    refine ⟨fun n hn => h1 n (by omega), fun n hn => h4 n (by omega), fun n hn => ?_⟩
    obtain ⟨n, rfl⟩ : ∃ k, n = k + 1 := ⟨n - 1, by omega⟩
    exact up _ (fun m => rfl) (ml_Or F Ax hF hL hb (g := f_grp_M F n) aR (h5 n (by omega)))
  | succ l ih =>
    intro hl
    obtain ⟨i1, i2, i3⟩ := ih (by omega)
    obtain ⟨d1, d2, d3⟩ := lv_RD b L l
    have eo : (6 - ((l + 1 : Nat) : Int)) + 1 = 6 - (l : Int) := by omega
    have o : RD L (pOneF (pnx b L) false (pLv (pnx b L) l).1 (pLv (pnx b L) l).2.2) := one_RD (fun _ => d1) (fun _ => d3)
    have tR := loop_RD (b := b) o o cTerm_ok 120
    have sR : RD L (pSumF (pnx b L) (pTermF (pnx b L) (pOneF (pnx b L) false (pLv (pnx b L) l).1 (pLv (pnx b L) l).2.2))) := loop_RD tR tR cSum_ok 120
    have nR : RD L (pNotF (pnx b L) false (pLv (pnx b L) l).2.1 (pSumF (pnx b L) (pTermF (pnx b L) (pOneF (pnx b L) false (pLv (pnx b L) l).1 (pLv (pnx b L) l).2.2)))) := not_RD (fun _ => d2) sR
    have aR := loop_RD (b := b) nR nR cAnd_ok 120
    have h1 : ∀ n, 6 * l + 7 ≤ n → Pm Ax Bq b L (fct A bill) (6 - ((l + 1 : Nat) : Int)) (fun m => f_grp_M F n 241 m) (pOneF (pnx b L) false (pLv (pnx b L) l).1 (pLv (pnx b L) l).2.2) := fun n hn => by
      obtain ⟨n, rfl⟩ : ∃ k, n = k + 1 := ⟨n - 1, by omega⟩
      exact up _ (fun m => rfl) (ml_One F Ax R hK hq hbill hF hL hb (g := f_grp_M F n) (o := 6 - ((l + 1 : Nat) : Int)) (by omega) (by omega) (by constructor <;> intro z; cases z; omega) (fun _ => d1) (fun _ => d3) (fun _ => by rw [eo]; exact i1 n (by omega)) (fun _ => by rw [eo]; exact i3 n (by omega)))
    have h2 : ∀ n, 6 * l + 8 ≤ n → Pm Ax Bq b L (fct A bill) (6 - ((l + 1 : Nat) : Int)) (fun m => f_grp_M F n 240 m) (pTermF (pnx b L) (pOneF (pnx b L) false (pLv (pnx b L) l).1 (pLv (pnx b L) l).2.2)) := fun n hn => by
      obtain ⟨n, rfl⟩ : ∃ k, n = k + 1 := ⟨n - 1, by omega⟩
      exact up _ (fun m => rfl) (ml_Term F Ax hF hL hb (g := f_grp_M F n) o (h1 n (by omega)))
    have h3 : ∀ n, 6 * l + 9 ≤ n → Pm Ax Bq b L (fct A bill) (6 - ((l + 1 : Nat) : Int)) (fun m => f_grp_M F n 239 m) (pSumF (pnx b L) (pTermF (pnx b L) (pOneF (pnx b L) false (pLv (pnx b L) l).1 (pLv (pnx b L) l).2.2))) := fun n hn => by
      obtain ⟨n, rfl⟩ : ∃ k, n = k + 1 := ⟨n - 1, by omega⟩
      exact up _ (fun m => rfl) (ml_Sum F Ax hF hL hb (g := f_grp_M F n) tR (h2 n (by omega)))
    have h4 : ∀ n, 6 * l + 10 ≤ n → Pm Ax Bq b L (fct A bill) (6 - ((l + 1 : Nat) : Int)) (fun m => f_grp_M F n 237 m) (pNotF (pnx b L) false (pLv (pnx b L) l).2.1 (pSumF (pnx b L) (pTermF (pnx b L) (pOneF (pnx b L) false (pLv (pnx b L) l).1 (pLv (pnx b L) l).2.2)))) := fun n hn => by
      obtain ⟨n, rfl⟩ : ∃ k, n = k + 1 := ⟨n - 1, by omega⟩
      exact up _ (fun m => rfl) (ml_Not F Ax hF hL hb (g := f_grp_M F n) (o := 6 - ((l + 1 : Nat) : Int)) (by omega) (by omega) (by constructor <;> intro z; cases z; omega) (fun _ => d2) sR (h3 n (by omega)) (fun _ => by rw [eo]; exact i2 n (by omega)))
    have h5 : ∀ n, 6 * l + 11 ≤ n → Pm Ax Bq b L (fct A bill) (6 - ((l + 1 : Nat) : Int)) (fun m => f_grp_M F n 236 m) (pAndF (pnx b L) (pNotF (pnx b L) false (pLv (pnx b L) l).2.1 (pSumF (pnx b L) (pTermF (pnx b L) (pOneF (pnx b L) false (pLv (pnx b L) l).1 (pLv (pnx b L) l).2.2))))) := fun n hn => by
      obtain ⟨n, rfl⟩ : ∃ k, n = k + 1 := ⟨n - 1, by omega⟩
      exact up _ (fun m => rfl) (ml_And F Ax hF hL hb (g := f_grp_M F n) nR (h4 n (by omega)))
    refine ⟨fun n hn => h1 n (by omega), fun n hn => h4 n (by omega), fun n hn => ?_⟩
    obtain ⟨n, rfl⟩ : ∃ k, n = k + 1 := ⟨n - 1, by omega⟩
    exact up _ (fun m => rfl) (ml_Or F Ax hF hL hb (g := f_grp_M F n) aR (h5 n (by omega)))
/-- the whole: either, from the outermost -/
theorem ml_all (R : RR K D A0 B0 A Bq) (hK : K ≤ 1000000000) {bill : Int} (hq : Bq 304 19 = bill) (hbill : bill = -1 ∨ (0 ≤ bill ∧ bill < 60 ∧ A 32 bill.toNat ≠ -1)) (hF : 1000 ≤ F) (hL : L ≤ 120) (hb : ∀ i, i < L → 0 ≤ b i ∧ b i ≤ 255) : Pm Ax Bq b L (fct A bill) 0 (fun m => f_m_either_w F m) (pLv (pnx b L) 6).2.2 := (ml_lv6 F Ax R hK hq hbill hF hL hb 6 (by omega)).2.2 60 (by omega)
end MLVS
