/-! ALL CALLS OF A SCRIPT -/
section ALLC
variable {L : Nat} {xs : Nat → Int32}
theorem l_one (F : Nat) (hF : 700000 ≤ F) (hL : L ≤ 2560) {i t : Nat} (hit : i = 5 * t) (hi : i + 5 ≤ L) {A B : hI} (h : Inv t A B) (next : ∀ A2 B2 : hI, Inv (t + 1) A2 B2 → ∃ m' : mM, m_R (L, xs) 1300 0 18 (l_lo (i + 5)) [] (SH, mk A2 B2) (some (.int 1), (SH, m'))) : ∃ m' : mM, m_R (L, xs) 1300 0 18 (l_lo i) [] (SH, mk A B) (some (.int 1), (SH, m')) := by
  have ht : t < 512 := by omega
  have S : ∀ (A2 B2 : hI), Inv (t + 1) A2 B2 → (∀ m', m_R (L, xs) 1300 0 18 (l_lo (i + 5)) [] (SH, mk A2 B2) (some (.int 1), (SH, m')) → m_R (L, xs) 1300 0 18 (l_lo i) [] (SH, mk A B) (some (.int 1), (SH, m'))) → ∃ m' : mM, m_R (L, xs) 1300 0 18 (l_lo i) [] (SH, mk A B) (some (.int 1), (SH, m')) := fun A2 B2 h3 g => by
    obtain ⟨m', k⟩ := next A2 B2 h3
    exact ⟨m', g m' k⟩
  by_cases c : (xs i &&& m_k 63 0).toInt < 0 ∨ 54 < (xs i &&& m_k 63 0).toInt
  · obtain ⟨m', k⟩ := next A B h.up
    exact ⟨m', l_df hL hi c k⟩
  obtain ⟨o, ho⟩ : ∃ o : Nat, (xs i &&& m_k 63 0).toInt = o := ⟨(xs i &&& m_k 63 0).toInt.toNat, by omega⟩
  have o54 : o ≤ 54 := by omega
  clear c
  match o, o54, ho with
  | 0, _, ho =>
    obtain ⟨r, m1, A2, B2, h1, h2, h3⟩ := (c_town F h).cc
    exact S _ _ h3 fun m' k => l_c0 (F := F) hL hi ho h1 h2 k
  | 1, _, ho =>
    obtain ⟨r, m1, A2, B2, h1, h2, h3⟩ := (c_road F h (by omega) (xs (i + 1)) (xs (i + 2)) (xs (i + 3))).cc
    exact S _ _ h3 fun m' k => l_c1 (F := F) hL hi ho h1 h2 k
  | 2, _, ho =>
    obtain ⟨r, m1, A2, B2, h1, h2, h3⟩ := (c_far F h (xs (i + 1)) (xs (i + 2))).cc
    exact S _ _ h3 fun m' k => l_c2 (F := F) hL hi ho h1 h2 k
  | 3, _, ho =>
    obtain ⟨r, m1, A2, B2, h1, h2, h3⟩ := (c_house F h (by omega) (xs (i + 1)) (xs (i + 2))).cc
    exact S _ _ h3 fun m' k => l_c3 (F := F) hL hi ho h1 h2 k
  | 4, _, ho =>
    obtain ⟨r, m1, A2, B2, h1, h2, h3⟩ := (c_gold F h ht (xs (i + 1)) (xs (i + 2))).cc
    exact S _ _ h3 fun m' k => l_c4 (F := F) hL hi ho h1 h2 k
  | 5, _, ho =>
    obtain ⟨r, m1, A2, B2, h1, h2, h3⟩ := (c_mind F h (xs (i + 1)) (xs (i + 2)) (xs (i + 3))).cc
    exact S _ _ h3 fun m' k => l_c5 (F := F) hL hi ho h1 h2 k
  | 6, _, ho =>
    obtain ⟨r, m1, A2, B2, h1, h2, h3⟩ := (c_bold F h (xs (i + 1)) (xs (i + 2))).cc
    exact S _ _ h3 fun m' k => l_c6 (F := F) hL hi ho h1 h2 k
  | 7, _, ho =>
    obtain ⟨r, m1, A2, B2, h1, h2, h3⟩ := (c_look F h ht (by omega) (xs (i + 1)) (xs (i + 2))).cc
    exact S _ _ h3 fun m' k => l_c7 (F := F) hL hi ho h1 h2 k
  | 8, _, ho =>
    obtain ⟨r, m1, A2, B2, h1, h2, h3⟩ := (c_down F h (xs (i + 1)) (xs (i + 2))).cc
    exact S _ _ h3 fun m' k => l_c8 (F := F) hL hi ho h1 h2 k
  | 9, _, ho =>
    obtain ⟨r, m1, A2, B2, h1, h2, h3⟩ := (c_give F h ht (by omega) (xs (i + 1)) (xs (i + 2)) (xs (i + 3))).cc
    exact S _ _ h3 fun m' k => l_c9 (F := F) hL hi ho h1 h2 k
  | 10, _, ho =>
    obtain ⟨r, m1, A2, B2, h1, h2, h3⟩ := (c_present F h ht (by omega) (xs (i + 1)) (xs (i + 2))).cc
    exact S _ _ h3 fun m' k => l_c10 (F := F) hL hi ho h1 h2 k
  | 11, _, ho =>
    obtain ⟨r, m1, A2, B2, h1, h2, h3⟩ := (c_burn F h (by omega) (xs (i + 1))).cc
    exact S _ _ h3 fun m' k => l_c11 (F := F) hL hi ho h1 h2 k
  | 12, _, ho =>
    obtain ⟨r, m1, A2, B2, h1, h2, h3⟩ := (c_forge F h (by omega) (xs (i + 1)) (xs (i + 2))).cc
    exact S _ _ h3 fun m' k => l_c12 (F := F) hL hi ho h1 h2 k
  | 13, _, ho =>
    obtain ⟨r, m1, A2, B2, h1, h2, h3⟩ := (c_number F h (xs (i + 1))).cc
    exact S _ _ h3 fun m' k => l_c13 (F := F) hL hi ho h1 h2 k
  | 14, _, ho =>
    obtain ⟨r, m1, A2, B2, h1, h2, h3⟩ := (c_copyAt F h (by omega) (xs (i + 1)) (xs (i + 2))).cc
    exact S _ _ h3 fun m' k => l_c14 (F := F) hL hi ho h1 h2 k
  | 15, _, ho =>
    obtain ⟨r, m1, A2, B2, h1, h2, h3⟩ := (c_trail F h (by omega) (xs (i + 1)) (xs (i + 2)) (xs (i + 3))).cc
    exact S _ _ h3 fun m' k => l_c15 (F := F) hL hi ho h1 h2 k
  | 16, _, ho =>
    obtain ⟨r, m1, A2, B2, h1, h2, h3⟩ := (c_found F h (xs (i + 1)) (xs (i + 2))).cc
    exact S _ _ h3 fun m' k => l_c16 (F := F) hL hi ho h1 h2 k
  | 17, _, ho =>
    obtain ⟨r, m1, A2, B2, h1, h2, h3⟩ := (c_promise F h (by omega) (xs (i + 1)) (xs (i + 2)) (xs (i + 3)) (xs (i + 4))).cc
    exact S _ _ h3 fun m' k => l_c17 (F := F) hL hi ho h1 h2 k
  | 18, _, ho =>
    obtain ⟨r, m1, A2, B2, h1, h2, h3⟩ := (c_bill F h (by omega) (xs (i + 1)) (xs (i + 2)) (xs (i + 3)) (xs (i + 4))).cc
    exact S _ _ h3 fun m' k => l_c18 (F := F) hL hi ho h1 h2 k
  | 19, _, ho =>
    obtain ⟨r, m1, A2, B2, h1, h2, h3⟩ := (c_deposit F h ht (by omega) (xs (i + 1)) (xs (i + 2)) (xs (i + 3))).cc
    exact S _ _ h3 fun m' k => l_c19 (F := F) hL hi ho h1 h2 k
  | 20, _, ho =>
    obtain ⟨r, m1, A2, B2, h1, h2, h3⟩ := (c_help F h ht (by omega) (xs (i + 1)) (xs (i + 2))).cc
    exact S _ _ h3 fun m' k => l_c20 (F := F) hL hi ho h1 h2 k
  | 21, _, ho =>
    obtain ⟨r, m1, A2, B2, h1, h2, h3⟩ := (c_sell F h ht (by omega) (xs (i + 1))).cc
    exact S _ _ h3 fun m' k => l_c21 (F := F) hL hi ho h1 h2 k
  | 22, _, ho =>
    obtain ⟨r, m1, A2, B2, h1, h2, h3⟩ := (c_ask F h ht (by omega) (xs (i + 1))).cc
    exact S _ _ h3 fun m' k => l_c22 (F := F) hL hi ho h1 h2 k
  | 23, _, ho =>
    obtain ⟨r, m1, A2, B2, h1, h2, h3⟩ := (c_of F h (xs (i + 1)) (xs (i + 2))).cc
    exact S _ _ h3 fun m' k => l_c23 (F := F) hL hi ho h1 h2 k
  | 24, _, ho =>
    obtain ⟨r, m1, A2, B2, h1, h2, h3⟩ := (c_name F h (xs (i + 1)) (xs (i + 2))).cc
    exact S _ _ h3 fun m' k => l_c24 (F := F) hL hi ho h1 h2 k
  | 25, _, ho =>
    obtain ⟨r, m1, A2, B2, h1, h2, h3⟩ := (c_price F h (xs (i + 1)) (xs (i + 2))).cc
    exact S _ _ h3 fun m' k => l_c25 (F := F) hL hi ho h1 h2 k
  | 26, _, ho =>
    obtain ⟨r, m1, A2, B2, h1, h2, h3⟩ := (c_gets F h ht (by omega) (xs (i + 1))).cc
    exact S _ _ h3 fun m' k => l_c26 (F := F) hL hi ho h1 h2 k
  | 27, _, ho =>
    obtain ⟨r, m1, A2, B2, h1, h2, h3⟩ := (c_assets F h ht (by omega) (xs (i + 1))).cc
    exact S _ _ h3 fun m' k => l_c27 (F := F) hL hi ho h1 h2 k
  | 28, _, ho =>
    obtain ⟨r, m1, A2, B2, h1, h2, h3⟩ := (c_trade F h ht (by omega) (xs (i + 1)) (xs (i + 2)) (xs (i + 3)) (xs (i + 4))).cc
    exact S _ _ h3 fun m' k => l_c28 (F := F) hL hi ho h1 h2 k
  | 29, _, ho =>
    obtain ⟨r, m1, A2, B2, h1, h2, h3⟩ := (c_goesOn F h (xs (i + 1)) (xs (i + 2))).cc
    exact S _ _ h3 fun m' k => l_c29 (F := F) hL hi ho h1 h2 k
  | 30, _, ho =>
    obtain ⟨r, m1, A2, B2, h1, h2, h3⟩ := (c_tell F h (xs (i + 1)) (xs (i + 2)) (xs (i + 3))).cc
    exact S _ _ h3 fun m' k => l_c30 (F := F) hL hi ho h1 h2 k
  | 31, _, ho =>
    obtain ⟨r, m1, A2, B2, h1, h2, h3⟩ := (c_read F h (by omega) (xs (i + 1))).cc
    exact S _ _ h3 fun m' k => l_c31 (F := F) hL hi ho h1 h2 k
  | 32, _, ho =>
    obtain ⟨r, m1, A2, B2, h1, h2, h3⟩ := (c_week F h (by omega) (xs (i + 1)) (xs (i + 2))).cc
    exact S _ _ h3 fun m' k => l_c32 (F := F) hL hi ho h1 h2 k
  | 33, _, ho =>
    obtain ⟨r, m1, A2, B2, h1, h2, h3⟩ := (c_flow F h (xs (i + 1))).cc
    exact S _ _ h3 fun m' k => l_c33 (F := F) hL hi ho h1 h2 k
  | 34, _, ho =>
    obtain ⟨r, m1, A2, B2, h1, h2, h3⟩ := (c_rate F h ht (by omega) (xs (i + 1))).cc
    exact S _ _ h3 fun m' k => l_c34 (F := F) hL hi ho h1 h2 k
  | 35, _, ho =>
    obtain ⟨r, m1, A2, B2, h1, h2, h3⟩ := (c_feed F h (by omega) (xs (i + 1)) (xs (i + 2))).cc
    exact S _ _ h3 fun m' k => l_c35 (F := F) hL hi ho h1 h2 k
  | 36, _, ho =>
    obtain ⟨r, m1, A2, B2, h1, h2, h3⟩ := (c_wipe F h).cc
    exact S _ _ h3 fun m' k => l_c36 (F := F) hL hi ho h1 h2 k
  | 37, _, ho =>
    obtain ⟨r, m1, A2, B2, h1, h2, h3⟩ := (c_text F h ht (by omega) (xs (i + 1)) (xs (i + 2))).cc
    exact S _ _ h3 fun m' k => l_c37 (F := F) hL hi ho h1 h2 k
  | 38, _, ho =>
    obtain ⟨r, m1, A2, B2, h1, h2, h3⟩ := (c_says F h ht (by omega) (xs (i + 1)) (xs (i + 2))).cc
    exact S _ _ h3 fun m' k => l_c38 (F := F) hL hi ho h1 h2 k
  | 39, _, ho =>
    obtain ⟨r, m1, A2, B2, h1, h2, h3⟩ := (c_why F h ht (by omega) (xs (i + 1)) (xs (i + 2))).cc
    exact S _ _ h3 fun m' k => l_c39 (F := F) hL hi ho h1 h2 k
  | 40, _, ho =>
    obtain ⟨r, m1, A2, B2, h1, h2, h3⟩ := (c_run F h ht (by omega) (xs (i + 1)))
    exact S _ _ h3 fun m' k => l_c40 (F := F) hL hi ho h1 h2 k
  | 41, _, ho =>
    obtain ⟨r, m1, A2, B2, h1, h2, h3⟩ := (c_sheet F h (xs (i + 1)) (xs (i + 2))).cc
    exact S _ _ h3 fun m' k => l_c41 (F := F) hL hi ho h1 h2 k
  | 42, _, ho =>
    obtain ⟨r, m1, A2, B2, h1, h2, h3⟩ := (c_knew F h (by omega) (xs (i + 1)) (xs (i + 2)) (xs (i + 3))).cc
    exact S _ _ h3 fun m' k => l_c42 (F := F) hL hi ho h1 h2 k
  | 43, _, ho =>
    obtain ⟨r, m1, A2, B2, h1, h2, h3⟩ := (c_count F h ht (by omega) (xs (i + 1))).cc
    exact S _ _ h3 fun m' k => l_c43 (F := F) hL hi ho h1 h2 k
  | 44, _, ho =>
    obtain ⟨r, m1, A2, B2, h1, h2, h3⟩ := (c_attempt F h ht (by omega) (xs (i + 1)) (xs (i + 2)) (xs (i + 3))).cc
    exact S _ _ h3 fun m' k => l_c44 (F := F) hL hi ho h1 h2 k
  | 45, _, ho =>
    obtain ⟨r, m1, A2, B2, h1, h2, h3⟩ := (c_plan F h ht (by omega) (xs (i + 1)) (xs (i + 2))).cc
    exact S _ _ h3 fun m' k => l_c45 (F := F) hL hi ho h1 h2 k
  | 46, _, ho =>
    obtain ⟨r, m1, A2, B2, h1, h2, h3⟩ := (c_judge F h ht (by omega)).cc
    exact S _ _ h3 fun m' k => l_c46 (F := F) hL hi ho h1 h2 k
  | 47, _, ho =>
    obtain ⟨r, m1, A2, B2, h1, h2, h3⟩ := (c_image F h ht (by omega)).cc
    exact S _ _ h3 fun m' k => l_c47 (F := F) hL hi ho h1 h2 k
  | 48, _, ho =>
    obtain ⟨r, m1, A2, B2, h1, h2, h3⟩ := (c_back F h ht (by omega)).cc
    exact S _ _ h3 fun m' k => l_c48 (F := F) hL hi ho h1 h2 k
  | 49, _, ho =>
    obtain ⟨r, m1, A2, B2, h1, h2, h3⟩ := (c_lay F h (by omega) (xs (i + 1))).cc
    exact S _ _ h3 fun m' k => l_c49 (F := F) hL hi ho h1 h2 k
  | 50, _, ho =>
    obtain ⟨r, m1, A2, B2, h1, h2, h3⟩ := (c_set F h (xs (i + 1)) (xs (i + 2))).cc
    exact S _ _ h3 fun m' k => l_c50 (F := F) hL hi ho h1 h2 k
  | 51, _, ho =>
    obtain ⟨r, m1, A2, B2, h1, h2, h3⟩ := (c_tear F h).cc
    exact S _ _ h3 fun m' k => l_c51 (F := F) hL hi ho h1 h2 k
  | 52, _, ho =>
    obtain ⟨r, m1, A2, B2, h1, h2, h3⟩ := (c_row F h (xs (i + 1))).cc
    exact S _ _ h3 fun m' k => l_c52 (F := F) hL hi ho h1 h2 k
  | 53, _, ho =>
    obtain ⟨r, m1, A2, B2, h1, h2, h3⟩ := (c_copy F h (by omega) (xs (i + 1)) (xs (i + 2)) (xs (i + 3))).cc
    exact S _ _ h3 fun m' k => l_c53 (F := F) hL hi ho h1 h2 k
  | 54, _, ho =>
    obtain ⟨r, m1, A2, B2, h1, h2, h3⟩ := (c_status F h (xs (i + 1))).cc
    exact S _ _ h3 fun m' k => l_c54 (F := F) hL hi ho h1 h2 k
  | n + 55, hn, _ => exact absurd hn (by omega)
theorem l_all (F : Nat) (hF : 700000 ≤ F) (hL : L ≤ 2560) : ∀ (r i t : Nat) (A B : hI), i = 5 * t → L ≤ i + 5 * r → i ≤ L → Inv t A B → ∃ m' : mM, m_R (L, xs) 1300 0 18 (l_lo i) [] (SH, mk A B) (some (.int 1), (SH, m')) := by
  intro r
  induction r with
  | zero =>
    intro i t A B e h1 h2 h
    exact ⟨mk A B, l_end hL (by omega) h2⟩
  | succ r ih =>
    intro i t A B e h1 h2 h
    by_cases c : i + 5 ≤ L
    · exact l_one F hF hL e c h fun A2 B2 h3 => ih (i + 5) (t + 1) A2 B2 (by omega) (by omega) c h3
    · exact ⟨mk A B, l_end hL c h2⟩
end ALLC
