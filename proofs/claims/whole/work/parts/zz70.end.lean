/-! THE LAW COMES TO ITS END -/
theorem law_runs {L : Nat} {xs : Nat → Int32} (hL : L ≤ 2560) : ∃ (n : Nat) (h' : mH), m_ev (L, xs) n 1300 0 0 [some (.ref m_scr), none, none, none] [] m_h0 = some (some (.int 1), h') ∧ m_cs h' ≤ 600000 ∧ m_ss h' ≤ 7302250 := by
  obtain ⟨m', k⟩ := l_all (L := L) (xs := xs) 700000 (Nat.le_refl _) hL 512 0 0 A00 B00 rfl (by omega) (Nat.zero_le _) inv0
  have k2 := c_built (X := (L, xs)) (res := (some (.int 1), (SH, m'))) (by rw [c_h0]; exact k)
  obtain ⟨n, hn⟩ := k2
  refine ⟨n, _, hn, ?_, ?_⟩
  · show SH.length ≤ 600000
    decide +kernel
  · show (SH.map m_sz).sum ≤ 7302250
    decide +kernel
