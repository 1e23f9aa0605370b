/-! THE RELATION between the class's world w (its shared rows rc) and the reference's fields S (written by program: wip/whole/heart/grp.py) -/
def xby (S : hI) (x : Nat) : Nat → Int := fun i => if i < 120 then S (604 + i) x else 0
def WL (w : hI) (S : hI) : Prop := (1 ≤ w 17 1) ∧ (w 17 1 ≤ 8) ∧ (S 400 1 = w 17 1) ∧ (0 ≤ w 17 2) ∧ (w 17 2 ≤ 16) ∧ (S 400 3 = w 17 2) ∧ (∀ k : Nat, (k : Int) < w 17 2 → (0 ≤ S 401 k ∧ S 401 k < 8) ∧ (0 ≤ S 402 k ∧ S 402 k < 8) ∧ 1 ≤ S 403 k ∧ S 403 k ≤ 30) ∧ (dOK (w 17 2).toNat (S 401) (S 402) (S 403) (S 404)) ∧ (∀ a b : Nat, a < 8 → b < 8 → S 404 (8 * a + b) < 999999 → S 404 (8 * a + b) ≤ 30 * dCn (S 404) a - 30) ∧ (∀ j : Nat, j < 64 → w 18 j = if S 404 j = 999999 then -1 else S 404 j)
theorem WL.lt1 {w : hI} {S : hI} (h : WL w S) : 1 ≤ w 17 1 := h.1
theorem WL.lt2 {w : hI} {S : hI} (h : WL w S) : w 17 1 ≤ 8 := h.2.1
theorem WL.lt3 {w : hI} {S : hI} (h : WL w S) : S 400 1 = w 17 1 := h.2.2.1
theorem WL.lr1 {w : hI} {S : hI} (h : WL w S) : 0 ≤ w 17 2 := h.2.2.2.1
theorem WL.lr2 {w : hI} {S : hI} (h : WL w S) : w 17 2 ≤ 16 := h.2.2.2.2.1
theorem WL.lr3 {w : hI} {S : hI} (h : WL w S) : S 400 3 = w 17 2 := h.2.2.2.2.2.1
theorem WL.lrd {w : hI} {S : hI} (h : WL w S) : ∀ k : Nat, (k : Int) < w 17 2 → (0 ≤ S 401 k ∧ S 401 k < 8) ∧ (0 ≤ S 402 k ∧ S 402 k < 8) ∧ 1 ≤ S 403 k ∧ S 403 k ≤ 30 := h.2.2.2.2.2.2.1
theorem WL.lds {w : hI} {S : hI} (h : WL w S) : dOK (w 17 2).toNat (S 401) (S 402) (S 403) (S 404) := h.2.2.2.2.2.2.2.1
theorem WL.lfb {w : hI} {S : hI} (h : WL w S) : ∀ a b : Nat, a < 8 → b < 8 → S 404 (8 * a + b) < 999999 → S 404 (8 * a + b) ≤ 30 * dCn (S 404) a - 30 := h.2.2.2.2.2.2.2.2.1
theorem WL.lcp {w : hI} {S : hI} (h : WL w S) : ∀ j : Nat, j < 64 → w 18 j = if S 404 j = 999999 then -1 else S 404 j := h.2.2.2.2.2.2.2.2.2
theorem WL.c {w w' : hI} {S S' : hI}  (h : WL w S) (e0 : w' 17 = w 17) (e1 : w' 18 = w 18) (e2 : S' 401 = S 401) (e3 : S' 402 = S 402) (e4 : S' 403 = S 403) (e5 : S' 404 = S 404) (e6 : S' 400 1 = S 400 1) (e7 : S' 400 3 = S 400 3) : WL w' S' := by
  unfold WL at h ⊢
  simp only [e0, e1, e2, e3, e4, e5, e6, e7]
  exact h
def WH (w : hI) (S : hI) : Prop := (1 ≤ w 19 11) ∧ (w 19 11 ≤ 16) ∧ (S 400 2 = w 19 11) ∧ (∀ h : Nat, h < 16 → S 410 h = w 20 h) ∧ (∀ h : Nat, h < 16 → S 411 h = w 21 h) ∧ (∀ h : Nat, h < 16 → S 412 h = w 22 h) ∧ (∀ h : Nat, h < 16 → S 414 h = w 23 h) ∧ (∀ h : Nat, h < 16 → S 415 h = w 24 h) ∧ (∀ h : Nat, 1 ≤ h → h < 16 → S 416 h = w 25 h) ∧ (∀ h : Nat, h < 16 → S 417 h = w 26 h) ∧ (w 20 0 = 2 ∧ w 21 0 = 0) ∧ (∀ h : Nat, 1 ≤ h → (h : Int) < w 19 11 → 0 ≤ w 20 h ∧ w 20 h ≤ 1) ∧ (∀ h : Nat, (h : Int) < w 19 11 → 0 ≤ w 21 h ∧ w 21 h < w 17 1) ∧ (∀ h : Nat, (h : Int) < w 19 11 → 0 ≤ w 23 h ∧ w 23 h ≤ 9999) ∧ (w 24 0 = -1) ∧ (∀ h : Nat, 1 ≤ h → (h : Int) < w 19 11 → 0 ≤ w 24 h ∧ w 24 h < w 19 11 ∧ w 20 h < w 20 (w 24 h).toNat) ∧ (∀ h : Nat, 1 ≤ h → (h : Int) < w 19 11 → 0 ≤ w 25 h ∧ w 25 h ≤ 9) ∧ (∀ h : Nat, 1 ≤ h → (h : Int) < w 19 11 → 0 ≤ w 26 h ∧ w 26 h ≤ 999) ∧ (∀ h : Nat, (h : Int) < w 19 11 → (w 27 h = -1 ∧ S 413 h = 1) ∨ (0 ≤ w 27 h ∧ w 27 h ≤ w 16 9 ∧ S 413 h = 0 ∧ S 418 h = w 27 h ∧ S 419 h = w 28 h ∧ S 420 h = w 29 h ∧ S 421 h = w 30 h)) ∧ (w 27 0 = -1) ∧ (w 19 12 = sm (w 19 11).toNat (fun h => bI (w 27 h ≠ -1)))
theorem WH.hn1 {w : hI} {S : hI} (h : WH w S) : 1 ≤ w 19 11 := h.1
theorem WH.hn2 {w : hI} {S : hI} (h : WH w S) : w 19 11 ≤ 16 := h.2.1
theorem WH.hn3 {w : hI} {S : hI} (h : WH w S) : S 400 2 = w 19 11 := h.2.2.1
theorem WH.hk {w : hI} {S : hI} (h : WH w S) : ∀ h : Nat, h < 16 → S 410 h = w 20 h := h.2.2.2.1
theorem WH.ht {w : hI} {S : hI} (h : WH w S) : ∀ h : Nat, h < 16 → S 411 h = w 21 h := h.2.2.2.2.1
theorem WH.hg {w : hI} {S : hI} (h : WH w S) : ∀ h : Nat, h < 16 → S 412 h = w 22 h := h.2.2.2.2.2.1
theorem WH.hm {w : hI} {S : hI} (h : WH w S) : ∀ h : Nat, h < 16 → S 414 h = w 23 h := h.2.2.2.2.2.2.1
theorem WH.hb {w : hI} {S : hI} (h : WH w S) : ∀ h : Nat, h < 16 → S 415 h = w 24 h := h.2.2.2.2.2.2.2.1
theorem WH.hbo {w : hI} {S : hI} (h : WH w S) : ∀ h : Nat, 1 ≤ h → h < 16 → S 416 h = w 25 h := h.2.2.2.2.2.2.2.2.1
theorem WH.hca {w : hI} {S : hI} (h : WH w S) : ∀ h : Nat, h < 16 → S 417 h = w 26 h := h.2.2.2.2.2.2.2.2.2.1
theorem WH.hk0 {w : hI} {S : hI} (h : WH w S) : w 20 0 = 2 ∧ w 21 0 = 0 := h.2.2.2.2.2.2.2.2.2.2.1
theorem WH.hk1 {w : hI} {S : hI} (h : WH w S) : ∀ h : Nat, 1 ≤ h → (h : Int) < w 19 11 → 0 ≤ w 20 h ∧ w 20 h ≤ 1 := h.2.2.2.2.2.2.2.2.2.2.2.1
theorem WH.ht1 {w : hI} {S : hI} (h : WH w S) : ∀ h : Nat, (h : Int) < w 19 11 → 0 ≤ w 21 h ∧ w 21 h < w 17 1 := h.2.2.2.2.2.2.2.2.2.2.2.2.1
theorem WH.hm1 {w : hI} {S : hI} (h : WH w S) : ∀ h : Nat, (h : Int) < w 19 11 → 0 ≤ w 23 h ∧ w 23 h ≤ 9999 := h.2.2.2.2.2.2.2.2.2.2.2.2.2.1
theorem WH.hb0 {w : hI} {S : hI} (h : WH w S) : w 24 0 = -1 := h.2.2.2.2.2.2.2.2.2.2.2.2.2.2.1
theorem WH.hb1 {w : hI} {S : hI} (h : WH w S) : ∀ h : Nat, 1 ≤ h → (h : Int) < w 19 11 → 0 ≤ w 24 h ∧ w 24 h < w 19 11 ∧ w 20 h < w 20 (w 24 h).toNat := h.2.2.2.2.2.2.2.2.2.2.2.2.2.2.2.1
theorem WH.hbo1 {w : hI} {S : hI} (h : WH w S) : ∀ h : Nat, 1 ≤ h → (h : Int) < w 19 11 → 0 ≤ w 25 h ∧ w 25 h ≤ 9 := h.2.2.2.2.2.2.2.2.2.2.2.2.2.2.2.2.1
theorem WH.hca1 {w : hI} {S : hI} (h : WH w S) : ∀ h : Nat, 1 ≤ h → (h : Int) < w 19 11 → 0 ≤ w 26 h ∧ w 26 h ≤ 999 := h.2.2.2.2.2.2.2.2.2.2.2.2.2.2.2.2.2.1
theorem WH.hdn {w : hI} {S : hI} (h : WH w S) : ∀ h : Nat, (h : Int) < w 19 11 → (w 27 h = -1 ∧ S 413 h = 1) ∨ (0 ≤ w 27 h ∧ w 27 h ≤ w 16 9 ∧ S 413 h = 0 ∧ S 418 h = w 27 h ∧ S 419 h = w 28 h ∧ S 420 h = w 29 h ∧ S 421 h = w 30 h) := h.2.2.2.2.2.2.2.2.2.2.2.2.2.2.2.2.2.2.1
theorem WH.hd0 {w : hI} {S : hI} (h : WH w S) : w 27 0 = -1 := h.2.2.2.2.2.2.2.2.2.2.2.2.2.2.2.2.2.2.2.1
theorem WH.hfa {w : hI} {S : hI} (h : WH w S) : w 19 12 = sm (w 19 11).toNat (fun h => bI (w 27 h ≠ -1)) := h.2.2.2.2.2.2.2.2.2.2.2.2.2.2.2.2.2.2.2.2
theorem WH.c {w w' : hI} {S S' : hI}  (h : WH w S) (e0 : w' 19 = w 19) (e1 : w' 20 = w 20) (e2 : w' 21 = w 21) (e3 : w' 22 = w 22) (e4 : w' 23 = w 23) (e5 : w' 24 = w 24) (e6 : w' 25 = w 25) (e7 : w' 26 = w 26) (e8 : w' 27 = w 27) (e9 : w' 28 = w 28) (e10 : w' 29 = w 29) (e11 : w' 30 = w 30) (e12 : S' 410 = S 410) (e13 : S' 411 = S 411) (e14 : S' 412 = S 412) (e15 : S' 413 = S 413) (e16 : S' 414 = S 414) (e17 : S' 415 = S 415) (e18 : S' 416 = S 416) (e19 : S' 417 = S 417) (e20 : S' 418 = S 418) (e21 : S' 419 = S 419) (e22 : S' 420 = S 420) (e23 : S' 421 = S 421) (e24 : w' 17 1 = w 17 1) (e25 : w' 16 9 = w 16 9) (e26 : S' 400 2 = S 400 2) : WH w' S' := by
  unfold WH at h ⊢
  simp only [e0, e1, e2, e3, e4, e5, e6, e7, e8, e9, e10, e11, e12, e13, e14, e15, e16, e17, e18, e19, e20, e21, e22, e23, e24, e25, e26]
  exact h
def WN (w : hI) (rc : hI) (S : hI) : Prop := (0 ≤ w 55 7) ∧ (w 55 7 ≤ 400) ∧ (S 400 6 = w 55 7) ∧ (0 ≤ w 55 8) ∧ (w 55 8 ≤ 300) ∧ (∀ k : Nat, k < 300 → S 422 k = w 56 k) ∧ (∀ k : Nat, k < 300 → 0 ≤ w 56 k ∧ w 56 k ≤ 3) ∧ (∀ k : Nat, k < 300 → (w 56 k = 0 ↔ w 55 8 ≤ k)) ∧ (∀ c : Nat, (c : Int) < w 55 7 → 0 ≤ rc 2 c ∧ rc 2 c < w 55 8 ∧ S 430 c = rc 2 c) ∧ (∀ c : Nat, (c : Int) < w 55 7 → S 431 c = sm c (fun e => bI (rc 2 e = rc 2 c))) ∧ (∀ k : Nat, k < 300 → S 424 k = sm (w 55 7).toNat (fun e => bI (rc 2 e = k))) ∧ (∀ c : Nat, (c : Int) < w 55 7 → S 432 c = w 58 c ∧ -1 ≤ w 58 c ∧ w 58 c < w 19 11) ∧ (∀ c : Nat, (c : Int) < w 55 7 → S 433 c = w 59 c ∧ 0 ≤ w 59 c ∧ w 59 c ≤ 8) ∧ (∀ c i : Nat, (c : Int) < w 55 7 → (i : Int) < w 59 c → S (434 + i) c = rc 3 (8 * c + i)) ∧ (∀ h : Nat, 1 ≤ h → h < 16 → w 61 h = sm (w 55 7).toNat (fun e => bI (w 58 e = h))) ∧ (w 61 0 = 0) ∧ (∀ i : Nat, (i : Int) < w 55 7 → 0 ≤ w 60 i ∧ w 60 i < w 55 7) ∧ (∀ i j : Nat, i < j → (j : Int) < w 55 7 → rc 2 (w 60 i).toNat < rc 2 (w 60 j).toNat ∨ (rc 2 (w 60 i).toNat = rc 2 (w 60 j).toNat ∧ w 60 i < w 60 j)) ∧ (∀ c : Nat, (c : Int) < w 55 7 → ∃ i : Nat, (i : Int) < w 55 7 ∧ w 60 i = c) ∧ (w 55 9 = sm 300 (fun k => bI (w 56 k = 1))) ∧ (w 55 10 = sm 300 (fun k => bI (w 56 k = 2))) ∧ (w 55 11 = sm 300 (fun k => bI (w 56 k = 3))) ∧ (S 400 7 = w 55 12) ∧ (w 55 12 = sm (w 55 7).toNat (fun e => bI (w 58 e = -1))) ∧ (∀ i : Nat, i < 60 → (i : Int) < w 55 12 → S 442 i = rc 4 i ∧ S 443 i = rc 5 i ∧ S 444 i = rc 6 i)
theorem WN.nc1 {w : hI} {rc : hI} {S : hI} (h : WN w rc S) : 0 ≤ w 55 7 := h.1
theorem WN.nc2 {w : hI} {rc : hI} {S : hI} (h : WN w rc S) : w 55 7 ≤ 400 := h.2.1
theorem WN.nc3 {w : hI} {rc : hI} {S : hI} (h : WN w rc S) : S 400 6 = w 55 7 := h.2.2.1
theorem WN.nf1 {w : hI} {rc : hI} {S : hI} (h : WN w rc S) : 0 ≤ w 55 8 := h.2.2.2.1
theorem WN.nf2 {w : hI} {rc : hI} {S : hI} (h : WN w rc S) : w 55 8 ≤ 300 := h.2.2.2.2.1
theorem WN.nst {w : hI} {rc : hI} {S : hI} (h : WN w rc S) : ∀ k : Nat, k < 300 → S 422 k = w 56 k := h.2.2.2.2.2.1
theorem WN.nsr {w : hI} {rc : hI} {S : hI} (h : WN w rc S) : ∀ k : Nat, k < 300 → 0 ≤ w 56 k ∧ w 56 k ≤ 3 := h.2.2.2.2.2.2.1
theorem WN.nsn {w : hI} {rc : hI} {S : hI} (h : WN w rc S) : ∀ k : Nat, k < 300 → (w 56 k = 0 ↔ w 55 8 ≤ k) := h.2.2.2.2.2.2.2.1
theorem WN.nnu {w : hI} {rc : hI} {S : hI} (h : WN w rc S) : ∀ c : Nat, (c : Int) < w 55 7 → 0 ≤ rc 2 c ∧ rc 2 c < w 55 8 ∧ S 430 c = rc 2 c := h.2.2.2.2.2.2.2.2.1
theorem WN.nix {w : hI} {rc : hI} {S : hI} (h : WN w rc S) : ∀ c : Nat, (c : Int) < w 55 7 → S 431 c = sm c (fun e => bI (rc 2 e = rc 2 c)) := h.2.2.2.2.2.2.2.2.2.1
theorem WN.nct {w : hI} {rc : hI} {S : hI} (h : WN w rc S) : ∀ k : Nat, k < 300 → S 424 k = sm (w 55 7).toNat (fun e => bI (rc 2 e = k)) := h.2.2.2.2.2.2.2.2.2.2.1
theorem WN.nho {w : hI} {rc : hI} {S : hI} (h : WN w rc S) : ∀ c : Nat, (c : Int) < w 55 7 → S 432 c = w 58 c ∧ -1 ≤ w 58 c ∧ w 58 c < w 19 11 := h.2.2.2.2.2.2.2.2.2.2.2.1
theorem WN.ntl {w : hI} {rc : hI} {S : hI} (h : WN w rc S) : ∀ c : Nat, (c : Int) < w 55 7 → S 433 c = w 59 c ∧ 0 ≤ w 59 c ∧ w 59 c ≤ 8 := h.2.2.2.2.2.2.2.2.2.2.2.2.1
theorem WN.ntr {w : hI} {rc : hI} {S : hI} (h : WN w rc S) : ∀ c i : Nat, (c : Int) < w 55 7 → (i : Int) < w 59 c → S (434 + i) c = rc 3 (8 * c + i) := h.2.2.2.2.2.2.2.2.2.2.2.2.2.1
theorem WN.nhe {w : hI} {rc : hI} {S : hI} (h : WN w rc S) : ∀ h : Nat, 1 ≤ h → h < 16 → w 61 h = sm (w 55 7).toNat (fun e => bI (w 58 e = h)) := h.2.2.2.2.2.2.2.2.2.2.2.2.2.2.1
theorem WN.nh0 {w : hI} {rc : hI} {S : hI} (h : WN w rc S) : w 61 0 = 0 := h.2.2.2.2.2.2.2.2.2.2.2.2.2.2.2.1
theorem WN.nor {w : hI} {rc : hI} {S : hI} (h : WN w rc S) : ∀ i : Nat, (i : Int) < w 55 7 → 0 ≤ w 60 i ∧ w 60 i < w 55 7 := h.2.2.2.2.2.2.2.2.2.2.2.2.2.2.2.2.1
theorem WN.nso {w : hI} {rc : hI} {S : hI} (h : WN w rc S) : ∀ i j : Nat, i < j → (j : Int) < w 55 7 → rc 2 (w 60 i).toNat < rc 2 (w 60 j).toNat ∨ (rc 2 (w 60 i).toNat = rc 2 (w 60 j).toNat ∧ w 60 i < w 60 j) := h.2.2.2.2.2.2.2.2.2.2.2.2.2.2.2.2.2.1
theorem WN.nsu {w : hI} {rc : hI} {S : hI} (h : WN w rc S) : ∀ c : Nat, (c : Int) < w 55 7 → ∃ i : Nat, (i : Int) < w 55 7 ∧ w 60 i = c := h.2.2.2.2.2.2.2.2.2.2.2.2.2.2.2.2.2.2.1
theorem WN.nou {w : hI} {rc : hI} {S : hI} (h : WN w rc S) : w 55 9 = sm 300 (fun k => bI (w 56 k = 1)) := h.2.2.2.2.2.2.2.2.2.2.2.2.2.2.2.2.2.2.2.1
theorem WN.nin {w : hI} {rc : hI} {S : hI} (h : WN w rc S) : w 55 10 = sm 300 (fun k => bI (w 56 k = 2)) := h.2.2.2.2.2.2.2.2.2.2.2.2.2.2.2.2.2.2.2.2.1
theorem WN.nbu {w : hI} {rc : hI} {S : hI} (h : WN w rc S) : w 55 11 = sm 300 (fun k => bI (w 56 k = 3)) := h.2.2.2.2.2.2.2.2.2.2.2.2.2.2.2.2.2.2.2.2.2.1
theorem WN.nfo {w : hI} {rc : hI} {S : hI} (h : WN w rc S) : S 400 7 = w 55 12 := h.2.2.2.2.2.2.2.2.2.2.2.2.2.2.2.2.2.2.2.2.2.2.1
theorem WN.nfc {w : hI} {rc : hI} {S : hI} (h : WN w rc S) : w 55 12 = sm (w 55 7).toNat (fun e => bI (w 58 e = -1)) := h.2.2.2.2.2.2.2.2.2.2.2.2.2.2.2.2.2.2.2.2.2.2.2.1
theorem WN.nfr {w : hI} {rc : hI} {S : hI} (h : WN w rc S) : ∀ i : Nat, i < 60 → (i : Int) < w 55 12 → S 442 i = rc 4 i ∧ S 443 i = rc 5 i ∧ S 444 i = rc 6 i := h.2.2.2.2.2.2.2.2.2.2.2.2.2.2.2.2.2.2.2.2.2.2.2.2
theorem WN.c {w w' : hI} {rc rc' : hI} {S S' : hI}  (h : WN w rc S) (e0 : w' 55 = w 55) (e1 : w' 56 = w 56) (e2 : w' 57 = w 57) (e3 : w' 58 = w 58) (e4 : w' 59 = w 59) (e5 : w' 60 = w 60) (e6 : w' 61 = w 61) (e7 : rc' 2 = rc 2) (e8 : rc' 3 = rc 3) (e9 : rc' 4 = rc 4) (e10 : rc' 5 = rc 5) (e11 : rc' 6 = rc 6) (e12 : S' 422 = S 422) (e13 : S' 424 = S 424) (e14 : S' 430 = S 430) (e15 : S' 431 = S 431) (e16 : S' 432 = S 432) (e17 : S' 433 = S 433) (e18 : S' 434 = S 434) (e19 : S' 435 = S 435) (e20 : S' 436 = S 436) (e21 : S' 437 = S 437) (e22 : S' 438 = S 438) (e23 : S' 439 = S 439) (e24 : S' 440 = S 440) (e25 : S' 441 = S 441) (e26 : S' 442 = S 442) (e27 : S' 443 = S 443) (e28 : S' 444 = S 444) (e29 : w' 19 11 = w 19 11) (e30 : S' 400 6 = S 400 6) (e31 : S' 400 7 = S 400 7) : WN w' rc' S' := by
  unfold WN at h ⊢
  have q3 : ∀ i : Nat, i < 8 → S' (434 + i) = S (434 + i) := fun i hi => by
    rcases (show i = 0 ∨ i = 1 ∨ i = 2 ∨ i = 3 ∨ i = 4 ∨ i = 5 ∨ i = 6 ∨ i = 7 by omega) with rfl | rfl | rfl | rfl | rfl | rfl | rfl | rfl <;> assumption
  simp only [e0, e1, e2, e3, e4, e5, e6, e7, e8, e9, e10, e11, e12, e13, e14, e15, e16, e17, e18, e19, e20, e21, e22, e23, e24, e25, e26, e27, e28, e29, e30, e31]
  refine ⟨h.1, h.2.1, h.2.2.1, h.2.2.2.1, h.2.2.2.2.1, h.2.2.2.2.2.1, h.2.2.2.2.2.2.1, h.2.2.2.2.2.2.2.1, h.2.2.2.2.2.2.2.2.1, h.2.2.2.2.2.2.2.2.2.1, h.2.2.2.2.2.2.2.2.2.2.1, h.2.2.2.2.2.2.2.2.2.2.2.1, h.2.2.2.2.2.2.2.2.2.2.2.2.1, fun c i hc hi => ?_, h.2.2.2.2.2.2.2.2.2.2.2.2.2.2⟩
  rw [q3 i (by have := (h.2.2.2.2.2.2.2.2.2.2.2.2.1 c hc).2.2; omega)]
  exact h.2.2.2.2.2.2.2.2.2.2.2.2.2.1 c i hc hi
def WI (w : hI) (rc : hI) (S : hI) : Prop := (∀ k : Nat, k < 300 → w 56 k = 2 → 0 ≤ w 57 k ∧ w 57 k < w 55 7 ∧ rc 2 (w 57 k).toNat = k ∧ w 58 (w 57 k).toNat = 0 ∧ S 423 k = w 57 k)
theorem WI.nli {w : hI} {rc : hI} {S : hI} (h : WI w rc S) : ∀ k : Nat, k < 300 → w 56 k = 2 → 0 ≤ w 57 k ∧ w 57 k < w 55 7 ∧ rc 2 (w 57 k).toNat = k ∧ w 58 (w 57 k).toNat = 0 ∧ S 423 k = w 57 k := h
theorem WI.c {w w' : hI} {rc rc' : hI} {S S' : hI}  (h : WI w rc S) (e0 : w' 56 = w 56) (e1 : w' 57 = w 57) (e2 : w' 58 = w 58) (e3 : rc' 2 = rc 2) (e4 : S' 423 = S 423) (e5 : w' 55 7 = w 55 7) : WI w' rc' S' := by
  unfold WI at h ⊢
  simp only [e0, e1, e2, e3, e4, e5]
  exact h
def WP (w : hI) (S : hI) (D : Int) : Prop := (w 31 14 = sm 60 (fun p => bI (w 32 p ≠ -1))) ∧ (0 ≤ w 31 15) ∧ (w 31 15 ≤ 60) ∧ (∀ p : Nat, p < 60 → w 31 15 ≤ p → w 32 p = -1) ∧ (∀ p : Nat, p < 60 → (w 32 p = -1 ∧ w 37 p = -1 ∧ S 450 p = 0) ∨ (0 ≤ w 32 p ∧ w 32 p ≤ 3 ∧ S 450 p = 1)) ∧ (∀ p : Nat, p < 60 → w 32 p ≠ -1 → S 451 p = w 32 p) ∧ (∀ p : Nat, p < 60 → w 32 p ≠ -1 → S 452 p = w 33 p ∧ 1 ≤ w 33 p ∧ w 33 p ≤ 11000 ∧ (w 32 p ≠ 3 → w 33 p ≤ 9999)) ∧ (∀ p : Nat, p < 60 → w 32 p ≠ -1 → S 453 p = w 34 p ∧ 1 ≤ w 34 p ∧ w 34 p < w 19 11) ∧ (∀ p : Nat, p < 60 → w 32 p ≠ -1 → S 454 p = w 35 p ∧ 0 ≤ w 35 p ∧ w 35 p < w 19 11) ∧ (∀ p : Nat, p < 60 → w 32 p ≠ -1 → S 455 p = w 36 p ∧ -1 ≤ w 36 p ∧ w 36 p ≤ 800) ∧ (∀ p : Nat, p < 60 → w 32 p ≠ -1 → S 456 p = w 37 p ∧ 0 ≤ w 37 p ∧ w 37 p ≤ 2) ∧ (∀ p : Nat, p < 60 → w 32 p ≠ -1 → S 457 p = w 39 p) ∧ (∀ p : Nat, p < 60 → w 32 p ≠ -1 → S 464 p = w 40 p ∧ 0 ≤ w 40 p ∧ w 40 p ≤ 1) ∧ (∀ p : Nat, p < 60 → w 32 p ≠ -1 → S 465 p = w 41 p) ∧ (∀ p : Nat, p < 60 → w 32 p ≠ -1 → S 467 p = w 42 p ∧ -1 ≤ w 42 p ∧ w 42 p ≤ 1000) ∧ (∀ p : Nat, p < 60 → w 32 p ≠ -1 → S 468 p = w 43 p ∧ 0 ≤ w 43 p ∧ w 43 p ≤ 1) ∧ (∀ p : Nat, p < 60 → w 32 p ≠ -1 → w 32 p ≠ 1 → w 39 p = 0 ∧ w 43 p = 0 ∧ w 37 p ≠ 1) ∧ (∀ p : Nat, p < 60 → w 32 p = 1 → 1 ≤ w 39 p ∧ w 39 p ≤ 6) ∧ (∀ p i : Nat, p < 60 → w 32 p = 1 → (i : Int) < w 39 p → S (458 + i) p = w 38 (6 * p + i) ∧ 1 ≤ w 38 (6 * p + i) ∧ w 38 (6 * p + i) < w 19 11) ∧ (∀ p : Nat, p < 60 → w 32 p ≠ -1 → w 37 p = 0 → w 32 p ≠ 2 → D ≤ w 36 p ∧ w 36 p ≤ w 16 9 + 60) ∧ (∀ p : Nat, p < 60 → w 32 p ≠ -1 → w 37 p = 0 → w 32 p ≠ 1 → w 27 (w 34 p).toNat = -1) ∧ (∀ p : Nat, p < 60 → w 32 p = 2 → w 36 p = -1 ∧ w 35 p ≠ w 34 p) ∧ (∀ p : Nat, p < 60 → w 32 p = 0 ∨ w 32 p = 2 → 1 ≤ w 35 p) ∧ (∀ p : Nat, p < 60 → w 32 p = 1 → w 37 p = 1 → S 350 p = 0 → ∃ i : Nat, 1 ≤ i ∧ (i : Int) < w 39 p ∧ w 38 (6 * p + i) ≠ w 35 p ∧ w 38 (6 * p + i) ≠ w 34 p) ∧ (∀ p : Nat, p < 60 → w 32 p = 3 → S 466 p = w 44 p ∧ 0 ≤ w 44 p ∧ w 44 p ≤ w 16 9) ∧ (∀ p : Nat, p < 60 → w 32 p = 3 → w 37 p = 0 → w 35 p = 0 ∧ 0 ≤ w 41 p ∧ w 41 p < 60 ∧ w 32 (w 41 p).toNat = 1 ∧ w 37 (w 41 p).toNat = 0 ∧ w 40 (w 41 p).toNat = 1 ∧ w 35 (w 41 p).toNat = 0 ∧ w 36 p < w 36 (w 41 p).toNat) ∧ (∀ p q : Nat, p < 60 → q < 60 → w 32 p = 3 → w 37 p = 0 → w 32 q = 3 → w 37 q = 0 → w 41 p = w 41 q → p = q)
theorem WP.pu {w : hI} {S : hI} {D : Int} (h : WP w S D) : w 31 14 = sm 60 (fun p => bI (w 32 p ≠ -1)) := h.1
theorem WP.pe1 {w : hI} {S : hI} {D : Int} (h : WP w S D) : 0 ≤ w 31 15 := h.2.1
theorem WP.pe2 {w : hI} {S : hI} {D : Int} (h : WP w S D) : w 31 15 ≤ 60 := h.2.2.1
theorem WP.pe3 {w : hI} {S : hI} {D : Int} (h : WP w S D) : ∀ p : Nat, p < 60 → w 31 15 ≤ p → w 32 p = -1 := h.2.2.2.1
theorem WP.pus {w : hI} {S : hI} {D : Int} (h : WP w S D) : ∀ p : Nat, p < 60 → (w 32 p = -1 ∧ w 37 p = -1 ∧ S 450 p = 0) ∨ (0 ≤ w 32 p ∧ w 32 p ≤ 3 ∧ S 450 p = 1) := h.2.2.2.2.1
theorem WP.pk {w : hI} {S : hI} {D : Int} (h : WP w S D) : ∀ p : Nat, p < 60 → w 32 p ≠ -1 → S 451 p = w 32 p := h.2.2.2.2.2.1
theorem WP.ps {w : hI} {S : hI} {D : Int} (h : WP w S D) : ∀ p : Nat, p < 60 → w 32 p ≠ -1 → S 452 p = w 33 p ∧ 1 ≤ w 33 p ∧ w 33 p ≤ 11000 ∧ (w 32 p ≠ 3 → w 33 p ≤ 9999) := h.2.2.2.2.2.2.1
theorem WP.pd {w : hI} {S : hI} {D : Int} (h : WP w S D) : ∀ p : Nat, p < 60 → w 32 p ≠ -1 → S 453 p = w 34 p ∧ 1 ≤ w 34 p ∧ w 34 p < w 19 11 := h.2.2.2.2.2.2.2.1
theorem WP.ph {w : hI} {S : hI} {D : Int} (h : WP w S D) : ∀ p : Nat, p < 60 → w 32 p ≠ -1 → S 454 p = w 35 p ∧ 0 ≤ w 35 p ∧ w 35 p < w 19 11 := h.2.2.2.2.2.2.2.2.1
theorem WP.pdu {w : hI} {S : hI} {D : Int} (h : WP w S D) : ∀ p : Nat, p < 60 → w 32 p ≠ -1 → S 455 p = w 36 p ∧ -1 ≤ w 36 p ∧ w 36 p ≤ 800 := h.2.2.2.2.2.2.2.2.2.1
theorem WP.pst {w : hI} {S : hI} {D : Int} (h : WP w S D) : ∀ p : Nat, p < 60 → w 32 p ≠ -1 → S 456 p = w 37 p ∧ 0 ≤ w 37 p ∧ w 37 p ≤ 2 := h.2.2.2.2.2.2.2.2.2.2.1
theorem WP.pnc {w : hI} {S : hI} {D : Int} (h : WP w S D) : ∀ p : Nat, p < 60 → w 32 p ≠ -1 → S 457 p = w 39 p := h.2.2.2.2.2.2.2.2.2.2.2.1
theorem WP.pip {w : hI} {S : hI} {D : Int} (h : WP w S D) : ∀ p : Nat, p < 60 → w 32 p ≠ -1 → S 464 p = w 40 p ∧ 0 ≤ w 40 p ∧ w 40 p ≤ 1 := h.2.2.2.2.2.2.2.2.2.2.2.2.1
theorem WP.ppl {w : hI} {S : hI} {D : Int} (h : WP w S D) : ∀ p : Nat, p < 60 → w 32 p ≠ -1 → S 465 p = w 41 p := h.2.2.2.2.2.2.2.2.2.2.2.2.2.1
theorem WP.pas {w : hI} {S : hI} {D : Int} (h : WP w S D) : ∀ p : Nat, p < 60 → w 32 p ≠ -1 → S 467 p = w 42 p ∧ -1 ≤ w 42 p ∧ w 42 p ≤ 1000 := h.2.2.2.2.2.2.2.2.2.2.2.2.2.2.1
theorem WP.pbt {w : hI} {S : hI} {D : Int} (h : WP w S D) : ∀ p : Nat, p < 60 → w 32 p ≠ -1 → S 468 p = w 43 p ∧ 0 ≤ w 43 p ∧ w 43 p ≤ 1 := h.2.2.2.2.2.2.2.2.2.2.2.2.2.2.2.1
theorem WP.pnb {w : hI} {S : hI} {D : Int} (h : WP w S D) : ∀ p : Nat, p < 60 → w 32 p ≠ -1 → w 32 p ≠ 1 → w 39 p = 0 ∧ w 43 p = 0 ∧ w 37 p ≠ 1 := h.2.2.2.2.2.2.2.2.2.2.2.2.2.2.2.2.1
theorem WP.pbn {w : hI} {S : hI} {D : Int} (h : WP w S D) : ∀ p : Nat, p < 60 → w 32 p = 1 → 1 ≤ w 39 p ∧ w 39 p ≤ 6 := h.2.2.2.2.2.2.2.2.2.2.2.2.2.2.2.2.2.1
theorem WP.pbi {w : hI} {S : hI} {D : Int} (h : WP w S D) : ∀ p i : Nat, p < 60 → w 32 p = 1 → (i : Int) < w 39 p → S (458 + i) p = w 38 (6 * p + i) ∧ 1 ≤ w 38 (6 * p + i) ∧ w 38 (6 * p + i) < w 19 11 := h.2.2.2.2.2.2.2.2.2.2.2.2.2.2.2.2.2.2.1
theorem WP.pli {w : hI} {S : hI} {D : Int} (h : WP w S D) : ∀ p : Nat, p < 60 → w 32 p ≠ -1 → w 37 p = 0 → w 32 p ≠ 2 → D ≤ w 36 p ∧ w 36 p ≤ w 16 9 + 60 := h.2.2.2.2.2.2.2.2.2.2.2.2.2.2.2.2.2.2.2.1
theorem WP.pup {w : hI} {S : hI} {D : Int} (h : WP w S D) : ∀ p : Nat, p < 60 → w 32 p ≠ -1 → w 37 p = 0 → w 32 p ≠ 1 → w 27 (w 34 p).toNat = -1 := h.2.2.2.2.2.2.2.2.2.2.2.2.2.2.2.2.2.2.2.2.1
theorem WP.pde {w : hI} {S : hI} {D : Int} (h : WP w S D) : ∀ p : Nat, p < 60 → w 32 p = 2 → w 36 p = -1 ∧ w 35 p ≠ w 34 p := h.2.2.2.2.2.2.2.2.2.2.2.2.2.2.2.2.2.2.2.2.2.1
theorem WP.ph1 {w : hI} {S : hI} {D : Int} (h : WP w S D) : ∀ p : Nat, p < 60 → w 32 p = 0 ∨ w 32 p = 2 → 1 ≤ w 35 p := h.2.2.2.2.2.2.2.2.2.2.2.2.2.2.2.2.2.2.2.2.2.2.1
theorem WP.ppr {w : hI} {S : hI} {D : Int} (h : WP w S D) : ∀ p : Nat, p < 60 → w 32 p = 1 → w 37 p = 1 → S 350 p = 0 → ∃ i : Nat, 1 ≤ i ∧ (i : Int) < w 39 p ∧ w 38 (6 * p + i) ≠ w 35 p ∧ w 38 (6 * p + i) ≠ w 34 p := h.2.2.2.2.2.2.2.2.2.2.2.2.2.2.2.2.2.2.2.2.2.2.2.1
theorem WP.pma {w : hI} {S : hI} {D : Int} (h : WP w S D) : ∀ p : Nat, p < 60 → w 32 p = 3 → S 466 p = w 44 p ∧ 0 ≤ w 44 p ∧ w 44 p ≤ w 16 9 := h.2.2.2.2.2.2.2.2.2.2.2.2.2.2.2.2.2.2.2.2.2.2.2.2.1
theorem WP.ppg {w : hI} {S : hI} {D : Int} (h : WP w S D) : ∀ p : Nat, p < 60 → w 32 p = 3 → w 37 p = 0 → w 35 p = 0 ∧ 0 ≤ w 41 p ∧ w 41 p < 60 ∧ w 32 (w 41 p).toNat = 1 ∧ w 37 (w 41 p).toNat = 0 ∧ w 40 (w 41 p).toNat = 1 ∧ w 35 (w 41 p).toNat = 0 ∧ w 36 p < w 36 (w 41 p).toNat := h.2.2.2.2.2.2.2.2.2.2.2.2.2.2.2.2.2.2.2.2.2.2.2.2.2.1
theorem WP.ppd {w : hI} {S : hI} {D : Int} (h : WP w S D) : ∀ p q : Nat, p < 60 → q < 60 → w 32 p = 3 → w 37 p = 0 → w 32 q = 3 → w 37 q = 0 → w 41 p = w 41 q → p = q := h.2.2.2.2.2.2.2.2.2.2.2.2.2.2.2.2.2.2.2.2.2.2.2.2.2.2
theorem WP.c {w w' : hI} {S S' : hI} {D : Int} (h : WP w S D) (e0 : w' 31 = w 31) (e1 : w' 32 = w 32) (e2 : w' 33 = w 33) (e3 : w' 34 = w 34) (e4 : w' 35 = w 35) (e5 : w' 36 = w 36) (e6 : w' 37 = w 37) (e7 : w' 38 = w 38) (e8 : w' 39 = w 39) (e9 : w' 40 = w 40) (e10 : w' 41 = w 41) (e11 : w' 42 = w 42) (e12 : w' 43 = w 43) (e13 : w' 44 = w 44) (e14 : w' 27 = w 27) (e15 : S' 450 = S 450) (e16 : S' 451 = S 451) (e17 : S' 452 = S 452) (e18 : S' 453 = S 453) (e19 : S' 454 = S 454) (e20 : S' 455 = S 455) (e21 : S' 456 = S 456) (e22 : S' 457 = S 457) (e23 : S' 458 = S 458) (e24 : S' 459 = S 459) (e25 : S' 460 = S 460) (e26 : S' 461 = S 461) (e27 : S' 462 = S 462) (e28 : S' 463 = S 463) (e29 : S' 464 = S 464) (e30 : S' 465 = S 465) (e31 : S' 466 = S 466) (e32 : S' 467 = S 467) (e33 : S' 468 = S 468) (e34 : S' 350 = S 350) (e35 : w' 19 11 = w 19 11) (e36 : w' 16 9 = w 16 9) : WP w' S' D := by
  unfold WP at h ⊢
  have q3 : ∀ i : Nat, i < 6 → S' (458 + i) = S (458 + i) := fun i hi => by
    rcases (show i = 0 ∨ i = 1 ∨ i = 2 ∨ i = 3 ∨ i = 4 ∨ i = 5 by omega) with rfl | rfl | rfl | rfl | rfl | rfl <;> assumption
  simp only [e0, e1, e2, e3, e4, e5, e6, e7, e8, e9, e10, e11, e12, e13, e14, e15, e16, e17, e18, e19, e20, e21, e22, e23, e24, e25, e26, e27, e28, e29, e30, e31, e32, e33, e34, e35, e36]
  refine ⟨h.1, h.2.1, h.2.2.1, h.2.2.2.1, h.2.2.2.2.1, h.2.2.2.2.2.1, h.2.2.2.2.2.2.1, h.2.2.2.2.2.2.2.1, h.2.2.2.2.2.2.2.2.1, h.2.2.2.2.2.2.2.2.2.1, h.2.2.2.2.2.2.2.2.2.2.1, h.2.2.2.2.2.2.2.2.2.2.2.1, h.2.2.2.2.2.2.2.2.2.2.2.2.1, h.2.2.2.2.2.2.2.2.2.2.2.2.2.1, h.2.2.2.2.2.2.2.2.2.2.2.2.2.2.1, h.2.2.2.2.2.2.2.2.2.2.2.2.2.2.2.1, h.2.2.2.2.2.2.2.2.2.2.2.2.2.2.2.2.1, h.2.2.2.2.2.2.2.2.2.2.2.2.2.2.2.2.2.1, fun p i hp h1 hi => ?_, h.2.2.2.2.2.2.2.2.2.2.2.2.2.2.2.2.2.2.2⟩
  rw [q3 i (by have := (h.2.2.2.2.2.2.2.2.2.2.2.2.2.2.2.2.2.1 p hp h1).2; omega)]
  exact h.2.2.2.2.2.2.2.2.2.2.2.2.2.2.2.2.2.2.1 p i hp h1 hi
def WT (w : hI) (S : hI) : Prop := (0 ≤ w 46 5) ∧ (w 46 5 ≤ 8) ∧ (S 400 4 = w 46 5) ∧ (∀ t : Nat, t < 8 → S 470 t = w 47 t ∧ S 471 t = w 48 t ∧ S 472 t = w 49 t ∧ S 473 t = w 50 t ∧ S 474 t = w 51 t) ∧ (∀ t : Nat, (t : Int) < w 46 5 → (1 ≤ w 47 t ∧ w 47 t < w 19 11) ∧ (1 ≤ w 48 t ∧ w 48 t < w 19 11) ∧ (1 ≤ w 49 t ∧ w 49 t ≤ 9999) ∧ (1 ≤ w 50 t ∧ w 50 t ≤ 60) ∧ (0 ≤ w 51 t ∧ w 51 t ≤ 1))
theorem WT.tn1 {w : hI} {S : hI} (h : WT w S) : 0 ≤ w 46 5 := h.1
theorem WT.tn2 {w : hI} {S : hI} (h : WT w S) : w 46 5 ≤ 8 := h.2.1
theorem WT.tn3 {w : hI} {S : hI} (h : WT w S) : S 400 4 = w 46 5 := h.2.2.1
theorem WT.tb {w : hI} {S : hI} (h : WT w S) : ∀ t : Nat, t < 8 → S 470 t = w 47 t ∧ S 471 t = w 48 t ∧ S 472 t = w 49 t ∧ S 473 t = w 50 t ∧ S 474 t = w 51 t := h.2.2.2.1
theorem WT.th {w : hI} {S : hI} (h : WT w S) : ∀ t : Nat, (t : Int) < w 46 5 → (1 ≤ w 47 t ∧ w 47 t < w 19 11) ∧ (1 ≤ w 48 t ∧ w 48 t < w 19 11) ∧ (1 ≤ w 49 t ∧ w 49 t ≤ 9999) ∧ (1 ≤ w 50 t ∧ w 50 t ≤ 60) ∧ (0 ≤ w 51 t ∧ w 51 t ≤ 1) := h.2.2.2.2
theorem WT.c {w w' : hI} {S S' : hI}  (h : WT w S) (e0 : w' 46 = w 46) (e1 : w' 47 = w 47) (e2 : w' 48 = w 48) (e3 : w' 49 = w 49) (e4 : w' 50 = w 50) (e5 : w' 51 = w 51) (e6 : S' 470 = S 470) (e7 : S' 471 = S 471) (e8 : S' 472 = S 472) (e9 : S' 473 = S 473) (e10 : S' 474 = S 474) (e11 : w' 19 11 = w 19 11) (e12 : S' 400 4 = S 400 4) : WT w' S' := by
  unfold WT at h ⊢
  simp only [e0, e1, e2, e3, e4, e5, e6, e7, e8, e9, e10, e11, e12]
  exact h
def WS (w : hI) (S : hI) : Prop := (∀ j : Nat, j < 104 → S 475 j = w 53 j) ∧ (∀ j : Nat, j < 104 → -1 ≤ w 53 j ∧ w 53 j ≤ 200 ∧ (52 ≤ j → w 53 j ≤ 20))
theorem WS.se {w : hI} {S : hI} (h : WS w S) : ∀ j : Nat, j < 104 → S 475 j = w 53 j := h.1
theorem WS.sr {w : hI} {S : hI} (h : WS w S) : ∀ j : Nat, j < 104 → -1 ≤ w 53 j ∧ w 53 j ≤ 200 ∧ (52 ≤ j → w 53 j ≤ 20) := h.2
theorem WS.c {w w' : hI} {S S' : hI}  (h : WS w S) (e0 : w' 53 = w 53) (e1 : S' 475 = S 475) : WS w' S' := by
  unfold WS at h ⊢
  simp only [e0, e1]
  exact h
def WD (w : hI) (S : hI) (D : Int) : Prop := (0 ≤ w 16 9) ∧ (w 16 9 ≤ 700) ∧ (S 400 0 = w 16 9) ∧ (w 16 9 ≤ D) ∧ (D ≤ w 16 9 + 1) ∧ (0 ≤ w 16 10) ∧ (w 16 10 ≤ 20) ∧ (S 400 10 = w 16 10) ∧ (0 ≤ w 16 11) ∧ (w 16 11 ≤ 100) ∧ (S 400 11 = w 16 11) ∧ (S 400 8 = w 16 12) ∧ (-1 ≤ w 16 13) ∧ (w 16 13 ≤ 700) ∧ (S 400 9 = w 16 13)
theorem WD.dd1 {w : hI} {S : hI} {D : Int} (h : WD w S D) : 0 ≤ w 16 9 := h.1
theorem WD.dd2 {w : hI} {S : hI} {D : Int} (h : WD w S D) : w 16 9 ≤ 700 := h.2.1
theorem WD.dd3 {w : hI} {S : hI} {D : Int} (h : WD w S D) : S 400 0 = w 16 9 := h.2.2.1
theorem WD.dD1 {w : hI} {S : hI} {D : Int} (h : WD w S D) : w 16 9 ≤ D := h.2.2.2.1
theorem WD.dD2 {w : hI} {S : hI} {D : Int} (h : WD w S D) : D ≤ w 16 9 + 1 := h.2.2.2.2.1
theorem WD.dr1 {w : hI} {S : hI} {D : Int} (h : WD w S D) : 0 ≤ w 16 10 := h.2.2.2.2.2.1
theorem WD.dr2 {w : hI} {S : hI} {D : Int} (h : WD w S D) : w 16 10 ≤ 20 := h.2.2.2.2.2.2.1
theorem WD.dr3 {w : hI} {S : hI} {D : Int} (h : WD w S D) : S 400 10 = w 16 10 := h.2.2.2.2.2.2.2.1
theorem WD.df1 {w : hI} {S : hI} {D : Int} (h : WD w S D) : 0 ≤ w 16 11 := h.2.2.2.2.2.2.2.2.1
theorem WD.df2 {w : hI} {S : hI} {D : Int} (h : WD w S D) : w 16 11 ≤ 100 := h.2.2.2.2.2.2.2.2.2.1
theorem WD.df3 {w : hI} {S : hI} {D : Int} (h : WD w S D) : S 400 11 = w 16 11 := h.2.2.2.2.2.2.2.2.2.2.1
theorem WD.de3 {w : hI} {S : hI} {D : Int} (h : WD w S D) : S 400 8 = w 16 12 := h.2.2.2.2.2.2.2.2.2.2.2.1
theorem WD.ds1 {w : hI} {S : hI} {D : Int} (h : WD w S D) : -1 ≤ w 16 13 := h.2.2.2.2.2.2.2.2.2.2.2.2.1
theorem WD.ds2 {w : hI} {S : hI} {D : Int} (h : WD w S D) : w 16 13 ≤ 700 := h.2.2.2.2.2.2.2.2.2.2.2.2.2.1
theorem WD.ds3 {w : hI} {S : hI} {D : Int} (h : WD w S D) : S 400 9 = w 16 13 := h.2.2.2.2.2.2.2.2.2.2.2.2.2.2
theorem WD.c {w w' : hI} {S S' : hI} {D : Int} (h : WD w S D) (e0 : w' 16 = w 16) (e1 : S' 400 0 = S 400 0) (e2 : S' 400 8 = S 400 8) (e3 : S' 400 9 = S 400 9) (e4 : S' 400 10 = S 400 10) (e5 : S' 400 11 = S 400 11) : WD w' S' D := by
  unfold WD at h ⊢
  simp only [e0, e1, e2, e3, e4, e5]
  exact h
def WW (w : hI) (rc : hI) (S : hI) : Prop := (∀ k i : Nat, 7 * (k : Int) + 7 ≤ w 16 9 → i < 6 → rc 7 (6 * k + i) = if (iI (S 486 k) >>> (iI i &&& 31)) &&& 1 = 1 then S (480 + i) k else -1) ∧ (∀ k : Nat, 7 * (k : Int) + 7 ≤ w 16 9 → 0 ≤ S 485 k ∧ S 485 k ≤ 999)
theorem WW.ww {w : hI} {rc : hI} {S : hI} (h : WW w rc S) : ∀ k i : Nat, 7 * (k : Int) + 7 ≤ w 16 9 → i < 6 → rc 7 (6 * k + i) = if (iI (S 486 k) >>> (iI i &&& 31)) &&& 1 = 1 then S (480 + i) k else -1 := h.1
theorem WW.wr {w : hI} {rc : hI} {S : hI} (h : WW w rc S) : ∀ k : Nat, 7 * (k : Int) + 7 ≤ w 16 9 → 0 ≤ S 485 k ∧ S 485 k ≤ 999 := h.2
theorem WW.c {w w' : hI} {rc rc' : hI} {S S' : hI}  (h : WW w rc S) (e0 : rc' 7 = rc 7) (e1 : S' 480 = S 480) (e2 : S' 481 = S 481) (e3 : S' 482 = S 482) (e4 : S' 483 = S 483) (e5 : S' 484 = S 484) (e6 : S' 485 = S 485) (e7 : S' 486 = S 486) (e8 : w' 16 9 = w 16 9) : WW w' rc' S' := by
  unfold WW at h ⊢
  have q3 : ∀ i : Nat, i < 6 → S' (480 + i) = S (480 + i) := fun i hi => by
    rcases (show i = 0 ∨ i = 1 ∨ i = 2 ∨ i = 3 ∨ i = 4 ∨ i = 5 by omega) with rfl | rfl | rfl | rfl | rfl | rfl <;> assumption
  simp only [e0, e1, e2, e3, e4, e5, e6, e7, e8]
  refine ⟨fun k i hk hi => ?_, h.2⟩
  rw [q3 i hi]
  exact h.1 k i hk hi
def WX (w : hI) (rc : hI) (S : hI) : Prop := (0 ≤ w 16 14) ∧ (w 16 14 ≤ 12) ∧ (S 400 5 = w 16 14) ∧ (∀ x : Nat, (x : Int) < w 16 14 → S 600 x = rc 9 x ∧ S 601 x = rc 10 x ∧ S 602 x = rc 11 x ∧ 0 ≤ rc 10 x ∧ rc 10 x ≤ 1000 ∧ 0 ≤ rc 11 x ∧ rc 11 x ≤ 1000) ∧ (∀ x : Nat, (x : Int) < w 16 14 → 0 ≤ S 603 x ∧ S 603 x ≤ 120) ∧ (∀ x i : Nat, (x : Int) < w 16 14 → (i : Int) < S 603 x → 0 ≤ S (604 + i) x ∧ S (604 + i) x ≤ 255) ∧ (∀ x : Nat, (x : Int) < w 16 14 → pOK (xby S x) (S 603 x).toNat (rc 9 x) (rc 12 x) (rc 13 x) (fun i => rc 14 (120 * x + i)))
theorem WX.xn1 {w : hI} {rc : hI} {S : hI} (h : WX w rc S) : 0 ≤ w 16 14 := h.1
theorem WX.xn2 {w : hI} {rc : hI} {S : hI} (h : WX w rc S) : w 16 14 ≤ 12 := h.2.1
theorem WX.xn3 {w : hI} {rc : hI} {S : hI} (h : WX w rc S) : S 400 5 = w 16 14 := h.2.2.1
theorem WX.xx {w : hI} {rc : hI} {S : hI} (h : WX w rc S) : ∀ x : Nat, (x : Int) < w 16 14 → S 600 x = rc 9 x ∧ S 601 x = rc 10 x ∧ S 602 x = rc 11 x ∧ 0 ≤ rc 10 x ∧ rc 10 x ≤ 1000 ∧ 0 ≤ rc 11 x ∧ rc 11 x ≤ 1000 := h.2.2.2.1
theorem WX.xl {w : hI} {rc : hI} {S : hI} (h : WX w rc S) : ∀ x : Nat, (x : Int) < w 16 14 → 0 ≤ S 603 x ∧ S 603 x ≤ 120 := h.2.2.2.2.1
theorem WX.xb {w : hI} {rc : hI} {S : hI} (h : WX w rc S) : ∀ x i : Nat, (x : Int) < w 16 14 → (i : Int) < S 603 x → 0 ≤ S (604 + i) x ∧ S (604 + i) x ≤ 255 := h.2.2.2.2.2.1
theorem WX.xp {w : hI} {rc : hI} {S : hI} (h : WX w rc S) : ∀ x : Nat, (x : Int) < w 16 14 → pOK (xby S x) (S 603 x).toNat (rc 9 x) (rc 12 x) (rc 13 x) (fun i => rc 14 (120 * x + i)) := h.2.2.2.2.2.2
theorem WX.c {w w' : hI} {rc rc' : hI} {S S' : hI}  (h : WX w rc S) (e0 : rc' 9 = rc 9) (e1 : rc' 10 = rc 10) (e2 : rc' 11 = rc 11) (e3 : rc' 12 = rc 12) (e4 : rc' 13 = rc 13) (e5 : rc' 14 = rc 14) (e6 : w' 16 14 = w 16 14) (e7 : S' 400 5 = S 400 5) (eS : ∀ k, 600 ≤ k → k < 724 → S' k = S k) : WX w' rc' S' := by
  unfold WX at h ⊢
  simp only [e0, e1, e2, e3, e4, e5, e6, e7, eS 600 (by omega) (by omega), eS 601 (by omega) (by omega), eS 602 (by omega) (by omega), eS 603 (by omega) (by omega)]
  refine ⟨h.1, h.2.1, h.2.2.1, h.2.2.2.1, h.2.2.2.2.1, fun x i hx hi => ?_, fun x hx => ?_⟩
  · rw [eS (604 + i) (by omega) (by have := (h.2.2.2.2.1 x hx).2; omega)]
    exact h.2.2.2.2.2.1 x i hx hi
  · have e : xby S' x = xby S x := funext fun i => by
      unfold xby
      split
      · rw [eS (604 + i) (by omega) (by omega)]
      · rfl
    rw [e]
    exact h.2.2.2.2.2.2 x hx
def WG (w : hI) (K : Int) : Prop := (∀ h : Nat, (h : Int) < w 19 11 → 0 ≤ w 22 h) ∧ (sm (w 19 11).toNat (w 22) ≤ K)
theorem WG.gn {w : hI} {K : Int} (h : WG w K) : ∀ h : Nat, (h : Int) < w 19 11 → 0 ≤ w 22 h := h.1
theorem WG.gs {w : hI} {K : Int} (h : WG w K) : sm (w 19 11).toNat (w 22) ≤ K := h.2
theorem WG.c {w w' : hI} {K : Int} (h : WG w K) (e0 : w' 22 = w 22) (e1 : w' 19 11 = w 19 11) : WG w' K := by
  unfold WG at h ⊢
  simp only [e0, e1]
  exact h
/-! THE WHOLE OF IT -/
def WR (w rc S : hI) (K D : Int) : Prop := WL w S ∧ WH w S ∧ WN w rc S ∧ WP w S D ∧ WT w S ∧ WS w S ∧ WD w S D ∧ WW w rc S ∧ WX w rc S ∧ WG w K ∧ WI w rc S
def MON (w w' : hI) : Prop := w 55 7 ≤ w' 55 7 ∧ (∀ c : Nat, (c : Int) < w 55 7 → w 59 c ≤ w' 59 c) ∧ w 55 12 ≤ w' 55 12 ∧ w 16 9 ≤ w' 16 9 ∧ w 16 14 ≤ w' 16 14
def AGR (w rc rc' : hI) : Prop := (∀ c : Nat, (c : Int) < w 55 7 → rc' 2 c = rc 2 c ∧ ∀ i : Nat, (i : Int) < w 59 c → rc' 3 (8 * c + i) = rc 3 (8 * c + i)) ∧ (∀ i : Nat, i < 60 → (i : Int) < w 55 12 → rc' 4 i = rc 4 i ∧ rc' 5 i = rc 5 i ∧ rc' 6 i = rc 6 i) ∧ (∀ k i : Nat, 7 * (k : Int) + 7 ≤ w 16 9 → i < 6 → rc' 7 (6 * k + i) = rc 7 (6 * k + i)) ∧ (∀ x : Nat, (x : Int) < w 16 14 → rc' 9 x = rc 9 x ∧ rc' 10 x = rc 10 x ∧ rc' 11 x = rc 11 x ∧ rc' 12 x = rc 12 x ∧ rc' 13 x = rc 13 x ∧ ∀ i : Nat, i < 120 → rc' 14 (120 * x + i) = rc 14 (120 * x + i))
def SX (A0 A : hI) : Prop := (∀ k : Nat, k < 2 ∨ (8 ≤ k ∧ k < 15) ∨ 62 ≤ k → A k = A0 k) ∧ A 16 14 = A0 16 14 ∧ MON A0 A ∧ AGR A0 A0 A
def SB (B0 B : hI) : Prop := (∀ k : Nat, k = 306 ∨ k = 311 ∨ (315 ≤ k ∧ k < 318) ∨ k = 350 ∨ k = 469 ∨ 1000 ≤ k → B k = B0 k) ∧ B 304 9 = B0 304 9 ∧ B 304 24 = B0 304 24 ∧ B 304 29 = B0 304 29 ∧ B 304 30 = B0 304 30
def RR (K D : Int) (A0 B0 A B : hI) : Prop := WR A A B K D ∧ SX A0 A ∧ SB B0 B
theorem MON.rf (w : hI) : MON w w := ⟨Int.le_refl _, fun _ _ => Int.le_refl _, Int.le_refl _, Int.le_refl _, Int.le_refl _⟩
theorem MON.tr {a b c : hI} (h : MON a b) (g : MON b c) : MON a c := by
  obtain ⟨h1, h2, h3, h4, h5⟩ := h
  obtain ⟨g1, g2, g3, g4, g5⟩ := g
  refine ⟨by omega, fun k hk => ?_, by omega, by omega, by omega⟩
  have := h2 k hk
  have := g2 k (by omega)
  omega
theorem AGR.rf (w rc : hI) : AGR w rc rc := ⟨fun _ _ => ⟨rfl, fun _ _ => rfl⟩, fun _ _ _ => ⟨rfl, rfl, rfl⟩, fun _ _ _ _ => rfl, fun _ _ => ⟨rfl, rfl, rfl, rfl, rfl, fun _ _ => rfl⟩⟩
/-- what holds ahead of the later counts holds ahead of the earlier ones -/
theorem AGR.lo {w w' a b : hI} (m : MON w w') (h : AGR w' a b) : AGR w a b := by
  obtain ⟨m1, m2, m3, m4, m5⟩ := m
  obtain ⟨h1, h2, h3, h4⟩ := h
  refine ⟨fun c hc => ⟨(h1 c (by omega)).1, fun i hi => (h1 c (by omega)).2 i (by have := m2 c hc; omega)⟩, fun i hi hj => h2 i hi (by omega), fun k i hk hi => h3 k i (by omega) hi, fun x hx => h4 x (by omega)⟩
theorem AGR.tr {w a b c : hI} (h : AGR w a b) (g : AGR w b c) : AGR w a c := by
  obtain ⟨h1, h2, h3, h4⟩ := h
  obtain ⟨g1, g2, g3, g4⟩ := g
  refine ⟨fun k hk => ⟨(g1 k hk).1.trans (h1 k hk).1, fun i hi => ((g1 k hk).2 i hi).trans ((h1 k hk).2 i hi)⟩, fun i hi hj => ?_, fun k i hk hi => (g3 k i hk hi).trans (h3 k i hk hi), fun x hx => ?_⟩
  · obtain ⟨a1, a2, a3⟩ := h2 i hi hj
    obtain ⟨b1, b2, b3⟩ := g2 i hi hj
    exact ⟨b1.trans a1, b2.trans a2, b3.trans a3⟩
  · obtain ⟨a1, a2, a3, a4, a5, a6⟩ := h4 x hx
    obtain ⟨b1, b2, b3, b4, b5, b6⟩ := g4 x hx
    exact ⟨b1.trans a1, b2.trans a2, b3.trans a3, b4.trans a4, b5.trans a5, fun i hi => (b6 i hi).trans (a6 i hi)⟩
theorem SX.rf (A : hI) : SX A A := ⟨fun _ _ => rfl, rfl, MON.rf A, AGR.rf A A⟩
theorem SX.tr {a b c : hI} (h : SX a b) (g : SX b c) : SX a c := by
  obtain ⟨h1, h2, h3, h4⟩ := h
  obtain ⟨g1, g2, g3, g4⟩ := g
  exact ⟨fun k hk => (g1 k hk).trans (h1 k hk), g2.trans h2, h3.tr g3, h4.tr (g4.lo h3)⟩
/-- no row that lasts, and no count of them, is touched -/
theorem SX.st {A A' : hI} (h : ∀ k : Nat, k < 15 ∨ 62 ≤ k → A' k = A k) (h1 : A' 16 9 = A 16 9) (h2 : A' 16 14 = A 16 14) (h3 : A' 55 7 = A 55 7) (h4 : A' 55 12 = A 55 12) (h5 : ∀ c : Nat, (c : Int) < A 55 7 → A' 59 c = A 59 c) : SX A A' := by
  refine ⟨fun k hk => h k (by omega), h2, ⟨by omega, fun c hc => by rw [h5 c hc]; exact Int.le_refl _, by omega, by omega, by omega⟩, ?_⟩
  unfold AGR
  rw [h 2 (by omega), h 3 (by omega), h 4 (by omega), h 5 (by omega), h 6 (by omega), h 7 (by omega), h 9 (by omega), h 10 (by omega), h 11 (by omega), h 12 (by omega), h 13 (by omega), h 14 (by omega)]
  exact AGR.rf A A
theorem SB.rf (B : hI) : SB B B := ⟨fun _ _ => rfl, rfl, rfl, rfl, rfl⟩
theorem SB.tr {a b c : hI} (h : SB a b) (g : SB b c) : SB a c := by
  obtain ⟨h1, h2, h3, h4, h5⟩ := h
  obtain ⟨g1, g2, g3, g4, g5⟩ := g
  exact ⟨fun k hk => (g1 k hk).trans (h1 k hk), g2.trans h2, g3.trans h3, g4.trans h4, g5.trans h5⟩
theorem SB.st {B B' : hI} (h : ∀ k : Nat, k = 304 ∨ k = 306 ∨ k = 311 ∨ (315 ≤ k ∧ k < 318) ∨ k = 350 ∨ k = 469 ∨ 1000 ≤ k → B' k = B k) : SB B B' := by
  refine ⟨fun k hk => h k (by omega), ?_, ?_, ?_, ?_⟩ <;> rw [h 304 (by omega)]
section RRS
variable {K D : Int} {A0 B0 A B A' B' w rc S : hI}
theorem WR.gL (h : WR w rc S K D) : WL w S := h.1
theorem WR.gH (h : WR w rc S K D) : WH w S := h.2.1
theorem WR.gN (h : WR w rc S K D) : WN w rc S := h.2.2.1
theorem WR.gP (h : WR w rc S K D) : WP w S D := h.2.2.2.1
theorem WR.gT (h : WR w rc S K D) : WT w S := h.2.2.2.2.1
theorem WR.gS (h : WR w rc S K D) : WS w S := h.2.2.2.2.2.1
theorem WR.gD (h : WR w rc S K D) : WD w S D := h.2.2.2.2.2.2.1
theorem WR.gW (h : WR w rc S K D) : WW w rc S := h.2.2.2.2.2.2.2.1
theorem WR.gX (h : WR w rc S K D) : WX w rc S := h.2.2.2.2.2.2.2.2.1
theorem WR.gG (h : WR w rc S K D) : WG w K := h.2.2.2.2.2.2.2.2.2.1
theorem WR.gI (h : WR w rc S K D) : WI w rc S := h.2.2.2.2.2.2.2.2.2.2
theorem RR.wr (h : RR K D A0 B0 A B) : WR A A B K D := h.1
theorem RR.gL (h : RR K D A0 B0 A B) : WL A B := h.1.gL
theorem RR.gH (h : RR K D A0 B0 A B) : WH A B := h.1.gH
theorem RR.gN (h : RR K D A0 B0 A B) : WN A A B := h.1.gN
theorem RR.gP (h : RR K D A0 B0 A B) : WP A B D := h.1.gP
theorem RR.gT (h : RR K D A0 B0 A B) : WT A B := h.1.gT
theorem RR.gS (h : RR K D A0 B0 A B) : WS A B := h.1.gS
theorem RR.gD (h : RR K D A0 B0 A B) : WD A B D := h.1.gD
theorem RR.gW (h : RR K D A0 B0 A B) : WW A A B := h.1.gW
theorem RR.gX (h : RR K D A0 B0 A B) : WX A A B := h.1.gX
theorem RR.gG (h : RR K D A0 B0 A B) : WG A K := h.1.gG
theorem RR.gI (h : RR K D A0 B0 A B) : WI A A B := h.1.gI
theorem RR.sx (h : RR K D A0 B0 A B) : SX A0 A := h.2.1
theorem RR.sb (h : RR K D A0 B0 A B) : SB B0 B := h.2.2
theorem RR.k {K' : Int} (h : RR K D A0 B0 A B) (hk : K ≤ K') : RR K' D A0 B0 A B := by
  obtain ⟨⟨h1, h2, h3, h4, h5, h6, h7, h8, h9, h10, h11⟩, hs⟩ := h
  exact ⟨⟨h1, h2, h3, h4, h5, h6, h7, h8, h9, ⟨h10.1, Int.le_trans h10.2 hk⟩, h11⟩, hs⟩
/-- what neither looks at again -/
theorem RR.xA (h : RR K D A0 B0 A B) (e : ∀ k : Nat, k ≠ 15 → k ≠ 45 → k ≠ 54 → A' k = A k) : RR K D A0 B0 A' B := by
  obtain ⟨⟨h1, h2, h3, h4, h5, h6, h7, h8, h9, h10, h11⟩, hx, hb⟩ := h
  have q : ∀ k : Nat, k ≠ 15 ∧ k ≠ 45 ∧ k ≠ 54 → A' k = A k := fun k hk => e k hk.1 hk.2.1 hk.2.2
  refine ⟨⟨?_, ?_, ?_, ?_, ?_, ?_, ?_, ?_, ?_, ?_, ?_⟩, hx.tr (SX.st (fun k hk => q k (by omega)) (by rw [q 16 (by omega)]) (by rw [q 16 (by omega)]) (by rw [q 55 (by omega)]) (by rw [q 55 (by omega)]) (fun c _ => by rw [q 59 (by omega)])), hb⟩
  · refine h1.c ?_ ?_ ?_ ?_ ?_ ?_ ?_ ?_ <;> first | rfl | (rw [q _ (by omega)])
  · apply h2.c <;> first | rfl | (rw [q _ (by omega)])
  · apply h3.c <;> first | rfl | (rw [q _ (by omega)])
  · apply h4.c <;> first | rfl | (rw [q _ (by omega)])
  · apply h5.c <;> first | rfl | (rw [q _ (by omega)])
  · apply h6.c <;> first | rfl | (rw [q _ (by omega)])
  · apply h7.c <;> first | rfl | (rw [q _ (by omega)])
  · apply h8.c <;> first | rfl | (rw [q _ (by omega)])
  · apply h9.c <;> first | rfl | (rw [q _ (by omega)]) | (intro k _ _; rfl)
  · apply h10.c <;> first | rfl | (rw [q _ (by omega)])
  · apply h11.c <;> first | rfl | (rw [q _ (by omega)])
theorem RR.xB (h : RR K D A0 B0 A B) (e : ∀ k : Nat, k ≠ 307 → k ≠ 308 → k ≠ 309 → k ≠ 310 → k ≠ 312 → k ≠ 399 → k ≠ 304 → B' k = B k) (e1 : B' 304 9 = B 304 9) (e2 : B' 304 24 = B 304 24) (e3 : B' 304 29 = B 304 29) (e4 : B' 304 30 = B 304 30) : RR K D A0 B0 A B' := by
  obtain ⟨⟨h1, h2, h3, h4, h5, h6, h7, h8, h9, h10, h11⟩, hx, hb⟩ := h
  have q : ∀ k : Nat, (k < 304 ∨ 400 ≤ k ∨ k = 306 ∨ k = 311 ∨ (315 ≤ k ∧ k < 318) ∨ k = 350) → B' k = B k := fun k hk => e k (by omega) (by omega) (by omega) (by omega) (by omega) (by omega) (by omega)
  refine ⟨⟨?_, ?_, ?_, ?_, ?_, ?_, ?_, ?_, ?_, ?_, ?_⟩, hx, hb.tr ⟨fun k hk => q k (by omega), e1, e2, e3, e4⟩⟩
  · apply h1.c <;> first | rfl | (rw [q _ (by omega)])
  · apply h2.c <;> first | rfl | (rw [q _ (by omega)])
  · apply h3.c <;> first | rfl | (rw [q _ (by omega)])
  · apply h4.c <;> first | rfl | (rw [q _ (by omega)])
  · apply h5.c <;> first | rfl | (rw [q _ (by omega)])
  · apply h6.c <;> first | rfl | (rw [q _ (by omega)])
  · apply h7.c <;> first | rfl | (rw [q _ (by omega)])
  · apply h8.c <;> first | rfl | (rw [q _ (by omega)])
  · apply h9.c <;> first | rfl | (rw [q _ (by omega)]) | (intro k _ _; exact q k (by omega))
  · exact h10
  · apply h11.c <;> first | rfl | (rw [q _ (by omega)])
end RRS
