theorem ldWV {S S1 : wSt} {a n : Int} (hR : RI S) (a0 : 0 ≤ a) (a1 : a < 8) (q : S1 30 0 14 = S 46 0 a) (h : ∀ j, 0 ≤ j → j < S 46 0 a → S1 53 0 j = S 45 0 (100 * a + j)) (hn : n = S 30 0 0) : WV (S1 53 0) (S1 30 0 14) n := fun j j0 j1 => by
  rw [q] at j1
  rw [h j j0 j1, hn]
  exact hR.lt a j a0 a1 j0 j1
theorem lmWV {S S1 : wSt} {a n : Int} (hR : RI S) (hw : WV (S 53 0) (S 30 0 14) (S 30 0 0)) (a0 : 0 ≤ a) (a1 : a < 8) (q : S1 30 0 14 = S 30 0 14 + S 46 0 a) (h2 : ∀ j, 0 ≤ j → j < S 30 0 14 → S1 53 0 j = S 53 0 j) (h : ∀ j, 0 ≤ j → j < S 46 0 a → S1 53 0 (S 30 0 14 + j) = S 45 0 (100 * a + j)) (hn : n = S 30 0 0) : WV (S1 53 0) (S1 30 0 14) n := fun j j0 j1 => by
  rw [q] at j1
  subst hn
  by_cases e : j < S 30 0 14
  · rw [h2 j j0 e]; exact hw j j0 e
  · have h5 := h (j - S 30 0 14) (by omega) (by omega)
    rw [show S 30 0 14 + (j - S 30 0 14) = j by omega] at h5
    rw [h5]
    exact hR.lt a _ a0 a1 (by omega) (by omega)
theorem lbWV {S S1 : wSt} {a n : Int} (hR : RI S) (a0 : 0 ≤ a) (a1 : a < 8) (q : S1 30 0 14 = S 46 0 a) (h : ∀ j, 0 ≤ j → j < S 46 0 a → S1 53 0 j = S 45 0 (100 * a + (S 46 0 a - 1 - j))) (hn : n = S 30 0 0) : WV (S1 53 0) (S1 30 0 14) n := fun j j0 j1 => by
  rw [q] at j1
  rw [h j j0 j1, hn]
  exact hR.lt a _ a0 a1 (by omega) (by omega)
def mAt (i j x y : Int) : Int := if i = j then 1 else if x * y = 0 then 2 else if x * y = 1 then 3 else if x * y = 2 then 4 else if x * y = 3 then 6 else 0
theorem mAt_r (i j x y : Int) : 0 ≤ mAt i j x y ∧ mAt i j x y ≤ 6 := by unfold mAt; (repeat' split) <;> omega
theorem mt_mul {S : wSt} (hR : RI S) {i j : Int} (i0 : 0 ≤ i) (i1 : i < 6) (j0 : 0 ≤ j) (j1 : j < 6) : 0 ≤ S 42 0 (6 * i + j) * S 42 0 (6 * j + i) ∧ S 42 0 (6 * i + j) * S 42 0 (6 * j + i) ≤ 4 := ⟨Int.mul_nonneg (hR.mt i j i0 i1 j0 j1).1 (hR.mt j i j0 j1 i0 i1).1, hR.set.2.2.2.2.2 i j i0 i1 j0 j1⟩
