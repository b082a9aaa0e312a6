def fW (k : Nat) (i j : Int) : Prop := k = 55 ∨ k = 47 ∨ k = 49 ∨ k = 53 ∨ (k = 30 ∧ (j = 16 ∨ j = 8 ∨ j = 10 ∨ j = 14))
def fL (k : Nat) (i j : Int) : Prop := k = 53 ∨ (k = 30 ∧ j = 14)
def fX (k : Nat) (i j : Int) : Prop := k = 51 ∨ (k = 30 ∧ j = 12)
def fV (k : Nat) (i j : Int) : Prop := k = 45 ∨ k = 46
/-- the words of W are words of S's set -/
def WdO (n : Int) (W : wSt) : Prop := (∀ s, 0 ≤ s → s < 8 → 0 ≤ W 46 0 s ∧ W 46 0 s ≤ 100) ∧ (∀ s k, 0 ≤ s → s < 8 → 0 ≤ k → k < W 46 0 s → 0 ≤ W 45 0 (100 * s + k) ∧ W 45 0 (100 * s + k) < n)
theorem RI.wdo {S : wSt} (h : RI S) : WdO (S 30 0 0) S := ⟨h.ln, h.lt⟩
theorem RI.wd {S S' : wSt} (h : RI S) (f : Fr fV S S') (hw : WdO (S 30 0 0) S') : RI S' := by
  have e0 : S' 30 0 0 = S 30 0 0 := f 30 0 0 (by unfold fV; omega)
  have e4 : S' 30 0 4 = S 30 0 4 := f 30 0 4 (by unfold fV; omega)
  have e41 : S' 41 0 = S 41 0 := funext fun j => f 41 0 j (by unfold fV; omega)
  have e42 : S' 42 0 = S 42 0 := funext fun j => f 42 0 j (by unfold fV; omega)
  have e43 : S' 43 0 = S 43 0 := funext fun j => f 43 0 j (by unfold fV; omega)
  have e69 : S' 69 0 = S 69 0 := funext fun j => f 69 0 j (by unfold fV; omega)
  have e70 : S' 70 0 = S 70 0 := funext fun j => f 70 0 j (by unfold fV; omega)
  have e71 : S' 71 0 = S 71 0 := funext fun j => f 71 0 j (by unfold fV; omega)
  obtain ⟨h1, h2, h3, -, -, h6, h7, h8⟩ := h
  unfold RI
  rw [e0, e4, e41, e42, e43, e69, e70, e71]
  exact ⟨h1, h2, h3, hw.1, hw.2, h6, h7, h8⟩
theorem fV_tW {S S' : wSt} (h : Fr fV S S') : Fr tW S S' := h.mono (fun k i j q => by unfold fV at q; unfold tW; omega)
/-- one letter, or the length, of a slot's word is set -/
theorem WdO.let {n : Int} {W W' : wSt} (h : WdO n W) {p : Int} (e46 : ∀ s, W' 46 0 s = W 46 0 s) (ho : ∀ j, j ≠ p → W' 45 0 j = W 45 0 j) (hv : 0 ≤ W' 45 0 p ∧ W' 45 0 p < n) : WdO n W' := ⟨fun s a b => by rw [e46]; exact h.1 s a b, fun s k a b c d => by
  rw [e46] at d
  by_cases e : 100 * s + k = p
  · rw [e]; exact hv
  · rw [ho _ e]; exact h.2 s k a b c d⟩
theorem WdO.len {n : Int} {W W' : wSt} (h : WdO n W) {a : Int} (e45 : ∀ j, W' 45 0 j = W 45 0 j) (ho : ∀ s, s ≠ a → W' 46 0 s = W 46 0 s) (h1 : 0 ≤ W' 46 0 a ∧ W' 46 0 a ≤ 100) (hv : ∀ k, 0 ≤ k → k < W' 46 0 a → 0 ≤ W 45 0 (100 * a + k) ∧ W 45 0 (100 * a + k) < n) : WdO n W' := ⟨fun s p q => by
  by_cases e : s = a
  · rw [e]; exact h1
  · rw [ho s e]; exact h.1 s p q, fun s k p q c d => by
  rw [e45]
  by_cases e : s = a
  · rw [e] at d ⊢; exact hv k c d
  · rw [ho s e] at d; exact h.2 s k p q c d⟩
