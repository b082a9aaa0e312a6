def fO (k : Nat) (i j : Int) : Prop := k = 55
def fT (k : Nat) (i j : Int) : Prop := k = 55 ∨ (k = 30 ∧ j = 16)
theorem WV.del {f f' : Int → Int} {m k n : Int} (h : WV f m n) (h1 : ∀ j, 0 ≤ j → j < k → f' j = f j) (h2 : ∀ j, k ≤ j → j < m - 1 → f' j = f (j + 1)) (hk : 0 ≤ k) : WV f' (m - 1) n := fun j j0 j1 => by
  by_cases e : j < k
  · rw [h1 j j0 e]; exact h j j0 (by omega)
  · rw [h2 j (by omega) j1]; exact h (j + 1) (by omega) (by omega)
theorem WV.add {f f' : Int → Int} {m n : Int} (h : WV f m n) (ho : ∀ j, j ≠ m → f' j = f j) (hv : 0 ≤ f' m ∧ f' m < n) : WV f' (m + 1) n := ext_p (fun _ z => 0 ≤ z ∧ z < n) h ho hv
theorem WV.eq {f f' : Int → Int} {m m' n n' : Int} (h : WV f m n) (hf : ∀ j, 0 ≤ j → j < m → f' j = f j) (hm : m' = m) (hn : n' = n) : WV f' m' n' := fun j j0 j1 => by
  subst hm hn
  rw [hf j j0 j1]; exact h j j0 j1
def fG (k : Nat) (i j : Int) : Prop := k = 47 ∨ (k = 30 ∧ j = 8)
def fS (k : Nat) (i j : Int) : Prop := k = 55 ∨ k = 47 ∨ (k = 30 ∧ (j = 16 ∨ j = 8))
def fF (k : Nat) (i j : Int) : Prop := k = 55 ∨ k = 47 ∨ k = 49 ∨ (k = 30 ∧ (j = 16 ∨ j = 8 ∨ j = 10))
