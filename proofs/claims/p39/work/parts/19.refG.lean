def fC (k : Nat) (i j : Int) : Prop := k = 58 ∨ k = 59 ∨ (k = 30 ∧ j = 20)
def fR (k : Nat) (i j : Int) : Prop := k = 55 ∨ k = 58 ∨ k = 59 ∨ (k = 30 ∧ (j = 16 ∨ j = 20 ∨ j = 21))
def fB (k : Nat) (i j : Int) : Prop := k = 62 ∨ (k = 30 ∧ j = 23)
def fD (k : Nat) (i j : Int) : Prop := k = 62 ∨ k = 64 ∨ (k = 30 ∧ j = 23)
def hsum (S : wSt) (x : Int) : Int := sm x.toNat (fun k => S 55 0 (k : Int))
theorem mul_rg8 {x y : Int} (hx : -8 ≤ x ∧ x ≤ 8) (hy : 0 ≤ y ∧ y ≤ 4) : -32 ≤ x * y ∧ x * y ≤ 32 := by
  have h : y = 0 ∨ y = 1 ∨ y = 2 ∨ y = 3 ∨ y = 4 := by omega
  rcases h with rfl | rfl | rfl | rfl | rfl <;> omega
theorem NoB_eq {S W : wSt} (h : NoB (mxz (S 42 0)) (S 30 0 0).toNat) (e42 : ∀ j, W 42 0 j = S 42 0 j) (e0 : W 30 0 0 = S 30 0 0) : NoB (mxz (W 42 0)) (W 30 0 0).toNat := by
  rw [e0, show W 42 0 = S 42 0 from funext e42]
  exact h
def fI (k : Nat) (i j : Int) : Prop := k = 55 ∨ k = 47 ∨ k = 49 ∨ (k = 30 ∧ (j = 16 ∨ j = 8 ∨ j = 10))
def fQ (k : Nat) (i j : Int) : Prop := k = 55 ∨ k = 47 ∨ k = 49 ∨ k = 53 ∨ k = 65 ∨ k = 67 ∨ (k = 30 ∧ (j = 16 ∨ j = 8 ∨ j = 10 ∨ j = 14 ∨ j = 26))
/-- letters of the first many rows of twelve, so many of each, are mirrors -/
def FV (f : Int → Int) (many len n : Int) : Prop := ∀ i k, 0 ≤ i → i < many → 0 ≤ k → k < len → 0 ≤ f (12 * i + k) ∧ f (12 * i + k) < n
theorem FV.eq {f f' : Int → Int} {many len n : Int} (h : FV f many len n) (hf : ∀ j, f' j = f j) : FV f' many len n := fun i k a b c d => by rw [hf]; exact h i k a b c d
