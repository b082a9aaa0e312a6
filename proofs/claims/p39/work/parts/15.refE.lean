def fE (k : Nat) (i j : Int) : Prop := k = 46
def fK (k : Nat) (i j : Int) : Prop := k = 43 ∨ k = 46 ∨ (k = 30 ∧ j = 4)
def fM (k : Nat) (i j : Int) : Prop := k = 41 ∨ k = 42 ∨ k = 43 ∨ k = 46 ∨ (k = 30 ∧ (j = 0 ∨ j = 4))
