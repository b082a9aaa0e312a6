/-! leaves: lane (-1: none), length, items -/
abbrev aL : Type := (Int → Int) × (Int → Int) × (Int → Int → Int)
def LR (S : wSt) (y : aL) : Prop := ∀ l, 0 ≤ l → l < 4 → S 69 0 l = y.1 l ∧ S 70 0 l = y.2.1 l ∧ ∀ j, 0 ≤ j → j < 40 → S 71 0 (40 * l + j) = y.2.2 l j
abbrev oLeaf (l a n : Int) : Prop := (0 ≤ l ∧ l < 4) ∧ (0 ≤ a ∧ a < 3) ∧ n ≤ 40
def aLeaf (l a n : Int) (y : aL) : aL := if oLeaf l a n ∧ 0 ≤ n then (fun p => if p = l then a else y.1 p, fun p => if p = l then n else y.2.1 p, fun p j => if p = l then 0 else y.2.2 p j) else y
def rLeaf (l a n : Int) (_ : aL) : Int := if oLeaf l a n then (if n < 0 then -14 else n) else -1
def aDrop (l : Int) (y : aL) : aL := if (0 ≤ l ∧ l < 4) ∧ 0 ≤ y.1 l then (fun p => if p = l then -1 else y.1 p, y.2) else y
def rDrop (l : Int) (y : aL) : Int := if 0 ≤ l ∧ l < 4 then (if y.1 l < 0 then -11 else y.2.1 l) else -1
def vItem (a v : Int) : Int := if a = 0 then i_b v else if a = 1 then ni v else v
def aItem (l a i v : Int) (y : aL) : aL := if ((0 ≤ l ∧ l < 4) ∧ 0 ≤ a ∧ a < 3) ∧ y.1 l = a ∧ 0 ≤ i ∧ i < y.2.1 l then (y.1, y.2.1, fun p j => if p = l ∧ j = i then vItem a v else y.2.2 p j) else y
def rItem (l a i : Int) (y : aL) : Int := if (0 ≤ l ∧ l < 4) ∧ 0 ≤ a ∧ a < 3 then (if y.1 l < 0 then -11 else if y.1 l = a then (if 0 ≤ i ∧ i < y.2.1 l then 1 else -13) else -12) else -1
abbrev oCopy (f i t j n : Int) (y : aL) : Prop := ((0 ≤ f ∧ f < 4) ∧ 0 ≤ t ∧ t < 4) ∧ (0 ≤ y.1 f ∧ 0 ≤ y.1 t) ∧ y.1 f = y.1 t ∧ 0 ≤ n ∧ (0 ≤ i ∧ i + n ≤ y.2.1 f) ∧ 0 ≤ j ∧ j + n ≤ y.2.1 t
def aCopy (f i t j n : Int) (y : aL) : aL := if oCopy f i t j n y then (y.1, y.2.1, fun p q => if p = t ∧ j ≤ q ∧ q < j + n then y.2.2 f (i + (q - j)) else y.2.2 p q) else y
def rCopy (f i t j n : Int) (y : aL) : Int := if (0 ≤ f ∧ f < 4) ∧ 0 ≤ t ∧ t < 4 then (if y.1 f < 0 ∨ y.1 t < 0 then -11 else if y.1 f = y.1 t then (if 0 ≤ n ∧ (0 ≤ i ∧ i + n ≤ y.2.1 f) ∧ 0 ≤ j ∧ j + n ≤ y.2.1 t then n else -13) else -12) else -1
noncomputable def rWord (a b c d e n : Int) (y : aL) : Int := if (0 ≤ a ∧ a < 8) ∧ (0 ≤ b ∧ b < 4) ∧ 0 ≤ c ∧ c < 3 then (if y.1 b < 0 then -11 else if y.1 b = c then (if e < 0 then -14 else if 0 ≤ d ∧ d + e ≤ y.2.1 b then bz (∀ j, 0 ≤ j → j < e → 0 ≤ y.2.2 b (d + j) ∧ y.2.2 b (d + j) < n) * (e + 1) - 1 else -13) else -12) else -1
def tL (k : Nat) (_ _j : Int) : Prop := k = 69 ∨ k = 70 ∨ k = 71 ∨ k = 72
theorem RI.lf {S S' : wSt} (h : RI S) (f : Fr tL S S') (h1 : ∀ l, 0 ≤ l → l < 4 → -1 ≤ S' 69 0 l ∧ S' 69 0 l ≤ 2) (h2 : ∀ l, 0 ≤ l → l < 4 → 0 ≤ S' 70 0 l ∧ S' 70 0 l ≤ 40) (h3 : ∀ j, 0 ≤ j → j < 160 → -9223372036854775808 ≤ S' 71 0 j ∧ S' 71 0 j ≤ 9223372036854775807) : RI S' := by
  have e (k : Nat) (hk : ¬ tL k 0 0) : S' k 0 = S k 0 := funext fun j => f k 0 j hk
  obtain ⟨g1, g2, g3, g4, g5, -, -, -⟩ := h
  unfold RI
  rw [e 30 (by unfold tL; omega), e 41 (by unfold tL; omega), e 42 (by unfold tL; omega), e 43 (by unfold tL; omega), e 45 (by unfold tL; omega), e 46 (by unfold tL; omega)]
  exact ⟨g1, g2, g3, g4, g5, h1, h2, h3⟩
theorem AR.fr {S S' : wSt} {x : aS} (h : AR S x) (e0 : S' 30 0 0 = S 30 0 0) (e4 : S' 30 0 4 = S 30 0 4) (e41 : ∀ j, S' 41 0 j = S 41 0 j) (e42 : ∀ j, S' 42 0 j = S 42 0 j) (e43 : ∀ j, S' 43 0 j = S 43 0 j) : AR S' x := by
  unfold AR
  rw [e0, e4, funext e41, funext e42, funext e43]
  exact h
theorem LR.fr {S S' : wSt} {y : aL} (h : LR S y) (e69 : ∀ j, S' 69 0 j = S 69 0 j) (e70 : ∀ j, S' 70 0 j = S 70 0 j) (e71 : ∀ j, S' 71 0 j = S 71 0 j) : LR S' y := by
  unfold LR
  rw [funext e69, funext e70, funext e71]
  exact h
