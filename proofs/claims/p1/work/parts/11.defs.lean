/-! what the calls answer on a new object -/
def o8 (a : Int) : Prop := 0 ≤ a ∧ a < 8
def q_mirror (a : Int) : Int := if 0 ≤ a ∧ a < 3 then 0 else -1
def q_told (a : Int) : Int := if a = 3 then 0 else -1
def q_1 (a : Int) : Int := if 0 ≤ a ∧ a < 8 then 0 else -1
def q_1o (a : Int) : Int := if 0 ≤ a ∧ a < 8 then 1 else -1
def q_2 (a b : Int) : Int := if (0 ≤ a ∧ a < 8) ∧ (0 ≤ b ∧ b < 8) then 0 else -1
def q_2o (a b : Int) : Int := if (0 ≤ a ∧ a < 8) ∧ (0 ≤ b ∧ b < 8) then 1 else -1
def q_3 (a b c : Int) : Int := if (0 ≤ a ∧ a < 8) ∧ (0 ≤ b ∧ b < 8) ∧ (0 ≤ c ∧ c < 8) then 0 else -1
def q_word (a b c : Int) : Int := if (0 ≤ a ∧ a < 8) ∧ (0 ≤ b ∧ b < 4) ∧ (0 ≤ c ∧ c < 3) then -11 else -1
def q_at (a k : Int) : Int := if (0 ≤ a ∧ a < 8) ∧ k = -1 then 0 else -1
def q_roots (h : Int) : Int := if 1 ≤ h ∧ h ≤ 40 then 0 else -1
def q_forms (n : Int) : Int := if n = 0 then 1 else if 0 ≤ n ∧ n ≤ 12 then 0 else -1
def q_next (n i a : Int) : Int := if n = 0 ∧ i = 0 ∧ 0 ≤ a ∧ a < 8 then 0 else -1
def q_parts (a c d : Int) : Int := if ((0 ≤ a ∧ a < 8) ∧ (0 ≤ c ∧ c < 8) ∧ (0 ≤ d ∧ d < 8)) ∧ c ≠ d then 0 else -1
def q_leaf (l a n : Int) : Int := if (0 ≤ l ∧ l < 4) ∧ (0 ≤ a ∧ a < 3) ∧ n ≤ 40 then (if n < 0 then -14 else n) else -1
def q_drop (l : Int) : Int := if 0 ≤ l ∧ l < 4 then -11 else -1
def q_item (l a : Int) : Int := if (0 ≤ l ∧ l < 4) ∧ (0 ≤ a ∧ a < 3) then -11 else -1
def q_copy (l a : Int) : Int := if (0 ≤ l ∧ l < 4) ∧ (0 ≤ a ∧ a < 4) then -11 else -1
/-- the reference is new -/
def nM (S : wSt) : Prop := S 30 0 0 = 0 ∧ S 30 0 4 = 0 ∧ (∀ j, 0 ≤ j → j < 8 → S 46 0 j = 0) ∧ (∀ j, 0 ≤ j → j < 4 → S 69 0 j = -1)
