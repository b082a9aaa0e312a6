/-- where each cell comes to lie, the object first -/
def of_ (k : Nat) (i : Int) : Nat := match k with
  | 1 => if i < 8 then 82 + 2 * i.toNat else if i = 8 then 68 else if i = 9 then 70 else if i = 10 then 72 else 58
  | 2 => if i < 8 then 83 + 2 * i.toNat else if i = 8 then 69 else if i = 9 then 71 else if i = 10 then 73 else 59
  | 3 => if i = 16 then 1 else 6 + 3 * i.toNat
  | 4 => if i = 16 then 2 else 7 + 3 * i.toNat
  | 5 => if i = 16 then 3 else 8 + 3 * i.toNat
  | 6 => 98 + 2 * i.toNat
  | 7 => 99 + 2 * i.toNat
  | 24 => 76 + i.toNat
  | 0 => 0
  | 8 => 4
  | 9 => 5
  | 10 => 56
  | 11 => 57
  | 12 => 60
  | 13 => 61
  | 14 => 62
  | 15 => 63
  | 16 => 64
  | 17 => 65
  | 18 => 66
  | 19 => 67
  | 20 => 54
  | 21 => 55
  | 22 => 74
  | 23 => 75
  | 30 => 106
  | 41 => 107
  | 42 => 108
  | 43 => 109
  | 45 => 110
  | 46 => 111
  | 47 => 112
  | 49 => 113
  | 51 => 114
  | 53 => 115
  | 55 => 116
  | 57 => 117
  | 58 => 118
  | 59 => 119
  | 62 => 120
  | 64 => 121
  | 65 => 122
  | 67 => 123
  | 68 => 124
  | 69 => 125
  | 70 => 126
  | 71 => 127
  | 72 => 128
  | _ => 0
def adX (h : Nat) (k : Nat) (i : Int) : Nat := h + of_ k i
def iv_ : List (Nat × Int) := [(0, 0), (3, 16), (4, 16), (5, 16), (8, 0), (9, 0), (3, 0), (4, 0), (5, 0), (3, 1), (4, 1), (5, 1), (3, 2), (4, 2), (5, 2), (3, 3), (4, 3), (5, 3), (3, 4), (4, 4), (5, 4), (3, 5), (4, 5), (5, 5), (3, 6), (4, 6), (5, 6), (3, 7), (4, 7), (5, 7), (3, 8), (4, 8), (5, 8), (3, 9), (4, 9), (5, 9), (3, 10), (4, 10), (5, 10), (3, 11), (4, 11), (5, 11), (3, 12), (4, 12), (5, 12), (3, 13), (4, 13), (5, 13), (3, 14), (4, 14), (5, 14), (3, 15), (4, 15), (5, 15), (20, 0), (21, 0), (10, 0), (11, 0), (1, 11), (2, 11), (12, 0), (13, 0), (14, 0), (15, 0), (16, 0), (17, 0), (18, 0), (19, 0), (1, 8), (2, 8), (1, 9), (2, 9), (1, 10), (2, 10), (22, 0), (23, 0), (24, 0), (24, 1), (24, 2), (24, 3), (24, 4), (24, 5), (1, 0), (2, 0), (1, 1), (2, 1), (1, 2), (2, 2), (1, 3), (2, 3), (1, 4), (2, 4), (1, 5), (2, 5), (1, 6), (2, 6), (1, 7), (2, 7), (6, 0), (7, 0), (6, 1), (7, 1), (6, 2), (7, 2), (6, 3), (7, 3), (30, 0), (41, 0), (42, 0), (43, 0), (45, 0), (46, 0), (47, 0), (49, 0), (51, 0), (53, 0), (55, 0), (57, 0), (58, 0), (59, 0), (62, 0), (64, 0), (65, 0), (67, 0), (68, 0), (69, 0), (70, 0), (71, 0), (72, 0)]
theorem of_iv : ∀ k, k < 73 → ∀ i : Nat, i < 17 → (i : Int) < cn k → iv_[of_ k (i : Int)]? = some (k, (i : Int)) := by decide +kernel
theorem cn_big : ∀ k, k < 73 → cn k ≤ 17 := by decide +kernel
theorem cn_zz (k : Nat) (h : 73 ≤ k) : cn k = 0 := by
  unfold cn
  split <;> first | omega | rfl
theorem wD_adX {g : wG} {h : Nat} (hg : g.2.2 = adX h) : wD g := by
  intro k i k' i' h0 h1 h0' h1' e
  have hk : k < 73 := by
    rcases Nat.lt_or_ge k 73 with q | q
    · exact q
    · rw [cn_zz k q] at h1; omega
  have hk' : k' < 73 := by
    rcases Nat.lt_or_ge k' 73 with q | q
    · exact q
    · rw [cn_zz k' q] at h1'; omega
  have hi := cn_big k hk
  have hi' := cn_big k' hk'
  have e1 := of_iv k hk i.toNat (by omega) (by omega)
  have e2 := of_iv k' hk' i'.toNat (by omega) (by omega)
  rw [Int.toNat_of_nonneg h0] at e1
  rw [Int.toNat_of_nonneg h0'] at e2
  rw [hg] at e
  have e3 : of_ k i = of_ k' i' := by unfold adX at e; omega
  rw [e3, e2] at e1
  have := Option.some.inj e1
  exact ⟨(congrArg Prod.fst this).symm, (congrArg Prod.snd this).symm⟩
def S0_ : wSt := fun k _ j => if k = 18 ∧ j = 0 then 1 else if k = 69 ∧ 0 ≤ j ∧ j < 4 then -1 else 0
/-- the cells of new objects -/
def czf (g : wG) (k : Nat) (i : Int) : va_E := cx g k i (S0_ k i)
section KU
variable {E : wE} {g : wG} {nL : Nat} {ce : Nat → Int → va_E} {N cells slots : Nat} {pc : Nat} {lv : List (Nat × Value)} {st : List Value}
theorem kc_N {N' c' s' : Nat} (h : N = N') (hc : cells = c') (hs : slots = s') (kk : Wc E g nL ce N' c' s' pc lv st) : Wc E g nL ce N cells slots pc lv st := by subst h; subst hc; subst hs; exact kk
theorem kc_un {k : Nat} {i : Int} (e : va_E) (h : N ≤ g.2.2 k i) (kk : Wc E g nL (upE ce k i e) N cells slots pc lv st) : Wc E g nL ce N cells slots pc lv st := by
  refine kc_ce (fun k' i' H h0 h1 h2 h3 => ?_) kk
  rw [upE_n _ _ (fun q => by rw [q.1, q.2] at h2; omega)]
  exact h3
theorem upE_cm (ce : Nat → Int → va_E) {k k' : Nat} {i i' : Int} (e e' : va_E) (h : ¬ (k' = k ∧ i' = i)) : upE (upE ce k i e) k' i' e' = upE (upE ce k' i' e') k i e := by
  funext k9 i9
  simp only [upE]
  by_cases q1 : k9 = k' ∧ i9 = i'
  · rw [if_pos q1]
    rw [if_neg (fun q => h ⟨q1.1.symm.trans q.1, q1.2.symm.trans q.2⟩), if_pos q1]
  · rw [if_neg q1]
    by_cases q2 : k9 = k ∧ i9 = i
    · rw [if_pos q2, if_pos q2]
    · rw [if_neg q2, if_neg q2, if_neg q1]
end KU

