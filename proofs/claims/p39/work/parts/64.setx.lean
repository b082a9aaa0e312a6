section
/-! the sets that the law makes -/
def mS (s n : Int) : Int := if s = 3 then 2 else if s = 4 then 4 else if s = 5 then 6 else n
def chS (s m : Int) : Int := if s = 2 then m - 1 else if s = 5 then 5 else m
def cxS (s m k : Int) : Int := if s = 3 then 3 else if s = 1 ∧ k + 2 = m then 2 else if s = 4 ∧ k = 1 then 2 else 1
def PS (s m k i j : Int) : Int := if j = i + 1 ∧ 0 ≤ i ∧ i < k then cxS s m i else if i = j + 1 ∧ 0 ≤ j ∧ j < k then 1 else 0
def QS (s m i j : Int) : Int := if s = 2 ∧ 2 < m ∧ ((i = m - 3 ∧ j = m - 1) ∨ (i = m - 1 ∧ j = m - 3)) then 1 else PS s m (chS s m - 1) i j
def MS (s m i j : Int) : Int := if s = 5 ∧ ((i = 2 ∧ j = 5) ∨ (i = 5 ∧ j = 2)) then 1 else QS s m i j
/-- sort and number of mirrors -/
def OkS (s m : Int) : Prop := (0 ≤ s ∧ s ≤ 5) ∧ (1 ≤ m ∧ m ≤ 6) ∧ (s = 0 ∨ s = 1 → m ≤ 5) ∧ (s = 2 → 3 ≤ m ∧ m ≤ 5) ∧ (s = 3 → m = 2) ∧ (s = 4 → m = 4) ∧ (s = 5 → m = 6)
theorem OkS.of {s n : Int} (hs : 0 ≤ s ∧ s ≤ 5) (hn : 1 ≤ n ∧ n ≤ 5) (h2 : s = 2 → 3 ≤ n) : OkS s (mS s n) := by
  unfold OkS mS
  split
  · omega
  · split
    · omega
    · split <;> omega
def idL (m : Nat) : List Nat := List.range m
def tbS (s m : Nat) : Nat × List Nat × List Nat := match s, m with
  | 0, 1 => (0, [0], [1]) | 0, 2 => (1, [0, 1], [1, 1]) | 0, 3 => (4, [0, 1, 2], [1, 1, 1]) | 0, 4 => (7, [0, 1, 2, 3], [1, 1, 1, 1]) | 0, 5 => (12, [0, 1, 2, 3, 4], [1, 1, 1, 1, 1])
  | 1, 1 => (0, [0], [1]) | 1, 2 => (2, [1, 0], [1, 2]) | 1, 3 => (6, [0, 1, 2], [1, 1, 2]) | 1, 4 => (9, [0, 1, 2, 3], [1, 1, 1, 2]) | 1, 5 => (14, [0, 1, 2, 3, 4], [1, 1, 1, 1, 2])
  | 2, 3 => (4, [1, 0, 2], [1, 1, 1]) | 2, 4 => (10, [0, 1, 2, 3], [1, 1, 1, 1]) | 2, 5 => (15, [0, 1, 2, 3, 4], [1, 1, 1, 1, 1])
  | 3, _ => (3, [1, 0], [1, 3]) | 4, _ => (11, [0, 1, 2, 3], [1, 1, 2, 2]) | _, _ => (20, [0, 1, 2, 3, 4, 5], [1, 1, 1, 1, 1, 1])
def setB (s m : Nat) : Bool :=
  let q := tbS s m
  let p : Nat → Nat := fun a => q.2.1.getD a 0
  let d : Nat → Int := fun a => (q.2.2.getD a 0 : Int)
  Nat.blt q.1 21 && (Nat.beq (tyK q.1) m && (allN m (fun a => Nat.blt (p a) m) && (allN m (fun i => anyN m (fun a => Nat.beq (p a) i)) && (allN m (fun a => allN m (fun b => Nat.beq a b || !Nat.beq (p a) (p b))) && (allN m (fun a => allN m (fun b => decide (MS s m (p a) (p b) = tyM q.1 a b))) && (allN m (fun i => decide (0 < d i)) && allN m (fun i => allN m (fun j => decide (d i * MS s m i j = d j * MS s m j i)))))))))
def okB (s m : Nat) : Bool := Nat.ble 1 m && (bif Nat.ble s 1 then Nat.ble m 5 else bif Nat.beq s 2 then Nat.ble 3 m && Nat.ble m 5 else bif Nat.beq s 3 then Nat.beq m 2 else bif Nat.beq s 4 then Nat.beq m 4 else Nat.beq m 6)
theorem set_ok : allN 6 (fun s => allN 7 (fun m => !okB s m || setB s m)) = true := by decide +kernel
theorem okB_of {s m : Nat} (h : OkS (s : Int) (m : Int)) : okB s m = true := by
  obtain ⟨h1, h2, h3, h4, h5, h6, h7⟩ := h
  have hs : s < 6 := by omega
  have hm : m < 7 := by omega
  have h8 : 1 ≤ m := by omega
  rcases (show s = 0 ∨ s = 1 ∨ s = 2 ∨ s = 3 ∨ s = 4 ∨ s = 5 by omega) with rfl | rfl | rfl | rfl | rfl | rfl
  · have : m ≤ 5 := by have := h3 (Or.inl rfl); omega
    rcases (show m = 1 ∨ m = 2 ∨ m = 3 ∨ m = 4 ∨ m = 5 by omega) with rfl | rfl | rfl | rfl | rfl <;> rfl
  · have : m ≤ 5 := by have := h3 (Or.inr rfl); omega
    rcases (show m = 1 ∨ m = 2 ∨ m = 3 ∨ m = 4 ∨ m = 5 by omega) with rfl | rfl | rfl | rfl | rfl <;> rfl
  · have := h4 rfl
    rcases (show m = 3 ∨ m = 4 ∨ m = 5 by omega) with rfl | rfl | rfl <;> rfl
  · have := h5 rfl
    obtain rfl : m = 2 := by omega
    rfl
  · have := h6 rfl
    obtain rfl : m = 4 := by omega
    rfl
  · have := h7 rfl
    obtain rfl : m = 6 := by omega
    rfl
/-- such a set ends, and its numbers can be evened out -/
theorem set_end {s m : Int} (h : OkS s m) {M : Nat → Nat → Int} {n : Nat} (hn : (n : Int) = m) (hM : ∀ i j : Nat, i < n → j < n → M i j = MS s m (i : Int) (j : Int)) (hz : ∀ i, i < n → M i i = 0) : ∃ (d : Nat → Int) (L : List (Nat → Int)), Evn d M n ∧ EndL M n L := by
  have hs : ((s.toNat : Nat) : Int) = s := Int.toNat_of_nonneg h.1.1
  have hb := allN_e (allN_e set_ok s.toNat (by have := h.1; omega)) n (by have := h.2.1; omega)
  rw [okB_of (by rw [hs, hn]; exact h)] at hb
  simp only [Bool.not_true, Bool.false_or, setB, Bool.and_eq_true] at hb
  obtain ⟨b1, b2, b3, b4, b5, b6, b7, b8⟩ := hb
  rw [hs, hn] at b6 b8
  have hk : tyK (tbS s.toNat n).1 = n := Nat.beq_eq.mp b2
  have hI : Iso M n (tbS s.toNat n).1 (fun a => (tbS s.toNat n).2.1.getD a 0) := by
    refine ⟨Nat.blt_eq.mp b1, ?_, ?_, ?_⟩
    · rw [hk]
      exact fun a ha => Nat.blt_eq.mp (allN_e b3 a ha)
    · rw [hk]
      intro a b ha hb e
      have := allN_e (allN_e b5 a ha) b hb
      simp only [Bool.or_eq_true, Bool.not_eq_true'] at this
      rcases this with q | q
      · exact Nat.beq_eq.mp q
      · have e : (tbS s.toNat n).2.1.getD a 0 = (tbS s.toNat n).2.1.getD b 0 := e
        rw [e, Nat.beq_refl] at q
        cases q
    · rw [hk]
      intro a b ha hb
      show M _ _ = _
      rw [hM _ _ (Nat.blt_eq.mp (allN_e b3 a ha)) (Nat.blt_eq.mp (allN_e b3 b hb))]
      exact of_decide_eq_true (allN_e (allN_e b6 a ha) b hb)
  refine ⟨fun a => ((tbS s.toNat n).2.2.getD a 0 : Int), _, ⟨fun i hi => of_decide_eq_true (allN_e b7 i hi), fun i j hi hj => ?_⟩, endl_iso hI hz (fun i hi => ?_)⟩
  · rw [hM i j hi hj, hM j i hj hi]
    exact of_decide_eq_true (allN_e (allN_e b8 i hi) j hj)
  · rw [hk]
    obtain ⟨a, ha, q⟩ := anyN_e (allN_e b4 i hi)
    exact ⟨a, ha, Nat.beq_eq.mp q⟩
/-- the class, with m mirrors, their numbers N, and no word -/
def SX (m : Int) (N : Int → Int → Int) (S : wSt) : Prop := CI S ∧ cSl S = eW ∧ ∃ x, AC S x ∧ x.1.1 = m ∧ ∀ i j, 0 ≤ i → i < m → 0 ≤ j → j < m → x.1.2.2 i j = N i j
theorem SX.mir {m r : Int} {S S' : wSt} (h : SX m (fun _ _ => 0) S) (hm : 0 ≤ m ∧ m < 6) (h1 : CI S') (h2 : cSl S' = if 0 ≤ r then eW else cSl S) (h3 : ∀ x, AC S x → AC S' (aMirror 0 x) ∧ r = rMirror 0 x) : SX (m + 1) (fun _ _ => 0) S' ∧ r = m := by
  obtain ⟨-, g2, x, g3, g4, g5⟩ := h
  obtain ⟨k1, k2⟩ := h3 x g3
  have e1 : aMirror 0 x = ((x.1.1 + 1, fun i => if i = x.1.1 then 0 else x.1.2.1 i, fun i j => if i = x.1.1 ∨ j = x.1.1 then 0 else x.1.2.2 i j), aKeep x) := by
    unfold aMirror
    rw [if_pos (by omega), if_neg (by omega)]
  refine ⟨⟨h1, ?_, aMirror 0 x, k1, ?_, fun i j i0 i1 j0 j1 => ?_⟩, ?_⟩
  · rw [h2]
    split
    · rfl
    · exact g2
  · rw [e1]
    show x.1.1 + 1 = m + 1
    omega
  · rw [e1]
    show (if i = x.1.1 ∨ j = x.1.1 then (0 : Int) else x.1.2.2 i j) = 0
    split
    · rfl
    · exact g5 i j i0 (by omega) j0 (by omega)
  · rw [k2]
    unfold rMirror
    rw [if_pos (by omega), if_neg (by omega), g4]
theorem SX.mee {m r i j x : Int} {S S' : wSt} {N : Int → Int → Int} (h : SX m N S) (hi : 0 ≤ i ∧ i < m) (hj : 0 ≤ j ∧ j < m) (hij : i ≠ j) (hx : 1 ≤ x ∧ x ≤ 4) (h1 : CI S') (h2 : cSl S' = if 0 ≤ r then eW else cSl S) (h3 : ∀ z, AC S z → AC S' (aMeet i j x 1 z) ∧ r = rMeet i j x 1 z) : SX m (fun p q => if p = i ∧ q = j then x else if p = j ∧ q = i then 1 else N p q) S' ∧ r = mAt i j x 1 := by
  obtain ⟨-, g2, z, g3, g4, g5⟩ := h
  obtain ⟨k1, k2⟩ := h3 z g3
  have ho : oMeet i j x 1 z.1.1 := ⟨⟨by omega, by omega⟩, hij, by omega, by omega, by omega⟩
  have e1 : aMeet i j x 1 z = ((z.1.1, z.1.2.1, fun p q => if p = i ∧ q = j then x else if p = j ∧ q = i then 1 else z.1.2.2 p q), aKeep z) := if_pos ho
  refine ⟨⟨h1, ?_, aMeet i j x 1 z, k1, ?_, fun p q p0 p1 q0 q1 => ?_⟩, ?_⟩
  · rw [h2]
    split
    · rfl
    · exact g2
  · rw [e1]
    exact g4
  · rw [e1]
    show (if p = i ∧ q = j then x else if p = j ∧ q = i then 1 else z.1.2.2 p q) = _
    rw [g5 p q p0 p1 q0 q1]
  · rw [k2]
    exact if_pos ho
theorem SX.cg {m : Int} {S : wSt} {N N' : Int → Int → Int} (h : SX m N S) (e : ∀ i j, 0 ≤ i → i < m → 0 ≤ j → j < m → N i j = N' i j) : SX m N' S := by
  obtain ⟨g1, g2, x, g3, g4, g5⟩ := h
  exact ⟨g1, g2, x, g3, g4, fun i j a b c d => (g5 i j a b c d).trans (e i j a b c d)⟩
theorem SX.end' {s m : Int} {S : wSt} (h : SX m (MS s m) S) (hs : OkS s m) : (kn S : Int) = m ∧ ∃ (d : Nat → Int) (L : List (Nat → Int)), Evn d (kM S) (kn S) ∧ EndL (kM S) (kn S) L := by
  obtain ⟨g1, -, x, g3, g4, g5⟩ := h
  have hn := g1.n
  have e0 : S 3 16 2 = m := g3.1.1.trans g4
  have hk : (kn S : Int) = m := by unfold kn; omega
  refine ⟨hk, set_end hs hk (fun i j hi hj => ?_) (fun i _ => g1.mB.1 i)⟩
  rw [kM_in hi hj]
  have h1 := g3.1.2.2 (i : Int) (j : Int) (by omega) (by omega) (by omega) (by omega)
  rw [g5 _ _ (by omega) (by omega) (by omega) (by omega)] at h1
  exact h1
theorem cxS_r (s m k : Int) : 1 ≤ cxS s m k ∧ cxS s m k ≤ 3 := by
  unfold cxS
  split
  · omega
  · split
    · omega
    · split <;> omega
theorem mAt_x {i j x : Int} (hij : i ≠ j) (hx : 1 ≤ x ∧ x ≤ 3) : mAt i j x 1 = if x = 1 then 3 else if x = 2 then 4 else 6 := by
  rcases (show x = 1 ∨ x = 2 ∨ x = 3 by omega) with rfl | rfl | rfl
  · unfold mAt; simp [hij]
  · unfold mAt; simp [hij]
  · unfold mAt; simp [hij]
theorem PS_0 (s m : Int) (i j : Int) : PS s m 0 i j = 0 := by
  unfold PS
  rw [if_neg (by omega), if_neg (by omega)]
theorem PS_s {s m k : Int} (k0 : 0 ≤ k) (p q : Int) : (if p = k ∧ q = k + 1 then cxS s m k else if p = k + 1 ∧ q = k then 1 else PS s m k p q) = PS s m (k + 1) p q := by
  unfold PS
  repeat' split
  all_goals first | rfl | (exfalso; omega) | (congr 1; omega)
end
