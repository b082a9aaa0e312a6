/-! what the calls do to the set, the earlier sets and the leaves, apart from how a side keeps them -/
abbrev aT : Type := Int × (Int → Int) × (Int → Int → Int)
abbrev aS : Type := aT × Int × (Int → aT)
/-- a set as a row of kinds and a table of numbers give it -/
def setR (n : Int) (kd mt : Int → Int) (x : aT) : Prop := n = x.1 ∧ (∀ i, 0 ≤ i → i < x.1 → kd i = x.2.1 i) ∧ ∀ i j, 0 ≤ i → i < x.1 → 0 ≤ j → j < x.1 → mt (6 * i + j) = x.2.2 i j
theorem setR.congr {n n' : Int} {kd kd' mt mt' : Int → Int} {x : aT} (h : setR n kd mt x) (hx : n ≤ 6) (hn : n' = n) (hk : ∀ i, 0 ≤ i → i < 6 → kd' i = kd i) (hm : ∀ j, 0 ≤ j → j < 36 → mt' j = mt j) : setR n' kd' mt' x := by
  obtain ⟨h0, h1, h2⟩ := h
  subst hn
  exact ⟨h0, fun i a b => by rw [hk i a (by omega)]; exact h1 i a b, fun i j a b c d => by rw [hm _ (by omega) (by omega)]; exact h2 i j a b c d⟩
def aKeep (x : aS) : Int × (Int → aT) := (if x.2.1 = 16 then 16 else x.2.1 + 1, fun t => if t = 0 then x.1 else x.2.2 (t - 1))
def aMirror (k : Int) (x : aS) : aS := if 0 ≤ k ∧ k ≤ 2 then (if x.1.1 = 6 then x else ((x.1.1 + 1, fun i => if i = x.1.1 then k else x.1.2.1 i, fun i j => if i = x.1.1 ∨ j = x.1.1 then 0 else x.1.2.2 i j), aKeep x)) else x
def rMirror (k : Int) (x : aS) : Int := if 0 ≤ k ∧ k ≤ 2 then (if x.1.1 = 6 then -3 else x.1.1) else -1
abbrev oMeet (i j x y n : Int) : Prop := ((0 ≤ i ∧ i < n) ∧ (0 ≤ j ∧ j < n)) ∧ i ≠ j ∧ (0 ≤ x ∧ 0 ≤ y) ∧ (x = 0 ↔ y = 0) ∧ x * y ≤ 4
def aMeet (i j x y : Int) (s : aS) : aS := if oMeet i j x y s.1.1 then ((s.1.1, s.1.2.1, fun p q => if p = i ∧ q = j then x else if p = j ∧ q = i then y else s.1.2.2 p q), aKeep s) else s
def rMeet (i j x y : Int) (s : aS) : Int := if oMeet i j x y s.1.1 then mAt i j x y else -1
def aLess (x : aS) : aS := if x.1.1 = 0 then x else ((x.1.1 - 1, x.1.2), aKeep x)
def rLess (x : aS) : Int := if x.1.1 = 0 then -2 else x.1.1 - 1
def aKind (i k : Int) (x : aS) : aS := if (0 ≤ i ∧ i < x.1.1) ∧ 0 ≤ k ∧ k ≤ 2 then ((x.1.1, fun p => if p = i then k else x.1.2.1 p, x.1.2.2), x.2) else x
def rKind (i k : Int) (x : aS) : Int := if (0 ≤ i ∧ i < x.1.1) ∧ 0 ≤ k ∧ k ≤ 2 then x.1.2.1 i else -1
def aUndo (x : aS) : aS := if x.2.1 = 0 then x else (x.2.2 0, x.2.1 - 1, fun t => x.2.2 (t + 1))
def rUndo (x : aS) : Int := if x.2.1 = 0 then -2 else x.2.1 - 1
def rTold (w i j : Int) (x : aS) : Int := if w = 3 then x.1.1 else if (0 ≤ w ∧ w ≤ 2) ∧ (0 ≤ i ∧ i < x.1.1) ∧ (0 < w → 0 ≤ j ∧ j < x.1.1) then (if w = 0 then x.1.2.1 i else if w = 1 then (if i = j then 0 else x.1.2.2 i j) else mAt i j (x.1.2.2 i j) (x.1.2.2 j i)) else -1
/-- the reference keeps x -/
def AR (S : wSt) (x : aS) : Prop := setR (S 30 0 0) (S 41 0) (S 42 0) x.1 ∧ S 30 0 4 = x.2.1 ∧ ∀ t, 0 ≤ t → t < x.2.1 → setR (S 43 0 (43 * (x.2.1 - 1 - t))) (fun j => S 43 0 (43 * (x.2.1 - 1 - t) + 1 + j)) (fun j => S 43 0 (43 * (x.2.1 - 1 - t) + 7 + j)) (x.2.2 t)
/-- the set is kept, and no word is left -/
def KpR (S S' : wSt) : Prop := (S' 30 0 4 = if S 30 0 4 = 16 then 16 else S 30 0 4 + 1) ∧ (∀ s, 0 ≤ s → s < 8 → S' 46 0 s = 0) ∧ (∀ q j, 0 ≤ q → q < S' 30 0 4 - 1 → 0 ≤ j → j < 43 → S' 43 0 (43 * q + j) = S 43 0 (43 * (q + (if S 30 0 4 = 16 then 1 else 0)) + j)) ∧ S' 43 0 (43 * (S' 30 0 4 - 1)) = S 30 0 0 ∧ (∀ j, 0 ≤ j → j < 6 → S' 43 0 (43 * (S' 30 0 4 - 1) + 1 + j) = S 41 0 j) ∧ ∀ j, 0 ≤ j → j < 36 → S' 43 0 (43 * (S' 30 0 4 - 1) + 7 + j) = S 42 0 j
theorem KpR.tr {S S1 S' : wSt} (h : KpR S S1) (e43 : ∀ j, S' 43 0 j = S1 43 0 j) (e46 : ∀ j, S' 46 0 j = S1 46 0 j) (e4 : S' 30 0 4 = S1 30 0 4) : KpR S S' := by
  obtain ⟨h1, h2, h3, h4, h5, h6⟩ := h
  unfold KpR
  rw [e4]
  exact ⟨h1, fun s a b => by rw [e46]; exact h2 s a b, fun q j a b c d => by rw [e43]; exact h3 q j a b c d, by rw [e43]; exact h4, fun j a b => by rw [e43]; exact h5 j a b, fun j a b => by rw [e43]; exact h6 j a b⟩
def tS (k : Nat) (_ _j : Int) : Prop := 30 ≤ k ∧ k ≠ 69 ∧ k ≠ 70 ∧ k ≠ 71
theorem KpR.ri {S S' : wSt} (h : KpR S S') (hR : RI S) (hs : sOK (S' 30 0 0) (S' 41 0) (S' 42 0)) (hf : Fr tS S S') : RI S' := by
  obtain ⟨h1, h2, h3, h4, h5, h6⟩ := h
  have e69 : S' 69 0 = S 69 0 := funext fun j => hf 69 0 j (by unfold tS; omega)
  have e70 : S' 70 0 = S 70 0 := funext fun j => hf 70 0 j (by unfold tS; omega)
  have e71 : S' 71 0 = S 71 0 := funext fun j => hf 71 0 j (by unfold tS; omega)
  have hc := hR.c
  have hk := hR.kp
  obtain ⟨C, hC⟩ : ∃ C, C = S' 30 0 4 := ⟨_, rfl⟩
  rw [← hC] at h1 h3 h4 h5 h6
  refine ⟨hs, by rw [← hC, h1]; split <;> omega, fun q q0 q1 => ?_, fun s a b => by rw [h2 s a b]; omega, fun s k a b c d => by rw [h2 s a b] at d; omega, by rw [e69]; exact hR.la, by rw [e70]; exact hR.sz, by rw [e71]; exact hR.it⟩
  rw [← hC] at q1
  by_cases e : q = C - 1
  · subst e
    exact hR.set.congr h4 h5 h6
  · have hq := hk (q + (if S 30 0 4 = 16 then 1 else 0)) (by split <;> omega) (by split at h1 <;> split <;> omega)
    refine hq.congr ?_ (fun i a b => ?_) (fun j a b => ?_)
    · have := h3 q 0 q0 (by omega) (by omega) (by omega)
      rw [Int.add_zero, Int.add_zero] at this
      exact this
    · have := h3 q (1 + i) q0 (by omega) (by omega) (by omega)
      rw [← Int.add_assoc, ← Int.add_assoc] at this
      exact this
    · have := h3 q (7 + j) q0 (by omega) (by omega) (by omega)
      rw [← Int.add_assoc, ← Int.add_assoc] at this
      exact this
theorem KpR.ar {S S' : wSt} (h : KpR S S') (hR : RI S) {x : aS} (hx : AR S x) {y : aT} (hy : setR (S' 30 0 0) (S' 41 0) (S' 42 0) y) : AR S' (y, aKeep x) := by
  obtain ⟨h1, -, h3, h4, h5, h6⟩ := h
  obtain ⟨hx1, hx2, hx3⟩ := hx
  have hc := hR.c
  have hn := hR.n
  have hC : S' 30 0 4 = (aKeep x).1 := by rw [h1, hx2]; rfl
  have hC2 : (aKeep x).1 = if x.2.1 = 16 then 16 else x.2.1 + 1 := rfl
  refine ⟨hy, hC, fun t t0 t1 => ?_⟩
  show setR (S' 43 0 (43 * ((aKeep x).1 - 1 - t))) (fun j => S' 43 0 (43 * ((aKeep x).1 - 1 - t) + 1 + j)) (fun j => S' 43 0 (43 * ((aKeep x).1 - 1 - t) + 7 + j)) ((aKeep x).2 t)
  have t1 : t < (aKeep x).1 := t1
  generalize hG : (aKeep x).1 = C at *
  rw [hC] at h3 h4 h5 h6
  have hk : (aKeep x).2 t = if t = 0 then x.1 else x.2.2 (t - 1) := rfl
  rw [hk]
  by_cases e : t = 0
  · subst e
    rw [if_pos rfl, show C - 1 - 0 = C - 1 by omega]
    exact hx1.congr hn.2 h4 h5 h6
  · rw [if_neg e]
    have hq := hx3 (t - 1) (by omega) (by split at hC2 <;> omega)
    have eD : x.2.1 - 1 - (t - 1) = C - 1 - t + (if S 30 0 4 = 16 then 1 else 0) := by
      rw [hx2]
      split at hC2
      · rename_i e16; rw [if_pos e16]; omega
      · rename_i e16; rw [if_neg e16]; omega
    rw [eD] at hq
    have hkk := hR.kp (C - 1 - t + (if S 30 0 4 = 16 then 1 else 0)) (by split <;> omega) (by rw [← eD, hx2]; omega)
    refine hq.congr hkk.1.2 ?_ (fun i a b => ?_) (fun j a b => ?_)
    · have := h3 (C - 1 - t) 0 (by omega) (by omega) (by omega) (by omega)
      rw [Int.add_zero, Int.add_zero] at this
      exact this
    · have := h3 (C - 1 - t) (1 + i) (by omega) (by omega) (by omega) (by omega)
      rw [← Int.add_assoc, ← Int.add_assoc] at this
      exact this
    · have := h3 (C - 1 - t) (7 + j) (by omega) (by omega) (by omega) (by omega)
      rw [← Int.add_assoc, ← Int.add_assoc] at this
      exact this
theorem mul_rng {c d : Int} (c0 : 0 ≤ c) (d0 : 0 ≤ d) (c1 : c ≤ 2147483647) (d1 : d ≤ 2147483647) : 0 ≤ c * d ∧ c * d ≤ 4611686014132420609 := ⟨Int.mul_nonneg c0 d0, by
  have h := Int.mul_le_mul c1 d1 d0 (by omega)
  omega⟩
theorem mul_big {c d : Int} (c0 : 1 ≤ c) (d0 : 1 ≤ d) (h : c * d ≤ 4) : c ≤ 4 ∧ d ≤ 4 := by
  have h1 := Int.mul_le_mul (Int.le_refl c) d0 (by omega) (by omega)
  have h2 := Int.mul_le_mul c0 (Int.le_refl d) (by omega) (by omega)
  omega
theorem sOK.mirror {n k : Int} {kd kd' mt mt' : Int → Int} (h : sOK n kd mt) (hn : n < 6) (k0 : 0 ≤ k ∧ k ≤ 2) (hk : kd' n = k) (hko : ∀ i, i ≠ n → kd' i = kd i) (hz : ∀ j, 0 ≤ j → j < 6 → mt' (6 * n + j) = 0 ∧ mt' (6 * j + n) = 0) (ho : ∀ i j, 0 ≤ i → i < 6 → 0 ≤ j → j < 6 → i ≠ n → j ≠ n → mt' (6 * i + j) = mt (6 * i + j)) : sOK (n + 1) kd' mt' := by
  obtain ⟨h0, h1, h2, h3, h4, h5⟩ := h
  have cs : ∀ i j, 0 ≤ i → i < 6 → 0 ≤ j → j < 6 → (mt' (6 * i + j) = 0 ∧ mt' (6 * j + i) = 0) ∨ (mt' (6 * i + j) = mt (6 * i + j) ∧ mt' (6 * j + i) = mt (6 * j + i)) := fun i j a b c d => by
    by_cases e : i = n
    · rw [e]; exact Or.inl (hz j c d)
    · by_cases e2 : j = n
      · rw [e2]; exact Or.inl ⟨(hz i a b).2, (hz i a b).1⟩
      · exact Or.inr ⟨ho i j a b c d e e2, ho j i c d a b e2 e⟩
  refine ⟨by omega, fun i a b => ?_, fun i j a b c d => ?_, fun i a b => ?_, fun i j a b c d z => ?_, fun i j a b c d => ?_⟩
  · by_cases e : i = n
    · rw [e, hk]; exact k0
    · rw [hko i e]; exact h1 i a b
  · rcases cs i j a b c d with q | q
    · rw [q.1]; omega
    · rw [q.1]; exact h2 i j a b c d
  · rcases cs i i a b a b with q | q
    · exact q.1
    · rw [q.1]; exact h3 i a b
  · rcases cs i j a b c d with q | q
    · exact q.2
    · rw [q.1] at z; rw [q.2]; exact h4 i j a b c d z
  · rcases cs i j a b c d with q | q
    · rw [q.1, q.2]; decide
    · rw [q.1, q.2]; exact h5 i j a b c d
theorem setR.mirror {n k : Int} {kd kd' mt mt' : Int → Int} {x : aT} (h : setR n kd mt x) (hn : n < 6) (hk : kd' n = k) (hko : ∀ i, i ≠ n → kd' i = kd i) (hz : ∀ j, 0 ≤ j → j < 6 → mt' (6 * n + j) = 0 ∧ mt' (6 * j + n) = 0) (ho : ∀ i j, 0 ≤ i → i < 6 → 0 ≤ j → j < 6 → i ≠ n → j ≠ n → mt' (6 * i + j) = mt (6 * i + j)) : setR (n + 1) kd' mt' (x.1 + 1, fun i => if i = x.1 then k else x.2.1 i, fun i j => if i = x.1 ∨ j = x.1 then 0 else x.2.2 i j) := by
  obtain ⟨h0, h1, h2⟩ := h
  subst h0
  refine ⟨rfl, fun i a b => ?_, fun i j a b c d => ?_⟩
  · show kd' i = if i = x.1 then k else x.2.1 i
    by_cases e : i = x.1
    · rw [if_pos e, e, hk]
    · rw [if_neg e, hko i e]; exact h1 i a (by have : i < x.1 + 1 := b; omega)
  · show mt' (6 * i + j) = if i = x.1 ∨ j = x.1 then 0 else x.2.2 i j
    have b : i < x.1 + 1 := b
    have d : j < x.1 + 1 := d
    by_cases e : i = x.1
    · rw [if_pos (Or.inl e), e]; exact (hz j c (by omega)).1
    · by_cases e2 : j = x.1
      · rw [if_pos (Or.inr e2), e2]; exact (hz i a (by omega)).2
      · rw [if_neg (by omega), ho i j a (by omega) c (by omega) e e2]; exact h2 i j a (by omega) c (by omega)
theorem sOK.meet {n i j x y : Int} {kd kd' mt mt' : Int → Int} (h : sOK n kd mt) (hi : 0 ≤ i ∧ i < n) (hj : 0 ≤ j ∧ j < n) (hne : i ≠ j) (hx : 0 ≤ x ∧ 0 ≤ y) (hz : x = 0 ↔ y = 0) (hp : x * y ≤ 4) (hk : ∀ p, kd' p = kd p) (h1 : mt' (6 * i + j) = x) (h2 : mt' (6 * j + i) = y) (ho : ∀ p, p ≠ 6 * i + j → p ≠ 6 * j + i → mt' p = mt p) : sOK n kd' mt' := by
  obtain ⟨g0, g1, g2, g3, g4, g5⟩ := h
  have hb : x ≤ 4 ∧ y ≤ 4 := by
    by_cases e : x = 0
    · have := hz.mp e; omega
    · have e2 : y ≠ 0 := fun q => e (hz.mpr q)
      exact mul_big (by omega) (by omega) hp
  refine ⟨g0, fun p a b => by rw [hk]; exact g1 p a b, fun p q a b c d => ?_, fun p a b => ?_, fun p q a b c d z => ?_, fun p q a b c d => ?_⟩
  · by_cases e : 6 * p + q = 6 * i + j
    · rw [e, h1]; omega
    · by_cases e2 : 6 * p + q = 6 * j + i
      · rw [e2, h2]; omega
      · rw [ho _ e e2]; exact g2 p q a b c d
  · rw [ho _ (by omega) (by omega)]; exact g3 p a b
  · by_cases e : p = i ∧ q = j
    · obtain ⟨rfl, rfl⟩ := e
      rw [h1] at z; rw [h2]; exact hz.mp z
    · by_cases e2 : p = j ∧ q = i
      · obtain ⟨rfl, rfl⟩ := e2
        rw [h2] at z; rw [h1]; exact hz.mpr z
      · rw [ho _ (by omega) (by omega)] at z ⊢; exact g4 p q a b c d z
  · by_cases e : p = i ∧ q = j
    · obtain ⟨rfl, rfl⟩ := e
      rw [h1, h2]; exact hp
    · by_cases e2 : p = j ∧ q = i
      · obtain ⟨rfl, rfl⟩ := e2
        rw [h1, h2, Int.mul_comm]; exact hp
      · rw [ho _ (by omega) (by omega), ho _ (by omega) (by omega)]; exact g5 p q a b c d
theorem setR.meet {n i j x y : Int} {kd kd' mt mt' : Int → Int} {s : aT} (h : setR n kd mt s) (hn : n ≤ 6) (hi : 0 ≤ i ∧ i < n) (hj : 0 ≤ j ∧ j < n) (hne : i ≠ j) (hk : ∀ p, kd' p = kd p) (h1 : mt' (6 * i + j) = x) (h2 : mt' (6 * j + i) = y) (ho : ∀ p, p ≠ 6 * i + j → p ≠ 6 * j + i → mt' p = mt p) : setR n kd' mt' (s.1, s.2.1, fun p q => if p = i ∧ q = j then x else if p = j ∧ q = i then y else s.2.2 p q) := by
  obtain ⟨g0, g1, g2⟩ := h
  refine ⟨g0, fun p a b => by rw [hk]; exact g1 p a b, fun p q a b c d => ?_⟩
  show mt' (6 * p + q) = if p = i ∧ q = j then x else if p = j ∧ q = i then y else s.2.2 p q
  have b : p < s.1 := b
  have d : q < s.1 := d
  by_cases e : p = i ∧ q = j
  · rw [if_pos e, e.1, e.2]; exact h1
  · rw [if_neg e]
    by_cases e2 : p = j ∧ q = i
    · rw [if_pos e2, e2.1, e2.2]; exact h2
    · rw [if_neg e2, ho _ (by omega) (by omega)]; exact g2 p q a b c d
theorem setR.less {n : Int} {kd kd' mt mt' : Int → Int} {s : aT} (h : setR n kd mt s) (hk : ∀ p, kd' p = kd p) (hm : ∀ i j, 0 ≤ i → i < n - 1 → 0 ≤ j → j < n - 1 → mt' (6 * i + j) = mt (6 * i + j)) : setR (n - 1) kd' mt' (s.1 - 1, s.2) := by
  obtain ⟨g0, g1, g2⟩ := h
  subst g0
  exact ⟨rfl, fun p a b => by rw [hk]; exact g1 p a (by have : p < s.1 - 1 := b; omega), fun p q a b c d => by
    have b : p < s.1 - 1 := b
    have d : q < s.1 - 1 := d
    rw [hm p q a b c d]; exact g2 p q a (by omega) c (by omega)⟩
theorem setR.kind {n i k : Int} {kd kd' mt mt' : Int → Int} {s : aT} (h : setR n kd mt s) (hk : kd' i = k) (hko : ∀ p, p ≠ i → kd' p = kd p) (hm : ∀ j, mt' j = mt j) : setR n kd' mt' (s.1, fun p => if p = i then k else s.2.1 p, s.2.2) := by
  obtain ⟨g0, g1, g2⟩ := h
  refine ⟨g0, fun p a b => ?_, fun p q a b c d => by rw [hm]; exact g2 p q a b c d⟩
  show kd' p = if p = i then k else s.2.1 p
  by_cases e : p = i
  · rw [if_pos e, e]; exact hk
  · rw [if_neg e, hko p e]; exact g1 p a b
theorem sOK.less {n n' : Int} {kd mt : Int → Int} (h : sOK n kd mt) (hn : 0 ≤ n' ∧ n' ≤ 6) : sOK n' kd mt := ⟨hn, h.2⟩
theorem RI.kind {S S' : wSt} (h : RI S) {a b : Int} (a0 : 0 ≤ a) (a1 : a < 6) (hb : 0 ≤ b ∧ b ≤ 2) (hk : S' 41 0 a = b) (hko : ∀ p, p ≠ a → S' 41 0 p = S 41 0 p) (ho : ∀ k j, k ≠ 41 → S' k 0 j = S k 0 j) : RI S' := by
  obtain ⟨h1, h2, h3, h4, h5, h6, h7, h8⟩ := h
  have e (k : Nat) (hk : k ≠ 41) : S' k 0 = S k 0 := funext fun j => ho k j hk
  unfold RI
  rw [e 30 (by decide), e 42 (by decide), e 43 (by decide), e 45 (by decide), e 46 (by decide), e 69 (by decide), e 70 (by decide), e 71 (by decide)]
  refine ⟨⟨h1.1, fun i i0 i1 => ?_, h1.2.2⟩, h2, h3, h4, h5, h6, h7, h8⟩
  by_cases e : i = a
  · rw [e, hk]; exact hb
  · rw [hko i e]; exact h1.2.1 i i0 i1
theorem AR.kind {S S' : wSt} {x : aS} (h : AR S x) {a b : Int} (hk : S' 41 0 a = b) (hko : ∀ p, p ≠ a → S' 41 0 p = S 41 0 p) (ho : ∀ k j, k ≠ 41 → S' k 0 j = S k 0 j) : AR S' ((x.1.1, fun p => if p = a then b else x.1.2.1 p, x.1.2.2), x.2) := by
  obtain ⟨h1, h2, h3⟩ := h
  have e (k : Nat) (hk : k ≠ 41) : S' k 0 = S k 0 := funext fun j => ho k j hk
  unfold AR
  rw [e 30 (by decide), e 42 (by decide), e 43 (by decide)]
  exact ⟨h1.kind hk hko (fun _ => rfl), h2, h3⟩
theorem RI.undo {S S' : wSt} (h : RI S) (hc : ¬ S 30 0 4 = 0) (g4 : S' 30 0 4 = S 30 0 4 - 1) (gn : S' 30 0 0 = S 43 0 (43 * (S 30 0 4 - 1))) (g41 : ∀ j, 0 ≤ j → j < 6 → S' 41 0 j = S 43 0 (43 * (S 30 0 4 - 1) + 1 + j)) (g42 : ∀ j, 0 ≤ j → j < 36 → S' 42 0 j = S 43 0 (43 * (S 30 0 4 - 1) + 7 + j)) (g43 : ∀ j, S' 43 0 j = S 43 0 j) (g46 : ∀ s, 0 ≤ s → s < 8 → S' 46 0 s = 0) (hf : Fr tS S S') : RI S' := by
  have e69 : S' 69 0 = S 69 0 := funext fun j => hf 69 0 j (by unfold tS; omega)
  have e70 : S' 70 0 = S 70 0 := funext fun j => hf 70 0 j (by unfold tS; omega)
  have e71 : S' 71 0 = S 71 0 := funext fun j => hf 71 0 j (by unfold tS; omega)
  have e43 : S' 43 0 = S 43 0 := funext g43
  have c := h.c
  refine ⟨(h.kp (S 30 0 4 - 1) (by omega) (by omega)).congr gn g41 g42, by omega, fun q q0 q1 => by rw [e43]; exact h.kp q q0 (by omega), fun s a b => by rw [g46 s a b]; omega, fun s k a b c d => by rw [g46 s a b] at d; omega, by rw [e69]; exact h.la, by rw [e70]; exact h.sz, by rw [e71]; exact h.it⟩
theorem AR.undo {S S' : wSt} {x : aS} (h : AR S x) (hR : RI S) (hc : ¬ S 30 0 4 = 0) (g4 : S' 30 0 4 = S 30 0 4 - 1) (gn : S' 30 0 0 = S 43 0 (43 * (S 30 0 4 - 1))) (g41 : ∀ j, 0 ≤ j → j < 6 → S' 41 0 j = S 43 0 (43 * (S 30 0 4 - 1) + 1 + j)) (g42 : ∀ j, 0 ≤ j → j < 36 → S' 42 0 j = S 43 0 (43 * (S 30 0 4 - 1) + 7 + j)) (g43 : ∀ j, S' 43 0 j = S 43 0 j) : AR S' (x.2.2 0, x.2.1 - 1, fun t => x.2.2 (t + 1)) := by
  obtain ⟨h1, h2, h3⟩ := h
  have c := hR.c
  have e43 : S' 43 0 = S 43 0 := funext g43
  have h0 := h3 0 (by omega) (by omega)
  rw [← h2, Int.sub_zero] at h0
  refine ⟨h0.congr (hR.kp (S 30 0 4 - 1) (by omega) (by omega)).1.2 gn g41 g42, by show S' 30 0 4 = x.2.1 - 1; omega, fun t t0 t1 => ?_⟩
  have t1 : t < x.2.1 - 1 := t1
  have h5 := h3 (t + 1) (by omega) (by omega)
  rw [show x.2.1 - 1 - (t + 1) = x.2.1 - 1 - 1 - t by omega] at h5
  rw [e43]
  exact h5
