theorem b8N : ∀ f, f < 300 → ∀ s, s < 8 → (Int32.ofInt ((8 * f + s : Nat) : Int) &&& Int32.ofInt 7).toInt = ((s : Nat) : Int) ∧ (Int32.ofInt ((8 * f + s : Nat) : Int) >>> (Int32.ofInt 3 &&& 31)).toInt = ((f : Nat) : Int) ∧ (Int32.ofInt (Int32.ofInt ((f : Nat) : Int) <<< (Int32.ofInt 3 &&& 31)).toInt ||| Int32.ofInt ((s : Nat) : Int)).toInt = ((8 * f + s : Nat) : Int) := by decide +kernel
theorem b8 {f s : Int} (f0 : 0 ≤ f) (f1 : f < 300) (s0 : 0 ≤ s) (s1 : s < 8) : i_and (8 * f + s) 7 = s ∧ i_shr (8 * f + s) 3 = f ∧ i_or (i_shl f 3) s = 8 * f + s := by
  have h := b8N f.toNat (by omega) s.toNat (by omega)
  have e1 : ((8 * f.toNat + s.toNat : Nat) : Int) = 8 * f + s := by omega
  rw [e1, Int.toNat_of_nonneg f0, Int.toNat_of_nonneg s0] at h
  exact h
theorem FLI.ext {S W : wSt} (h : FLI S) (e4 : W 16 0 4 = S 16 0 4) (e5 : W 16 0 5 = 0 ∨ W 16 0 5 = 1) (e18 : ∀ j, 0 ≤ j → j ≤ S 16 0 4 → W 18 0 j = S 18 0 j) (e17 : ∀ j, 0 ≤ j → j < 300 * S 16 0 4 → W 17 0 j = S 17 0 j) (en : W 3 16 2 = S 3 16 2) : FLI W := by
  obtain ⟨h1, h2, h3, h4, h5⟩ := h
  refine ⟨by rw [e4]; exact h1, e5, by rw [e18 0 (by omega) (by omega)]; exact h3, fun j j0 j1 => by rw [e4] at j1; rw [e18 j j0 j1]; exact h4 j j0 j1, fun k i k0 k1 i0 i1 => ?_⟩
  rw [e4] at k1
  rw [e18 k (by omega) k1] at i1
  have h6 := h4 k (by omega) k1
  obtain ⟨f, s, q1, q2, q3⟩ := h5 k i k0 k1 i0 i1
  exact ⟨f, s, by rw [e17 _ (by omega) (by omega)]; exact q1, by rw [e18 _ (by omega) (by omega)]; exact q2, by rw [en]; exact q3⟩
theorem FLI.grow {S W : wSt} {n m : Int} (h : FLI S) (hn : S 16 0 4 = n - 1) (n12 : n ≤ 12) (e4 : W 16 0 4 = n) (e5 : W 16 0 5 = 0 ∨ W 16 0 5 = 1) (e18 : ∀ j, 0 ≤ j → j ≤ n - 1 → W 18 0 j = S 18 0 j) (en18 : W 18 0 n = m) (m0 : 0 ≤ m) (m1 : m ≤ 300) (e17 : ∀ j, 0 ≤ j → j < 300 * (n - 1) → W 17 0 j = S 17 0 j) (hnew : ∀ i, 0 ≤ i → i < m → ∃ f s, W 17 0 (300 * (n - 1) + i) = 8 * f + s ∧ (0 ≤ f ∧ f < S 18 0 (n - 1)) ∧ 0 ≤ s ∧ s < S 3 16 2) (en : W 3 16 2 = S 3 16 2) : FLI W := by
  obtain ⟨h1, h2, h3, h4, h5⟩ := h
  refine ⟨by omega, e5, by rw [e18 0 (by omega) (by omega)]; exact h3, fun j j0 j1 => ?_, fun k i k0 k1 i0 i1 => ?_⟩
  · by_cases e : j = n
    · rw [e, en18]; omega
    · rw [e18 j j0 (by omega)]; exact h4 j j0 (by omega)
  · by_cases e : k = n
    · rw [e, en18] at i1
      obtain ⟨f, s, q1, q2, q3⟩ := hnew i i0 i1
      exact ⟨f, s, by rw [e]; exact q1, by rw [e, e18 _ (by omega) (by omega)]; exact q2, by rw [en]; exact q3⟩
    · rw [e18 k (by omega) (by omega)] at i1
      have h6 := h4 k (by omega) (by omega)
      obtain ⟨f, s, q1, q2, q3⟩ := h5 k i k0 (by omega) i0 i1
      exact ⟨f, s, by rw [e17 _ (by omega) (by omega)]; exact q1, by rw [e18 _ (by omega) (by omega)]; exact q2, by rw [en]; exact q3⟩
def fFm (k : Nat) (_i _j : Int) : Prop := 16 ≤ k ∧ k ≤ 19
theorem CI.fm {S S' : wSt} (h : CI S) (f : Fr fFm S S') (hf : FLI S') : CI S' := by
  have e (k : Nat) (i : Int) (hk : ¬ (16 ≤ k ∧ k ≤ 19)) : S' k i = S k i := funext fun j => f k i j hk
  obtain ⟨h1, h2, h3, h4, h5, h6, h7, -⟩ := h
  exact ⟨by rw [e 3 16 (by omega), e 4 16 (by omega), e 5 16 (by omega)]; exact h1, by rw [e 8 0 (by omega)]; exact h2, fun c c0 c1 => by rw [e 3 c (by omega), e 4 c (by omega), e 5 c (by omega)]; exact h3 c c0 c1, fun s s0 s1 => by rw [e 1 s (by omega), e 2 s (by omega), e 3 16 (by omega)]; exact h4 s s0 s1, fun l l0 l1 => by rw [e 6 l (by omega)]; exact h5 l l0 l1, fun l j l0 l1 j0 j1 => by rw [e 7 l (by omega)]; exact h6 l j l0 l1 j0 j1, by unfold RLI; rw [e 12 0 (by omega), e 13 0 (by omega), e 14 0 (by omega), e 15 0 (by omega), e 5 16 (by omega), e 3 16 (by omega)]; exact h7, hf⟩
theorem fFm_tX {S S' : wSt} (h : Fr fFm S S') : Fr tX S S' := h.mono (fun k i j q => by unfold fFm at q; unfold tX; omega)
