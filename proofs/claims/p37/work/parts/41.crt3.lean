theorem RTI.find {mt F K U : Int → Int} {n h : Int} (H : RTI mt n h F K U) : ∀ (m : Nat) (x : Int), (m : Int) ≤ h → 0 ≤ x → x < F ((m : Int) + 1) → ∃ q, 1 ≤ q ∧ q ≤ (m : Int) ∧ F q ≤ x ∧ x < F (q + 1) := by
  intro m
  induction m with
  | zero => intro x _ x0 x1; rw [show ((0 : Nat) : Int) + 1 = 1 from rfl, H.1] at x1; omega
  | succ m ih =>
    intro x hm x0 x1
    rw [show ((m + 1 : Nat) : Int) + 1 = (m : Int) + 1 + 1 by omega] at x1
    by_cases e : x < F ((m : Int) + 1)
    · obtain ⟨q, a, b, c, d⟩ := ih x (by omega) x0 e
      exact ⟨q, a, by omega, c, d⟩
    · exact ⟨(m : Int) + 1, by omega, by omega, by omega, x1⟩
theorem sm_mono {f : Nat → Int} (h : ∀ i, 0 ≤ f i) {n m : Nat} (hnm : n ≤ m) : sm n f ≤ sm m f := by
  induction m with
  | zero => rw [show n = 0 by omega]; exact Int.le_refl _
  | succ m ih =>
    by_cases e : n = m + 1
    · rw [e]; exact Int.le_refl _
    · have := ih (by omega)
      have := h m
      simp only [sm]
      omega
theorem roots_noB {mt kd F K U : Int → Int} {n h : Int} (H : RTI mt n h F K U) (hh : 12 ≤ h) (hs : sOK n kd mt) (hall : ∀ x, 0 ≤ x → x < F 12 → ∀ i, 0 ≤ i → i < n → dg (U x) i ≤ 11) : NoB (mxz mt) n.toNat := by
  have hn := hs.1
  have hF1 := H.1
  have fnd : ∀ y, 0 ≤ y → y < F 12 → ∃ q, 1 ≤ q ∧ q ≤ 11 ∧ F q ≤ y ∧ y < F (q + 1) := fun y y0 y1 => by
    obtain ⟨q, a, b, c, d⟩ := H.find 11 y (by omega) y0 y1
    exact ⟨q, a, by omega, c, d⟩
  refine noB_of (fun x => ∃ y : Int, (0 ≤ y ∧ y < F 12) ∧ ∀ b : Nat, b < 6 → dg (K y) (b : Int) = x b) (fun i hi => ?_) (fun x i hi hP hr hz0 hp hr2 => ?_) (fun f h1 h2 h3 => ?_)
  · obtain ⟨x, a, b, c⟩ := H.2.2.2.2.1 (by omega) (i : Int) (by omega) (by omega)
    have := H.mono (q := 2) (r := 12) (by omega) (by omega) (by omega)
    refine ⟨x, ⟨a, by omega⟩, fun b hb => ?_⟩
    rw [c _ (by omega) (by omega)]
    unfold ownV
    by_cases e : b = i
    · rw [if_pos e, if_pos (by omega)]
    · rw [if_neg e, if_neg (by omega)]
  · obtain ⟨y, hy, hx⟩ := hP
    obtain ⟨q, q1, q2, q3, q4⟩ := fnd y hy.1 hy.2
    obtain ⟨k1, k2, k3, k4, k5⟩ := H.2.2.2.1 q y q1 (by omega) q3 q4
    have hup := k5 (i : Int) (by omega) (by omega)
    have hle := hall y hy.1 hy.2 (i : Int) (by omega) (by omega)
    have hri : -2 * dg (K y) (i : Int) + sm n.toNat (fun j => mt (6 * (i : Int) + (j : Int)) * dg (K y) (j : Int)) = - prg (mxz mt) n.toNat x i := by
      unfold prg
      rw [hx i (by omega), sm_congr (g := fun j => mxz mt i j * x j) (fun j hj => by rw [hx j (by omega)]; rfl)]
      omega
    unfold upv at hup
    rw [hri] at hup
    rw [if_pos (by omega)] at hup
    obtain ⟨z, z0, z1, z2⟩ := H.2.2.2.2.2 q (q + - prg (mxz mt) n.toNat x i) y (i : Int) q1 (by omega) (by omega) q3 q4 (by omega) (by omega) (by omega)
    have m1 := H.mono (q := q + - prg (mxz mt) n.toNat x i + 1) (r := 12) (by omega) (by omega) (by omega)
    have m2 := H.mono (q := 1) (r := q + - prg (mxz mt) n.toNat x i) (by omega) (by omega) (by omega)
    refine ⟨z, ⟨by omega, by omega⟩, fun b hb => ?_⟩
    rw [z2 _ (by omega) (by omega), hx b hb]
    unfold rfx
    by_cases e : b = i
    · rw [if_pos e, if_pos (by omega), e]; omega
    · rw [if_neg e, if_neg (by omega)]; omega
  · obtain ⟨m, hm, h9⟩ := h3
    obtain ⟨⟨y, hy, hx⟩, hnn, -⟩ := h1 m hm
    obtain ⟨q, q1, q2, q3, q4⟩ := fnd y hy.1 hy.2
    obtain ⟨k1, k2, -⟩ := H.2.2.2.1 q y q1 (by omega) q3 q4
    have e1 := sm_mono (f := f m) (fun i => (hnn i).1) (n := n.toNat) (m := 6) (by omega)
    have e2 : sm 6 (f m) = sm 6 (fun b => dg (K y) (b : Int)) := sm_congr (fun b hb => (hx b hb).symm)
    omega
