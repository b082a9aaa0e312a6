section
set_option maxHeartbeats 4000000 in
set_option maxRecDepth 100000 in
theorem r_X4_countWords {g : wG} (hD : wD g) {S : wSt} (hRS : CI S) (h12 : 12 ≤ S 12 0 4) (l : Launch) : Kt l yX4_countWords wsX4_countWords ({ frames := 1, cells := 0, slots := 0, locals := 21 } : Room) g S [vr g 12 0] (pL (fun r S' => r = ((pw 11 (FAL (S 15 0)) : Nat) : Int) ∧ S' = S)) := by
  refine Kt.of (cc := cX4_countWords) (nL := 5) (ret := (some .long)) (own := RX4) rfl hD (by decide) rfl (Nat.le_of_ble_eq_true rfl) ⟨rfl, rfl⟩ ?_
  intro E hC hR9
  show Wk E g 5 S 0 [(0, vr g 12 0)] []
  have hF := hRS.rl
  have hT := hF.2.2
  have hFl := hF.1
  have hF1 := hT.1
  have hm3 := hT.2.2.1
  have hrg : ∀ q, 1 ≤ q → q ≤ 13 → 0 ≤ S 15 0 q ∧ S 15 0 q ≤ 400 := fun q q1 q2 => by have a := hT.mono (q := 1) (r := q) (by omega) (by omega) (by omega); have b := hT.mono (q := q) (r := S 12 0 4 + 1) (by omega) (by omega) (by omega); omega
  refine kw_lconst (z := 1) hC dX4_countWords_0 rfl rfl ?_
  refine kw_lstore_n (lv' := [(1, _), (0, _)]) hC dX4_countWords_1 rfl (by decide) rfl ?_
  refine kw_iconst hC dX4_countWords_2 rfl ?_
  refine kw_istore_n (lv' := [(3, _), (1, _), (0, _)]) hC dX4_countWords_3 rfl (by decide) rfl ?_
  have hL4 : ∀ (n4 : Nat) (h : Int) (w9 : Int), (1 ≤ h) → (h ≤ 12) → (w9 = ((pw (h - 1).toNat (FAL (S 15 0)) : Nat) : Int)) → 12 - h < (n4 : Int) → Wk E g 5 S 4 [(0, vr g 12 0), (1, vl w9), (3, vi h)] [] := by
    intro n4
    induction n4 with
    | zero => intro h w9 q0 q1 hw hm4; exact absurd hm4 (by omega)
    | succ n4 ih4 =>
      intro h w9 q0 q1 hw hm4
      refine kw_iload_n hC dX4_countWords_4 rfl 2 rfl ?_
      refine kw_bipush hC dX4_countWords_5 rfl (by decide) ?_
      refine kw_icmp_gt (tgt := 49) hC dX4_countWords_7 rfl (by decide) (by omega) (by omega) ⟨fun c7 => ?_, fun c7 => ?_⟩
      · refine kw_lload_n hC dX4_countWords_49 rfl 1 rfl ?_
        exact hR9.2.2.1 rfl _ _ _ _ dX4_countWords_50 ⟨_, rfl, by rw [hw, show h - 1 = 11 by omega]; rfl, rfl⟩
      · refine kw_aload_n hC dX4_countWords_10 rfl 0 rfl ?_
        refine kw_iload_n hC dX4_countWords_11 rfl 2 rfl ?_
        refine kw_callV hC (d_X4_ofHeight hD (by omega) (by omega)) gX4_countWords_X4_ofHeight ⟨_, rfl⟩ rfl (by decide) (by decide) rfl ⟨rfl, rfl⟩ 1 (by decide +kernel) ⟨by decide, by decide⟩ rfl rfl (Nat.le_of_ble_eq_true rfl) dX4_countWords_12 rfl (kd_ie ?_)
        refine kw_aload_n hC dX4_countWords_15 rfl 0 rfl ?_
        refine kw_iload_n hC dX4_countWords_16 rfl 2 rfl ?_
        refine kw_iconst hC dX4_countWords_17 rfl ?_
        refine kw_iadd hC dX4_countWords_18 rfl ?_
        refine kw_callV hC (d_X4_ofHeight hD (by omega) (by omega)) gX4_countWords_X4_ofHeight ⟨_, rfl⟩ rfl (by decide) (by decide) rfl ⟨rfl, rfl⟩ 1 (by decide +kernel) ⟨by decide, by decide⟩ rfl rfl (Nat.le_of_ble_eq_true rfl) dX4_countWords_19 rfl (kd_ie ?_)
        have g1 := hrg h (by omega) (by omega)
        have g2 := hrg (h + 1) (by omega) (by omega)
        have g3 := hrg (h + 1 + 1) (by omega) (by omega)
        refine kw_isub hC dX4_countWords_22 rfl ?_
        refine kw_istore (lv' := [(4, _), (0, _), (1, _), (3, _)]) hC dX4_countWords_23 rfl (by decide) rfl ?_
        have hL25 : ∀ (n25 : Nat) (f : Int) (w9 : Int), (-1000 ≤ f) → (f ≤ 1000) → (w9 * (((h.toNat + 1) ^ f.toNat : Nat) : Int) = ((pw h.toNat (FAL (S 15 0)) : Nat) : Int)) → f + 1000 < (n25 : Int) → Wk E g 5 S 25 [(0, vr g 12 0), (1, vl w9), (3, vi h), (4, vi f)] [] := by
          intro n25
          induction n25 with
          | zero => intro f w9 f0 f1 hw2 hm25; exact absurd hm25 (by omega)
          | succ n25 ih25 =>
            intro f w9 f0 f1 hw2 hm25
            refine kw_iload hC dX4_countWords_25 rfl 3 rfl ?_
            refine kw_if_le (tgt := 43) hC dX4_countWords_27 rfl (by decide) (by omega) ⟨fun c27 => ?_, fun c27 => ?_⟩
            · refine kw_iinc (lv' := [(3, _), (0, _), (1, _), (4, _)]) hC dX4_countWords_43 rfl 2 rfl (by decide) rfl ?_
              refine kw_goto (tgt := 4) hC dX4_countWords_46 rfl (by decide) ?_
              refine kw_lv [1, 2, 0] rfl ?_
              exact ih4 (h + 1) _ (by omega) (by omega) (by rw [show h + 1 - 1 = h by omega]; exact cw_out (by omega) hw2) (by omega)
            · refine kw_lload_n hC dX4_countWords_30 rfl 1 rfl ?_
              refine kw_iload_n hC dX4_countWords_31 rfl 2 rfl ?_
              refine kw_iconst hC dX4_countWords_32 rfl ?_
              refine kw_iadd hC dX4_countWords_33 rfl ?_
              refine kw_i2l hC dX4_countWords_34 rfl (by omega) ?_
              refine kw_lmul hC dX4_countWords_35 rfl ?_
              refine kw_lstore_n (lv' := [(1, _), (0, _), (3, _), (4, _)]) hC dX4_countWords_36 rfl (by decide) rfl ?_
              refine kw_iinc (lv' := [(4, _), (1, _), (0, _), (3, _)]) hC dX4_countWords_37 rfl 3 rfl (by decide) rfl ?_
              refine kw_goto (tgt := 25) hC dX4_countWords_40 rfl (by decide) ?_
              refine kw_lv [2, 1, 3, 0] rfl ?_
              exact ih25 _ _ (by omega) (by omega) (by have z := cw_st (by omega) (by omega) hw2; rw [show f - 1 = f + -1 by omega] at z; exact z) (by omega)
        refine kw_lv [1, 2, 3, 0] rfl ?_
        exact hL25 3000 _ _ (by omega) (by omega) (cw_in (by omega) hw rfl) (by omega)
  refine kw_lv [2, 1, 0] rfl ?_
  exact hL4 12 1 _ (by omega) (by omega) rfl (by omega)

set_option maxHeartbeats 4000000 in
set_option maxRecDepth 100000 in
theorem r_X7_count {g : wG} (hD : wD g) {S : wSt} (hRS : CI S) (hRX : RLX S) (l : Launch) : Kt l yX7_count wsX7_count ({ frames := 6, cells := 0, slots := 0, locals := 145 } : Room) g S [vr g 0 0] (pL (fun r S' => CI S' ∧ Fr fRt S S' ∧ RLX S' ∧ CountP (kM S) (kn S) r)) := by
  refine Kt.of (cc := cX7_count) (nL := 1) (ret := (some .long)) (own := RX7) rfl hD (by decide) rfl (Nat.le_of_ble_eq_true rfl) ⟨rfl, rfl⟩ ?_
  intro E hC hR9
  have f47 : Cond.fieldLink RX7 47 "MirrorBench" "rootList" "LMirrorBench$RootList;" ∈ wsX7_count := by decide +kernel
  have l228 : Cond.constantLong RX7 228 (Int64.ofInt (-2)) ∈ wsX7_count := by decide +kernel
  have w7 : ∀ w ∈ wsX70, w ∈ wsX7_count := by decide +kernel
  show Wk E g 1 S 0 [(0, vr g 0 0)] []
  have hfS : Fr fRt S S := Fr.rfl _ S
  refine kw_aload_n hC dX7_count_0 rfl 0 rfl ?_
  refine kg_0_5 hC w7 f47 dX7_count_1 rfl (by decide) (by decide) ?_
  refine kw_callV hC (f_X4_countAll hD hRS hRX) gX7_count_X4_countAll ⟨_, rfl⟩ rfl (by decide) (by decide) rfl ⟨rfl, rfl⟩ 0 (by decide +kernel) ⟨by decide, by decide⟩ rfl rfl (Nat.le_of_ble_eq_true rfl) dX7_count_4 rfl (kd_i (fun r1 S1 hp1 => ?_))
  obtain ⟨hg1, hp1⟩ := hp1
  have hfS1 : Fr fRt S S1 := hfS.trans hg1
  obtain ⟨hF9, hX9, hor⟩ := hp1
  refine kw_bipush hC dX7_count_7 rfl (by decide) ?_
  refine kw_icmp_ne (tgt := 18) hC dX7_count_9 rfl (by decide) (by rcases hor with q | q <;> omega) (by omega) ⟨fun c9 => ?_, fun c9 => ?_⟩
  · refine kw_aload_n hC dX7_count_18 rfl 0 rfl ?_
    refine kg_0_5 hC w7 f47 dX7_count_19 rfl (by decide) (by decide) ?_
    refine kw_callV hC (r_X4_countWords hD (hRS.rt hfS1 hF9) (by rcases hor with q | q; omega; exact q.2.1)) gX7_count_X4_countWords ⟨_, rfl⟩ rfl (by decide) (by decide) rfl ⟨rfl, rfl⟩ 0 (by decide +kernel) ⟨by decide, by decide⟩ rfl rfl (Nat.le_of_ble_eq_true rfl) dX7_count_22 rfl (kd_l (fun r9 S9 hp9 => ?_))
    obtain ⟨hr9, hp9⟩ := hp9
    rw [hp9]
    exact hR9.2.2.1 rfl _ _ _ _ dX7_count_25 (by first | (exfalso; omega) | exact ⟨_, rfl, hRS.rt hfS1 hF9, hfS1, RLX.fr hfS1 hX9, cls_countN (hor.resolve_right (fun z => by omega)).2⟩ | exact ⟨_, rfl, hRS.rt hfS1 hF9, hfS1, RLX.fr hfS1 hX9, by rw [hr9]; exact cls_count hRS hfS1 hF9 hX9 (hor.resolve_left (fun z => by omega))⟩)
  · refine kw_ldc2 (z := -2) hC dX7_count_12 rfl l228 ?_
    refine kw_goto (tgt := 25) hC dX7_count_15 rfl (by decide) ?_
    exact hR9.2.2.1 rfl _ _ _ _ dX7_count_25 (by first | (exfalso; omega) | exact ⟨_, rfl, hRS.rt hfS1 hF9, hfS1, RLX.fr hfS1 hX9, cls_countN (hor.resolve_right (fun z => by omega)).2⟩ | exact ⟨_, rfl, hRS.rt hfS1 hF9, hfS1, RLX.fr hfS1 hX9, by rw [hr9]; exact cls_count hRS hfS1 hF9 hX9 (hor.resolve_left (fun z => by omega))⟩)
end
section
set_option maxHeartbeats 4000000 in
set_option maxRecDepth 100000 in
theorem r_X8_orbit {g : wG} (hD : wD g) {S : wSt} {a : Int} (a0 : 0 ≤ a) (a1 : a < S 30 0 0) (hRS : RI S) (hB : NoB (mxz (S 42 0)) (S 30 0 0).toNat) (l : Launch) : Kt l yX8_orbit wsX8_orbit ({ frames := 1, cells := 0, slots := 0, locals := 23 } : Room) g S [vr g 30 0, vi a] (pI (fun r S' => Fr fD S S' ∧ ((0 ≤ r ∧ r ≤ 720) ∧ OrbP (mxz (S 42 0)) a.toNat r))) := by
  refine Kt.of (cc := cX8_orbit) (nL := 7) (ret := (some .int)) (own := RX8) rfl hD (by decide) rfl (Nat.le_of_ble_eq_true rfl) ⟨rfl, rfl⟩ ?_
  intro E hC hR9
  have f17 : Cond.fieldLink RX8 17 "MirrorBenchModel" "meets" "[I" ∈ wsX8_orbit := by decide +kernel
  have f186 : Cond.fieldLink RX8 186 "MirrorBenchModel" "weightMany" "I" ∈ wsX8_orbit := by decide +kernel
  have f189 : Cond.fieldLink RX8 189 "MirrorBenchModel" "weights" "[I" ∈ wsX8_orbit := by decide +kernel
  have f192 : Cond.fieldLink RX8 192 "MirrorBenchModel" "weight" "[I" ∈ wsX8_orbit := by decide +kernel
  have w8 : ∀ w ∈ wsX80, w ∈ wsX8_orbit := by decide +kernel
  show Wk E g 7 S 0 [(0, vr g 30 0), (1, vi a)] []
  have hfS : Fr fD S S := Fr.rfl _ S
  have hRS := hRS.fr (hfS.mono (fun k i j h => by unfold fD at h; unfold tR; omega))
  have hnS := hRS.n
  have enS : S 30 0 0 = S 30 0 0 := hfS 30 0 0 (by unfold fD; omega)
  obtain ⟨L, ⟨hLl, hLo, hLc, hLz, hLr⟩, hLw⟩ := weights_rc hRS.set.mok (by omega) hB (last := a.toNat) (by omega)
  refine kw_aload_n hC dX8_orbit_0 rfl 0 rfl ?_
  refine kw_iconst hC dX8_orbit_1 rfl ?_
  refine kp_30_23 hC w8 f186 dX8_orbit_2 rfl (by decide) (by decide) ?_
  refine kw_hv hfS (by unfold fD; omega) (fun S1 hfS1 hv1 ho1 => ?_)
  have hRS1 := hRS.fr (hfS1.mono (fun k i j h => by unfold fD at h; unfold tR; omega))
  have hnS1 := hRS1.n
  have enS1 : S1 30 0 0 = S 30 0 0 := hfS1 30 0 0 (by unfold fD; omega)
  refine kw_iconst hC dX8_orbit_5 rfl ?_
  refine kw_istore_n (lv' := [(2, _), (0, _), (1, _)]) hC dX8_orbit_6 rfl (by decide) rfl ?_
  have hL7 : ∀ (n7 : Nat) (x : Int) (W7 : wSt), Fr fD S W7 → (0 ≤ x) → (x ≤ 6) → (W7 30 0 23 = 0) → (∀ k, 0 ≤ k → k < x → W7 64 0 k = if k = a then 1 else 0) → 6 - x < (n7 : Int) → Wk E g 7 W7 7 [(0, vr g 30 0), (1, vi a), (2, vi x)] [] := by
    intro n7
    induction n7 with
    | zero => intro x W7 hfW7 x0 x1 q23 hk hm7; exact absurd hm7 (by omega)
    | succ n7 ih7 =>
      intro x W7 hfW7 x0 x1 q23 hk hm7
      have hRW7 := hRS.fr (hfW7.mono (fun k i j h => by unfold fD at h; unfold tR; omega))
      have hnW7 := hRW7.n
      have enW7 : W7 30 0 0 = S 30 0 0 := hfW7 30 0 0 (by unfold fD; omega)
      refine kw_iload_n hC dX8_orbit_7 rfl 2 rfl ?_
      refine kw_bipush hC dX8_orbit_8 rfl (by decide) ?_
      refine kw_icmp_ge (tgt := 35) hC dX8_orbit_10 rfl (by decide) (by omega) (by omega) ⟨fun c10 => ?_, fun c10 => ?_⟩
      · refine kw_aload_n hC dX8_orbit_35 rfl 0 rfl ?_
        refine kw_callV hC (d_X8_addWeight hD (by omega) (by omega) (fun j _ _ => by omega) (fun k k0 k1 => by have := hk k k0 (by omega); split at this <;> omega)) gX8_orbit_X8_addWeight ⟨_, rfl⟩ rfl (by decide) (by decide) rfl ⟨rfl, rfl⟩ 0 (by decide +kernel) ⟨by decide, by decide⟩ rfl rfl (Nat.le_of_ble_eq_true rfl) dX8_orbit_36 rfl (kd_v (fun S3 hp3 => ?_))
        obtain ⟨hg3, hp3⟩ := hp3
        have hfS3 : Fr fD S S3 := hfW7.trans (hg3.mono (fun k i j h => by unfold fB at h; unfold fD; omega))
        have hRS3 := hRS.fr (hfS3.mono (fun k i j h => by unfold fD at h; unfold tR; omega))
        have hnS3 := hRS3.n
        have enS3 : S3 30 0 0 = S 30 0 0 := hfS3 30 0 0 (by unfold fD; omega)
        have hor : ORC (mxz (S 42 0)) a.toNat (S3 62 0) (S3 30 0 23) 0 0 := by rcases hp3 with ⟨-, p, p0, p1, -⟩ | ⟨q1, -, -, q4⟩; omega; exact ⟨⟨0, by omega, v6_own a0 (by omega) (fun k k0 k1 => by have := q4 k k0 k1; rw [q23] at this; rw [this]; exact hk k k0 (by omega))⟩, fun p j _ _ _ _ => by omega⟩
        obtain ⟨hwk, hpos⟩ : WK L (S3 62 0) (S3 30 0 23) ∧ 0 ≤ S3 30 0 23 := by rcases hp3 with ⟨-, p, p0, p1, -⟩ | ⟨q1, -, -, q4⟩; omega; refine ⟨?_, by omega⟩; rw [q1, q23]; exact WK.add (f := W7 62 0) (many := 0) ⟨fun p _ _ => by omega, fun p q _ _ _ => by omega⟩ (by omega) (fun j _ _ => by omega) (by rw [v6_own a0 (by omega) (fun k k0 k1 => by have := q4 k k0 k1; rw [q23] at this; rw [this]; exact hk k k0 (by omega))]; exact hLo) (fun p _ _ => by omega)
        refine kw_iconst hC dX8_orbit_39 rfl ?_
        refine kw_istore_n (lv' := [(2, _), (0, _), (1, _)]) hC dX8_orbit_40 rfl (by decide) rfl ?_
        have hL41 : ∀ (n41 : Nat) (n : Int) (W41 : wSt), Fr fD S W41 → (0 ≤ n) → (n ≤ 720) → (n ≤ W41 30 0 23) → (WK L (W41 62 0) (W41 30 0 23)) → (ORC (mxz (S 42 0)) a.toNat (W41 62 0) (W41 30 0 23) n 0) → 720 - n < (n41 : Int) → Wk E g 7 W41 41 [(0, vr g 30 0), (1, vi a), (2, vi n)] [] := by
          intro n41
          induction n41 with
          | zero => intro n W41 hfW41 n0 n7 n1 hwk hor hm41; exact absurd hm41 (by omega)
          | succ n41 ih41 =>
            intro n W41 hfW41 n0 n7 n1 hwk hor hm41
            have hRW41 := hRS.fr (hfW41.mono (fun k i j h => by unfold fD at h; unfold tR; omega))
            have hnW41 := hRW41.n
            have enW41 : W41 30 0 0 = S 30 0 0 := hfW41 30 0 0 (by unfold fD; omega)
            have hlen := hwk.len
            refine kw_iload_n hC dX8_orbit_41 rfl 2 rfl ?_
            refine kw_aload_n hC dX8_orbit_42 rfl 0 rfl ?_
            refine kg_30_23 hC w8 f186 dX8_orbit_43 rfl (by decide) (by decide) ?_
            refine kw_icmp_ge (tgt := 164) hC dX8_orbit_46 rfl (by decide) (by omega) (by omega) ⟨fun c46 => ?_, fun c46 => ?_⟩
            · refine kw_aload_n hC dX8_orbit_164 rfl 0 rfl ?_
              refine kg_30_23 hC w8 f186 dX8_orbit_165 rfl (by decide) (by decide) ?_
              exact hR9.1 rfl _ _ _ _ dX8_orbit_168 ⟨_, rfl, hfW41, ⟨by omega, by omega⟩, hor.fin (by omega) hwk hLw (by omega)⟩
            · refine kw_iconst hC dX8_orbit_49 rfl ?_
              refine kw_istore_n (lv' := [(3, _), (0, _), (1, _), (2, _)]) hC dX8_orbit_50 rfl (by decide) rfl ?_
              have hL51 : ∀ (n51 : Nat) (i : Int) (W51 : wSt), Fr fD S W51 → (0 ≤ i) → (i ≤ a + 1) → (n < W51 30 0 23) → (WK L (W51 62 0) (W51 30 0 23)) → (ORC (mxz (S 42 0)) a.toNat (W51 62 0) (W51 30 0 23) n i) → a + 1 - i < (n51 : Int) → Wk E g 7 W51 51 [(0, vr g 30 0), (1, vi a), (2, vi n), (3, vi i)] [] := by
                intro n51
                induction n51 with
                | zero => intro i W51 hfW51 i0 i1 n1 hwk hor hm51; exact absurd hm51 (by omega)
                | succ n51 ih51 =>
                  intro i W51 hfW51 i0 i1 n1 hwk hor hm51
                  have hRW51 := hRS.fr (hfW51.mono (fun k i j h => by unfold fD at h; unfold tR; omega))
                  have hnW51 := hRW51.n
                  have enW51 : W51 30 0 0 = S 30 0 0 := hfW51 30 0 0 (by unfold fD; omega)
                  have hlen := hwk.len
                  refine kw_iload_n hC dX8_orbit_51 rfl 3 rfl ?_
                  refine kw_iload_n hC dX8_orbit_52 rfl 1 rfl ?_
                  refine kw_icmp_gt (tgt := 158) hC dX8_orbit_53 rfl (by decide) (by omega) (by omega) ⟨fun c53 => ?_, fun c53 => ?_⟩
                  · refine kw_iinc (lv' := [(2, _), (0, _), (1, _), (3, _)]) hC dX8_orbit_158 rfl 2 rfl (by decide) rfl ?_
                    refine kw_goto (tgt := 41) hC dX8_orbit_161 rfl (by decide) ?_
                    refine kw_lv [1, 2, 0] rfl ?_
                    exact ih41 (n + 1) W51 hfW51 (by omega) (by omega) (by omega) hwk (hor.row (by omega)) (by omega)
                  · refine kw_aload_n hC dX8_orbit_56 rfl 0 rfl ?_
                    refine kg_30_22 hC w8 f189 dX8_orbit_57 rfl (by decide) (by decide) ?_
                    refine kw_bipush hC dX8_orbit_60 rfl (by decide) ?_
                    refine kw_iload_n hC dX8_orbit_62 rfl 2 rfl ?_
                    refine kw_imul hC dX8_orbit_63 rfl ?_
                    refine kw_iload_n hC dX8_orbit_64 rfl 3 rfl ?_
                    refine kw_iadd hC dX8_orbit_65 rfl ?_
                    obtain ⟨b, hb⟩ : ∃ z, z = W51 62 0 (6 * n + i) := ⟨_, rfl⟩
                    refine ka_62 hC dX8_orbit_66 rfl (by decide) (by decide) (by omega) (by omega) ?_
                    rw [← hb]
                    refine kw_istore (lv' := [(4, _), (0, _), (1, _), (2, _), (3, _)]) hC dX8_orbit_67 rfl (by decide) rfl ?_
                    refine kw_iconst hC dX8_orbit_69 rfl ?_
                    refine kw_istore (lv' := [(5, _), (4, _), (0, _), (1, _), (2, _), (3, _)]) hC dX8_orbit_70 rfl (by decide) rfl ?_
                    have hL72 : ∀ (n72 : Nat) (k : Int) (W72 : wSt), Fr fD S W72 → (0 ≤ k) → (k ≤ 6) → (n < W72 30 0 23) → (WK L (W72 62 0) (W72 30 0 23)) → (ORC (mxz (S 42 0)) a.toNat (W72 62 0) (W72 30 0 23) n i) → (b = W72 62 0 (6 * n + i)) → (∀ j, 0 ≤ j → j < k → W72 64 0 j = W72 62 0 (6 * n + j) + (if a < j then 0 else if j = i then -2 * b else b * S 42 0 (6 * j + i))) → 6 - k < (n72 : Int) → Wk E g 7 W72 72 [(0, vr g 30 0), (1, vi a), (2, vi n), (3, vi i), (4, vi b), (5, vi k)] [] := by
                      intro n72
                      induction n72 with
                      | zero => intro k W72 hfW72 k0 k1 n1 hwk hor hb hk hm72; exact absurd hm72 (by omega)
                      | succ n72 ih72 =>
                        intro k W72 hfW72 k0 k1 n1 hwk hor hb hk hm72
                        have hRW72 := hRS.fr (hfW72.mono (fun k i j h => by unfold fD at h; unfold tR; omega))
                        have hnW72 := hRW72.n
                        have enW72 : W72 30 0 0 = S 30 0 0 := hfW72 30 0 0 (by unfold fD; omega)
                        have hlen := hwk.len
                        refine kw_iload hC dX8_orbit_72 rfl 5 rfl ?_
                        refine kw_bipush hC dX8_orbit_74 rfl (by decide) ?_
                        refine kw_icmp_ge (tgt := 148) hC dX8_orbit_76 rfl (by decide) (by omega) (by omega) ⟨fun c76 => ?_, fun c76 => ?_⟩
                        · refine kw_aload_n hC dX8_orbit_148 rfl 0 rfl ?_
                          refine kw_callV hC (d_X8_addWeight hD (by omega) (by omega) (fun j j0 j1 => by have := hwk.rg hLr j j0 j1; omega) (fun q q0 q1 => by have h8 := hk q q0 (by omega); have h9 := hwk.rg hLr (6 * n + q) (by omega) (by omega); have h10 := hwk.rg hLr (6 * n + i) (by omega) (by omega); rw [← hb] at h10; have h11 := hRS.mt q i q0 q1 (by omega) (by omega); have h12 := mul_rg8 h10 h11; split at h8; omega; split at h8 <;> omega)) gX8_orbit_X8_addWeight ⟨_, rfl⟩ rfl (by decide) (by decide) rfl ⟨rfl, rfl⟩ 0 (by decide +kernel) ⟨by decide, by decide⟩ rfl rfl (Nat.le_of_ble_eq_true rfl) dX8_orbit_149 rfl (kd_v (fun S7 hp7 => ?_))
                          obtain ⟨hg7, hp7⟩ := hp7
                          have hfS7 : Fr fD S S7 := hfW72.trans (hg7.mono (fun k i j h => by unfold fB at h; unfold fD; omega))
                          have hRS7 := hRS.fr (hfS7.mono (fun k i j h => by unfold fD at h; unfold tR; omega))
                          have hnS7 := hRS7.n
                          have enS7 : S7 30 0 0 = S 30 0 0 := hfS7 30 0 0 (by unfold fD; omega)
                          have horN : ORC (mxz (S 42 0)) a.toNat (S7 62 0) (S7 30 0 23) n (i + 1) := by rcases hp7 with ⟨q1, p, p0, p1, p2⟩ | ⟨q1, q2, q3, q4⟩; exact (by rw [q1]; exact hor.known i0 ⟨p, ⟨p0, p1⟩, orb_eq (hLz _ (hwk.1 n n0 n1)) a0 (by omega) i0 (by omega) hb (fun q q0 q1 => by rw [p2 q q0 q1]; exact hk q q0 (by omega))⟩); rw [q1]; exact hor.add i0 n0 n1 q3 (orb_eq (hLz _ (hwk.1 n n0 n1)) a0 (by omega) i0 (by omega) hb (fun q q0 q2 => by rw [q4 q q0 q2]; exact hk q q0 (by omega)))
                          obtain ⟨hwk, hgr⟩ : WK L (S7 62 0) (S7 30 0 23) ∧ W72 30 0 23 ≤ S7 30 0 23 := by rcases hp7 with ⟨q1, -⟩ | ⟨q1, q2, q3, q4⟩; exact (by rw [q1]; exact ⟨hwk, Int.le_refl _⟩); refine ⟨?_, by omega⟩; rw [q1]; exact hwk.add (by omega) q3 (orb_new hLc hLz (hwk.1 n n0 n1) a0 (by omega) i0 (by omega) hb (fun q q0 q2 => by rw [q4 q q0 q2]; exact hk q q0 (by omega))) (fun p p0 p1 => by obtain ⟨k, k0, k1, hk9⟩ := q2 p p0 p1; exact ⟨k, k0, k1, by rw [q4 k k0 k1]; exact hk9⟩)
                          have hlen2 := hwk.len
                          refine kw_iinc (lv' := [(3, _), (0, _), (1, _), (2, _), (4, _), (5, _)]) hC dX8_orbit_152 rfl 3 rfl (by decide) rfl ?_
                          refine kw_goto (tgt := 51) hC dX8_orbit_155 rfl (by decide) ?_
                          refine kw_lv [1, 2, 3, 0] rfl ?_
                          exact ih51 (i + 1) S7 hfS7 (by omega) (by omega) (by omega) hwk horN (by omega)
                        · refine kw_iload hC dX8_orbit_79 rfl 5 rfl ?_
                          refine kw_iload_n hC dX8_orbit_81 rfl 1 rfl ?_
                          refine kw_icmp_le (tgt := 89) hC dX8_orbit_82 rfl (by decide) (by omega) (by omega) ⟨fun c82 => ?_, fun c82 => ?_⟩
                          · refine kw_iload hC dX8_orbit_89 rfl 5 rfl ?_
                            refine kw_iload_n hC dX8_orbit_91 rfl 3 rfl ?_
                            refine kw_icmp_ne (tgt := 103) hC dX8_orbit_92 rfl (by decide) (by omega) (by omega) ⟨fun c92 => ?_, fun c92 => ?_⟩
                            · refine kw_iload hC dX8_orbit_103 rfl 4 rfl ?_
                              refine kw_aload_n hC dX8_orbit_105 rfl 0 rfl ?_
                              refine kg_30_2 hC w8 f17 dX8_orbit_106 rfl (by decide) (by decide) ?_
                              refine kw_bipush hC dX8_orbit_109 rfl (by decide) ?_
                              refine kw_iload hC dX8_orbit_111 rfl 5 rfl ?_
                              refine kw_imul hC dX8_orbit_113 rfl ?_
                              refine kw_iload_n hC dX8_orbit_114 rfl 3 rfl ?_
                              refine kw_iadd hC dX8_orbit_115 rfl ?_
                              refine ka_42 hC dX8_orbit_116 rfl (by decide) (by decide) (by omega) (by omega) ?_
                              refine kw_chi (z' := S 42 0 (6 * k + i)) (hfW72 42 0 _ (by unfold fD; omega)) ?_
                              refine kw_imul hC dX8_orbit_117 rfl ?_
                              refine kw_chi (z' := (if a < k then 0 else if k = i then -2 * b else b * S 42 0 (6 * k + i))) (by first | rw [if_pos (by omega)] | rw [if_neg (by omega), if_pos (by omega)] | rw [if_neg (by omega), if_neg (by omega)]) ?_
                              refine kw_istore (lv' := [(6, _), (0, _), (1, _), (2, _), (3, _), (4, _), (5, _)]) hC dX8_orbit_118 rfl (by decide) rfl ?_
                              refine kw_aload_n hC dX8_orbit_120 rfl 1 rfl ?_
                              refine kg_30_24 hC w8 f192 dX8_orbit_121 rfl (by decide) (by decide) ?_
                              refine kw_iload hC dX8_orbit_124 rfl 6 rfl ?_
                              refine kw_aload_n hC dX8_orbit_126 rfl 1 rfl ?_
                              refine kg_30_22 hC w8 f189 dX8_orbit_127 rfl (by decide) (by decide) ?_
                              refine kw_bipush hC dX8_orbit_130 rfl (by decide) ?_
                              refine kw_iload_n hC dX8_orbit_132 rfl 3 rfl ?_
                              refine kw_imul hC dX8_orbit_133 rfl ?_
                              refine kw_iload hC dX8_orbit_134 rfl 6 rfl ?_
                              refine kw_iadd hC dX8_orbit_136 rfl ?_
                              refine ka_62 hC dX8_orbit_137 rfl (by decide) (by decide) (by omega) (by omega) ?_
                              refine kw_iload hC dX8_orbit_138 rfl 0 rfl ?_
                              refine kw_iadd hC dX8_orbit_140 rfl ?_
                              refine ks_64 hC dX8_orbit_141 rfl (by decide) (by decide) (by omega) (by omega) ?_
                              refine kw_hv hfW72 (by unfold fD; omega) (fun S10 hfS10 hv10 ho10 => ?_)
                              have hRS10 := hRS.fr (hfS10.mono (fun k i j h => by unfold fD at h; unfold tR; omega))
                              have hnS10 := hRS10.n
                              have enS10 : S10 30 0 0 = S 30 0 0 := hfS10 30 0 0 (by unfold fD; omega)
                              have hwk9 : WK L (S10 62 0) (S10 30 0 23) := by rw [ho10 30 0 23 (by omega)]; exact hwk.keep (fun j _ _ => ho10 62 0 j (by omega))
                              have hor9 : ORC (mxz (S 42 0)) a.toNat (S10 62 0) (S10 30 0 23) n i := by rw [ho10 30 0 23 (by omega)]; exact hor.keep (fun j _ _ => ho10 62 0 j (by omega))
                              have e23_10 : S10 30 0 23 = W72 30 0 23 := ho10 30 0 23 (by omega)
                              refine kw_iinc (lv' := [(5, _), (6, _), (0, _), (1, _), (2, _), (3, _), (4, _)]) hC dX8_orbit_142 rfl 6 rfl (by decide) rfl ?_
                              refine kw_goto (tgt := 72) hC dX8_orbit_145 rfl (by decide) ?_
                              refine kw_lv [2, 3, 4, 5, 6, 0] rfl ?_
                              exact ih72 (k + 1) S10 hfS10 (by omega) (by omega) (by omega) hwk9 hor9 (hb.trans (ho10 62 0 _ (by omega)).symm) (fun j j0 j1 => by rw [ho10 62 0 _ (by omega)]; rcases Decidable.em (j = k) with e | e; exact (by rw [e]; exact hv10); exact (ho10 64 0 j (by omega)).trans (hk j j0 (by omega))) (by omega)
                            · refine kw_bipush hC dX8_orbit_95 rfl (by decide) ?_
                              refine kw_iload hC dX8_orbit_97 rfl 4 rfl ?_
                              refine kw_imul hC dX8_orbit_99 rfl ?_
                              refine kw_goto (tgt := 118) hC dX8_orbit_100 rfl (by decide) ?_
                              refine kw_chi (z' := (if a < k then 0 else if k = i then -2 * b else b * S 42 0 (6 * k + i))) (by first | rw [if_pos (by omega)] | rw [if_neg (by omega), if_pos (by omega)] | rw [if_neg (by omega), if_neg (by omega)]) ?_
                              refine kw_istore (lv' := [(6, _), (0, _), (1, _), (2, _), (3, _), (4, _), (5, _)]) hC dX8_orbit_118 rfl (by decide) rfl ?_
                              refine kw_aload_n hC dX8_orbit_120 rfl 1 rfl ?_
                              refine kg_30_24 hC w8 f192 dX8_orbit_121 rfl (by decide) (by decide) ?_
                              refine kw_iload hC dX8_orbit_124 rfl 6 rfl ?_
                              refine kw_aload_n hC dX8_orbit_126 rfl 1 rfl ?_
                              refine kg_30_22 hC w8 f189 dX8_orbit_127 rfl (by decide) (by decide) ?_
                              refine kw_bipush hC dX8_orbit_130 rfl (by decide) ?_
                              refine kw_iload_n hC dX8_orbit_132 rfl 3 rfl ?_
                              refine kw_imul hC dX8_orbit_133 rfl ?_
                              refine kw_iload hC dX8_orbit_134 rfl 6 rfl ?_
                              refine kw_iadd hC dX8_orbit_136 rfl ?_
                              refine ka_62 hC dX8_orbit_137 rfl (by decide) (by decide) (by omega) (by omega) ?_
                              refine kw_iload hC dX8_orbit_138 rfl 0 rfl ?_
                              refine kw_iadd hC dX8_orbit_140 rfl ?_
                              refine ks_64 hC dX8_orbit_141 rfl (by decide) (by decide) (by omega) (by omega) ?_
                              refine kw_hv hfW72 (by unfold fD; omega) (fun S11 hfS11 hv11 ho11 => ?_)
                              have hRS11 := hRS.fr (hfS11.mono (fun k i j h => by unfold fD at h; unfold tR; omega))
                              have hnS11 := hRS11.n
                              have enS11 : S11 30 0 0 = S 30 0 0 := hfS11 30 0 0 (by unfold fD; omega)
                              have hwk9 : WK L (S11 62 0) (S11 30 0 23) := by rw [ho11 30 0 23 (by omega)]; exact hwk.keep (fun j _ _ => ho11 62 0 j (by omega))
                              have hor9 : ORC (mxz (S 42 0)) a.toNat (S11 62 0) (S11 30 0 23) n i := by rw [ho11 30 0 23 (by omega)]; exact hor.keep (fun j _ _ => ho11 62 0 j (by omega))
                              have e23_11 : S11 30 0 23 = W72 30 0 23 := ho11 30 0 23 (by omega)
                              refine kw_iinc (lv' := [(5, _), (6, _), (0, _), (1, _), (2, _), (3, _), (4, _)]) hC dX8_orbit_142 rfl 6 rfl (by decide) rfl ?_
                              refine kw_goto (tgt := 72) hC dX8_orbit_145 rfl (by decide) ?_
                              refine kw_lv [2, 3, 4, 5, 6, 0] rfl ?_
                              exact ih72 (k + 1) S11 hfS11 (by omega) (by omega) (by omega) hwk9 hor9 (hb.trans (ho11 62 0 _ (by omega)).symm) (fun j j0 j1 => by rw [ho11 62 0 _ (by omega)]; rcases Decidable.em (j = k) with e | e; exact (by rw [e]; exact hv11); exact (ho11 64 0 j (by omega)).trans (hk j j0 (by omega))) (by omega)
                          · refine kw_iconst hC dX8_orbit_85 rfl ?_
                            refine kw_goto (tgt := 118) hC dX8_orbit_86 rfl (by decide) ?_
                            refine kw_chi (z' := (if a < k then 0 else if k = i then -2 * b else b * S 42 0 (6 * k + i))) (by first | rw [if_pos (by omega)] | rw [if_neg (by omega), if_pos (by omega)] | rw [if_neg (by omega), if_neg (by omega)]) ?_
                            refine kw_istore (lv' := [(6, _), (0, _), (1, _), (2, _), (3, _), (4, _), (5, _)]) hC dX8_orbit_118 rfl (by decide) rfl ?_
                            refine kw_aload_n hC dX8_orbit_120 rfl 1 rfl ?_
                            refine kg_30_24 hC w8 f192 dX8_orbit_121 rfl (by decide) (by decide) ?_
                            refine kw_iload hC dX8_orbit_124 rfl 6 rfl ?_
                            refine kw_aload_n hC dX8_orbit_126 rfl 1 rfl ?_
                            refine kg_30_22 hC w8 f189 dX8_orbit_127 rfl (by decide) (by decide) ?_
                            refine kw_bipush hC dX8_orbit_130 rfl (by decide) ?_
                            refine kw_iload_n hC dX8_orbit_132 rfl 3 rfl ?_
                            refine kw_imul hC dX8_orbit_133 rfl ?_
                            refine kw_iload hC dX8_orbit_134 rfl 6 rfl ?_
                            refine kw_iadd hC dX8_orbit_136 rfl ?_
                            refine ka_62 hC dX8_orbit_137 rfl (by decide) (by decide) (by omega) (by omega) ?_
                            refine kw_iload hC dX8_orbit_138 rfl 0 rfl ?_
                            refine kw_iadd hC dX8_orbit_140 rfl ?_
                            refine ks_64 hC dX8_orbit_141 rfl (by decide) (by decide) (by omega) (by omega) ?_
                            refine kw_hv hfW72 (by unfold fD; omega) (fun S12 hfS12 hv12 ho12 => ?_)
                            have hRS12 := hRS.fr (hfS12.mono (fun k i j h => by unfold fD at h; unfold tR; omega))
                            have hnS12 := hRS12.n
                            have enS12 : S12 30 0 0 = S 30 0 0 := hfS12 30 0 0 (by unfold fD; omega)
                            have hwk9 : WK L (S12 62 0) (S12 30 0 23) := by rw [ho12 30 0 23 (by omega)]; exact hwk.keep (fun j _ _ => ho12 62 0 j (by omega))
                            have hor9 : ORC (mxz (S 42 0)) a.toNat (S12 62 0) (S12 30 0 23) n i := by rw [ho12 30 0 23 (by omega)]; exact hor.keep (fun j _ _ => ho12 62 0 j (by omega))
                            have e23_12 : S12 30 0 23 = W72 30 0 23 := ho12 30 0 23 (by omega)
                            refine kw_iinc (lv' := [(5, _), (6, _), (0, _), (1, _), (2, _), (3, _), (4, _)]) hC dX8_orbit_142 rfl 6 rfl (by decide) rfl ?_
                            refine kw_goto (tgt := 72) hC dX8_orbit_145 rfl (by decide) ?_
                            refine kw_lv [2, 3, 4, 5, 6, 0] rfl ?_
                            exact ih72 (k + 1) S12 hfS12 (by omega) (by omega) (by omega) hwk9 hor9 (hb.trans (ho12 62 0 _ (by omega)).symm) (fun j j0 j1 => by rw [ho12 62 0 _ (by omega)]; rcases Decidable.em (j = k) with e | e; exact (by rw [e]; exact hv12); exact (ho12 64 0 j (by omega)).trans (hk j j0 (by omega))) (by omega)
                    refine kw_lv [2, 3, 4, 5, 1, 0] rfl ?_
                    exact hL72 7 0 W51 hfW51 (by omega) (by omega) (by omega) hwk hor (by omega) (fun j _ _ => by omega) (by omega)
              refine kw_lv [1, 2, 3, 0] rfl ?_
              exact hL51 8 0 W41 hfW41 (by omega) (by omega) (by omega) hwk hor (by omega)
        refine kw_lv [1, 2, 0] rfl ?_
        exact hL41 721 0 S3 hfS3 (by omega) (by omega) (by omega) hwk hor (by omega)
      · refine kw_aload_n hC dX8_orbit_13 rfl 0 rfl ?_
        refine kg_30_24 hC w8 f192 dX8_orbit_14 rfl (by decide) (by decide) ?_
        refine kw_iload_n hC dX8_orbit_17 rfl 2 rfl ?_
        refine kw_iload_n hC dX8_orbit_18 rfl 2 rfl ?_
        refine kw_iload_n hC dX8_orbit_19 rfl 1 rfl ?_
        refine kw_icmp_ne (tgt := 27) hC dX8_orbit_20 rfl (by decide) (by omega) (by omega) ⟨fun c20 => ?_, fun c20 => ?_⟩
        · refine kw_iconst hC dX8_orbit_27 rfl ?_
          refine ks_64 hC dX8_orbit_28 rfl (by decide) (by decide) (by omega) (by omega) ?_
          refine kw_hv hfW7 (by unfold fD; omega) (fun S14 hfS14 hv14 ho14 => ?_)
          have hRS14 := hRS.fr (hfS14.mono (fun k i j h => by unfold fD at h; unfold tR; omega))
          have hnS14 := hRS14.n
          have enS14 : S14 30 0 0 = S 30 0 0 := hfS14 30 0 0 (by unfold fD; omega)
          refine kw_iinc (lv' := [(2, _), (0, _), (1, _)]) hC dX8_orbit_29 rfl 2 rfl (by decide) rfl ?_
          refine kw_goto (tgt := 7) hC dX8_orbit_32 rfl (by decide) ?_
          refine kw_lv [1, 2, 0] rfl ?_
          exact ih7 (x + 1) S14 hfS14 (by omega) (by omega) ((ho14 30 0 23 (by omega)).trans q23) (ext_p (fun k z => z = if k = a then 1 else 0) hk (fun k hj => ho14 64 0 k (by omega)) (by rw [hv14]; split <;> omega)) (by omega)
        · refine kw_iconst hC dX8_orbit_23 rfl ?_
          refine kw_goto (tgt := 28) hC dX8_orbit_24 rfl (by decide) ?_
          refine ks_64 hC dX8_orbit_28 rfl (by decide) (by decide) (by omega) (by omega) ?_
          refine kw_hv hfW7 (by unfold fD; omega) (fun S15 hfS15 hv15 ho15 => ?_)
          have hRS15 := hRS.fr (hfS15.mono (fun k i j h => by unfold fD at h; unfold tR; omega))
          have hnS15 := hRS15.n
          have enS15 : S15 30 0 0 = S 30 0 0 := hfS15 30 0 0 (by unfold fD; omega)
          refine kw_iinc (lv' := [(2, _), (0, _), (1, _)]) hC dX8_orbit_29 rfl 2 rfl (by decide) rfl ?_
          refine kw_goto (tgt := 7) hC dX8_orbit_32 rfl (by decide) ?_
          refine kw_lv [1, 2, 0] rfl ?_
          exact ih7 (x + 1) S15 hfS15 (by omega) (by omega) ((ho15 30 0 23 (by omega)).trans q23) (ext_p (fun k z => z = if k = a then 1 else 0) hk (fun k hj => ho15 64 0 k (by omega)) (by rw [hv15]; split <;> omega)) (by omega)
  refine kw_lv [1, 2, 0] rfl ?_
  exact hL7 7 0 S1 hfS1 (by omega) (by omega) hv1 (fun k _ _ => by omega) (by omega)

set_option maxHeartbeats 4000000 in
set_option maxRecDepth 100000 in
theorem r_X8_count {g : wG} (hD : wD g) {S : wSt} (hRS : RI S) (l : Launch) : Kt l yX8_count wsX8_count ({ frames := 4, cells := 0, slots := 0, locals := 93 } : Room) g S [vr g 30 0] (pL (fun r S' => RI S' ∧ Fr tW S S' ∧ rSl S' = rSl S ∧ CountP (rM S) (rn S) r)) := by
  refine Kt.of (cc := cX8_count) (nL := 4) (ret := (some .long)) (own := RX8) rfl hD (by decide) rfl (Nat.le_of_ble_eq_true rfl) ⟨rfl, rfl⟩ ?_
  intro E hC hR9
  have f11 : Cond.fieldLink RX8 11 "MirrorBenchModel" "mirrors" "I" ∈ wsX8_count := by decide +kernel
  have l201 : Cond.constantLong RX8 201 (Int64.ofInt (-2)) ∈ wsX8_count := by decide +kernel
  have w8 : ∀ w ∈ wsX80, w ∈ wsX8_count := by decide +kernel
  show Wk E g 4 S 0 [(0, vr g 30 0)] []
  have hfS : Fr tR S S := Fr.rfl _ S
  have hRS := hRS.fr hfS
  have hnS := hRS.n
  have enS : S 30 0 0 = S 30 0 0 := hfS 30 0 0 (by unfold tR; omega)
  refine kw_aload_n hC dX8_count_0 rfl 0 rfl ?_
  refine kw_callV hC (f_X8_ends hD hRS) gX8_count_X8_ends ⟨_, rfl⟩ rfl (by decide) (by decide) rfl ⟨rfl, rfl⟩ 0 (by decide +kernel) ⟨by decide, by decide⟩ rfl rfl (Nat.le_of_ble_eq_true rfl) dX8_count_1 rfl (kd_i (fun r1 S1 hp1 => ?_))
  obtain ⟨hg1, hp1⟩ := hp1
  have hfS1 : Fr tR S S1 := hfS.trans (hg1.mono (fun k i j h => by unfold fR at h; unfold tR; omega))
  have hRS1 := hRS.fr hfS1
  have hnS1 := hRS1.n
  have enS1 : S1 30 0 0 = S 30 0 0 := hfS1 30 0 0 (by unfold tR; omega)
  have hen := hp1
  have hb1 : (-2 : Int) ≤ r1 ∧ r1 ≤ 60 := by rcases hp1 with z | z <;> omega
  refine kw_if_ge (tgt := 11) hC dX8_count_4 rfl (by decide) (by omega) ⟨fun c4 => ?_, fun c4 => ?_⟩
  · refine kw_lconst (z := 1) hC dX8_count_11 rfl rfl ?_
    refine kw_lstore_n (lv' := [(1, _), (0, _)]) hC dX8_count_12 rfl (by decide) rfl ?_
    obtain ⟨hb9, hNB, -⟩ := hen.resolve_left (fun z => by omega)
    refine kw_iconst hC dX8_count_13 rfl ?_
    refine kw_istore_n (lv' := [(3, _), (1, _), (0, _)]) hC dX8_count_14 rfl (by decide) rfl ?_
    have hL15 : ∀ (n15 : Nat) (i : Int) (z : Int) (W15 : wSt), Fr tR S W15 → (0 ≤ i) → (i ≤ S 30 0 0) → (PRO (mxz (S 42 0)) i.toNat z) → S 30 0 0 - i < (n15 : Int) → Wk E g 4 W15 15 [(0, vr g 30 0), (1, vl z), (3, vi i)] [] := by
      intro n15
      induction n15 with
      | zero => intro i z W15 hfW15 i0 i1 hz hm15; exact absurd hm15 (by omega)
      | succ n15 ih15 =>
        intro i z W15 hfW15 i0 i1 hz hm15
        have hRW15 := hRS.fr hfW15
        have hnW15 := hRW15.n
        have enW15 : W15 30 0 0 = S 30 0 0 := hfW15 30 0 0 (by unfold tR; omega)
        refine kw_iload_n hC dX8_count_15 rfl 2 rfl ?_
        refine kw_aload_n hC dX8_count_16 rfl 0 rfl ?_
        refine kg_30_0 hC w8 f11 dX8_count_17 rfl (by decide) (by decide) ?_
        refine kw_icmp_ge (tgt := 38) hC dX8_count_20 rfl (by decide) (by omega) (by omega) ⟨fun c20 => ?_, fun c20 => ?_⟩
        · refine kw_lload_n hC dX8_count_38 rfl 1 rfl ?_
          exact hR9.2.2.1 rfl _ _ _ _ dX8_count_39 (by first | (exfalso; omega) | exact ⟨_, rfl, hRW15, tR_tW hfW15, rSl_tR hfW15, ref_countN (hen.resolve_right (fun z => by omega)).2⟩ | exact ⟨_, rfl, hRW15, tR_tW hfW15, rSl_tR hfW15, ref_count hRS.set hNB (by rw [← show i = S 30 0 0 by omega]; exact hz)⟩)
        · refine kw_lload_n hC dX8_count_23 rfl 1 rfl ?_
          refine kw_aload_n hC dX8_count_24 rfl 0 rfl ?_
          refine kw_iload_n hC dX8_count_25 rfl 2 rfl ?_
          refine kw_callV hC (r_X8_orbit hD (by omega) (by omega) hRW15 (NoB_eq hNB (fun j => hfW15 42 0 j (by unfold tR; omega)) (hfW15 30 0 0 (by unfold tR; omega)))) gX8_count_X8_orbit ⟨_, rfl⟩ rfl (by decide) (by decide) rfl ⟨rfl, rfl⟩ 1 (by decide +kernel) ⟨by decide, by decide⟩ rfl rfl (Nat.le_of_ble_eq_true rfl) dX8_count_26 rfl (kd_i (fun r4 S4 hp4 => ?_))
          obtain ⟨hg4, hp4⟩ := hp4
          have hfS4 : Fr tR S S4 := hfW15.trans (hg4.mono (fun k i j h => by unfold fD at h; unfold tR; omega))
          have hRS4 := hRS.fr hfS4
          have hnS4 := hRS4.n
          have enS4 : S4 30 0 0 = S 30 0 0 := hfS4 30 0 0 (by unfold tR; omega)
          obtain ⟨hr4, horb⟩ := hp4
          rw [show W15 42 0 = S 42 0 from funext fun j => hfW15 42 0 j (by unfold tR; omega)] at horb
          refine kw_i2l hC dX8_count_29 rfl (by omega) ?_
          refine kw_lmul hC dX8_count_30 rfl ?_
          refine kw_lstore_n (lv' := [(1, _), (0, _), (3, _)]) hC dX8_count_31 rfl (by decide) rfl ?_
          refine kw_iinc (lv' := [(3, _), (1, _), (0, _)]) hC dX8_count_32 rfl 2 rfl (by decide) rfl ?_
          refine kw_goto (tgt := 15) hC dX8_count_35 rfl (by decide) ?_
          refine kw_lv [2, 1, 0] rfl ?_
          exact ih15 (i + 1) _ S4 hfS4 (by omega) (by omega) (hz.s i0 horb) (by omega)
    refine kw_lv [2, 1, 0] rfl ?_
    exact hL15 7 0 _ S1 hfS1 (by omega) (by omega) PRO.z (by omega)
  · refine kw_ldc2 (z := -2) hC dX8_count_7 rfl l201 ?_
    exact hR9.2.2.1 rfl _ _ _ _ dX8_count_10 (by first | (exfalso; omega) | exact ⟨_, rfl, hRS1, tR_tW hfS1, rSl_tR hfS1, ref_countN (hen.resolve_right (fun z => by omega)).2⟩ | exact ⟨_, rfl, hRS1, tR_tW hfS1, rSl_tR hfS1, ref_count hRS.set hNB (by rw [← show i = S 30 0 0 by omega]; exact hz)⟩)
end
