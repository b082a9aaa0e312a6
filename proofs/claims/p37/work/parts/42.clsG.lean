set_option maxHeartbeats 4000000 in
set_option maxRecDepth 100000 in
theorem d_X4_reaches {g : wG} (hD : wD g) {S : wSt} {a : Int} (hRS : CI S) (a0 : 1 ≤ a) (a1 : a ≤ 40) (l : Launch) : Kt l yX4_reaches wsX4_reaches ({ frames := 4, cells := 0, slots := 0, locals := 100 } : Room) g S [vr g 12 0, vi a] (pI (fun r S' => Fr fRt S S' ∧ (RLI S' ∧ (r = 0 ∨ r = 1) ∧ (r = 1 → a ≤ S' 12 0 4)))) := by
  refine Kt.of (cc := cX4_reaches) (nL := 3) (ret := (some .boolean)) (own := RX4) rfl hD (by decide) rfl (Nat.le_of_ble_eq_true rfl) ⟨rfl, rfl⟩ ?_
  intro E hC hR9
  have f26 : Cond.fieldLink RX4 26 "MirrorBench$RootList" "height" "I" ∈ wsX4_reaches := by decide +kernel
  have f30 : Cond.fieldLink RX4 30 "MirrorBench$RootList" "full" "Z" ∈ wsX4_reaches := by decide +kernel
  have w4 : ∀ w ∈ wsX40, w ∈ wsX4_reaches := by decide +kernel
  show Wk E g 3 S 0 [(0, vr g 12 0), (1, vi a)] []
  have hfS : Fr fRt S S := Fr.rfl _ S
  have hn := hRS.n
  have hL := hRS.rl
  have hL1 := hL.1
  refine kw_aload_n hC dX4_reaches_0 rfl 0 rfl ?_
  refine kg_12_4 hC w4 f26 dX4_reaches_1 rfl (by decide) (by decide) ?_
  refine kw_iconst hC dX4_reaches_4 rfl ?_
  refine kw_iadd hC dX4_reaches_5 rfl ?_
  refine kw_istore_n (lv' := [(2, _), (0, _), (1, _)]) hC dX4_reaches_6 rfl (by decide) rfl ?_
  have hL7 : ∀ (n7 : Nat) (x : Int) (W7 : wSt), Fr fRt S W7 → (1 ≤ x) → (x ≤ 41) → (RLI W7) → (W7 12 0 4 = x - 1 ∨ W7 12 0 5 = 1) → 41 - x < (n7 : Int) → Wk E g 3 W7 7 [(0, vr g 12 0), (1, vi a), (2, vi x)] [] := by
    intro n7
    induction n7 with
    | zero => intro x W7 hfW7 x0 x1 hF hor hm7; exact absurd hm7 (by omega)
    | succ n7 ih7 =>
      intro x W7 hfW7 x0 x1 hF hor hm7
      refine kw_iload_n hC dX4_reaches_7 rfl 2 rfl ?_
      refine kw_iload_n hC dX4_reaches_8 rfl 1 rfl ?_
      refine kw_icmp_gt (tgt := 30) hC dX4_reaches_9 rfl (by decide) (by omega) (by omega) ⟨fun c9 => ?_, fun c9 => ?_⟩
      · have hFl := hF.1
        refine kw_iload_n hC dX4_reaches_30 rfl 1 rfl ?_
        refine kw_aload_n hC dX4_reaches_31 rfl 0 rfl ?_
        refine kg_12_4 hC w4 f26 dX4_reaches_32 rfl (by decide) (by decide) ?_
        refine kw_icmp_gt (tgt := 42) hC dX4_reaches_35 rfl (by decide) (by omega) (by omega) ⟨fun c35 => ?_, fun c35 => ?_⟩
        · refine kw_iconst hC dX4_reaches_42 rfl ?_
          exact hR9.2.1 rfl _ _ _ _ dX4_reaches_43 (by omega) ⟨_, rfl, hfW7, hF, by omega, fun q => by omega⟩
        · refine kw_iconst hC dX4_reaches_38 rfl ?_
          refine kw_goto (tgt := 43) hC dX4_reaches_39 rfl (by decide) ?_
          exact hR9.2.1 rfl _ _ _ _ dX4_reaches_43 (by omega) ⟨_, rfl, hfW7, hF, by omega, fun q => by omega⟩
      · refine kw_aload_n hC dX4_reaches_12 rfl 0 rfl ?_
        refine kg_12_5 hC w4 f30 dX4_reaches_13 rfl (by decide) (by decide) ?_
        have hfu := hF.2.1
        refine kw_if_ne (tgt := 30) hC dX4_reaches_16 rfl (by decide) (by omega) ⟨fun c16 => ?_, fun c16 => ?_⟩
        · have hFl := hF.1
          refine kw_iload_n hC dX4_reaches_30 rfl 1 rfl ?_
          refine kw_aload_n hC dX4_reaches_31 rfl 0 rfl ?_
          refine kg_12_4 hC w4 f26 dX4_reaches_32 rfl (by decide) (by decide) ?_
          refine kw_icmp_gt (tgt := 42) hC dX4_reaches_35 rfl (by decide) (by omega) (by omega) ⟨fun c35 => ?_, fun c35 => ?_⟩
          · refine kw_iconst hC dX4_reaches_42 rfl ?_
            exact hR9.2.1 rfl _ _ _ _ dX4_reaches_43 (by omega) ⟨_, rfl, hfW7, hF, by omega, fun q => by omega⟩
          · refine kw_iconst hC dX4_reaches_38 rfl ?_
            refine kw_goto (tgt := 43) hC dX4_reaches_39 rfl (by decide) ?_
            exact hR9.2.1 rfl _ _ _ _ dX4_reaches_43 (by omega) ⟨_, rfl, hfW7, hF, by omega, fun q => by omega⟩
        · refine kw_aload_n hC dX4_reaches_19 rfl 0 rfl ?_
          refine kw_iload_n hC dX4_reaches_20 rfl 2 rfl ?_
          refine kw_callV hC (d_X4_addHeight hD (hRS.rt hfW7 hF) (by omega) (by omega) (by omega)) gX4_reaches_X4_addHeight ⟨_, rfl⟩ rfl (by decide) (by decide) rfl ⟨rfl, rfl⟩ 1 (by decide +kernel) ⟨by decide, by decide⟩ rfl rfl (Nat.le_of_ble_eq_true rfl) dX4_reaches_21 rfl (kd_v (fun S5 hp5 => ?_))
          obtain ⟨hg5, hp5⟩ := hp5
          have hfS5 : Fr fRt S S5 := hfW7.trans hg5
          obtain ⟨hF9, hor⟩ := hp5
          refine kw_iinc (lv' := [(2, _), (0, _), (1, _)]) hC dX4_reaches_24 rfl 2 rfl (by decide) rfl ?_
          refine kw_goto (tgt := 7) hC dX4_reaches_27 rfl (by decide) ?_
          refine kw_lv [1, 2, 0] rfl ?_
          exact ih7 (x + 1) S5 hfS5 (by omega) (by omega) hF9 (by omega) (by omega)
  refine kw_lv [1, 2, 0] rfl ?_
  exact hL7 42 _ S hfS (by omega) (by omega) hL (by omega) (by omega)

set_option maxHeartbeats 4000000 in
set_option maxRecDepth 100000 in
theorem d_X4_ofHeight {g : wG} (hD : wD g) {S : wSt} {a : Int} (a0 : 0 ≤ a) (a1 : a ≤ 40) (l : Launch) : Kt l yX4_ofHeight wsX4_ofHeight ({ frames := 0, cells := 0, slots := 0, locals := 0 } : Room) g S [vr g 12 0, vi a] (pI (fun r S' => r = S 15 0 (a + 1) - S 15 0 a ∧ S' = S)) := by
  refine Kt.of (cc := cX4_ofHeight) (nL := 2) (ret := (some .int)) (own := RX4) rfl hD (by decide) rfl (Nat.le_of_ble_eq_true rfl) ⟨rfl, rfl⟩ ?_
  intro E hC hR9
  have f18 : Cond.fieldLink RX4 18 "MirrorBench$RootList" "firsts" "[I" ∈ wsX4_ofHeight := by decide +kernel
  have w4 : ∀ w ∈ wsX40, w ∈ wsX4_ofHeight := by decide +kernel
  show Wk E g 2 S 0 [(0, vr g 12 0), (1, vi a)] []
  refine kw_aload_n hC dX4_ofHeight_0 rfl 0 rfl ?_
  refine kg_12_3 hC w4 f18 dX4_ofHeight_1 rfl (by decide) (by decide) ?_
  refine kw_iload_n hC dX4_ofHeight_4 rfl 1 rfl ?_
  refine kw_iconst hC dX4_ofHeight_5 rfl ?_
  refine kw_iadd hC dX4_ofHeight_6 rfl ?_
  refine ka_15 hC dX4_ofHeight_7 rfl (by decide) (by decide) (by omega) (by omega) ?_
  refine kw_aload_n hC dX4_ofHeight_8 rfl 0 rfl ?_
  refine kg_12_3 hC w4 f18 dX4_ofHeight_9 rfl (by decide) (by decide) ?_
  refine kw_iload_n hC dX4_ofHeight_12 rfl 1 rfl ?_
  refine ka_15 hC dX4_ofHeight_13 rfl (by decide) (by decide) (by omega) (by omega) ?_
  refine kw_isub hC dX4_ofHeight_14 rfl ?_
  exact hR9.1 rfl _ _ _ _ dX4_ofHeight_15 ⟨_, rfl, rfl, rfl⟩

set_option maxHeartbeats 4000000 in
set_option maxRecDepth 100000 in
theorem d_X4_holds {g : wG} (hD : wD g) {S : wSt} {a : Int} (hRS : CI S) (a0 : 0 ≤ a) (ha : -2147483648 ≤ a ∧ a ≤ 2147483647) (l : Launch) : Kt l yX4_holds wsX4_holds ({ frames := 5, cells := 0, slots := 0, locals := 122 } : Room) g S [vr g 12 0, vi a] (pI (fun r S' => Fr fRt S S' ∧ (RLI S' ∧ (r = 0 ∨ r = 1) ∧ (r = 1 → a < S' 15 0 (S' 12 0 4 + 1))))) := by
  refine Kt.of (cc := cX4_holds) (nL := 3) (ret := (some .boolean)) (own := RX4) rfl hD (by decide) rfl (Nat.le_of_ble_eq_true rfl) ⟨rfl, rfl⟩ ?_
  intro E hC hR9
  have f18 : Cond.fieldLink RX4 18 "MirrorBench$RootList" "firsts" "[I" ∈ wsX4_holds := by decide +kernel
  have f26 : Cond.fieldLink RX4 26 "MirrorBench$RootList" "height" "I" ∈ wsX4_holds := by decide +kernel
  have w4 : ∀ w ∈ wsX40, w ∈ wsX4_holds := by decide +kernel
  show Wk E g 3 S 0 [(0, vr g 12 0), (1, vi a)] []
  have hfS : Fr fRt S S := Fr.rfl _ S
  have hn := hRS.n
  have hL := hRS.rl
  have hL1 := hL.1
  refine kw_aload_n hC dX4_holds_0 rfl 0 rfl ?_
  refine kg_12_4 hC w4 f26 dX4_holds_1 rfl (by decide) (by decide) ?_
  refine kw_istore_n (lv' := [(2, _), (0, _), (1, _)]) hC dX4_holds_4 rfl (by decide) rfl ?_
  have hL5 : ∀ (n5 : Nat) (x : Int) (W5 : wSt), Fr fRt S W5 → (0 ≤ x) → (x ≤ 40) → (RLI W5) → 40 - x < (n5 : Int) → Wk E g 3 W5 5 [(0, vr g 12 0), (1, vi a), (2, vi x)] [] := by
    intro n5
    induction n5 with
    | zero => intro x W5 hfW5 x0 x1 hF hm5; exact absurd hm5 (by omega)
    | succ n5 ih5 =>
      intro x W5 hfW5 x0 x1 hF hm5
      have hFl := hF.1
      have hFt := hF.2.2.2.2.1
      have hFm := hF.2.2.mono (q := 1) (r := W5 12 0 4 + 1) (by omega) (by omega) (by omega)
      have hF1 := hF.2.2.1
      refine kw_iload_n hC dX4_holds_5 rfl 2 rfl ?_
      refine kw_bipush hC dX4_holds_6 rfl (by decide) ?_
      refine kw_icmp_ge (tgt := 44) hC dX4_holds_8 rfl (by decide) (by omega) (by omega) ⟨fun c8 => ?_, fun c8 => ?_⟩
      · refine kw_iload_n hC dX4_holds_44 rfl 1 rfl ?_
        refine kw_aload_n hC dX4_holds_45 rfl 0 rfl ?_
        refine kg_12_3 hC w4 f18 dX4_holds_46 rfl (by decide) (by decide) ?_
        refine kw_aload_n hC dX4_holds_49 rfl 0 rfl ?_
        refine kg_12_4 hC w4 f26 dX4_holds_50 rfl (by decide) (by decide) ?_
        refine kw_iconst hC dX4_holds_53 rfl ?_
        refine kw_iadd hC dX4_holds_54 rfl ?_
        refine ka_15 hC dX4_holds_55 rfl (by decide) (by decide) (by omega) (by omega) ?_
        refine kw_icmp_ge (tgt := 63) hC dX4_holds_56 rfl (by decide) (by omega) (by omega) ⟨fun c56 => ?_, fun c56 => ?_⟩
        · refine kw_iconst hC dX4_holds_63 rfl ?_
          exact hR9.2.1 rfl _ _ _ _ dX4_holds_64 (by omega) ⟨_, rfl, hfW5, hF, by omega, fun q => by omega⟩
        · refine kw_iconst hC dX4_holds_59 rfl ?_
          refine kw_goto (tgt := 64) hC dX4_holds_60 rfl (by decide) ?_
          exact hR9.2.1 rfl _ _ _ _ dX4_holds_64 (by omega) ⟨_, rfl, hfW5, hF, by omega, fun q => by omega⟩
      · refine kw_aload_n hC dX4_holds_11 rfl 0 rfl ?_
        refine kg_12_3 hC w4 f18 dX4_holds_12 rfl (by decide) (by decide) ?_
        refine kw_aload_n hC dX4_holds_15 rfl 0 rfl ?_
        refine kg_12_4 hC w4 f26 dX4_holds_16 rfl (by decide) (by decide) ?_
        refine kw_iconst hC dX4_holds_19 rfl ?_
        refine kw_iadd hC dX4_holds_20 rfl ?_
        refine ka_15 hC dX4_holds_21 rfl (by decide) (by decide) (by omega) (by omega) ?_
        refine kw_iload_n hC dX4_holds_22 rfl 1 rfl ?_
        refine kw_icmp_gt (tgt := 44) hC dX4_holds_23 rfl (by decide) (by omega) (by omega) ⟨fun c23 => ?_, fun c23 => ?_⟩
        · refine kw_iload_n hC dX4_holds_44 rfl 1 rfl ?_
          refine kw_aload_n hC dX4_holds_45 rfl 0 rfl ?_
          refine kg_12_3 hC w4 f18 dX4_holds_46 rfl (by decide) (by decide) ?_
          refine kw_aload_n hC dX4_holds_49 rfl 0 rfl ?_
          refine kg_12_4 hC w4 f26 dX4_holds_50 rfl (by decide) (by decide) ?_
          refine kw_iconst hC dX4_holds_53 rfl ?_
          refine kw_iadd hC dX4_holds_54 rfl ?_
          refine ka_15 hC dX4_holds_55 rfl (by decide) (by decide) (by omega) (by omega) ?_
          refine kw_icmp_ge (tgt := 63) hC dX4_holds_56 rfl (by decide) (by omega) (by omega) ⟨fun c56 => ?_, fun c56 => ?_⟩
          · refine kw_iconst hC dX4_holds_63 rfl ?_
            exact hR9.2.1 rfl _ _ _ _ dX4_holds_64 (by omega) ⟨_, rfl, hfW5, hF, by omega, fun q => by omega⟩
          · refine kw_iconst hC dX4_holds_59 rfl ?_
            refine kw_goto (tgt := 64) hC dX4_holds_60 rfl (by decide) ?_
            exact hR9.2.1 rfl _ _ _ _ dX4_holds_64 (by omega) ⟨_, rfl, hfW5, hF, by omega, fun q => by omega⟩
        · refine kw_aload_n hC dX4_holds_26 rfl 0 rfl ?_
          refine kw_iload_n hC dX4_holds_27 rfl 2 rfl ?_
          refine kw_iconst hC dX4_holds_28 rfl ?_
          refine kw_iadd hC dX4_holds_29 rfl ?_
          refine kw_callV hC (d_X4_reaches hD (hRS.rt hfW5 hF) (by omega) (by omega)) gX4_holds_X4_reaches ⟨_, rfl⟩ rfl (by decide) (by decide) rfl ⟨rfl, rfl⟩ 1 (by decide +kernel) ⟨by decide, by decide⟩ rfl rfl (Nat.le_of_ble_eq_true rfl) dX4_holds_30 rfl (kd_i (fun r5 S5 hp5 => ?_))
          obtain ⟨hg5, hp5⟩ := hp5
          have hfS5 : Fr fRt S S5 := hfW5.trans hg5
          obtain ⟨hF9, hb5, -⟩ := hp5
          refine kw_if_ne (tgt := 38) hC dX4_holds_33 rfl (by decide) (by omega) ⟨fun c33 => ?_, fun c33 => ?_⟩
          · refine kw_iinc (lv' := [(2, _), (0, _), (1, _)]) hC dX4_holds_38 rfl 2 rfl (by decide) rfl ?_
            refine kw_goto (tgt := 5) hC dX4_holds_41 rfl (by decide) ?_
            refine kw_lv [1, 2, 0] rfl ?_
            exact ih5 (x + 1) S5 hfS5 (by omega) (by omega) hF9 (by omega)
          · refine kw_iconst hC dX4_holds_36 rfl ?_
            exact hR9.2.1 rfl _ _ _ _ dX4_holds_37 (by omega) ⟨_, rfl, hfS5, hF9, by omega, fun q => by omega⟩
  refine kw_lv [1, 2, 0] rfl ?_
  exact hL5 41 _ S hfS (by omega) (by omega) hL (by omega)

set_option maxHeartbeats 4000000 in
set_option maxRecDepth 100000 in
theorem d_X4_numberOf {g : wG} (hD : wD g) {S : wSt} {a b : Int} (hRS : CI S) (a0 : 0 ≤ a) (a1 : a < S 15 0 (S 12 0 4 + 1)) (b0 : 0 ≤ b) (b1 : b < 6) (l : Launch) : Kt l yX4_numberOf wsX4_numberOf ({ frames := 1, cells := 0, slots := 0, locals := 22 } : Room) g S [vr g 12 0, vi a, vi b] (pI (fun r S' => r = dg (S 13 0 a) b ∧ S' = S)) := by
  refine Kt.of (cc := cX4_numberOf) (nL := 3) (ret := (some .int)) (own := RX4) rfl hD (by decide) rfl (Nat.le_of_ble_eq_true rfl) ⟨rfl, rfl⟩ ?_
  intro E hC hR9
  have f11 : Cond.fieldLink RX4 11 "MirrorBench$RootList" "keys" "[J" ∈ wsX4_numberOf := by decide +kernel
  have w4 : ∀ w ∈ wsX40, w ∈ wsX4_numberOf := by decide +kernel
  show Wk E g 3 S 0 [(0, vr g 12 0), (1, vi a), (2, vi b)] []
  have hF := hRS.rl
  have hFl := hF.1
  have hFt := hF.2.2.2.2.1
  obtain ⟨q, q1, q2, q3, q4⟩ := hF.2.2.find (S 12 0 4).toNat a (by omega) a0 (by rw [Int.toNat_of_nonneg hFl.1]; exact a1)
  have hk := hF.2.2.kok q1 (by omega) q3 q4
  refine kw_aload_n hC dX4_numberOf_0 rfl 0 rfl ?_
  refine kg_12_1 hC w4 f11 dX4_numberOf_1 rfl (by decide) (by decide) ?_
  refine kw_iload_n hC dX4_numberOf_4 rfl 1 rfl ?_
  refine ka_13 hC dX4_numberOf_5 rfl (by decide) (by decide) (by omega) (by omega) ?_
  refine kw_iload_n hC dX4_numberOf_6 rfl 2 rfl ?_
  refine kw_callS hC (d_X4_unpack hD hk.1.1 hk.1.2 (by omega) (by omega)) gX4_numberOf_X4_unpack rfl ⟨rfl, rfl⟩ 2 (by decide +kernel) ⟨by decide, by decide⟩ rfl rfl (Nat.le_of_ble_eq_true rfl) dX4_numberOf_7 rfl (kd_ie ?_)
  exact hR9.1 rfl _ _ _ _ dX4_numberOf_10 ⟨_, rfl, rfl, rfl⟩

set_option maxHeartbeats 4000000 in
set_option maxRecDepth 100000 in
theorem d_X4_countAll {g : wG} (hD : wD g) {S : wSt} (hRS : CI S) (l : Launch) : Kt l yX4_countAll wsX4_countAll ({ frames := 5, cells := 0, slots := 0, locals := 122 } : Room) g S [vr g 12 0] (pI (fun r S' => Fr fRt S S' ∧ (RLI S' ∧ (r = -2 ∨ ((0 ≤ r ∧ r ≤ 400) ∧ 12 ≤ S' 12 0 4 ∧ NoB (mxz (S 5 16)) (S 3 16 2).toNat))))) := by
  refine Kt.of (cc := cX4_countAll) (nL := 4) (ret := (some .int)) (own := RX4) rfl hD (by decide) rfl (Nat.le_of_ble_eq_true rfl) ⟨rfl, rfl⟩ ?_
  intro E hC hR9
  have f15 : Cond.fieldLink RX4 15 "MirrorBench$RootList" "ups" "[J" ∈ wsX4_countAll := by decide +kernel
  have f18 : Cond.fieldLink RX4 18 "MirrorBench$RootList" "firsts" "[I" ∈ wsX4_countAll := by decide +kernel
  have f22 : Cond.fieldLink RX4 22 "MirrorBench$RootList" "set" "LMirrorBench$Mirrors;" ∈ wsX4_countAll := by decide +kernel
  have f46 : Cond.fieldLink RX4 46 "MirrorBench$Mirrors" "size" "I" ∈ wsX4_countAll := by decide +kernel
  have w3 : ∀ w ∈ wsX30, w ∈ wsX4_countAll := by decide +kernel
  have w4 : ∀ w ∈ wsX40, w ∈ wsX4_countAll := by decide +kernel
  show Wk E g 4 S 0 [(0, vr g 12 0)] []
  have hfS : Fr fRt S S := Fr.rfl _ S
  have hn := hRS.n
  have hL := hRS.rl
  refine kw_aload_n hC dX4_countAll_0 rfl 0 rfl ?_
  refine kw_bipush hC dX4_countAll_1 rfl (by decide) ?_
  refine kw_callV hC (d_X4_reaches hD hRS (by omega) (by omega)) gX4_countAll_X4_reaches ⟨_, rfl⟩ rfl (by decide) (by decide) rfl ⟨rfl, rfl⟩ 1 (by decide +kernel) ⟨by decide, by decide⟩ rfl rfl (Nat.le_of_ble_eq_true rfl) dX4_countAll_3 rfl (kd_i (fun r1 S1 hp1 => ?_))
  obtain ⟨hg1, hp1⟩ := hp1
  have hfS1 : Fr fRt S S1 := hfS.trans hg1
  obtain ⟨hF, hb1, hr1⟩ := hp1
  have hrX := hr1
  refine kw_if_ne (tgt := 12) hC dX4_countAll_6 rfl (by decide) (by omega) ⟨fun c6 => ?_, fun c6 => ?_⟩
  · have h12 := hrX (by omega)
    have hFl := hF.1
    have e5 : S1 5 16 = S 5 16 := funext fun j => hfS1 5 16 j (by unfold fRt; omega)
    have e3 : S1 3 16 2 = S 3 16 2 := hfS1 3 16 2 (by unfold fRt; omega)
    have hT := hF.2.2
    have hF1 := hT.1
    have hm1 := hT.mono (q := 1) (r := 12) (by omega) (by omega) (by omega)
    have hm2 := hT.mono (q := 12) (r := S1 12 0 4 + 1) (by omega) (by omega) (by omega)
    have hm3 := hT.2.2.1
    have hups : ∀ x, 0 ≤ x → x < S1 15 0 12 → 0 ≤ S1 14 0 x ∧ S1 14 0 x < 68719476736 := fun x x0 x1 => by obtain ⟨q, q1, q2, q3, q4⟩ := hT.find 11 x (by omega) x0 x1; exact (hT.2.2.2.1 q x q1 (by omega) q3 q4).2.2.2.1
    refine kw_aload_n hC dX4_countAll_12 rfl 0 rfl ?_
    refine kg_12_3 hC w4 f18 dX4_countAll_13 rfl (by decide) (by decide) ?_
    refine kw_bipush hC dX4_countAll_16 rfl (by decide) ?_
    refine ka_15 hC dX4_countAll_18 rfl (by decide) (by decide) (by omega) (by omega) ?_
    refine kw_istore_n (lv' := [(1, _), (0, _)]) hC dX4_countAll_19 rfl (by decide) rfl ?_
    refine kw_iconst hC dX4_countAll_20 rfl ?_
    refine kw_istore_n (lv' := [(2, _), (1, _), (0, _)]) hC dX4_countAll_21 rfl (by decide) rfl ?_
    have hL22 : ∀ (n22 : Nat) (x : Int), (0 ≤ x) → (x ≤ S1 15 0 12) → (∀ y, 0 ≤ y → y < x → ∀ i, 0 ≤ i → i < S1 3 16 2 → dg (S1 14 0 y) i ≤ 11) → S1 15 0 12 - x < (n22 : Int) → Wk E g 4 S1 22 [(0, vr g 12 0), (1, vi (S1 15 0 12)), (2, vi x)] [] := by
      intro n22
      induction n22 with
      | zero => intro x x0 x1 hall hm22; exact absurd hm22 (by omega)
      | succ n22 ih22 =>
        intro x x0 x1 hall hm22
        refine kw_iload_n hC dX4_countAll_22 rfl 2 rfl ?_
        refine kw_iload_n hC dX4_countAll_23 rfl 1 rfl ?_
        refine kw_icmp_ge (tgt := 70) hC dX4_countAll_24 rfl (by decide) (by omega) (by omega) ⟨fun c24 => ?_, fun c24 => ?_⟩
        · refine kw_iload_n hC dX4_countAll_70 rfl 1 rfl ?_
          exact hR9.1 rfl _ _ _ _ dX4_countAll_71 ⟨_, rfl, hfS1, hF, Or.inr ⟨⟨by omega, by omega⟩, h12, by rw [← e5, ← e3]; exact roots_noB hT h12 (kd := S 4 16) (by rw [e5, e3]; exact hRS.set) (fun y y0 y1 i i0 i1 => hall y y0 (by omega) i i0 i1)⟩⟩
        · refine kw_iconst hC dX4_countAll_27 rfl ?_
          refine kw_istore_n (lv' := [(3, _), (0, _), (1, _), (2, _)]) hC dX4_countAll_28 rfl (by decide) rfl ?_
          have hL29 : ∀ (n29 : Nat) (i : Int), (0 ≤ i) → (i ≤ S1 3 16 2) → (∀ i8 : Int, 0 ≤ i8 → i8 < i → dg (S1 14 0 x) i8 ≤ 11) → S1 3 16 2 - i < (n29 : Int) → Wk E g 4 S1 29 [(0, vr g 12 0), (1, vi (S1 15 0 12)), (2, vi x), (3, vi i)] [] := by
            intro n29
            induction n29 with
            | zero => intro i i0 i1 hal2 hm29; exact absurd hm29 (by omega)
            | succ n29 ih29 =>
              intro i i0 i1 hal2 hm29
              refine kw_iload_n hC dX4_countAll_29 rfl 3 rfl ?_
              refine kw_aload_n hC dX4_countAll_30 rfl 0 rfl ?_
              refine kg_12_0 hC w4 f22 dX4_countAll_31 rfl (by decide) (by decide) ?_
              refine kg_3_2 hC w3 f46 dX4_countAll_34 rfl (by omega) (by omega) ?_
              refine kw_icmp_ge (tgt := 64) hC dX4_countAll_37 rfl (by decide) (by omega) (by omega) ⟨fun c37 => ?_, fun c37 => ?_⟩
              · refine kw_iinc (lv' := [(2, _), (0, _), (1, _), (3, _)]) hC dX4_countAll_64 rfl 2 rfl (by decide) rfl ?_
                refine kw_goto (tgt := 22) hC dX4_countAll_67 rfl (by decide) ?_
                refine kw_lv [1, 2, 0] rfl ?_
                exact ih22 (x + 1) (by omega) (by omega) (fun y y0 y1 i8 i0 i1 => by rcases Decidable.em (y = x) with e | e; exact (by rw [e]; exact hal2 i8 i0 (by omega)); exact hall y y0 (by omega) i8 i0 i1) (by omega)
              · refine kw_aload_n hC dX4_countAll_40 rfl 0 rfl ?_
                refine kg_12_2 hC w4 f15 dX4_countAll_41 rfl (by decide) (by decide) ?_
                refine kw_iload_n hC dX4_countAll_44 rfl 2 rfl ?_
                refine ka_14 hC dX4_countAll_45 rfl (by decide) (by decide) (by omega) (by omega) ?_
                have hux := hups x (by omega) (by omega)
                refine kw_iload_n hC dX4_countAll_46 rfl 3 rfl ?_
                refine kw_callS hC (d_X4_unpack hD hux.1 hux.2 (by omega) (by omega)) gX4_countAll_X4_unpack rfl ⟨rfl, rfl⟩ 2 (by decide +kernel) ⟨by decide, by decide⟩ rfl rfl (Nat.le_of_ble_eq_true rfl) dX4_countAll_47 rfl (kd_ie ?_)
                refine kw_bipush hC dX4_countAll_50 rfl (by decide) ?_
                refine kw_icmp_le (tgt := 58) hC dX4_countAll_52 rfl (by decide) (by have := dg_r (S1 14 0 x) i; omega) (by omega) ⟨fun c52 => ?_, fun c52 => ?_⟩
                · refine kw_iinc (lv' := [(3, _), (0, _), (1, _), (2, _)]) hC dX4_countAll_58 rfl 3 rfl (by decide) rfl ?_
                  refine kw_goto (tgt := 29) hC dX4_countAll_61 rfl (by decide) ?_
                  refine kw_lv [1, 2, 3, 0] rfl ?_
                  exact ih29 (i + 1) (by omega) (by omega) (fun i8 q0 q1 => by rcases Decidable.em (i8 = i) with e | e; exact (by rw [e]; omega); exact hal2 i8 q0 (by omega)) (by omega)
                · refine kw_bipush hC dX4_countAll_55 rfl (by decide) ?_
                  exact hR9.1 rfl _ _ _ _ dX4_countAll_57 ⟨_, rfl, hfS1, hF, Or.inl rfl⟩
          refine kw_lv [1, 2, 3, 0] rfl ?_
          exact hL29 7 0 (by omega) (by omega) (fun y _ _ => by omega) (by omega)
    refine kw_lv [2, 1, 0] rfl ?_
    exact hL22 401 0 (by omega) (by omega) (fun y _ _ => by omega) (by omega)
  · refine kw_bipush hC dX4_countAll_9 rfl (by decide) ?_
    exact hR9.1 rfl _ _ _ _ dX4_countAll_11 ⟨_, rfl, hfS1, hF, Or.inl rfl⟩

set_option maxHeartbeats 4000000 in
set_option maxRecDepth 100000 in
theorem d_X4_countWords {g : wG} (hD : wD g) {S : wSt} (hRS : CI S) (h12 : 12 ≤ S 12 0 4) (l : Launch) : Kt l yX4_countWords wsX4_countWords ({ frames := 1, cells := 0, slots := 0, locals := 21 } : Room) g S [vr g 12 0] (pL (fun r S' => S' = S)) := by
  refine Kt.of (cc := cX4_countWords) (nL := 5) (ret := (some .long)) (own := RX4) rfl hD (by decide) rfl (Nat.le_of_ble_eq_true rfl) ⟨rfl, rfl⟩ ?_
  intro E hC hR9
  show Wk E g 5 S 0 [(0, vr g 12 0)] []
  have hF := hRS.rl
  have hT := hF.2.2
  have hFl := hF.1
  have hF1 := hT.1
  have hm3 := hT.2.2.1
  have hrg : ∀ q, 1 ≤ q → q ≤ 13 → 0 ≤ S 15 0 q ∧ S 15 0 q ≤ 400 := fun q q1 q2 => by have a := hT.mono (q := 1) (r := q) (by omega) (by omega) (by omega); have b := hT.mono (q := q) (r := S 12 0 4 + 1) (by omega) (by omega) (by omega); omega
  refine kw_lconst (z := 1) hC dX4_countWords_0 rfl rfl ?_
  refine kw_lstore_n (lv' := [(1, _), (0, _)]) hC dX4_countWords_1 rfl (by decide) rfl ?_
  refine kw_iconst hC dX4_countWords_2 rfl ?_
  refine kw_istore_n (lv' := [(3, _), (1, _), (0, _)]) hC dX4_countWords_3 rfl (by decide) rfl ?_
  have hL4 : ∀ (n4 : Nat) (h : Int) (w9 : Int), (1 ≤ h) → (h ≤ 12) → 12 - h < (n4 : Int) → Wk E g 5 S 4 [(0, vr g 12 0), (1, vl w9), (3, vi h)] [] := by
    intro n4
    induction n4 with
    | zero => intro h w9 q0 q1 hm4; exact absurd hm4 (by omega)
    | succ n4 ih4 =>
      intro h w9 q0 q1 hm4
      refine kw_iload_n hC dX4_countWords_4 rfl 2 rfl ?_
      refine kw_bipush hC dX4_countWords_5 rfl (by decide) ?_
      refine kw_icmp_gt (tgt := 49) hC dX4_countWords_7 rfl (by decide) (by omega) (by omega) ⟨fun c7 => ?_, fun c7 => ?_⟩
      · refine kw_lload_n hC dX4_countWords_49 rfl 1 rfl ?_
        exact hR9.2.2.1 rfl _ _ _ _ dX4_countWords_50 ⟨_, rfl, rfl⟩
      · refine kw_aload_n hC dX4_countWords_10 rfl 0 rfl ?_
        refine kw_iload_n hC dX4_countWords_11 rfl 2 rfl ?_
        refine kw_callV hC (d_X4_ofHeight hD (by omega) (by omega)) gX4_countWords_X4_ofHeight ⟨_, rfl⟩ rfl (by decide) (by decide) rfl ⟨rfl, rfl⟩ 1 (by decide +kernel) ⟨by decide, by decide⟩ rfl rfl (Nat.le_of_ble_eq_true rfl) dX4_countWords_12 rfl (kd_ie ?_)
        refine kw_aload_n hC dX4_countWords_15 rfl 0 rfl ?_
        refine kw_iload_n hC dX4_countWords_16 rfl 2 rfl ?_
        refine kw_iconst hC dX4_countWords_17 rfl ?_
        refine kw_iadd hC dX4_countWords_18 rfl ?_
        refine kw_callV hC (d_X4_ofHeight hD (by omega) (by omega)) gX4_countWords_X4_ofHeight ⟨_, rfl⟩ rfl (by decide) (by decide) rfl ⟨rfl, rfl⟩ 1 (by decide +kernel) ⟨by decide, by decide⟩ rfl rfl (Nat.le_of_ble_eq_true rfl) dX4_countWords_19 rfl (kd_ie ?_)
        have g1 := hrg h (by omega) (by omega)
        have g2 := hrg (h + 1) (by omega) (by omega)
        have g3 := hrg (h + 1 + 1) (by omega) (by omega)
        refine kw_isub hC dX4_countWords_22 rfl ?_
        refine kw_istore (lv' := [(4, _), (0, _), (1, _), (3, _)]) hC dX4_countWords_23 rfl (by decide) rfl ?_
        have hL25 : ∀ (n25 : Nat) (f : Int) (w9 : Int), (-1000 ≤ f) → (f ≤ 1000) → f + 1000 < (n25 : Int) → Wk E g 5 S 25 [(0, vr g 12 0), (1, vl w9), (3, vi h), (4, vi f)] [] := by
          intro n25
          induction n25 with
          | zero => intro f w9 f0 f1 hm25; exact absurd hm25 (by omega)
          | succ n25 ih25 =>
            intro f w9 f0 f1 hm25
            refine kw_iload hC dX4_countWords_25 rfl 3 rfl ?_
            refine kw_if_le (tgt := 43) hC dX4_countWords_27 rfl (by decide) (by omega) ⟨fun c27 => ?_, fun c27 => ?_⟩
            · refine kw_iinc (lv' := [(3, _), (0, _), (1, _), (4, _)]) hC dX4_countWords_43 rfl 2 rfl (by decide) rfl ?_
              refine kw_goto (tgt := 4) hC dX4_countWords_46 rfl (by decide) ?_
              refine kw_lv [1, 2, 0] rfl ?_
              exact ih4 (h + 1) _ (by omega) (by omega) (by omega)
            · refine kw_lload_n hC dX4_countWords_30 rfl 1 rfl ?_
              refine kw_iload_n hC dX4_countWords_31 rfl 2 rfl ?_
              refine kw_iconst hC dX4_countWords_32 rfl ?_
              refine kw_iadd hC dX4_countWords_33 rfl ?_
              refine kw_i2l hC dX4_countWords_34 rfl (by omega) ?_
              refine kw_lmul hC dX4_countWords_35 rfl ?_
              refine kw_lstore_n (lv' := [(1, _), (0, _), (3, _), (4, _)]) hC dX4_countWords_36 rfl (by decide) rfl ?_
              refine kw_iinc (lv' := [(4, _), (1, _), (0, _), (3, _)]) hC dX4_countWords_37 rfl 3 rfl (by decide) rfl ?_
              refine kw_goto (tgt := 25) hC dX4_countWords_40 rfl (by decide) ?_
              refine kw_lv [2, 1, 3, 0] rfl ?_
              exact ih25 _ _ (by omega) (by omega) (by omega)
        refine kw_lv [1, 2, 3, 0] rfl ?_
        exact hL25 3000 _ _ (by omega) (by omega) (by omega)
  refine kw_lv [2, 1, 0] rfl ?_
  exact hL4 12 1 _ (by omega) (by omega) (by omega)

set_option maxHeartbeats 4000000 in
set_option maxRecDepth 100000 in
theorem d_X7_roots {g : wG} (hD : wD g) {S : wSt} {a : Int} (ha : -2147483648 ≤ a ∧ a ≤ 2147483647) (hRS : CI S) (l : Launch) : Kt l yX7_roots wsX7_roots ({ frames := 5, cells := 0, slots := 0, locals := 122 } : Room) g S [vr g 0 0, vi a] (pI (fun _ S' => CI S' ∧ Fr tX S S')) := by
  refine Kt.of (cc := cX7_roots) (nL := 2) (ret := (some .int)) (own := RX7) rfl hD (by decide) rfl (Nat.le_of_ble_eq_true rfl) ⟨rfl, rfl⟩ ?_
  intro E hC hR9
  have f47 : Cond.fieldLink RX7 47 "MirrorBench" "rootList" "LMirrorBench$RootList;" ∈ wsX7_roots := by decide +kernel
  have w7 : ∀ w ∈ wsX70, w ∈ wsX7_roots := by decide +kernel
  show Wk E g 2 S 0 [(0, vr g 0 0), (1, vi a)] []
  have hfS : Fr fRt S S := Fr.rfl _ S
  refine kw_iload_n hC dX7_roots_0 rfl 1 rfl ?_
  refine kw_iconst hC dX7_roots_1 rfl ?_
  refine kw_icmp_lt (tgt := 11) hC dX7_roots_2 rfl (by decide) (by omega) (by omega) ⟨fun c2 => ?_, fun c2 => ?_⟩
  · refine kw_iconst hC dX7_roots_11 rfl ?_
    exact hR9.1 rfl _ _ _ _ dX7_roots_12 (by first | exact ⟨_, rfl, hRS, Fr.rfl _ S⟩ | exact ⟨_, rfl, hRS.rt hfS hF9, fRt_tX hfS⟩)
  · refine kw_iload_n hC dX7_roots_5 rfl 1 rfl ?_
    refine kw_bipush hC dX7_roots_6 rfl (by decide) ?_
    refine kw_icmp_le (tgt := 13) hC dX7_roots_8 rfl (by decide) (by omega) (by omega) ⟨fun c8 => ?_, fun c8 => ?_⟩
    · refine kw_aload_n hC dX7_roots_13 rfl 0 rfl ?_
      refine kg_0_5 hC w7 f47 dX7_roots_14 rfl (by decide) (by decide) ?_
      refine kw_iload_n hC dX7_roots_17 rfl 1 rfl ?_
      refine kw_callV hC (d_X4_reaches hD hRS (by omega) (by omega)) gX7_roots_X4_reaches ⟨_, rfl⟩ rfl (by decide) (by decide) rfl ⟨rfl, rfl⟩ 1 (by decide +kernel) ⟨by decide, by decide⟩ rfl rfl (Nat.le_of_ble_eq_true rfl) dX7_roots_18 rfl (kd_i (fun r3 S3 hp3 => ?_))
      obtain ⟨hg3, hp3⟩ := hp3
      have hfS3 : Fr fRt S S3 := hfS.trans hg3
      obtain ⟨hF9, hb3, -⟩ := hp3
      refine kw_if_eq (tgt := 35) hC dX7_roots_21 rfl (by decide) (by omega) ⟨fun c21 => ?_, fun c21 => ?_⟩
      · refine kw_bipush hC dX7_roots_35 rfl (by decide) ?_
        exact hR9.1 rfl _ _ _ _ dX7_roots_37 (by first | exact ⟨_, rfl, hRS, Fr.rfl _ S⟩ | exact ⟨_, rfl, hRS.rt hfS3 hF9, fRt_tX hfS3⟩)
      · refine kw_aload_n hC dX7_roots_24 rfl 0 rfl ?_
        refine kg_0_5 hC w7 f47 dX7_roots_25 rfl (by decide) (by decide) ?_
        refine kw_iload_n hC dX7_roots_28 rfl 1 rfl ?_
        refine kw_callV hC (d_X4_ofHeight hD (by omega) (by omega)) gX7_roots_X4_ofHeight ⟨_, rfl⟩ rfl (by decide) (by decide) rfl ⟨rfl, rfl⟩ 1 (by decide +kernel) ⟨by decide, by decide⟩ rfl rfl (Nat.le_of_ble_eq_true rfl) dX7_roots_29 rfl (kd_ie ?_)
        refine kw_goto (tgt := 37) hC dX7_roots_32 rfl (by decide) ?_
        exact hR9.1 rfl _ _ _ _ dX7_roots_37 (by first | exact ⟨_, rfl, hRS, Fr.rfl _ S⟩ | exact ⟨_, rfl, hRS.rt hfS3 hF9, fRt_tX hfS3⟩)
    · refine kw_iconst hC dX7_roots_11 rfl ?_
      exact hR9.1 rfl _ _ _ _ dX7_roots_12 (by first | exact ⟨_, rfl, hRS, Fr.rfl _ S⟩ | exact ⟨_, rfl, hRS.rt hfS hF9, fRt_tX hfS⟩)

set_option maxHeartbeats 4000000 in
set_option maxRecDepth 100000 in
theorem d_X7_root {g : wG} (hD : wD g) {S : wSt} {a b : Int} (ha : -2147483648 ≤ a ∧ a ≤ 2147483647) (hb : -2147483648 ≤ b ∧ b ≤ 2147483647) (hRS : CI S) (l : Launch) : Kt l yX7_root wsX7_root ({ frames := 6, cells := 0, slots := 0, locals := 144 } : Room) g S [vr g 0 0, vi a, vi b] (pI (fun _ S' => CI S' ∧ Fr tX S S')) := by
  refine Kt.of (cc := cX7_root) (nL := 3) (ret := (some .int)) (own := RX7) rfl hD (by decide) rfl (Nat.le_of_ble_eq_true rfl) ⟨rfl, rfl⟩ ?_
  intro E hC hR9
  have f12 : Cond.fieldLink RX7 12 "MirrorBench" "set" "LMirrorBench$Mirrors;" ∈ wsX7_root := by decide +kernel
  have f47 : Cond.fieldLink RX7 47 "MirrorBench" "rootList" "LMirrorBench$RootList;" ∈ wsX7_root := by decide +kernel
  have w7 : ∀ w ∈ wsX70, w ∈ wsX7_root := by decide +kernel
  show Wk E g 3 S 0 [(0, vr g 0 0), (1, vi a), (2, vi b)] []
  have hfS : Fr fRt S S := Fr.rfl _ S
  have hn := hRS.n
  refine kw_iload_n hC dX7_root_0 rfl 1 rfl ?_
  refine kw_if_lt (tgt := 26) hC dX7_root_1 rfl (by decide) (by omega) ⟨fun c1 => ?_, fun c1 => ?_⟩
  · refine kw_iconst hC dX7_root_26 rfl ?_
    exact hR9.1 rfl _ _ _ _ dX7_root_27 (by first | exact ⟨_, rfl, hRS, Fr.rfl _ S⟩ | exact ⟨_, rfl, hRS.rt hfS hF9, fRt_tX hfS⟩)
  · refine kw_aload_n hC dX7_root_4 rfl 0 rfl ?_
    refine kg_0_0 hC w7 f12 dX7_root_5 rfl (by decide) (by decide) ?_
    refine kw_iload_n hC dX7_root_8 rfl 2 rfl ?_
    refine kw_callV hC (d_X3_has hD (by omega) (by omega) (by omega) (by omega) (by omega)) gX7_root_X3_has ⟨_, rfl⟩ rfl (by omega) (show (16 : Int) < 17 by omega) rfl ⟨rfl, rfl⟩ 1 (by decide +kernel) ⟨by decide, by decide⟩ rfl rfl (Nat.le_of_ble_eq_true rfl) dX7_root_9 rfl (kd_ie ?_)
    refine kw_ifeq_b (tgt := 26) hC dX7_root_12 rfl (by decide) ⟨fun c12 => ?_, fun c12 => ?_⟩
    · refine kw_iconst hC dX7_root_26 rfl ?_
      exact hR9.1 rfl _ _ _ _ dX7_root_27 (by first | exact ⟨_, rfl, hRS, Fr.rfl _ S⟩ | exact ⟨_, rfl, hRS.rt hfS hF9, fRt_tX hfS⟩)
    · refine kw_aload_n hC dX7_root_15 rfl 0 rfl ?_
      refine kg_0_5 hC w7 f47 dX7_root_16 rfl (by decide) (by decide) ?_
      refine kw_iload_n hC dX7_root_19 rfl 1 rfl ?_
      refine kw_callV hC (d_X4_holds hD hRS (by omega) (by omega)) gX7_root_X4_holds ⟨_, rfl⟩ rfl (by decide) (by decide) rfl ⟨rfl, rfl⟩ 1 (by decide +kernel) ⟨by decide, by decide⟩ rfl rfl (Nat.le_of_ble_eq_true rfl) dX7_root_20 rfl (kd_i (fun r3 S3 hp3 => ?_))
      obtain ⟨hg3, hp3⟩ := hp3
      have hfS3 : Fr fRt S S3 := hfS.trans hg3
      obtain ⟨hF9, hb3, hr3⟩ := hp3
      have hrX := hr3
      refine kw_if_ne (tgt := 28) hC dX7_root_23 rfl (by decide) (by omega) ⟨fun c23 => ?_, fun c23 => ?_⟩
      · refine kw_aload_n hC dX7_root_28 rfl 0 rfl ?_
        refine kg_0_5 hC w7 f47 dX7_root_29 rfl (by decide) (by decide) ?_
        refine kw_iload_n hC dX7_root_32 rfl 1 rfl ?_
        refine kw_iload_n hC dX7_root_33 rfl 2 rfl ?_
        refine kw_callV hC (d_X4_numberOf hD (hRS.rt hfS3 hF9) (by omega) (hrX (by omega)) (by omega) (by omega)) gX7_root_X4_numberOf ⟨_, rfl⟩ rfl (by decide) (by decide) rfl ⟨rfl, rfl⟩ 2 (by decide +kernel) ⟨by decide, by decide⟩ rfl rfl (Nat.le_of_ble_eq_true rfl) dX7_root_34 rfl (kd_ie ?_)
        exact hR9.1 rfl _ _ _ _ dX7_root_37 (by first | exact ⟨_, rfl, hRS, Fr.rfl _ S⟩ | exact ⟨_, rfl, hRS.rt hfS3 hF9, fRt_tX hfS3⟩)
      · refine kw_iconst hC dX7_root_26 rfl ?_
        exact hR9.1 rfl _ _ _ _ dX7_root_27 (by first | exact ⟨_, rfl, hRS, Fr.rfl _ S⟩ | exact ⟨_, rfl, hRS.rt hfS3 hF9, fRt_tX hfS3⟩)

set_option maxHeartbeats 4000000 in
set_option maxRecDepth 100000 in
theorem d_X7_ends {g : wG} (hD : wD g) {S : wSt} (hRS : CI S) (l : Launch) : Kt l yX7_ends wsX7_ends ({ frames := 6, cells := 0, slots := 0, locals := 145 } : Room) g S [vr g 0 0] (pI (fun _ S' => CI S' ∧ Fr tX S S')) := by
  refine Kt.of (cc := cX7_ends) (nL := 1) (ret := (some .int)) (own := RX7) rfl hD (by decide) rfl (Nat.le_of_ble_eq_true rfl) ⟨rfl, rfl⟩ ?_
  intro E hC hR9
  have f47 : Cond.fieldLink RX7 47 "MirrorBench" "rootList" "LMirrorBench$RootList;" ∈ wsX7_ends := by decide +kernel
  have w7 : ∀ w ∈ wsX70, w ∈ wsX7_ends := by decide +kernel
  show Wk E g 1 S 0 [(0, vr g 0 0)] []
  have hfS : Fr fRt S S := Fr.rfl _ S
  refine kw_aload_n hC dX7_ends_0 rfl 0 rfl ?_
  refine kg_0_5 hC w7 f47 dX7_ends_1 rfl (by decide) (by decide) ?_
  refine kw_callV hC (d_X4_countAll hD hRS) gX7_ends_X4_countAll ⟨_, rfl⟩ rfl (by decide) (by decide) rfl ⟨rfl, rfl⟩ 0 (by decide +kernel) ⟨by decide, by decide⟩ rfl rfl (Nat.le_of_ble_eq_true rfl) dX7_ends_4 rfl (kd_i (fun r1 S1 hp1 => ?_))
  obtain ⟨hg1, hp1⟩ := hp1
  have hfS1 : Fr fRt S S1 := hfS.trans hg1
  obtain ⟨hF9, -⟩ := hp1
  exact hR9.1 rfl _ _ _ _ dX7_ends_7 (by first | exact ⟨_, rfl, hRS, Fr.rfl _ S⟩ | exact ⟨_, rfl, hRS.rt hfS1 hF9, fRt_tX hfS1⟩)

set_option maxHeartbeats 4000000 in
set_option maxRecDepth 100000 in
theorem d_X7_count {g : wG} (hD : wD g) {S : wSt} (hRS : CI S) (l : Launch) : Kt l yX7_count wsX7_count ({ frames := 6, cells := 0, slots := 0, locals := 145 } : Room) g S [vr g 0 0] (pL (fun _ S' => CI S' ∧ Fr tX S S')) := by
  refine Kt.of (cc := cX7_count) (nL := 1) (ret := (some .long)) (own := RX7) rfl hD (by decide) rfl (Nat.le_of_ble_eq_true rfl) ⟨rfl, rfl⟩ ?_
  intro E hC hR9
  have f47 : Cond.fieldLink RX7 47 "MirrorBench" "rootList" "LMirrorBench$RootList;" ∈ wsX7_count := by decide +kernel
  have l228 : Cond.constantLong RX7 228 (Int64.ofInt (-2)) ∈ wsX7_count := by decide +kernel
  have w7 : ∀ w ∈ wsX70, w ∈ wsX7_count := by decide +kernel
  show Wk E g 1 S 0 [(0, vr g 0 0)] []
  have hfS : Fr fRt S S := Fr.rfl _ S
  refine kw_aload_n hC dX7_count_0 rfl 0 rfl ?_
  refine kg_0_5 hC w7 f47 dX7_count_1 rfl (by decide) (by decide) ?_
  refine kw_callV hC (d_X4_countAll hD hRS) gX7_count_X4_countAll ⟨_, rfl⟩ rfl (by decide) (by decide) rfl ⟨rfl, rfl⟩ 0 (by decide +kernel) ⟨by decide, by decide⟩ rfl rfl (Nat.le_of_ble_eq_true rfl) dX7_count_4 rfl (kd_i (fun r1 S1 hp1 => ?_))
  obtain ⟨hg1, hp1⟩ := hp1
  have hfS1 : Fr fRt S S1 := hfS.trans hg1
  obtain ⟨hF9, hor⟩ := hp1
  refine kw_bipush hC dX7_count_7 rfl (by decide) ?_
  refine kw_icmp_ne (tgt := 18) hC dX7_count_9 rfl (by decide) (by rcases hor with q | q <;> omega) (by omega) ⟨fun c9 => ?_, fun c9 => ?_⟩
  · refine kw_aload_n hC dX7_count_18 rfl 0 rfl ?_
    refine kg_0_5 hC w7 f47 dX7_count_19 rfl (by decide) (by decide) ?_
    refine kw_callV hC (d_X4_countWords hD (hRS.rt hfS1 hF9) (by rcases hor with q | q; omega; exact q.2.1)) gX7_count_X4_countWords ⟨_, rfl⟩ rfl (by decide) (by decide) rfl ⟨rfl, rfl⟩ 0 (by decide +kernel) ⟨by decide, by decide⟩ rfl rfl (Nat.le_of_ble_eq_true rfl) dX7_count_22 rfl (kd_l (fun r9 S9 hp9 => ?_))
    rw [hp9]
    exact hR9.2.2.1 rfl _ _ _ _ dX7_count_25 (by first | exact ⟨_, rfl, hRS, Fr.rfl _ S⟩ | exact ⟨_, rfl, hRS.rt hfS1 hF9, fRt_tX hfS1⟩)
  · refine kw_ldc2 (z := -2) hC dX7_count_12 rfl l228 ?_
    refine kw_goto (tgt := 25) hC dX7_count_15 rfl (by decide) ?_
    exact hR9.2.2.1 rfl _ _ _ _ dX7_count_25 (by first | exact ⟨_, rfl, hRS, Fr.rfl _ S⟩ | exact ⟨_, rfl, hRS.rt hfS1 hF9, fRt_tX hfS1⟩)

set_option maxHeartbeats 4000000 in
set_option maxRecDepth 100000 in
theorem d_X7_longest {g : wG} (hD : wD g) {S : wSt} {a : Int} (ha : -2147483648 ≤ a ∧ a ≤ 2147483647) (hRS : CI S) (l : Launch) : Kt l yX7_longest wsX7_longest ({ frames := 6, cells := 0, slots := 0, locals := 145 } : Room) g S [vr g 0 0, vi a] (pI (fun _ S' => CI S' ∧ Fr tX S S')) := by
  refine Kt.of (cc := cX7_longest) (nL := 5) (ret := (some .int)) (own := RX7) rfl hD (by decide) rfl (Nat.le_of_ble_eq_true rfl) ⟨rfl, rfl⟩ ?_
  intro E hC hR9
  have f40 : Cond.fieldLink RX7 40 "MirrorBench" "shortener" "LMirrorBench$Shortener;" ∈ wsX7_longest := by decide +kernel
  have f47 : Cond.fieldLink RX7 47 "MirrorBench" "rootList" "LMirrorBench$RootList;" ∈ wsX7_longest := by decide +kernel
  have f59 : Cond.fieldLink RX7 59 "MirrorBench" "made" "LMirrorBench$Word;" ∈ wsX7_longest := by decide +kernel
  have f131 : Cond.fieldLink RX7 131 "MirrorBench$Word" "length" "I" ∈ wsX7_longest := by decide +kernel
  have w6 : ∀ w ∈ wsX60, w ∈ wsX7_longest := by decide +kernel
  have w7 : ∀ w ∈ wsX70, w ∈ wsX7_longest := by decide +kernel
  show Wk E g 5 S 0 [(0, vr g 0 0), (1, vi a)] []
  have hfS : Fr tC S S := Fr.rfl _ S
  have hRS := hRS.fr hfS
  have hnS := hRS.n
  have enS : S 3 16 2 = S 3 16 2 := hfS 3 16 2 (by unfold tC; omega)
  refine kw_iload_n hC dX7_longest_0 rfl 1 rfl ?_
  refine kw_callS hC (d_X7_isSlot hD (by omega)) gX7_longest_X7_isSlot rfl ⟨rfl, rfl⟩ 1 (by decide +kernel) ⟨by decide, by decide⟩ rfl rfl (Nat.le_of_ble_eq_true rfl) dX7_longest_1 rfl (kd_ie ?_)
  refine kw_ifne_b (tgt := 9) hC dX7_longest_4 rfl (by decide) ⟨fun c4 => ?_, fun c4 => ?_⟩
  · refine kw_aload_n hC dX7_longest_9 rfl 0 rfl ?_
    refine kg_0_5 hC w7 f47 dX7_longest_10 rfl (by decide) (by decide) ?_
    refine kw_callV hC (d_X4_countAll hD hRS) gX7_longest_X4_countAll ⟨_, rfl⟩ rfl (by decide) (by decide) rfl ⟨rfl, rfl⟩ 0 (by decide +kernel) ⟨by decide, by decide⟩ rfl rfl (Nat.le_of_ble_eq_true rfl) dX7_longest_13 rfl (kd_i (fun r2 S2 hp2 => ?_))
    obtain ⟨hgF, hF9, hor⟩ := hp2
    have hRS2 : CI S2 := hRS.rt hgF hF9
    have hbW : Fr tX S S2 := (tC_tX hfS).trans (fRt_tX hgF)
    have hfS2 : Fr tC S2 S2 := Fr.rfl _ _
    have hnS2 := hRS2.n
    have eb0 : S2 3 16 2 = S 3 16 2 := hgF 3 16 2 (by unfold fRt; omega)
    have e5b : ∀ j, S2 5 16 j = S 5 16 j := fun j => (hgF 5 16 j (by unfold fRt; omega)).trans (hfS 5 16 j (by unfold tC; omega))
    refine kw_istore_n (lv' := [(2, _), (0, _), (1, _)]) hC dX7_longest_16 rfl (by decide) rfl ?_
    refine kw_iload_n hC dX7_longest_17 rfl 0 rfl ?_
    refine kw_bipush hC dX7_longest_18 rfl (by decide) ?_
    refine kw_icmp_ne (tgt := 26) hC dX7_longest_20 rfl (by decide) (by rcases hor with q | q <;> omega) (by omega) ⟨fun c20 => ?_, fun c20 => ?_⟩
    · obtain ⟨hl9, h129, hNB⟩ := hor.resolve_left (by omega)
      obtain ⟨L, hL⟩ := roots_of (M := mxz (S 5 16)) hRS.set.mok (by omega) (by first | exact hNB | (rw [show S 5 16 = S 5 16 from rfl] at hNB; exact hNB))
      have enB : S2 3 16 2 = S 3 16 2 := by omega
      refine kw_aload_n hC dX7_longest_26 rfl 1 rfl ?_
      refine kg_0_7 hC w7 f59 dX7_longest_27 rfl (by decide) (by decide) ?_
      refine kw_iconst hC dX7_longest_30 rfl ?_
      refine kp_1_1 hC w6 f131 dX7_longest_31 rfl (by omega) (by omega) ?_
      refine kw_hv hfS2 (by unfold tC; omega) (fun S4 hfS4 hv4 ho4 => ?_)
      have hRS4 := hRS2.fr hfS4
      have hnS4 := hRS4.n
      have enS4 : S4 3 16 2 = S2 3 16 2 := hfS4 3 16 2 (by unfold tC; omega)
      have l8 := hv4
      refine kw_iconst hC dX7_longest_34 rfl ?_
      refine kw_istore_n (lv' := [(3, _), (2, _), (0, _), (1, _)]) hC dX7_longest_35 rfl (by decide) rfl ?_
      have hL36 : ∀ (n36 : Nat) (k : Int) (W36 : wSt), Fr tC S2 W36 → (0 ≤ k) → (k ≤ 400) → (0 ≤ W36 1 8 1) → (W36 1 8 1 ≤ 36) → (WV (W36 2 8) (W36 1 8 1) (W36 3 16 2)) → (RdL (mxz (S 5 16)) (S 3 16 2).toNat (wl (W36 2 8) (W36 1 8 1).toNat)) → 400 - k < (n36 : Int) → Wk E g 5 W36 36 [(0, vr g 0 0), (1, vi a), (2, vi r2), (3, vi k)] [] := by
        intro n36
        induction n36 with
        | zero => intro k W36 hfW36 k0 k1 l0 l1 hv8 hrd hm36; exact absurd hm36 (by omega)
        | succ n36 ih36 =>
          intro k W36 hfW36 k0 k1 l0 l1 hv8 hrd hm36
          have hRW36 := hRS2.fr hfW36
          have hnW36 := hRW36.n
          have enW36 : W36 3 16 2 = S2 3 16 2 := hfW36 3 16 2 (by unfold tC; omega)
          refine kw_iload_n hC dX7_longest_36 rfl 3 rfl ?_
          refine kw_iload_n hC dX7_longest_37 rfl 2 rfl ?_
          refine kw_icmp_ge (tgt := 75) hC dX7_longest_38 rfl (by decide) (by omega) (by omega) ⟨fun c38 => ?_, fun c38 => ?_⟩
          · refine kw_aload_n hC dX7_longest_75 rfl 0 rfl ?_
            refine kw_aload_n hC dX7_longest_76 rfl 0 rfl ?_
            refine kg_0_7 hC w7 f59 dX7_longest_77 rfl (by decide) (by decide) ?_
            refine kw_iload_n hC dX7_longest_80 rfl 1 rfl ?_
            refine kw_callV hC (d_X7_store hD (by omega) (by omega) (by omega) (by omega) hRW36 hv8 (by omega) (by omega)) gX7_longest_X7_store ⟨_, rfl⟩ rfl (by decide) (by decide) rfl ⟨rfl, rfl⟩ 2 (by decide +kernel) ⟨by decide, by decide⟩ rfl rfl (Nat.le_of_ble_eq_true rfl) dX7_longest_81 rfl (kd_i (fun r9 Sz hp9 => ?_))
            exact hR9.1 rfl _ _ _ _ dX7_longest_84 (by first | exact ⟨_, rfl, hp9.2.1, hbW.trans ((tC_tX hfW36).trans (fWd_tX hp9.2.2.1))⟩ | exact ⟨_, rfl, hRW36, hbW.trans (tC_tX hfW36)⟩ | exact ⟨_, rfl, hRW36, tC_tX hfW36⟩)
          · refine kw_aload_n hC dX7_longest_41 rfl 0 rfl ?_
            refine kg_0_4 hC w7 f40 dX7_longest_42 rfl (by decide) (by decide) ?_
            refine kw_aload_n hC dX7_longest_45 rfl 0 rfl ?_
            refine kg_0_7 hC w7 f59 dX7_longest_46 rfl (by decide) (by decide) ?_
            refine kw_callV hC (d_X5_leastUp hD (by omega) (by omega) hRW36 hv8 (by omega) (by omega)) gX7_longest_X5_leastUp ⟨_, rfl⟩ rfl (by decide) (by decide) rfl ⟨rfl, rfl⟩ 1 (by decide +kernel) ⟨by decide, by decide⟩ rfl rfl (Nat.le_of_ble_eq_true rfl) dX7_longest_49 rfl (kd_i (fun r6 S6 hp6 => ?_))
            obtain ⟨hg6, hp6⟩ := hp6
            have hfS6 : Fr tC S2 S6 := hfW36.trans (hg6.mono (fun k i j h => by unfold fA at h; unfold tC; omega))
            have hRS6 := hRS2.fr hfS6
            have hnS6 := hRS6.n
            have enS6 : S6 3 16 2 = S2 3 16 2 := hfS6 3 16 2 (by unfold tC; omega)
            obtain ⟨hk9, hN9⟩ := hp6
            have e86 : S6 1 8 1 = W36 1 8 1 := hg6 1 8 1 (by unfold fA; omega)
            have e28 : ∀ j, S6 2 8 j = W36 2 8 j := fun j => hg6 2 8 j (by unfold fA; omega)
            replace hv8 : WV (S6 2 8) (S6 1 8 1) (S6 3 16 2) := hv8.fr hg6 (by unfold fA; omega) (fun j => by unfold fA; omega) (by omega)
            replace hrd : RdL (mxz (S 5 16)) (S 3 16 2).toNat (wl (S6 2 8) (S6 1 8 1).toNat) := by rw [show S6 2 8 = W36 2 8 from funext e28, e86]; exact hrd
            have h5p : W36 5 16 = S 5 16 := funext fun j => (hfW36 5 16 j (by unfold tC; omega)).trans (e5b j)
            have h3p : W36 3 16 2 = S 3 16 2 := by omega
            rw [h5p, h3p] at hN9
            have hNX : 0 ≤ r6 → NB (mxz (S 5 16)) (S 3 16 2).toNat (wl (S6 2 8) (S6 1 8 1).toNat) r6.toNat := fun q => by rw [show S6 2 8 = W36 2 8 from funext e28, e86]; exact hN9 q L hL
            refine kw_istore (lv' := [(4, _), (0, _), (1, _), (2, _), (3, _)]) hC dX7_longest_52 rfl (by decide) rfl ?_
            refine kw_iload hC dX7_longest_54 rfl 0 rfl ?_
            refine kw_iconst hC dX7_longest_56 rfl ?_
            refine kw_icmp_eq (tgt := 69) hC dX7_longest_57 rfl (by decide) (by omega) (by omega) ⟨fun c57 => ?_, fun c57 => ?_⟩
            · refine kw_iinc (lv' := [(3, _), (4, _), (0, _), (1, _), (2, _)]) hC dX7_longest_69 rfl 4 rfl (by decide) rfl ?_
              refine kw_goto (tgt := 36) hC dX7_longest_72 rfl (by decide) ?_
              refine kw_lv [2, 3, 4, 0] rfl ?_
              exact ih36 (k + 1) S6 hfS6 (by omega) (by omega) (by omega) (by omega) hv8 hrd (by omega)
            · refine kw_aload_n hC dX7_longest_60 rfl 1 rfl ?_
              refine kg_0_7 hC w7 f59 dX7_longest_61 rfl (by decide) (by decide) ?_
              refine kw_iload hC dX7_longest_64 rfl 0 rfl ?_
              refine kw_callV hC (d_X6_add hD (by omega) (by omega) (by omega) (by omega)) gX7_longest_X6_add ⟨_, rfl⟩ rfl (by omega) (show (_ : Int) < 12 by omega) rfl ⟨rfl, rfl⟩ 1 (by decide +kernel) ⟨by decide, by decide⟩ rfl rfl (Nat.le_of_ble_eq_true rfl) dX7_longest_66 rfl (kd_v (fun S8 hp8 => ?_))
              obtain ⟨hg8, hp8⟩ := hp8
              have hfS8 : Fr tC S2 S8 := hfS6.trans (hg8.mono (fun k i j h => by unfold fWd at h; unfold tC; omega))
              have hRS8 := hRS2.fr hfS8
              have hnS8 := hRS8.n
              have enS8 : S8 3 16 2 = S2 3 16 2 := hfS8 3 16 2 (by unfold tC; omega)
              obtain ⟨y1, y2, y3⟩ := hp8
              replace hrd : RdL (mxz (S 5 16)) (S 3 16 2).toNat (wl (S8 2 8) (S8 1 8 1).toNat) := by rw [y1]; exact RdL_add (by omega) hrd y3 y2 (hNX (by omega))
              replace hv8 : WV (S8 2 8) (S8 1 8 1) (S8 3 16 2) := (y1 ▸ hv8.add (fun j hj => y3 j hj) (by rw [y2]; omega)).eq (fun _ _ _ => rfl) rfl (by omega)
              have hl9 := RdL.len (fun i hi => hRS.set.mok.z i hi) hL (wl_mem (fun k hk => by have := hv8 k (by omega) (by omega); omega)) hrd
              rw [wl_len] at hl9
              refine kw_iinc (lv' := [(3, _), (4, _), (0, _), (1, _), (2, _)]) hC dX7_longest_69 rfl 4 rfl (by decide) rfl ?_
              refine kw_goto (tgt := 36) hC dX7_longest_72 rfl (by decide) ?_
              refine kw_lv [2, 3, 4, 0] rfl ?_
              exact ih36 (k + 1) S8 hfS8 (by omega) (by omega) (by omega) (by omega) hv8 hrd (by omega)
      refine kw_lv [2, 3, 1, 0] rfl ?_
      exact hL36 401 0 S4 hfS4 (by omega) (by omega) (by omega) (by omega) (fun j _ _ => by omega) (by rw [l8]; exact fun k hk => by simp [wl] at hk) (by omega)
    · refine kw_bipush hC dX7_longest_23 rfl (by decide) ?_
      exact hR9.1 rfl _ _ _ _ dX7_longest_25 (by first | exact ⟨_, rfl, hp9.2.1, hbW.trans ((tC_tX hfS2).trans (fWd_tX hp9.2.2.1))⟩ | exact ⟨_, rfl, hRS2, hbW.trans (tC_tX hfS2)⟩ | exact ⟨_, rfl, hRS2, tC_tX hfS2⟩)
  · refine kw_iconst hC dX7_longest_7 rfl ?_
    exact hR9.1 rfl _ _ _ _ dX7_longest_8 (by first | exact ⟨_, rfl, hp9.2.1, hbW.trans ((tC_tX hfS).trans (fWd_tX hp9.2.2.1))⟩ | exact ⟨_, rfl, hRS, hbW.trans (tC_tX hfS)⟩ | exact ⟨_, rfl, hRS, tC_tX hfS⟩)
